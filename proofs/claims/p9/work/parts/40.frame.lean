-- LARGER FRAMES: a run that may make things; what is known of the heap by name (tokens)
-- (1000, 1002) in W: it may make things
def FQ (ρ ρ' : Nat → Nat) (W : List (Nat × Nat)) (h h' : MH) : Prop := (h_n h ≤ h_n h' ∧ ((1000, 1002) ∉ W → h'.1 = h.1)) ∧ (∀ a, ρ a ≠ 0 → ρ' a = ρ a) ∧ (∀ a, ρ a = 0 → ρ' a ≠ 0 → 16 + h_n h ≤ a ∧ (ρ' a, 1002) ∈ W) ∧ ∀ a, a < 16 + h_n h → h_k h' a = h_k h a ∧ ∀ k, ¬ t_W W (ρ a) k → h_i h' a k = h_i h a k ∧ h_l h' a k = h_l h a k ∧ h_r h' a k = h_r h a k
theorem FQ.refl (ρ : Nat → Nat) (W : List (Nat × Nat)) (h : MH) : FQ ρ ρ W h h := ⟨⟨Nat.le_refl _, fun _ => rfl⟩, fun _ _ => rfl, fun _ h1 h2 => absurd h1 h2, fun _ _ => ⟨rfl, fun _ _ => ⟨rfl, rfl, rfl⟩⟩⟩
theorem FQ.same {ρ ρ' : Nat → Nat} {W : List (Nat × Nat)} {h h' : MH} (f : FQ ρ ρ' W h h') {a : Nat} (ha : a < 16 + h_n h) : ρ' a = ρ a := by
  by_cases h0 : ρ a = 0
  · by_cases h1 : ρ' a = 0
    · rw [h0, h1]
    · have := (f.2.2.1 a h0 h1).1
      omega
  · exact f.2.1 a h0
theorem FQ.trans {ρ ρ1 ρ2 : Nat → Nat} {W : List (Nat × Nat)} {h h1 h2 : MH} (f : FQ ρ ρ1 W h h1) (g : FQ ρ1 ρ2 W h1 h2) : FQ ρ ρ2 W h h2 := by
  have fs := @FQ.same _ _ _ _ _ f
  obtain ⟨⟨f1, f0⟩, f2, f3, f4⟩ := f
  obtain ⟨⟨g1, g0⟩, g2, g3, g4⟩ := g
  refine ⟨⟨Nat.le_trans f1 g1, fun z => (g0 z).trans (f0 z)⟩, fun a ha => ?_, fun a ha hb => ?_, fun a ha => ?_⟩
  · have e := f2 a ha
    rw [g2 a (by rw [e]; exact ha), e]
  · by_cases hc : ρ1 a = 0
    · have := g3 a hc hb
      exact ⟨by omega, this.2⟩
    · rw [g2 a hc]
      exact f3 a ha hc
  · have e := fs ha
    obtain ⟨x1, x2⟩ := f4 a ha
    obtain ⟨y1, y2⟩ := g4 a (by omega)
    refine ⟨y1.trans x1, fun k hk => ?_⟩
    obtain ⟨x3, x4, x5⟩ := x2 k hk
    obtain ⟨y3, y4, y5⟩ := y2 k (by rw [e]; exact hk)
    exact ⟨y3.trans x3, y4.trans x4, y5.trans x5⟩
theorem FQ.ofFR {ρ : Nat → Nat} {W : List (Nat × Nat)} {h h' : MH} (f : FR ρ W h h') : FQ ρ ρ W h h' := by
  obtain ⟨f1, f2, f3⟩ := f
  refine ⟨⟨?_, fun _ => f1⟩, fun _ _ => rfl, fun _ h1 h2 => absurd h1 h2, fun a _ => ⟨f2 a, fun k hk => f3 a k hk⟩⟩
  unfold h_n
  rw [f1]
  exact Nat.le_refl _
def d_sub (W1 W2 : List (Nat × Nat)) : Bool := W1.all (fun q => W2.contains q || (!(q.2 == 1002) && W2.contains (q.1, 1001)))
theorem FQ.mono {ρ ρ' : Nat → Nat} {W1 W2 : List (Nat × Nat)} {h h' : MH} (hs : d_sub W1 W2 = true) (f : FQ ρ ρ' W1 h h') : FQ ρ ρ' W2 h h' := by
  obtain ⟨f1, f2, f3, f4⟩ := f
  have key : ∀ q ∈ W1, q ∈ W2 ∨ (q.2 ≠ 1002 ∧ (q.1, 1001) ∈ W2) := by
    intro q hq
    have := List.all_eq_true.mp hs q hq
    rw [Bool.or_eq_true, Bool.and_eq_true] at this
    rcases this with t | ⟨t1, t2⟩
    · exact Or.inl (List.contains_iff_mem.mp t)
    · refine Or.inr ⟨fun e => ?_, List.contains_iff_mem.mp t2⟩
      rw [e] at t1
      simp at t1
  refine ⟨⟨f1.1, fun z => f1.2 (fun z2 => ?_)⟩, f2, fun a h1 h2 => ?_, fun a ha => ?_⟩
  · rcases key _ z2 with t | t
    · exact z t
    · exact absurd rfl t.1
  · obtain ⟨f5, f6⟩ := f3 a h1 h2
    rcases key _ f6 with t | t
    · exact ⟨f5, t⟩
    · exact absurd rfl t.1
  · obtain ⟨x1, x2⟩ := f4 a ha
    refine ⟨x1, fun k hk => x2 k (fun z => hk ?_)⟩
    rcases z with z | z
    · rcases key _ z with t | t
      · exact Or.inl t
      · exact Or.inr t.2
    · rcases key _ z with t | t
      · exact Or.inr t
      · exact Or.inr t.2
-- two places that may be one: (region, field), 1001: all elements, 1002: new ones
def d_cf (d q : Nat × Nat) : Bool := d.1 == q.1 && (d.2 == q.2 || ((d.2 == 1001 || q.2 == 1001) && !(d.2 == 1002) && !(q.2 == 1002)))
def d_no (D W : List (Nat × Nat)) : Bool := D.all (fun d => W.all (fun q => !d_cf d q))
theorem d_noW {D W : List (Nat × Nat)} {R k : Nat} (hn : d_no D W = true) (hd : (R, k) ∈ D) (hk : k ≠ 1002) : ¬ t_W W R k := by
  intro z
  rcases z with z | z
  · have := List.all_eq_true.mp (List.all_eq_true.mp hn _ hd) _ z
    simp [d_cf] at this
  · have := List.all_eq_true.mp (List.all_eq_true.mp hn _ hd) _ z
    simp [d_cf, hk] at this
theorem d_noE {D W : List (Nat × Nat)} {R k : Nat} (hn : d_no D W = true) (hd : (R, 1001) ∈ D) : ¬ t_W W R k ∨ k = 1002 := by
  by_cases hk : k = 1002
  · exact Or.inr hk
  refine Or.inl (fun z => ?_)
  rcases z with z | z
  · have := List.all_eq_true.mp (List.all_eq_true.mp hn _ hd) _ z
    simp [d_cf, hk] at this
  · have := List.all_eq_true.mp (List.all_eq_true.mp hn _ hd) _ z
    simp [d_cf] at this
theorem d_noN {D W : List (Nat × Nat)} {R : Nat} (hn : d_no D W = true) (hd : (R, 1002) ∈ D) : ¬ (R, 1002) ∈ W := by
  intro z
  have := List.all_eq_true.mp (List.all_eq_true.mp hn _ hd) _ z
  simp [d_cf] at this
-- symbols below a number
def xg_l (n : Nat) (l : List (Nat × Int)) : Bool := l.all (fun q => Nat.blt q.1 n)
def xg_at (n : Nat) (t : AT) : Bool := match t with
  | .inl e => xg_l n e.1
  | .inr (.inl _) => true
  | .inr (.inr q) => Nat.blt q.1 n
def xg_S (n : Nat) (S : AST) : Bool := (a_iv S).all (fun q => Nat.blt q.1 n) && ((a_cs S).all (fun e => xg_l n e.1) && ((a_ca S).all (fun q => (Nat.blt q.1.1 n && Nat.blt q.1.2.2 (5000 + n)) && xg_at n q.2) && ((a_kp S).all (fun e => xg_l n e.1) && ((a_ko S).all (fun o => Nat.blt o n) && ((a_lv S).all (fun q => xg_at n q.2) && (a_st S).all (fun t => xg_at n t))))))
theorem xg_lt {k n : Nat} (h : Nat.blt k n = true) : k < n := Nat.le_of_ble_eq_true h
theorem xg_lS {σ σ' : Nat → Int} {n : Nat} (hs : ∀ k, k < n → σ' k = σ k) : ∀ l : List (Nat × Int), xg_l n l = true → l_ev σ' l = l_ev σ l
  | [], _ => rfl
  | (k, a) :: r, h => by
    unfold xg_l at h
    rw [List.all_cons, Bool.and_eq_true] at h
    rw [l_ev, l_ev, hs k (xg_lt h.1), xg_lS hs r h.2]
theorem xg_eS {σ σ' : Nat → Int} {n : Nat} (hs : ∀ k, k < n → σ' k = σ k) (e : LE) (h : xg_l n e.1 = true) : le_ev σ' e = le_ev σ e := by
  unfold le_ev
  rw [xg_lS hs e.1 h]
section
variable {ρ : Nat → Nat} {K : List Int} {KA : List Nat} {S : AST} {lv : List (Nat × Value)} {st : List Value} {h : MH} {σ σ' : Nat → Int} {α α' : Nat → Nat} {n : Nat}
theorem xg_atS {t : AT} {v : Value} (hs : ∀ k, k < n → σ' k = σ k) (ha : ∀ k, k < n → α' k = α k) (hf : xg_at n t = true) (hv : t_at σ α ρ t v) : t_at σ' α' ρ t v := by
  cases t with
  | inl e =>
    obtain ⟨x, h1, h2⟩ := hv
    exact ⟨x, h1, by rw [xg_eS hs e hf]; exact h2⟩
  | inr t => cases t with
    | inl u => exact hv
    | inr q =>
      have e := ha q.1 (xg_lt hf)
      show v = .ref (α' q.1) ∧ t_rf ρ q.2.1 q.2.2 (α' q.1)
      rw [e]
      exact hv
theorem xg_kx {k : Nat} (hs : ∀ k, k < n → σ' k = σ k) (hk : k < 5000 + n) : t_kx σ' k = t_kx σ k := by
  unfold t_kx
  by_cases h : k < 5000
  · rw [if_pos h, if_pos h]
  · rw [if_neg h, if_neg h, hs _ (by omega)]
theorem xg_fvS {b k : Nat} {t : AT} (hs : ∀ k, k < n → σ' k = σ k) (ha : ∀ k, k < n → α' k = α k) (hk : k < 5000 + n) (hf : xg_at n t = true) (hv : t_fv σ α ρ h b k t) : t_fv σ' α' ρ h b k t := by
  cases t with
  | inl e =>
    show if k = 1000 then _ = le_ev σ' e else (h_i h b (t_kx σ' k)).toInt = le_ev σ' e
    rw [xg_eS hs e hf, xg_kx hs hk]
    exact hv
  | inr t => cases t with
    | inl u => exact hv
    | inr q =>
      have e := ha q.1 (xg_lt hf)
      show h_r h b (t_kx σ' k) = α' q.1 ∧ t_rf ρ q.2.1 q.2.2 (α' q.1)
      rw [e, xg_kx hs hk]
      exact hv
theorem xg_skS (hs : ∀ k, k < n → σ' k = σ k) (ha : ∀ k, k < n → α' k = α k) : ∀ {t : List AT} {v : List Value}, t.all (fun t => xg_at n t) = true → t_sk σ α ρ t v → t_sk σ' α' ρ t v
  | [], [], _, h => h
  | t :: r, v :: q, hf, h => by
    rw [List.all_cons, Bool.and_eq_true] at hf
    exact ⟨xg_atS hs ha hf.1 h.1, xg_skS hs ha hf.2 h.2⟩
  | [], _ :: _, _, h => h.elim
  | _ :: _, [], _, h => h.elim
theorem xg_SS (hs : ∀ k, k < n → σ' k = σ k) (ha : ∀ k, k < n → α' k = α k) (hf : xg_S n S = true) (hw : TW ρ K KA S lv st h σ α) : TW ρ K KA S lv st h σ' α' := by
  unfold xg_S at hf
  simp only [Bool.and_eq_true, List.all_eq_true] at hf
  obtain ⟨f1, f2, f3, f4, f5, f6, f7⟩ := hf
  obtain ⟨w1, w2, w3, w4, w5, w6, w7⟩ := hw
  refine ⟨fun q hq => ?_, fun e he => ?_, fun q hq => ?_, ?_, ?_, fun q hq => ?_, xg_skS hs ha (List.all_eq_true.mpr f7) w7⟩
  · rw [hs _ (xg_lt (f1 q hq))]
    exact w1 q hq
  · rw [xg_eS hs e (f2 e he)]
    exact w2 e he
  · obtain ⟨g1, g2⟩ := w3 q hq
    rw [ha _ (xg_lt (f3 q hq).1.1)]
    exact ⟨g1, xg_fvS hs ha (xg_lt (f3 q hq).1.2) (f3 q hq).2 g2⟩
  · rw [← w4]
    exact List.map_congr_left (fun e he => xg_eS hs e (f4 e he))
  · rw [← w5]
    exact List.map_congr_left (fun o ho => ha _ (xg_lt (f5 o ho)))
  · obtain ⟨x, h1, h2⟩ := w6 q hq
    exact ⟨x, h1, xg_atS hs ha (f6 q hq) h2⟩
end
-- heaps that a larger frame joins: what a state says stays
section
variable {ρ ρ' : Nat → Nat} {W : List (Nat × Nat)} {h h' : MH} {σ : Nat → Int} {α : Nat → Nat}
theorem x_rf {R : Nat} {nn : Bool} {a : Nat} (f : FQ ρ ρ' W h h') (hr : t_rf ρ R nn a) : t_rf ρ' R nn a := by
  rcases hr with hr | ⟨h1, h2, h3⟩
  · exact Or.inl hr
  · exact Or.inr ⟨h1, h2, by rw [f.2.1 a (by rw [h3]; exact h2), h3]⟩
theorem x_at {t : AT} {v : Value} (f : FQ ρ ρ' W h h') (hv : t_at σ α ρ t v) : t_at σ α ρ' t v := by
  cases t with
  | inl e => exact hv
  | inr t => cases t with
    | inl u => exact hv
    | inr q => exact ⟨hv.1, x_rf f hv.2⟩
theorem x_sk (f : FQ ρ ρ' W h h') : ∀ {t : List AT} {v : List Value}, t_sk σ α ρ t v → t_sk σ α ρ' t v
  | [], [], h => h
  | t :: r, v :: q, h => ⟨x_at f h.1, x_sk f h.2⟩
  | [], _ :: _, h => h.elim
  | _ :: _, [], h => h.elim
theorem x_lv {t : List (Nat × AT)} {v : List (Nat × Value)} (f : FQ ρ ρ' W h h') (hl : t_lv σ α ρ t v) : t_lv σ α ρ' t v := fun q hq => by
  obtain ⟨x, h1, h2⟩ := hl q hq
  exact ⟨x, h1, x_at f h2⟩
def a_in (t : AT) : Bool := match t with
  | .inl _ => true
  | _ => false
-- no write that may reach a key's place
def x_wn (W : List (Nat × Nat)) (R k : Nat) : Bool := if k < 5000 then !(t_Wb W R k) else W.all (fun q => !(Nat.beq q.1 R))
def x_kf (W : List (Nat × Nat)) (ca : CA) : CA := ca.filter (fun q => !(q.1.2.1 == 0) && ((q.1.2.2 == 1000 && a_in q.2) || x_wn W q.1.2.1 q.1.2.2))
theorem x_Wb {R k : Nat} (e : t_Wb W R k = false) : ¬ t_W W R k := by
  intro z
  have : t_Wb W R k = true := by
    unfold t_Wb
    rcases z with z | z
    · exact List.any_eq_true.mpr ⟨_, z, by simp⟩
    · exact List.any_eq_true.mpr ⟨_, z, by simp⟩
  rw [e] at this
  cases this
theorem x_wnS {R k : Nat} (e : x_wn W R k = true) : ¬ t_W W R (t_kx σ k) := by
  unfold x_wn at e
  by_cases h : k < 5000
  · rw [if_pos h] at e
    rw [t_kxl h]
    exact x_Wb (by simpa using e)
  · rw [if_neg h] at e
    intro z
    rcases z with z | z
    · have := List.all_eq_true.mp e _ z
      simp at this
    · have := List.all_eq_true.mp e _ z
      simp at this
theorem x_ca {sp : List RS} {ca : CA} (ht : TH sp ρ h) (f : FQ ρ ρ' W h h') (hc : t_ca σ α ρ h ca) : t_ca σ α ρ' h' (x_kf W ca) := by
  intro q hq
  obtain ⟨m1, m2⟩ := List.mem_filter.mp hq
  obtain ⟨⟨g1, g3⟩, g2⟩ := hc q m1
  rw [Bool.and_eq_true, Bool.or_eq_true] at m2
  obtain ⟨⟨o, R, k⟩, t⟩ := q
  dsimp only at g1 g2 g3 m2 ⊢
  have hR : R ≠ 0 := fun e => by
    rw [e] at m2
    simp at m2
  have hne : ρ (α o) ≠ 0 := by rw [g3]; exact hR
  have e1 := f.2.1 _ hne
  obtain ⟨x1, x2⟩ := f.2.2.2 _ (ht.2 _ hne).1
  refine ⟨⟨g1, by rw [e1]; exact g3⟩, ?_⟩
  cases t with
  | inl e =>
    have g2 : if k = 1000 then ((h_k h (α o)).2 : Int) = le_ev σ e else (h_i h (α o) (t_kx σ k)).toInt = le_ev σ e := g2
    show if k = 1000 then ((h_k h' (α o)).2 : Int) = le_ev σ e else (h_i h' (α o) (t_kx σ k)).toInt = le_ev σ e
    by_cases hk : k = 1000
    · rw [if_pos hk] at g2 ⊢
      rw [x1]
      exact g2
    · rw [if_neg hk] at g2 ⊢
      have hw : x_wn W R k = true := by
        rcases m2.2 with m | m
        · rw [Bool.and_eq_true] at m
          exact absurd (beq_iff_eq.mp m.1) hk
        · exact m
      rw [(x2 (t_kx σ k) (by rw [g3]; exact x_wnS hw)).1]
      exact g2
  | inr t => cases t with
    | inl u => trivial
    | inr q =>
      obtain ⟨g4, g5⟩ := g2
      refine ⟨?_, x_rf f g5⟩
      have hw : x_wn W R k = true := by
        rcases m2.2 with m | m
        · rw [Bool.and_eq_true] at m
          cases m.2
        · exact m
      rw [(x2 (t_kx σ k) (by rw [g3]; exact x_wnS hw)).2.2]
      exact g4
end
