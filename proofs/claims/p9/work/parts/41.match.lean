-- words for symbols; a state that another one joins
def s_i (θ : Nat → LE) : List (Nat × Int) → LE
  | [] => ([], 0)
  | (k, a) :: r => le_add (le_mul a (θ k)) (s_i θ r)
def s_e (θ : Nat → LE) (e : LE) : LE := le_add (s_i θ e.1) (le_c e.2)
theorem s_iE (σ : Nat → Int) (θ : Nat → LE) : ∀ l : List (Nat × Int), le_ev σ (s_i θ l) = l_ev (fun k => le_ev σ (θ k)) l
  | [] => rfl
  | (k, a) :: r => by
    rw [s_i, le_addE, le_mulE, s_iE σ θ r]
    rfl
theorem s_eE (σ : Nat → Int) (θ : Nat → LE) (e : LE) : le_ev σ (s_e θ e) = le_ev (fun k => le_ev σ (θ k)) e := by
  unfold s_e
  rw [le_addE, s_iE, le_cE]
  rfl
def s_at (θ : Nat → LE) (φ : Nat → Nat) (t : AT) : AT := match t with
  | .inl e => .inl (s_e θ e)
  | .inr (.inl u) => .inr (.inl u)
  | .inr (.inr q) => .inr (.inr (φ q.1, q.2))
def u_en (S : AST) (e : LE) : Bool := le_ent (a_iv S) (a_cs S) e
def u_eq (S : AST) (e e' : LE) : Bool := decide (e = e') || (u_en S (le_sub e e') && u_en S (le_sub e' e))
def c_sk (S : AST) (o R : Nat) (j : LE) : CA → Option AT
  | [] => none
  | q :: r => if Nat.beq q.1.1 o && (Nat.beq q.1.2.1 R && (Nat.ble 5000 q.1.2.2 && u_eq S (le_s (q.1.2.2 - 5000)) j)) then some q.2 else c_sk S o R j r
theorem c_skm {S : AST} {o R : Nat} {j : LE} {t : AT} : ∀ {ca : CA}, c_sk S o R j ca = some t → ∃ n, ((o, (R, 5000 + n)), t) ∈ ca ∧ u_eq S (le_s n) j = true
  | [], h => by cases h
  | q :: r, h => by
    rw [c_sk] at h
    split at h
    · next hc =>
      rw [Bool.and_eq_true, Bool.and_eq_true, Bool.and_eq_true] at hc
      obtain ⟨c1, c2, c3, c4⟩ := hc
      have e1 := Nat.eq_of_beq_eq_true c1
      have e2 := Nat.eq_of_beq_eq_true c2
      have e3 := Nat.le_of_ble_eq_true c3
      cases h
      refine ⟨q.1.2.2 - 5000, ?_, c4⟩
      have : ((o, (R, 5000 + (q.1.2.2 - 5000))), q.2) = q := by
        obtain ⟨⟨a, b, c⟩, t⟩ := q
        dsimp only at e1 e2 e3 ⊢
        rw [e1, e2, Nat.add_sub_cancel' e3]
      rw [this]
      exact List.mem_cons_self
    · obtain ⟨n, m1, m2⟩ := c_skm h
      exact ⟨n, List.mem_cons_of_mem _ m1, m2⟩
-- an element at a word's place: in a state's cache
def u_ca (θ : Nat → LE) (φ : Nat → Nat) (S : AST) (k : Nat × (Nat × Nat)) : Option AT := if k.2.2 < 5000 then c_lk (a_ca S) (φ k.1, k.2) else c_sk S (φ k.1) k.2.1 (θ (k.2.2 - 5000)) (a_ca S)
def u_at (θ : Nat → LE) (φ : Nat → Nat) (S : AST) (t t' : AT) : Bool := match t, t' with
  | .inl e, .inl e' => u_eq S (s_e θ e) e'
  | .inr (.inl _), .inr (.inl _) => true
  | .inr (.inr q), .inr (.inr q') => Nat.beq (φ q.1) q'.1 && t_asg q' q.2
  | _, _ => false
def u_sk (θ : Nat → LE) (φ : Nat → Nat) (S : AST) : List AT → List AT → Bool
  | [], [] => true
  | t :: r, t' :: r' => u_at θ φ S t t' && u_sk θ φ S r r'
  | _, _ => false
def u_ok (θ : Nat → LE) (φ : Nat → Nat) (C S : AST) : Bool := (a_iv C).all (fun q => u_en S (le_sub (le_c q.2.1) (θ q.1)) && u_en S (le_sub (θ q.1) (le_c q.2.2))) && ((a_cs C).all (fun e => u_en S (s_e θ e)) && ((a_ca C).all (fun q => match u_ca θ φ S q.1 with
    | some t' => u_at θ φ S q.2 t'
    | none => false) && ((a_lv C).all (fun q => match m_lk (a_lv S) q.1 with
    | some t' => u_at θ φ S q.2 t'
    | none => false) && u_sk θ φ S (a_st C) (a_st S))))
section
variable {ρ : Nat → Nat} {K : List Int} {KA : List Nat} {C S : AST} {lv : List (Nat × Value)} {st : List Value} {h : MH} {σ : Nat → Int} {α : Nat → Nat} {θ : Nat → LE} {φ : Nat → Nat}
theorem u_enS {e : LE} (hw : TW ρ K KA S lv st h σ α) (k : u_en S e = true) : le_ev σ e ≤ 0 := le_entS hw.1 hw.2.1 k
theorem u_eqS {e e' : LE} (hw : TW ρ K KA S lv st h σ α) (k : u_eq S e e' = true) : le_ev σ e = le_ev σ e' := by
  unfold u_eq at k
  rw [Bool.or_eq_true, Bool.and_eq_true] at k
  rcases k with k | ⟨k1, k2⟩
  · rw [of_decide_eq_true k]
  · have h1 := u_enS hw k1
    have h2 := u_enS hw k2
    rw [le_subE] at h1 h2
    omega
theorem u_atS {t t' : AT} {v : Value} (hw : TW ρ K KA S lv st h σ α) (k : u_at θ φ S t t' = true) (hv : t_at σ α ρ t' v) : t_at (fun k => le_ev σ (θ k)) (fun o => α (φ o)) ρ t v := by
  unfold u_at at k
  split at k
  · next e e' =>
    obtain ⟨x, h1, h2⟩ := hv
    refine ⟨x, h1, ?_⟩
    rw [h2, ← u_eqS hw k, s_eE]
  · exact hv
  · next q q' =>
    rw [Bool.and_eq_true] at k
    have e := Nat.eq_of_beq_eq_true k.1
    obtain ⟨h1, h2⟩ := hv
    show v = .ref (α (φ q.1)) ∧ t_rf ρ q.2.1 q.2.2 (α (φ q.1))
    rw [e]
    exact ⟨h1, t_asgS k.2 h2⟩
  · cases k
theorem u_fvS {t t' : AT} {a f f' : Nat} (hf : f < 1000 ∧ f' = f ∨ f = 1000 ∧ f' = 1000 ∨ (1000 < f ∧ 1000 < f')) (hx : t_kx (fun k => le_ev σ (θ k)) f = t_kx σ f') (hw : TW ρ K KA S lv st h σ α) (k : u_at θ φ S t t' = true) (hv : t_fv σ α ρ h a f' t') : t_fv (fun k => le_ev σ (θ k)) (fun o => α (φ o)) ρ h a f t := by
  unfold u_at at k
  split at k
  · next e e' =>
    have hv : if f' = 1000 then ((h_k h a).2 : Int) = le_ev σ e' else (h_i h a (t_kx σ f')).toInt = le_ev σ e' := hv
    show if f = 1000 then ((h_k h a).2 : Int) = le_ev (fun k => le_ev σ (θ k)) e else (h_i h a (t_kx _ f)).toInt = le_ev (fun k => le_ev σ (θ k)) e
    rw [← s_eE, u_eqS hw k, hx]
    by_cases h1 : f = 1000
    · rw [if_pos h1]
      rw [if_pos (by omega)] at hv
      exact hv
    · rw [if_neg h1]
      rw [if_neg (by omega)] at hv
      exact hv
  · trivial
  · next q q' =>
    rw [Bool.and_eq_true] at k
    have e := Nat.eq_of_beq_eq_true k.1
    obtain ⟨h1, h2⟩ := hv
    show h_r h a (t_kx _ f) = α (φ q.1) ∧ t_rf ρ q.2.1 q.2.2 (α (φ q.1))
    rw [e, hx]
    exact ⟨h1, t_asgS k.2 h2⟩
  · cases k
theorem u_skS (hw : TW ρ K KA S lv st h σ α) : ∀ {t t' : List AT} {v : List Value}, u_sk θ φ S t t' = true → t_sk σ α ρ t' v → t_sk (fun k => le_ev σ (θ k)) (fun o => α (φ o)) ρ t v
  | [], [], [], _, _ => trivial
  | [], [], _ :: _, _, hv => hv.elim
  | t :: r, t' :: r', [], _, hv => hv.elim
  | t :: r, t' :: r', x :: q, k, hv => by
    rw [u_sk, Bool.and_eq_true] at k
    exact ⟨u_atS hw k.1 hv.1, u_skS hw k.2 hv.2⟩
  | [], _ :: _, _, k, _ => by cases k
  | _ :: _, [], _, k, _ => by cases k
theorem u_okS (hw : TW ρ K KA S lv st h σ α) (k : u_ok θ φ C S = true) : TW ρ ((a_kp C).map (le_ev (fun k => le_ev σ (θ k)))) ((a_ko C).map (fun o => α (φ o))) C lv st h (fun k => le_ev σ (θ k)) (fun o => α (φ o)) := by
  unfold u_ok at k
  rw [Bool.and_eq_true, Bool.and_eq_true, Bool.and_eq_true, Bool.and_eq_true] at k
  obtain ⟨k1, k2, k3, k4, k5⟩ := k
  refine ⟨fun q hq => ?_, fun e he => ?_, fun q hq => ?_, rfl, rfl, fun q hq => ?_, u_skS hw k5 hw.2.2.2.2.2.2⟩
  · have := List.all_eq_true.mp k1 q hq
    rw [Bool.and_eq_true] at this
    have h1 := u_enS hw this.1
    have h2 := u_enS hw this.2
    rw [le_subE, le_cE] at h1 h2
    show q.2.1 ≤ le_ev σ (θ q.1) ∧ le_ev σ (θ q.1) ≤ q.2.2
    omega
  · rw [← s_eE]
    exact u_enS hw (List.all_eq_true.mp k2 e he)
  · have := List.all_eq_true.mp k3 q hq
    split at this
    · next t' ht' =>
      unfold u_ca at ht'
      split at ht'
      · next hf =>
        obtain ⟨g1, g2⟩ := hw.2.2.1 _ (c_lkm ht')
        exact ⟨g1, u_fvS (f' := q.1.2.2) (by omega) (by rw [t_kxl hf, t_kxl hf]) hw this g2⟩
      · next hf =>
        obtain ⟨n, m1, m2⟩ := c_skm ht'
        obtain ⟨g1, g2⟩ := hw.2.2.1 _ m1
        have hn := u_eqS hw m2
        rw [le_sE] at hn
        refine ⟨g1, u_fvS (f' := 5000 + n) (Or.inr (Or.inr ⟨by omega, by omega⟩)) ?_ hw this g2⟩
        unfold t_kx
        rw [if_neg hf, if_neg (by omega), Nat.add_sub_cancel_left, hn]
    · cases this
  · have := List.all_eq_true.mp k4 q hq
    split at this
    · next t' ht' =>
      obtain ⟨x, g1, g2⟩ := hw.2.2.2.2.2.1 _ (m_lkm ht')
      exact ⟨x, g1, u_atS hw this g2⟩
    · cases this
end
-- which word stands for which symbol
abbrev BS : Type := List (Nat × LE) × List (Nat × Nat)
def b_th (b : BS) : Nat → LE := fun k => match m_lk b.1 k with
  | some e => e
  | none => le_s k
def b_ph (b : BS) : Nat → Nat := fun k => match m_lk b.2 k with
  | some o => o
  | none => k
def b_bi (m0 : Nat) (t t' : AT) (b : BS) : BS := match t, t' with
  | .inl ([(k, 1)], 0), .inl e' => if Nat.ble m0 k && (m_lk b.1 k).isNone then ((k, e') :: b.1, b.2) else b
  | .inr (.inr q), .inr (.inr q') => if Nat.ble m0 q.1 && (m_lk b.2 q.1).isNone then (b.1, (q.1, q'.1) :: b.2) else b
  | _, _ => b
def b_lv (m0 : Nat) (S : AST) : List (Nat × AT) → BS → BS
  | [], b => b
  | q :: r, b => b_lv m0 S r (match m_lk (a_lv S) q.1 with
    | some t' => b_bi m0 q.2 t' b
    | none => b)
-- (a place's symbol that stands for nothing yet: the first place known in that row)
def b_fs (o R : Nat) : CA → Option Nat
  | [] => none
  | q :: r => if Nat.beq q.1.1 o && (Nat.beq q.1.2.1 R && Nat.ble 5000 q.1.2.2) then some (q.1.2.2 - 5000) else b_fs o R r
def b_ky (m0 : Nat) (S : AST) (k : Nat × (Nat × Nat)) (b : BS) : BS := if k.2.2 < 5000 then b else if Nat.ble m0 (k.2.2 - 5000) && (m_lk b.1 (k.2.2 - 5000)).isNone then (match b_fs (b_ph b k.1) k.2.1 (a_ca S) with
  | some n => ((k.2.2 - 5000, le_s n) :: b.1, b.2)
  | none => b) else b
def b_ca (m0 : Nat) (S : AST) : CA → BS → BS
  | [], b => b
  | q :: r, b => b_ca m0 S r (match u_ca (b_th (b_ky m0 S q.1 b)) (b_ph b) S q.1 with
    | some t' => b_bi m0 q.2 t' (b_ky m0 S q.1 b)
    | none => b)
def b_sk (m0 : Nat) : List AT → List AT → BS → BS
  | t :: r, t' :: r', b => b_sk m0 r r' (b_bi m0 t t' b)
  | _, _, b => b
def b_al (m0 : Nat) (C S : AST) : BS := b_ca m0 S (a_ca C) (b_sk m0 (a_st C) (a_st S) (b_lv m0 S (a_lv C) ([], [])))
