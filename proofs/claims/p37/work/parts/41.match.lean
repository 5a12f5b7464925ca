-- words for symbols; a state that another one joins
def s_i (θ : Nat → LE) : List (Nat × Int) → LE
  | [] => ([], 0)
  | (k, a) :: r => le_add (le_mul a (θ k)) (s_i θ r)
def s_e (θ : Nat → LE) (e : LE) : LE := le_add (s_i θ e.1) (le_c e.2)
theorem s_iE (σ : Nat → Int) (θ : Nat → LE) : ∀ l : List (Nat × Int), le_ev σ (s_i θ l) = l_ev (fun k => le_ev σ (θ k)) l
  | [] => rfl
  | (k, a) :: r => by
    rw [s_i, le_addE, le_mulE, s_iE σ θ r]
    rfl
theorem s_eE (σ : Nat → Int) (θ : Nat → LE) (e : LE) : le_ev σ (s_e θ e) = le_ev (fun k => le_ev σ (θ k)) e := by
  unfold s_e
  rw [le_addE, s_iE, le_cE]
  rfl
def s_at (θ : Nat → LE) (φ : Nat → Nat) (t : AT) : AT := match t with
  | .inl e => .inl (s_e θ e)
  | .inr (.inl u) => .inr (.inl u)
  | .inr (.inr q) => .inr (.inr (φ q.1, q.2))
def u_en (S : AST) (e : LE) : Bool := le_ent (a_iv S) (a_cs S) e
def u_eq (S : AST) (e e' : LE) : Bool := decide (e = e') || (u_en S (le_sub e e') && u_en S (le_sub e' e))
def u_at (θ : Nat → LE) (φ : Nat → Nat) (S : AST) (t t' : AT) : Bool := match t, t' with
  | .inl e, .inl e' => u_eq S (s_e θ e) e'
  | .inr (.inl _), .inr (.inl _) => true
  | .inr (.inr q), .inr (.inr q') => Nat.beq (φ q.1) q'.1 && t_asg q' q.2
  | _, _ => false
def u_sk (θ : Nat → LE) (φ : Nat → Nat) (S : AST) : List AT → List AT → Bool
  | [], [] => true
  | t :: r, t' :: r' => u_at θ φ S t t' && u_sk θ φ S r r'
  | _, _ => false
def u_ok (θ : Nat → LE) (φ : Nat → Nat) (C S : AST) : Bool := (a_iv C).all (fun q => u_en S (le_sub (le_c q.2.1) (θ q.1)) && u_en S (le_sub (θ q.1) (le_c q.2.2))) && ((a_cs C).all (fun e => u_en S (s_e θ e)) && ((a_ca C).all (fun q => Nat.blt q.1.2.2 5000 && match c_lk (a_ca S) (φ q.1.1, q.1.2) with
    | some t' => u_at θ φ S q.2 t'
    | none => false) && ((a_lv C).all (fun q => match m_lk (a_lv S) q.1 with
    | some t' => u_at θ φ S q.2 t'
    | none => false) && u_sk θ φ S (a_st C) (a_st S))))
section
variable {ρ : Nat → Nat} {K : List Int} {KA : List Nat} {C S : AST} {lv : List (Nat × Value)} {st : List Value} {h : MH} {σ : Nat → Int} {α : Nat → Nat} {θ : Nat → LE} {φ : Nat → Nat}
theorem u_enS {e : LE} (hw : TW ρ K KA S lv st h σ α) (k : u_en S e = true) : le_ev σ e ≤ 0 := le_entS hw.1 hw.2.1 k
theorem u_eqS {e e' : LE} (hw : TW ρ K KA S lv st h σ α) (k : u_eq S e e' = true) : le_ev σ e = le_ev σ e' := by
  unfold u_eq at k
  rw [Bool.or_eq_true, Bool.and_eq_true] at k
  rcases k with k | ⟨k1, k2⟩
  · rw [of_decide_eq_true k]
  · have h1 := u_enS hw k1
    have h2 := u_enS hw k2
    rw [le_subE] at h1 h2
    omega
theorem u_atS {t t' : AT} {v : Value} (hw : TW ρ K KA S lv st h σ α) (k : u_at θ φ S t t' = true) (hv : t_at σ α ρ t' v) : t_at (fun k => le_ev σ (θ k)) (fun o => α (φ o)) ρ t v := by
  unfold u_at at k
  split at k
  · next e e' =>
    obtain ⟨x, h1, h2⟩ := hv
    refine ⟨x, h1, ?_⟩
    rw [h2, ← u_eqS hw k, s_eE]
  · exact hv
  · next q q' =>
    rw [Bool.and_eq_true] at k
    have e := Nat.eq_of_beq_eq_true k.1
    obtain ⟨h1, h2⟩ := hv
    show v = .ref (α (φ q.1)) ∧ t_rf ρ q.2.1 q.2.2 (α (φ q.1))
    rw [e]
    exact ⟨h1, t_asgS k.2 h2⟩
  · cases k
theorem u_fvS {t t' : AT} {a f : Nat} (hf : f < 5000) (hw : TW ρ K KA S lv st h σ α) (k : u_at θ φ S t t' = true) (hv : t_fv σ α ρ h a f t') : t_fv (fun k => le_ev σ (θ k)) (fun o => α (φ o)) ρ h a f t := by
  unfold u_at at k
  split at k
  · next e e' =>
    have hv : if f = 1000 then ((h_k h a).2 : Int) = le_ev σ e' else (h_i h a (t_kx σ f)).toInt = le_ev σ e' := hv
    show if f = 1000 then ((h_k h a).2 : Int) = le_ev (fun k => le_ev σ (θ k)) e else (h_i h a (t_kx _ f)).toInt = le_ev (fun k => le_ev σ (θ k)) e
    rw [t_kxl hf] at hv ⊢
    rw [← s_eE, u_eqS hw k]
    exact hv
  · trivial
  · next q q' =>
    rw [Bool.and_eq_true] at k
    have e := Nat.eq_of_beq_eq_true k.1
    obtain ⟨h1, h2⟩ := hv
    show h_r h a (t_kx _ f) = α (φ q.1) ∧ t_rf ρ q.2.1 q.2.2 (α (φ q.1))
    rw [t_kxl hf] at h1 ⊢
    rw [e]
    exact ⟨h1, t_asgS k.2 h2⟩
  · cases k
theorem u_skS (hw : TW ρ K KA S lv st h σ α) : ∀ {t t' : List AT} {v : List Value}, u_sk θ φ S t t' = true → t_sk σ α ρ t' v → t_sk (fun k => le_ev σ (θ k)) (fun o => α (φ o)) ρ t v
  | [], [], [], _, _ => trivial
  | [], [], _ :: _, _, hv => hv.elim
  | t :: r, t' :: r', [], _, hv => hv.elim
  | t :: r, t' :: r', x :: q, k, hv => by
    rw [u_sk, Bool.and_eq_true] at k
    exact ⟨u_atS hw k.1 hv.1, u_skS hw k.2 hv.2⟩
  | [], _ :: _, _, k, _ => by cases k
  | _ :: _, [], _, k, _ => by cases k
theorem u_okS (hw : TW ρ K KA S lv st h σ α) (k : u_ok θ φ C S = true) : TW ρ ((a_kp C).map (le_ev (fun k => le_ev σ (θ k)))) ((a_ko C).map (fun o => α (φ o))) C lv st h (fun k => le_ev σ (θ k)) (fun o => α (φ o)) := by
  unfold u_ok at k
  rw [Bool.and_eq_true, Bool.and_eq_true, Bool.and_eq_true, Bool.and_eq_true] at k
  obtain ⟨k1, k2, k3, k4, k5⟩ := k
  refine ⟨fun q hq => ?_, fun e he => ?_, fun q hq => ?_, rfl, rfl, fun q hq => ?_, u_skS hw k5 hw.2.2.2.2.2.2⟩
  · have := List.all_eq_true.mp k1 q hq
    rw [Bool.and_eq_true] at this
    have h1 := u_enS hw this.1
    have h2 := u_enS hw this.2
    rw [le_subE, le_cE] at h1 h2
    show q.2.1 ≤ le_ev σ (θ q.1) ∧ le_ev σ (θ q.1) ≤ q.2.2
    omega
  · rw [← s_eE]
    exact u_enS hw (List.all_eq_true.mp k2 e he)
  · have := List.all_eq_true.mp k3 q hq
    rw [Bool.and_eq_true] at this
    obtain ⟨hf, this⟩ := this
    split at this
    · next t' ht' =>
      obtain ⟨g1, g2⟩ := hw.2.2.1 _ (c_lkm ht')
      exact ⟨g1, u_fvS (Nat.le_of_ble_eq_true hf) hw this g2⟩
    · cases this
  · have := List.all_eq_true.mp k4 q hq
    split at this
    · next t' ht' =>
      obtain ⟨x, g1, g2⟩ := hw.2.2.2.2.2.1 _ (m_lkm ht')
      exact ⟨x, g1, u_atS hw this g2⟩
    · cases this
end
-- which word stands for which symbol
abbrev BS : Type := List (Nat × LE) × List (Nat × Nat)
def b_th (b : BS) : Nat → LE := fun k => match m_lk b.1 k with
  | some e => e
  | none => le_s k
def b_ph (b : BS) : Nat → Nat := fun k => match m_lk b.2 k with
  | some o => o
  | none => k
def b_bi (m0 : Nat) (t t' : AT) (b : BS) : BS := match t, t' with
  | .inl ([(k, 1)], 0), .inl e' => if Nat.ble m0 k && (m_lk b.1 k).isNone then ((k, e') :: b.1, b.2) else b
  | .inr (.inr q), .inr (.inr q') => if Nat.ble m0 q.1 && (m_lk b.2 q.1).isNone then (b.1, (q.1, q'.1) :: b.2) else b
  | _, _ => b
def b_lv (m0 : Nat) (S : AST) : List (Nat × AT) → BS → BS
  | [], b => b
  | q :: r, b => b_lv m0 S r (match m_lk (a_lv S) q.1 with
    | some t' => b_bi m0 q.2 t' b
    | none => b)
def b_ca (m0 : Nat) (S : AST) : CA → BS → BS
  | [], b => b
  | q :: r, b => b_ca m0 S r (match c_lk (a_ca S) (b_ph b q.1.1, q.1.2) with
    | some t' => b_bi m0 q.2 t' b
    | none => b)
def b_sk (m0 : Nat) : List AT → List AT → BS → BS
  | t :: r, t' :: r', b => b_sk m0 r r' (b_bi m0 t t' b)
  | _, _, b => b
def b_al (m0 : Nat) (C S : AST) : BS := b_ca m0 S (a_ca C) (b_sk m0 (a_st C) (a_st S) (b_lv m0 S (a_lv C) ([], [])))
