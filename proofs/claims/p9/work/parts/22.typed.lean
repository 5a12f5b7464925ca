-- TYPED HEAPS AND STATES OF THE CHECKER
-- a field's type: a range of ints, any long, a reference to a region (true: never null)
abbrev FT : Type := (Int × Int) ⊕ (Unit ⊕ (Nat × Bool))
-- a region: kind, length's range; made (address 16 and on) or not; an array's elements alike or an object's fields
abbrev RS : Type := (Nat × (Nat × Nat)) × (Bool × (Bool × List FT))
def r_ft (rs : RS) (k : Nat) : Option FT := match rs.2.2.1 with
  | true => rs.2.2.2[0]?
  | false => rs.2.2.2[k]?
def t_rf (ρ : Nat → Nat) (R : Nat) (nn : Bool) (a : Nat) : Prop := (a = 0 ∧ nn = false) ∨ (a ≠ 0 ∧ R ≠ 0 ∧ ρ a = R)
def t_ft (ρ : Nat → Nat) (ft : FT) (h : MH) (a k : Nat) : Prop := match ft with
  | .inl p => p.1 ≤ (h_i h a k).toInt ∧ (h_i h a k).toInt ≤ p.2
  | .inr (.inl _) => True
  | .inr (.inr q) => t_rf ρ q.1 q.2 (h_r h a k)
def t_cell (ρ : Nat → Nat) (rs : RS) (h : MH) (a : Nat) : Prop := (h_k h a).1 = rs.1.1 ∧ (rs.1.2.1 ≤ (h_k h a).2 ∧ (h_k h a).2 ≤ rs.1.2.2) ∧ (rs.2.1 = true → 16 ≤ a) ∧ ∀ k ft, r_ft rs k = some ft → (rs.2.2.1 = true → k < (h_k h a).2) → t_ft ρ ft h a k
def TH (sp : List RS) (ρ : Nat → Nat) (h : MH) : Prop := ρ 0 = 0 ∧ ∀ a, ρ a ≠ 0 → a < 16 + h_n h ∧ ∃ rs, sp[ρ a]? = some rs ∧ t_cell ρ rs h a
-- a value: a linear word, a long, a reference (its own symbol, region, never null or not)
abbrev AT : Type := LE ⊕ (Unit ⊕ (Nat × (Nat × Bool)))
-- what is known of fields: ((object's symbol, (region, field)), value); field 1000: an array's length
abbrev CA : Type := List ((Nat × (Nat × Nat)) × AT)
-- a state: ranges and constraints; known fields; words and objects that are kept; the next free number; locals, stack
abbrev AST : Type := (IV × List LE) × (CA × ((List LE × List Nat) × (Nat × (List (Nat × AT) × List AT))))
def a_iv (S : AST) : IV := S.1.1
def a_cs (S : AST) : List LE := S.1.2
def a_ca (S : AST) : CA := S.2.1
def a_kp (S : AST) : List LE := S.2.2.1.1
def a_ko (S : AST) : List Nat := S.2.2.1.2
def a_nx (S : AST) : Nat := S.2.2.2.1
def a_lv (S : AST) : List (Nat × AT) := S.2.2.2.2.1
def a_st (S : AST) : List AT := S.2.2.2.2.2
def t_at (σ : Nat → Int) (α ρ : Nat → Nat) (t : AT) (v : Value) : Prop := match t with
  | .inl e => ∃ x, v = .int x ∧ x.toInt = le_ev σ e
  | .inr (.inl _) => ∃ x, v = .long x
  | .inr (.inr q) => v = .ref (α q.1) ∧ t_rf ρ q.2.1 q.2.2 (α q.1)
-- a key's place: itself below 5000, else the worth of a symbol
def t_kx (σ : Nat → Int) (k : Nat) : Nat := if k < 5000 then k else (σ (k - 5000)).toNat
theorem t_kxl {σ : Nat → Int} {k : Nat} (h : k < 5000) : t_kx σ k = k := if_pos h
def t_fv (σ : Nat → Int) (α ρ : Nat → Nat) (h : MH) (a k : Nat) (t : AT) : Prop := match t with
  | .inl e => if k = 1000 then ((h_k h a).2 : Int) = le_ev σ e else (h_i h a (t_kx σ k)).toInt = le_ev σ e
  | .inr (.inl _) => True
  | .inr (.inr q) => h_r h a (t_kx σ k) = α q.1 ∧ t_rf ρ q.2.1 q.2.2 (α q.1)
def t_ca (σ : Nat → Int) (α ρ : Nat → Nat) (h : MH) (ca : CA) : Prop := ∀ q ∈ ca, (α q.1.1 ≠ 0 ∧ ρ (α q.1.1) = q.1.2.1) ∧ t_fv σ α ρ h (α q.1.1) q.1.2.2 q.2
def t_sk (σ : Nat → Int) (α ρ : Nat → Nat) : List AT → List Value → Prop
  | [], [] => True
  | a :: r, v :: q => t_at σ α ρ a v ∧ t_sk σ α ρ r q
  | _, _ => False
-- of locals: every one that is named is there
def t_lv (σ : Nat → Int) (α ρ : Nat → Nat) (l : List (Nat × AT)) (v : List (Nat × Value)) : Prop := ∀ q ∈ l, ∃ x, m_lk v q.1 = some x ∧ t_at σ α ρ q.2 x
-- what a state says of locals, stack and heap (K, KA: the worth of what is kept)
def TS (sp : List RS) (ρ : Nat → Nat) (K : List Int) (KA : List Nat) (S : AST) (lv : List (Nat × Value)) (st : List Value) (h : MH) : Prop :=
  TH sp ρ h ∧ ∃ (σ : Nat → Int) (α : Nat → Nat), iv_ok σ (a_iv S) ∧ cs_ok σ (a_cs S) ∧ t_ca σ α ρ h (a_ca S) ∧ (a_kp S).map (le_ev σ) = K ∧ (a_ko S).map α = KA ∧ t_lv σ α ρ (a_lv S) lv ∧ t_sk σ α ρ (a_st S) st
-- a number that a state doesn't have
def f_at (n : Nat) (t : AT) : Bool := match t with
  | .inl e => l_fr n e.1
  | .inr (.inl _) => true
  | .inr (.inr q) => !(q.1 == n)
def f_S (n : Nat) (S : AST) : Bool := (a_iv S).all (fun q => !(q.1 == n)) && ((a_cs S).all (fun e => l_fr n e.1) && ((a_ca S).all (fun q => (!(q.1.1 == n) && !(Nat.beq q.1.2.2 (5000 + n))) && f_at n q.2) && ((a_kp S).all (fun e => l_fr n e.1) && ((a_ko S).all (fun o => !(o == n)) && ((a_lv S).all (fun q => f_at n q.2) && (a_st S).all (fun t => f_at n t))))))
def o_up (α : Nat → Nat) (n a : Nat) : Nat → Nat := fun k => if k = n then a else α k
theorem f_atS {σ : Nat → Int} {α ρ : Nat → Nat} {n : Nat} {t : AT} {v : Value} (z : Int) (a : Nat) (hf : f_at n t = true) (h : t_at σ α ρ t v) : t_at (s_up σ n z) (o_up α n a) ρ t v := by
  cases t with
  | inl e =>
    obtain ⟨x, h1, h2⟩ := h
    exact ⟨x, h1, by rw [le_frS σ n z e hf]; exact h2⟩
  | inr t => cases t with
    | inl u => exact h
    | inr q =>
      have hq : ¬ q.1 = n := fun e => by
        have h9 : (!(q.1 == n)) = true := hf
        rw [e] at h9
        simp at h9
      have hu : o_up α n a q.1 = α q.1 := if_neg hq
      show v = .ref (o_up α n a q.1) ∧ t_rf ρ q.2.1 q.2.2 (o_up α n a q.1)
      rw [hu]
      exact h
theorem f_kx {σ : Nat → Int} {n k : Nat} (z : Int) (hk : ¬ k = 5000 + n) : t_kx (s_up σ n z) k = t_kx σ k := by
  unfold t_kx
  by_cases h : k < 5000
  · rw [if_pos h, if_pos h]
  · rw [if_neg h, if_neg h]
    unfold s_up
    rw [if_neg (by omega)]
theorem f_fvS {σ : Nat → Int} {α ρ : Nat → Nat} {h : MH} {b k : Nat} {n : Nat} {t : AT} (z : Int) (a : Nat) (hk : ¬ k = 5000 + n) (hf : f_at n t = true) (hv : t_fv σ α ρ h b k t) : t_fv (s_up σ n z) (o_up α n a) ρ h b k t := by
  cases t with
  | inl e =>
    show if k = 1000 then _ = le_ev (s_up σ n z) e else (h_i h b (t_kx (s_up σ n z) k)).toInt = le_ev (s_up σ n z) e
    rw [le_frS σ n z e hf, f_kx z hk]
    exact hv
  | inr t => cases t with
    | inl u => exact hv
    | inr q =>
      have hq : ¬ q.1 = n := fun e => by
        have h9 : (!(q.1 == n)) = true := hf
        rw [e] at h9
        simp at h9
      have hu : o_up α n a q.1 = α q.1 := if_neg hq
      show h_r h b (t_kx (s_up σ n z) k) = o_up α n a q.1 ∧ t_rf ρ q.2.1 q.2.2 (o_up α n a q.1)
      rw [hu, f_kx z hk]
      exact hv
theorem f_skS {σ : Nat → Int} {α ρ : Nat → Nat} {n : Nat} (z : Int) (a : Nat) : ∀ {t : List AT} {v : List Value}, t.all (fun t => f_at n t) = true → t_sk σ α ρ t v → t_sk (s_up σ n z) (o_up α n a) ρ t v
  | [], [], _, h => h
  | t :: r, v :: q, hf, h => by
    rw [List.all_cons, Bool.and_eq_true] at hf
    exact ⟨f_atS z a hf.1 h.1, f_skS z a hf.2 h.2⟩
  | [], _ :: _, _, h => h.elim
  | _ :: _, [], _, h => h.elim
theorem f_lvS {σ : Nat → Int} {α ρ : Nat → Nat} {n : Nat} (z : Int) (a : Nat) {t : List (Nat × AT)} {v : List (Nat × Value)} (hf : t.all (fun t => f_at n t.2) = true) (h : t_lv σ α ρ t v) : t_lv (s_up σ n z) (o_up α n a) ρ t v := fun q hq => by
  obtain ⟨x, h1, h2⟩ := h q hq
  exact ⟨x, h1, f_atS z a (List.all_eq_true.mp hf q hq) h2⟩
-- all of a state's words but locals and stack, at any symbols that give a new number another worth
def TW (ρ : Nat → Nat) (K : List Int) (KA : List Nat) (S : AST) (lv : List (Nat × Value)) (st : List Value) (h : MH) (σ : Nat → Int) (α : Nat → Nat) : Prop := iv_ok σ (a_iv S) ∧ cs_ok σ (a_cs S) ∧ t_ca σ α ρ h (a_ca S) ∧ (a_kp S).map (le_ev σ) = K ∧ (a_ko S).map α = KA ∧ t_lv σ α ρ (a_lv S) lv ∧ t_sk σ α ρ (a_st S) st
theorem f_SS {ρ : Nat → Nat} {K : List Int} {KA : List Nat} {S : AST} {lv : List (Nat × Value)} {st : List Value} {h : MH} {σ : Nat → Int} {α : Nat → Nat} {n : Nat} (z : Int) (a : Nat) (hf : f_S n S = true) (hw : TW ρ K KA S lv st h σ α) : TW ρ K KA S lv st h (s_up σ n z) (o_up α n a) := by
  unfold f_S at hf
  simp only [Bool.and_eq_true, List.all_eq_true] at hf
  obtain ⟨f1, f2, f3, f4, f5, f6, f7⟩ := hf
  obtain ⟨w1, w2, w3, w4, w5, w6, w7⟩ := hw
  have ne : ∀ {k : Nat}, (!(k == n)) = true → ¬ k = n := fun {k} hk e => by
    rw [e] at hk
    simp at hk
  refine ⟨fun q hq => ?_, fun e he => ?_, fun q hq => ?_, ?_, ?_, f_lvS z a (List.all_eq_true.mpr f6) w6, f_skS z a (List.all_eq_true.mpr f7) w7⟩
  · have : s_up σ n z q.1 = σ q.1 := if_neg (ne (f1 q hq))
    rw [this]
    exact w1 q hq
  · rw [le_frS σ n z e (f2 e he)]
    exact w2 e he
  · obtain ⟨g1, g2⟩ := w3 q hq
    have : o_up α n a q.1.1 = α q.1.1 := if_neg (ne (f3 q hq).1.1)
    rw [this]
    refine ⟨g1, f_fvS z a (fun e => ?_) (f3 q hq).2 g2⟩
    have h9 := (f3 q hq).1.2
    rw [e, Nat.beq_refl] at h9
    cases h9
  · rw [← w4]
    exact List.map_congr_left (fun e he => le_frS σ n z e (f4 e he))
  · rw [← w5]
    exact List.map_congr_left (fun o ho => if_neg (ne (f5 o ho)))
