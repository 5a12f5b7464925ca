-- INT WORDS' OWN RULES
theorem i_bm (z : Int) (h1 : -2147483648 ≤ z) (h2 : z ≤ 2147483647) : z.bmod (2 ^ 32) = z := Int.bmod_eq_of_le (by show -((2 ^ 32 : Int) / 2) ≤ z; omega) (by show z < ((2 ^ 32 : Int) + 1) / 2; omega)
theorem i_add (x y : Int32) (h1 : -2147483648 ≤ x.toInt + y.toInt) (h2 : x.toInt + y.toInt ≤ 2147483647) : (x + y).toInt = x.toInt + y.toInt := by
  rw [Int32.toInt_add]
  exact i_bm _ h1 h2
theorem i_sub (x y : Int32) (h1 : -2147483648 ≤ x.toInt - y.toInt) (h2 : x.toInt - y.toInt ≤ 2147483647) : (x - y).toInt = x.toInt - y.toInt := by
  rw [Int32.toInt_sub]
  exact i_bm _ h1 h2
theorem i_mul (x y : Int32) (h1 : -2147483648 ≤ x.toInt * y.toInt) (h2 : x.toInt * y.toInt ≤ 2147483647) : (x * y).toInt = x.toInt * y.toInt := by
  rw [Int32.toInt_mul]
  exact i_bm _ h1 h2
theorem i_neg (x : Int32) (h1 : -2147483647 ≤ x.toInt) : (-x).toInt = -x.toInt := by
  have h2 := Int32.toInt_lt x
  rw [Int32.toInt_neg]
  exact i_bm _ (by omega) (by omega)
theorem i_ofInt (z : Int) (h1 : -2147483648 ≤ z) (h2 : z ≤ 2147483647) : (Int32.ofInt z).toInt = z := by
  rw [Int32.toInt_ofInt]
  exact i_bm _ h1 h2
theorem i_div (x y : Int32) (hx : 0 ≤ x.toInt) (hy : 0 < y.toInt) : (x / y).toInt = x.toInt / y.toInt := by
  have h1 := Int32.toInt_lt x
  rw [Int32.toInt_div, Int.tdiv_eq_ediv_of_nonneg hx]
  have h2 : 0 ≤ x.toInt / y.toInt := Int.ediv_nonneg hx (by omega)
  have h3 : x.toInt / y.toInt ≤ x.toInt := Int.ediv_le_self _ hx
  exact i_bm _ (by omega) (by omega)
abbrev AO : Type := Nat × AST
def w_fs (S : AST) (lv : List (Nat × AT)) (st : List AT) : AST := (S.1, S.2.1, S.2.2.1, S.2.2.2.1, lv, st)
def w_ca (S : AST) (ca : CA) : AST := (S.1, ca, S.2.2)
def w_cs (S : AST) (cs : List LE) : AST := ((S.1.1, cs), S.2)
def w_iv (S : AST) (iv : IV) : AST := ((iv, S.1.2), S.2)
def w_nx (S : AST) (n : Nat) : AST := (S.1, S.2.1, S.2.2.1, n, S.2.2.2.2)
-- a new symbol with a range, on top of a stack
def t_pi (pc : Nat) (S : AST) (st : List AT) (lo hi : Int) : Option (List AO) := if f_S (a_nx S) (w_fs S (a_lv S) st) = true then some [(pc, w_nx (w_fs (w_iv S ((a_nx S, (lo, hi)) :: a_iv S)) (a_lv S) (.inl (le_s (a_nx S)) :: st)) (a_nx S + 1))] else none
-- the same, nothing new needed
def t_pe (pc : Nat) (S : AST) (st : List AT) (e : LE) : Option (List AO) := some [(pc, w_fs S (a_lv S) (.inl e :: st))]
def t_go (pc : Nat) (S : AST) (st : List AT) : Option (List AO) := some [(pc, w_fs S (a_lv S) st)]
def t_in32 (S : AST) (e : LE) : Bool := le_ent (a_iv S) (a_cs S) (le_sub e (le_c 2147483647)) && le_ent (a_iv S) (a_cs S) (le_sub (le_c (-2147483648)) e)
-- a word that is right if it lies among the ints, else anything
def t_pw (pc : Nat) (S : AST) (st : List AT) (e : LE) : Option (List AO) := if t_in32 S e = true then t_pe pc S st e else t_pi pc S st (-2147483648) 2147483647
-- frames: what a run may write
def t_W (W : List (Nat × Nat)) (R k : Nat) : Prop := (R, k) ∈ W ∨ (R, 1001) ∈ W
def FR (ρ : Nat → Nat) (W : List (Nat × Nat)) (h h' : MH) : Prop := h'.1 = h.1 ∧ (∀ a, h_k h' a = h_k h a) ∧ ∀ a k, ¬ t_W W (ρ a) k → h_i h' a k = h_i h a k ∧ h_l h' a k = h_l h a k ∧ h_r h' a k = h_r h a k
theorem FR.refl (ρ : Nat → Nat) (W : List (Nat × Nat)) (h : MH) : FR ρ W h h := ⟨rfl, fun _ => rfl, fun _ _ _ => ⟨rfl, rfl, rfl⟩⟩
theorem FR.trans {ρ : Nat → Nat} {W : List (Nat × Nat)} {h h1 h2 : MH} (f : FR ρ W h h1) (g : FR ρ W h1 h2) : FR ρ W h h2 := by
  obtain ⟨f1, f2, f3⟩ := f
  obtain ⟨g1, g2, g3⟩ := g
  refine ⟨g1.trans f1, fun a => (g2 a).trans (f2 a), fun a k hk => ?_⟩
  obtain ⟨x1, x2, x3⟩ := f3 a k hk
  obtain ⟨y1, y2, y3⟩ := g3 a k hk
  exact ⟨y1.trans x1, y2.trans x2, y3.trans x3⟩
-- one step of the checker is true of the machine's
def T_P (sp : List RS) (ρ : Nat → Nat) (W : List (Nat × Nat)) (K : List Int) (KA : List Nat) (R : Option (List AO)) (h : MH) (R' : Option MA) : Prop := ∀ L, R = some L → ∃ pc' lv' st' h', R' = some (.inl (pc', lv', st', h')) ∧ FR ρ W h h' ∧ ∃ S', (pc', S') ∈ L ∧ TS sp ρ K KA S' lv' st' h'
section
variable {sp : List RS} {ρ : Nat → Nat} {W : List (Nat × Nat)} {K : List Int} {KA : List Nat} {S : AST} {lv' : List (Nat × Value)} {st' : List Value} {h : MH} {pc : Nat} {st : List AT} {σ : Nat → Int} {α : Nat → Nat}
theorem q_no {h : MH} {R' : Option MA} : T_P sp ρ W K KA none h R' := fun _ e => by cases e
theorem q_fs {lv0 : List (Nat × Value)} {st0 : List Value} {lv : List (Nat × AT)} (hw : TW ρ K KA S lv0 st0 h σ α) (hl : t_lv σ α ρ lv lv') (hs : t_sk σ α ρ st st') : TW ρ K KA (w_fs S lv st) lv' st' h σ α := ⟨hw.1, hw.2.1, hw.2.2.1, hw.2.2.2.1, hw.2.2.2.2.1, hl, hs⟩
theorem q_go {st0 : List Value} (ht : TH sp ρ h) (hw : TW ρ K KA S lv' st0 h σ α) (hs : t_sk σ α ρ st st') : T_P sp ρ W K KA (t_go pc S st) h (m_go pc lv' st' h) := fun L e => by
  cases (Option.some.inj e)
  exact ⟨pc, lv', st', h, rfl, FR.refl _ _ _, _, List.mem_singleton.mpr rfl, ht, σ, α, q_fs hw hw.2.2.2.2.2.1 hs⟩
theorem q_pe {st0 : List Value} {e : LE} {x : Int32} (ht : TH sp ρ h) (hw : TW ρ K KA S lv' st0 h σ α) (hs : t_sk σ α ρ st st') (hx : x.toInt = le_ev σ e) : T_P sp ρ W K KA (t_pe pc S st e) h (m_go pc lv' (.int x :: st') h) := fun L e9 => by
  cases (Option.some.inj e9)
  exact ⟨pc, lv', _, h, rfl, FR.refl _ _ _, _, List.mem_singleton.mpr rfl, ht, σ, α, q_fs hw hw.2.2.2.2.2.1 ⟨⟨x, rfl, hx⟩, hs⟩⟩
theorem q_pi {st0 : List Value} {lo hi : Int} {x : Int32} (ht : TH sp ρ h) (hw : TW ρ K KA S lv' st0 h σ α) (hs : t_sk σ α ρ st st') (h1 : lo ≤ x.toInt) (h2 : x.toInt ≤ hi) : T_P sp ρ W K KA (t_pi pc S st lo hi) h (m_go pc lv' (.int x :: st') h) := fun L e9 => by
  unfold t_pi at e9
  split at e9
  · next hf =>
    cases (Option.some.inj e9)
    have hw2 := f_SS x.toInt 0 hf (q_fs hw hw.2.2.2.2.2.1 hs)
    refine ⟨pc, lv', _, h, rfl, FR.refl _ _ _, _, List.mem_singleton.mpr rfl, ht, s_up σ (a_nx S) x.toInt, o_up α (a_nx S) 0, ?_⟩
    obtain ⟨w1, w2, w3, w4, w5, w6, w7⟩ := hw2
    have hn : s_up σ (a_nx S) x.toInt (a_nx S) = x.toInt := if_pos rfl
    refine ⟨fun q hq => ?_, w2, w3, w4, w5, w6, ⟨x, rfl, by rw [le_sE, hn]⟩, w7⟩
    rcases List.mem_cons.mp hq with e | hq
    · rw [e]
      show lo ≤ s_up σ (a_nx S) x.toInt (a_nx S) ∧ s_up σ (a_nx S) x.toInt (a_nx S) ≤ hi
      rw [hn]
      exact ⟨h1, h2⟩
    · exact w1 q hq
  · cases e9
theorem q_in32 {e : LE} {lv0 : List (Nat × Value)} {st0 : List Value} (hw : TW ρ K KA S lv0 st0 h σ α) (k : t_in32 S e = true) : -2147483648 ≤ le_ev σ e ∧ le_ev σ e ≤ 2147483647 := by
  unfold t_in32 at k
  rw [Bool.and_eq_true] at k
  have h1 := le_entS hw.1 hw.2.1 k.1
  have h2 := le_entS hw.1 hw.2.1 k.2
  rw [le_subE, le_cE] at h1 h2
  omega
theorem q_pw {st0 : List Value} {e : LE} {x : Int32} (ht : TH sp ρ h) (hw : TW ρ K KA S lv' st0 h σ α) (hs : t_sk σ α ρ st st') (hx : -2147483648 ≤ le_ev σ e → le_ev σ e ≤ 2147483647 → x.toInt = le_ev σ e) : T_P sp ρ W K KA (t_pw pc S st e) h (m_go pc lv' (.int x :: st') h) := by
  unfold t_pw
  split
  · next hk =>
    obtain ⟨k1, k2⟩ := q_in32 hw hk
    exact q_pe ht hw hs (hx k1 k2)
  · obtain ⟨k1, k2⟩ := g_iT x
    exact q_pi ht hw hs k1 k2
end
