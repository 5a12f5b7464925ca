-- A SMALL LOGIC OF ONE OBJECT'S FIELDS AND ROWS: by-hand runs told in whole numbers
def rg_f (R K : Nat) : Option FT := match c_sp[R]? with
  | some rs => if rs.2.2.1 = false then r_ft rs K else none
  | none => none
def rg_r (R : Nat) : Nat := match c_sp[R]? with
  | some r2 => if 20 ≤ r2.1.1 ∧ r2.1.1 < 30 then R else 0
  | none => 0
def rg_a (R K : Nat) : Nat := match rg_f R K with
  | some (.inr (.inr q)) => (match q.2 with
    | true => rg_r q.1
    | false => 0)
  | _ => 0
theorem rg_rS {R : Nat} (h : rg_r R ≠ 0) : rg_r R = R ∧ ∃ rs, c_sp[R]? = some rs ∧ 20 ≤ rs.1.1 ∧ rs.1.1 < 30 := by
  unfold rg_r at h ⊢
  split at h
  · next r2 h2 =>
    split at h
    · next hc => exact ⟨if_pos hc, r2, h2, hc⟩
    · exact absurd rfl h
  · exact absurd rfl h
theorem rg_aS {R K : Nat} (h : rg_a R K ≠ 0) : ∃ rs, c_sp[R]? = some rs ∧ rs.2.2.1 = false ∧ r_ft rs K = some (.inr (.inr (rg_a R K, true))) ∧ ∃ r2, c_sp[rg_a R K]? = some r2 ∧ 20 ≤ r2.1.1 ∧ r2.1.1 < 30 := by
  unfold rg_a at h ⊢
  split at h
  · next q hq =>
    obtain ⟨q1, q2⟩ := q
    cases q2 with
    | false => exact absurd rfl h
    | true =>
      obtain ⟨e1, rs2, e2, e3⟩ := rg_rS h
      unfold rg_f at hq
      split at hq
      · next rs hrs =>
        split at hq
        · next hb =>
          dsimp only
          rw [e1]
          exact ⟨rs, hrs, hb, hq, rs2, e2, e3⟩
        · cases hq
      · cases hq
  · exact absurd rfl h
-- rows of one object are apart
def rg_okb (R : Nat) : Bool := match c_sp[R]? with
  | some rs => decide (rs.1.1 < 11) && (List.range rs.2.2.2.length).all (fun K => (List.range rs.2.2.2.length).all (fun K' => Nat.beq (rg_a R K) 0 || (!(Nat.beq (rg_a R K) (rg_a R K')) || Nat.beq K K')))
  | none => false
theorem rg_len {R K : Nat} {rs : RS} (hs : c_sp[R]? = some rs) (h : rg_a R K ≠ 0) : K < rs.2.2.2.length := by
  obtain ⟨rs2, e1, e2, e3, -⟩ := rg_aS h
  rw [hs] at e1
  cases e1
  unfold r_ft at e3
  rw [e2] at e3
  exact (List.getElem?_eq_some_iff.mp e3).1
theorem rg_inj {R K K' : Nat} (ok : rg_okb R = true) (h : rg_a R K ≠ 0) (e : rg_a R K = rg_a R K') : K = K' := by
  have h' : rg_a R K' ≠ 0 := by rw [← e]; exact h
  unfold rg_okb at ok
  split at ok
  · next rs hs =>
    rw [Bool.and_eq_true] at ok
    have := List.all_eq_true.mp (List.all_eq_true.mp ok.2 K (List.mem_range.mpr (rg_len hs h))) K' (List.mem_range.mpr (rg_len hs h'))
    rw [Bool.or_eq_true, Bool.or_eq_true] at this
    rcases this with z | z | z
    · exact absurd (Nat.eq_of_beq_eq_true z) h
    · rw [e, Nat.beq_refl] at z
      cases z
    · exact Nat.eq_of_beq_eq_true z
  · cases ok
theorem rg_self {R K : Nat} (ok : rg_okb R = true) (h : rg_a R K ≠ 0) : rg_a R K ≠ R := by
  intro z
  obtain ⟨rs, e1, e2, e3, r2, f1, f2, f3⟩ := rg_aS h
  unfold rg_okb at ok
  split at ok
  · next rs3 hs =>
    rw [Bool.and_eq_true] at ok
    have := of_decide_eq_true ok.1
    rw [z, hs] at f1
    cases f1
    omega
  · cases ok
-- frames of runs that make nothing
def FS (ρ : Nat → Nat) (W : List (Nat × Nat)) (h h' : MH) : Prop := h'.1 = h.1 ∧ ∀ a, a < 16 + h_n h → h_k h' a = h_k h a ∧ ∀ k, ¬ t_W W (ρ a) k → h_i h' a k = h_i h a k ∧ h_l h' a k = h_l h a k ∧ h_r h' a k = h_r h a k
theorem FS.refl (ρ : Nat → Nat) (W : List (Nat × Nat)) (h : MH) : FS ρ W h h := ⟨rfl, fun _ _ => ⟨rfl, fun _ _ => ⟨rfl, rfl, rfl⟩⟩⟩
theorem FS.trans {ρ : Nat → Nat} {W : List (Nat × Nat)} {h h1 h2 : MH} (f : FS ρ W h h1) (g : FS ρ W h1 h2) : FS ρ W h h2 := by
  refine ⟨g.1.trans f.1, fun a ha => ?_⟩
  have ha1 : a < 16 + h_n h1 := by
    unfold h_n
    rw [f.1]
    exact ha
  obtain ⟨x1, x2⟩ := f.2 a ha
  obtain ⟨y1, y2⟩ := g.2 a ha1
  refine ⟨y1.trans x1, fun k hk => ?_⟩
  obtain ⟨x3, x4, x5⟩ := x2 k hk
  obtain ⟨y3, y4, y5⟩ := y2 k hk
  exact ⟨y3.trans x3, y4.trans x4, y5.trans x5⟩
theorem FS.ofFR {ρ : Nat → Nat} {W : List (Nat × Nat)} {h h' : MH} (f : FR ρ W h h') : FS ρ W h h' := ⟨f.1, fun a _ => ⟨f.2.1 a, fun k hk => f.2.2 a k hk⟩⟩
theorem FS.fq {ρ : Nat → Nat} {W : List (Nat × Nat)} {h h' : MH} (f : FS ρ W h h') : FQ ρ ρ W h h' := ⟨⟨by
  unfold h_n
  rw [f.1]
  exact Nat.le_refl _, fun _ => f.1⟩, fun _ _ => rfl, fun _ h1 h2 => absurd h1 h2, f.2⟩
def w_no2 (W : List (Nat × Nat)) : Bool := W.all (fun q => !(Nat.beq q.2 1002))
theorem FS.ofFQ {ρ ρ' : Nat → Nat} {W : List (Nat × Nat)} {h h' : MH} (hn : w_no2 W = true) (f : FQ ρ ρ' W h h') : ρ' = ρ ∧ FS ρ W h h' := by
  have no : ∀ R, (R, 1002) ∉ W := fun R z => by
    have := List.all_eq_true.mp hn _ z
    simp at this
  refine ⟨funext (fun a => ?_), f.1.2 (no _), f.2.2.2⟩
  by_cases h0 : ρ a = 0
  · by_cases h1 : ρ' a = 0
    · rw [h0, h1]
    · exact absurd (f.2.2.1 a h0 h1).2 (no _)
  · exact f.2.1 a h0
theorem FS.mono {ρ : Nat → Nat} {W1 W2 : List (Nat × Nat)} {h h' : MH} (hs : d_sub W1 W2 = true) (f : FS ρ W1 h h') : FS ρ W2 h h' := ⟨f.1, (FQ.mono hs f.fq).2.2.2⟩
theorem d_subT {W1 W2 W3 : List (Nat × Nat)} (a : d_sub W1 W2 = true) (b : d_sub W2 W3 = true) : d_sub W1 W3 = true := by
  refine List.all_eq_true.mpr (fun q hq => ?_)
  have x := List.all_eq_true.mp a q hq
  rw [Bool.or_eq_true, Bool.and_eq_true] at x ⊢
  rcases x with x | ⟨x1, x2⟩
  · have y := List.all_eq_true.mp b q (List.contains_iff_mem.mp x)
    rw [Bool.or_eq_true, Bool.and_eq_true] at y
    exact y
  · have y := List.all_eq_true.mp b _ (List.contains_iff_mem.mp x2)
    rw [Bool.or_eq_true, Bool.and_eq_true] at y
    rcases y with y | y
    · exact Or.inr ⟨x1, y⟩
    · exact Or.inr ⟨x1, y.2⟩
theorem d_subm {W1 W2 W3 : List (Nat × Nat)} (b : d_sub W2 W3 = true) (a : d_sub W1 W2 = true) : d_sub W1 W3 = true := d_subT a b
-- the object m of region R: its rows A, its fields F, their elements V (ints), G (longs)
def MX (R : Nat) (W : List (Nat × Nat)) (ρ : Nat → Nat) (m : Nat) (A : Nat → Nat) (h0 h : MH) (F : Nat → Int) (V : Nat → Nat → Int) (G : Nat → Nat → Int64) : Prop := (TH c_sp ρ h ∧ ρ m = R ∧ FS ρ W h0 h) ∧ (∀ K, (h_i h m K).toInt = F K) ∧ ∀ K, rg_a R K ≠ 0 → h_r h m K = A K ∧ ∀ j, (h_i h (A K) j).toInt = V K j ∧ h_l h (A K) j = G K j
section
variable {R : Nat} {W : List (Nat × Nat)} {ρ : Nat → Nat} {m : Nat} {A : Nat → Nat} {h0 h : MH} {F : Nat → Int} {V : Nat → Nat → Int} {G : Nat → Nat → Int64}
theorem MX.ar (M : MX R W ρ m A h0 h F V G) (hR : R ≠ 0) {K : Nat} (hK : rg_a R K ≠ 0) : ρ (A K) = rg_a R K ∧ A K < 16 + h_n h ∧ m < 16 + h_n h := by
  obtain ⟨rs, e1, e2, e3, -⟩ := rg_aS hK
  have := th_rf M.1.1 hR e1 M.1.2.1 e3 (fun z => by rw [e2] at z; cases z)
  rw [(M.2.2 K hK).1] at this
  exact ⟨this.2, (M.1.1.2 _ (by rw [this.2]; exact hK)).1, (M.1.1.2 _ (by rw [M.1.2.1]; exact hR)).1⟩
theorem MX.start (ht : TH c_sp ρ h) (hm : ρ m = R) : MX R W ρ m (h_r h m) h h (fun K => (h_i h m K).toInt) (fun K j => (h_i h (h_r h m K) j).toInt) (fun K j => h_l h (h_r h m K) j) := ⟨⟨ht, hm, FS.refl _ _ _⟩, fun _ => rfl, fun _ _ => ⟨rfl, fun _ => ⟨rfl, rfl⟩⟩⟩
theorem MX.again (M : MX R W ρ m A h0 h F V G) (W2 : List (Nat × Nat)) : MX R W2 ρ m A h h F V G := ⟨⟨M.1.1, M.1.2.1, FS.refl _ _ _⟩, M.2⟩
def mx_keeps (R : Nat) (W : List (Nat × Nat)) : Bool := W.all (fun q => !(Nat.beq q.1 R) || (!(Nat.beq q.2 1001) && Nat.beq (rg_a R q.2) 0))
-- behind a run that keeps a frame
theorem MX.fs {W' : List (Nat × Nat)} {h' : MH} (M : MX R W ρ m A h0 h F V G) (hR : R ≠ 0) (ht : TH c_sp ρ h') (f : FS ρ W' h h') (hs : d_sub W' W = true) (hk : mx_keeps R W' = true) : ∃ F' V' G', MX R W ρ m A h0 h' F' V' G' ∧ (∀ K, ¬ t_W W' R K → F' K = F K) ∧ ∀ K, rg_a R K ≠ 0 → (∀ j, ¬ t_W W' (rg_a R K) j) → V' K = V K ∧ G' K = G K := by
  refine ⟨fun K => (h_i h' m K).toInt, fun K j => (h_i h' (A K) j).toInt, fun K j => h_l h' (A K) j, ⟨⟨ht, M.1.2.1, M.1.2.2.trans (f.mono hs)⟩, fun _ => rfl, fun K hK => ⟨?_, fun _ => ⟨rfl, rfl⟩⟩⟩, fun K hw => ?_, fun K hK hw => ?_⟩
  · obtain ⟨a1, a2, a3⟩ := M.ar hR hK
    rw [← (M.2.2 K hK).1]
    refine ((f.2 m a3).2 K (fun z => ?_)).2.2
    rw [M.1.2.1] at z
    rcases z with z | z
    · have := List.all_eq_true.mp hk _ z
      rw [Bool.or_eq_true, Bool.and_eq_true] at this
      rcases this with t | t
      · simp at t
      · exact hK (Nat.eq_of_beq_eq_true t.2)
    · have := List.all_eq_true.mp hk _ z
      simp at this
  · have a3 := (M.1.1.2 m (by rw [M.1.2.1]; exact hR)).1
    show (h_i h' m K).toInt = F K
    rw [((f.2 m a3).2 K (by rw [M.1.2.1]; exact hw)).1]
    exact M.2.1 K
  · obtain ⟨a1, a2, a3⟩ := M.ar hR hK
    refine ⟨funext (fun j => ?_), funext (fun j => ?_)⟩
    · show (h_i h' (A K) j).toInt = V K j
      rw [((f.2 _ a2).2 j (by rw [a1]; exact hw j)).1]
      exact ((M.2.2 K hK).2 j).1
    · show h_l h' (A K) j = G K j
      rw [((f.2 _ a2).2 j (by rw [a1]; exact hw j)).2.1]
      exact ((M.2.2 K hK).2 j).2
theorem MX.w (M : MX R W ρ m A h0 h F V G) {W2 : List (Nat × Nat)} (hs : d_sub W W2 = true) : MX R W2 ρ m A h0 h F V G := ⟨⟨M.1.1, M.1.2.1, M.1.2.2.mono hs⟩, M.2⟩
-- an element just written
theorem m_uEE {K j : Nat} (V : Nat → Nat → Int) (f : Nat → Int) (x : Int) (_ : True) : m_u V K (m_u f j x) K j = x := by rw [m_uE, m_uE]
-- types
theorem MX.fi (M : MX R W ρ m A h0 h F V G) (hR : R ≠ 0) {rs : RS} (hs : c_sp[R]? = some rs) (hn : rs.2.2.1 = false) {k : Nat} {lo hi : Int} (hp : r_ft rs k = some (.inl (lo, hi))) : lo ≤ F k ∧ F k ≤ hi := by
  have := (t_spec M.1.1 hR hs M.1.2.1).2.2.2 k _ hp (fun z => by rw [hn] at z; cases z)
  rw [← M.2.1 k]
  exact this
theorem MX.vi (M : MX R W ρ m A h0 h F V G) (hR : R ≠ 0) {K R2 : Nat} (hr : rg_a R K = R2) (h2 : R2 ≠ 0) {rs2 : RS} (hs2 : c_sp[R2]? = some rs2) {L H kd : Nat} (hk : rs2.1 = (kd, (L, H))) {lo hi : Int} (j : Nat) (hp : r_ft rs2 j = some (.inl (lo, hi))) (hj : j < L) : lo ≤ V K j ∧ V K j ≤ hi := by
  have hK : rg_a R K ≠ 0 := by rw [hr]; exact h2
  obtain ⟨a1, -, -⟩ := M.ar hR hK
  rw [hr] at a1
  have c := t_spec M.1.1 h2 hs2 a1
  have c1 : L ≤ (h_k h (A K)).2 := by
    have c2 := c.2.1.1
    rw [hk] at c2
    exact c2
  rw [← ((M.2.2 K hK).2 j).1]
  exact c.2.2.2 j _ hp (fun _ => by omega)
end
theorem i_shlF : ∀ k : Fin 31, ((1 : Int32) <<< (Int32.ofInt (k.val : Int) &&& 31)).toInt = (2 : Int) ^ k.val := by decide +kernel
theorem i_shl {x y : Int32} {k : Nat} (hx : x.toInt = 1) (hy : y.toInt = (k : Int)) (hk : k < 31) : (x <<< (y &&& 31)).toInt = (2 : Int) ^ k := by
  have e1 : x = 1 := Int32.toInt_inj.mp (by rw [hx]; decide)
  have e2 : y = Int32.ofInt (k : Int) := by rw [← hy, Int32.ofInt_toInt]
  rw [e1, e2]
  exact i_shlF ⟨k, hk⟩
section
variable {i pc pc' : Nat} {lv : List (Nat × Value)} {st : List Value} {Q : Option Value → MH → Prop} {R : Nat} {W : List (Nat × Nat)} {ρ : Nat → Nat} {m : Nat} {A : Nat → Nat} {h0 h : MH} {F : Nat → Int} {V : Nat → Nat → Int} {G : Nat → Nat → Int64}
-- words
theorem hM_ic {n : Int} (a : m_at i pc = some (.iconst n, 1)) (hn : (Int32.ofInt n).toInt = n) (hp : pc + 1 = pc') (g : ∀ x : Int32, x.toInt = n → HJ i pc' lv (.int x :: st) h Q) : HJ i pc lv st h Q := hI_ic a hp (g _ hn)
theorem hM_bp {n : Int} (a : m_at i pc = some (.bipush n, 2)) (hn : (Int8.ofInt n).toInt32.toInt = n) (hp : pc + 2 = pc') (g : ∀ x : Int32, x.toInt = n → HJ i pc' lv (.int x :: st) h Q) : HJ i pc lv st h Q := hI_bp a hp (g _ hn)
theorem hM_sp {n : Int} (a : m_at i pc = some (.sipush n, 3)) (hn : (Int16.ofInt n).toInt32.toInt = n) (hp : pc + 3 = pc') (g : ∀ x : Int32, x.toInt = n → HJ i pc' lv (.int x :: st) h Q) : HJ i pc lv st h Q := hI_sp a hp (g _ hn)
theorem hM_jc {idx : Nat} {x : Int64} (a : m_at i pc = some (.ldc2_w idx, 3)) (hx : m_jc i idx = some x) (hp : pc + 3 = pc') (g : HJ i pc' lv (.long x :: st) h Q) : HJ i pc lv st h Q := by
  subst hp
  refine HJ.ex a (Or.inl rfl) ?_ g
  show (match m_jc i idx with
      | some x => m_go (pc + 3) lv (.long x :: st) h
      | none => none) = _
  rw [hx]
  rfl
theorem hM_add {x y : Int32} {zx zy : Int} (a : m_at i pc = some (.iadd, 1)) (hx : x.toInt = zx) (hy : y.toInt = zy) (b0 : -2147483648 ≤ zx + zy) (b1 : zx + zy ≤ 2147483647) (hp : pc + 1 = pc') (g : ∀ w : Int32, w.toInt = zx + zy → HJ i pc' lv (.int w :: st) h Q) : HJ i pc lv (.int y :: .int x :: st) h Q := hI_add a hp (g _ (by subst hx hy; exact i_add _ _ b0 b1))
theorem hM_sub {x y : Int32} {zx zy : Int} (a : m_at i pc = some (.isub, 1)) (hx : x.toInt = zx) (hy : y.toInt = zy) (b0 : -2147483648 ≤ zx - zy) (b1 : zx - zy ≤ 2147483647) (hp : pc + 1 = pc') (g : ∀ w : Int32, w.toInt = zx - zy → HJ i pc' lv (.int w :: st) h Q) : HJ i pc lv (.int y :: .int x :: st) h Q := hI_sub a hp (g _ (by subst hx hy; exact i_sub _ _ b0 b1))
theorem hM_addw {x y : Int32} (a : m_at i pc = some (.iadd, 1)) (hp : pc + 1 = pc') (g : ∀ (w : Int32) (z : Int), w.toInt = z → -2147483648 ≤ z → z ≤ 2147483647 → HJ i pc' lv (.int w :: st) h Q) : HJ i pc lv (.int y :: .int x :: st) h Q := hI_add a hp (g _ _ rfl (g_iT _).1 (g_iT _).2)
theorem hM_subw {x y : Int32} (a : m_at i pc = some (.isub, 1)) (hp : pc + 1 = pc') (g : ∀ (w : Int32) (z : Int), w.toInt = z → -2147483648 ≤ z → z ≤ 2147483647 → HJ i pc' lv (.int w :: st) h Q) : HJ i pc lv (.int y :: .int x :: st) h Q := hI_sub a hp (g _ _ rfl (g_iT _).1 (g_iT _).2)
theorem hM_mul {x y : Int32} {zx zy : Int} (a : m_at i pc = some (.imul, 1)) (hx : x.toInt = zx) (hy : y.toInt = zy) (b0 : -2147483648 ≤ zx * zy) (b1 : zx * zy ≤ 2147483647) (hp : pc + 1 = pc') (g : ∀ w : Int32, w.toInt = zx * zy → HJ i pc' lv (.int w :: st) h Q) : HJ i pc lv (.int y :: .int x :: st) h Q := hI_mul a hp (g _ (by subst hx hy; exact i_mul _ _ b0 b1))
theorem hM_i2b {x : Int32} {zx : Int} (a : m_at i pc = some (.i2b, 1)) (hx : x.toInt = zx) (hp : pc + 1 = pc') (g : ∀ (w : Int32) (z : Int), w.toInt = z → -128 ≤ z → z ≤ 127 → (-128 ≤ zx → zx ≤ 127 → z = zx) → HJ i pc' lv (.int w :: st) h Q) : HJ i pc lv (.int x :: st) h Q := hI_i2b a hp (g _ _ rfl (by
  rw [Int8.toInt_toInt32]
  exact Int8.le_toInt _) (by
  rw [Int8.toInt_toInt32]
  have := Int8.toInt_lt x.toInt8
  omega) (fun b0 b1 => by
  rw [i_byte x (by omega) (by omega), hx]))
theorem hM_shl {x y : Int32} {zy : Int} (a : m_at i pc = some (.ishl, 1)) (hx : x.toInt = 1) (hy : y.toInt = zy) (b0 : 0 ≤ zy) (b1 : zy < 31) (hp : pc + 1 = pc') (g : ∀ w : Int32, w.toInt = (2 : Int) ^ zy.toNat → HJ i pc' lv (.int w :: st) h Q) : HJ i pc lv (.int y :: .int x :: st) h Q := by
  subst hp
  exact HJ.ex a (Or.inl rfl) rfl (g _ (i_shl hx (by omega) (by omega)))
theorem hI_iand {x y : Int32} (a : m_at i pc = some (.iand, 1)) (hp : pc + 1 = pc') (g : HJ i pc' lv (.int (x &&& y) :: st) h Q) : HJ i pc lv (.int y :: .int x :: st) h Q := by
  subst hp
  exact HJ.ex a (Or.inl rfl) rfl g
theorem hM_iand {x y : Int32} (a : m_at i pc = some (.iand, 1)) (hp : pc + 1 = pc') (g : ∀ (w : Int32) (z : Int), w.toInt = z → -2147483648 ≤ z → z ≤ 2147483647 → HJ i pc' lv (.int w :: st) h Q) : HJ i pc lv (.int y :: .int x :: st) h Q := hI_iand a hp (g _ _ rfl (g_iT _).1 (g_iT _).2)
theorem hI_ior {x y : Int32} (a : m_at i pc = some (.ior, 1)) (hp : pc + 1 = pc') (g : HJ i pc' lv (.int (x ||| y) :: st) h Q) : HJ i pc lv (.int y :: .int x :: st) h Q := by
  subst hp
  exact HJ.ex a (Or.inl rfl) rfl g
theorem hM_ior {x y : Int32} (a : m_at i pc = some (.ior, 1)) (hp : pc + 1 = pc') (g : ∀ (w : Int32) (z : Int), w.toInt = z → -2147483648 ≤ z → z ≤ 2147483647 → HJ i pc' lv (.int w :: st) h Q) : HJ i pc lv (.int y :: .int x :: st) h Q := hI_ior a hp (g _ _ rfl (g_iT _).1 (g_iT _).2)
theorem hI_ixor {x y : Int32} (a : m_at i pc = some (.ixor, 1)) (hp : pc + 1 = pc') (g : HJ i pc' lv (.int (x ^^^ y) :: st) h Q) : HJ i pc lv (.int y :: .int x :: st) h Q := by
  subst hp
  exact HJ.ex a (Or.inl rfl) rfl g
theorem hM_ixor {x y : Int32} (a : m_at i pc = some (.ixor, 1)) (hp : pc + 1 = pc') (g : ∀ (w : Int32) (z : Int), w.toInt = z → -2147483648 ≤ z → z ≤ 2147483647 → HJ i pc' lv (.int w :: st) h Q) : HJ i pc lv (.int y :: .int x :: st) h Q := hI_ixor a hp (g _ _ rfl (g_iT _).1 (g_iT _).2)
theorem hI_ishl {x y : Int32} (a : m_at i pc = some (.ishl, 1)) (hp : pc + 1 = pc') (g : HJ i pc' lv (.int (x <<< (y &&& 31)) :: st) h Q) : HJ i pc lv (.int y :: .int x :: st) h Q := by
  subst hp
  exact HJ.ex a (Or.inl rfl) rfl g
theorem hM_ishl {x y : Int32} (a : m_at i pc = some (.ishl, 1)) (hp : pc + 1 = pc') (g : ∀ (w : Int32) (z : Int), w.toInt = z → -2147483648 ≤ z → z ≤ 2147483647 → HJ i pc' lv (.int w :: st) h Q) : HJ i pc lv (.int y :: .int x :: st) h Q := hI_ishl a hp (g _ _ rfl (g_iT _).1 (g_iT _).2)
theorem hI_ishr {x y : Int32} (a : m_at i pc = some (.ishr, 1)) (hp : pc + 1 = pc') (g : HJ i pc' lv (.int (x >>> (y &&& 31)) :: st) h Q) : HJ i pc lv (.int y :: .int x :: st) h Q := by
  subst hp
  exact HJ.ex a (Or.inl rfl) rfl g
theorem hM_ishr {x y : Int32} (a : m_at i pc = some (.ishr, 1)) (hp : pc + 1 = pc') (g : ∀ (w : Int32) (z : Int), w.toInt = z → -2147483648 ≤ z → z ≤ 2147483647 → HJ i pc' lv (.int w :: st) h Q) : HJ i pc lv (.int y :: .int x :: st) h Q := hI_ishr a hp (g _ _ rfl (g_iT _).1 (g_iT _).2)
theorem hM_div {x y : Int32} {zx zy : Int} (a : m_at i pc = some (.idiv, 1)) (hx : x.toInt = zx) (hy : y.toInt = zy) (b0 : 0 ≤ zx) (b1 : 0 < zy) (hp : pc + 1 = pc') (g : ∀ (w : Int32) (z : Int), w.toInt = z → 0 ≤ z → z ≤ zx → HJ i pc' lv (.int w :: st) h Q) : HJ i pc lv (.int y :: .int x :: st) h Q := by
  subst hp hx hy
  have yn : ¬ y = 0 := fun z => by
    rw [z] at b1
    exact absurd b1 (by decide)
  have e := i_div x y b0 b1
  refine HJ.ex a (Or.inl rfl) (by show (if y = 0 then none else _) = _; rw [if_neg yn]; rfl) (g (x / y) _ e ?_ ?_)
  · exact Int.ediv_nonneg b0 (by omega)
  · exact Int.ediv_le_self _ b0
theorem hM_rem {x y : Int32} {zx zy : Int} (a : m_at i pc = some (.irem, 1)) (hx : x.toInt = zx) (hy : y.toInt = zy) (b0 : 0 ≤ zx) (b1 : 0 < zy) (hp : pc + 1 = pc') (g : ∀ (w : Int32) (z : Int), w.toInt = z → 0 ≤ z → z < zy → HJ i pc' lv (.int w :: st) h Q) : HJ i pc lv (.int y :: .int x :: st) h Q := by
  subst hp hx hy
  have yn : ¬ y = 0 := fun z => by
    rw [z] at b1
    exact absurd b1 (by decide)
  have xT : -2147483648 ≤ x.toInt ∧ x.toInt ≤ 2147483647 := g_iT x
  have e := i_div x y b0 b1
  have d0 : 0 ≤ x.toInt / y.toInt := Int.ediv_nonneg b0 (by omega)
  have d1 := Int.emod_nonneg x.toInt (show y.toInt ≠ 0 by omega)
  have d2 := Int.emod_lt_of_pos x.toInt b1
  have d3 := Int.mul_ediv_add_emod x.toInt y.toInt
  have e2 : (x / y * y).toInt = y.toInt * (x.toInt / y.toInt) := by
    rw [i_mul _ _ (by rw [e, Int.mul_comm]; have := Int.mul_nonneg (show 0 ≤ y.toInt by omega) d0; omega) (by rw [e, Int.mul_comm]; omega), e, Int.mul_comm]
  have d4 : 0 ≤ y.toInt * (x.toInt / y.toInt) := Int.mul_nonneg (by omega) d0
  have e3 : (x - x / y * y).toInt = x.toInt % y.toInt := by
    rw [i_sub _ _ (by rw [e2]; omega) (by rw [e2]; omega), e2]
    omega
  exact HJ.ex a (Or.inl rfl) (by show (if y = 0 then none else _) = _; rw [if_neg yn]; rfl) (g _ _ e3 d1 d2)
-- longs
theorem hI_lor {x y : Int64} (a : m_at i pc = some (.lor, 1)) (hp : pc + 1 = pc') (g : HJ i pc' lv (.long (x ||| y) :: st) h Q) : HJ i pc lv (.long y :: .long x :: st) h Q := by
  subst hp
  exact HJ.ex a (Or.inl rfl) rfl g
theorem hI_land {x y : Int64} (a : m_at i pc = some (.land, 1)) (hp : pc + 1 = pc') (g : HJ i pc' lv (.long (x &&& y) :: st) h Q) : HJ i pc lv (.long y :: .long x :: st) h Q := by
  subst hp
  exact HJ.ex a (Or.inl rfl) rfl g
theorem hI_lxor {x y : Int64} (a : m_at i pc = some (.lxor, 1)) (hp : pc + 1 = pc') (g : HJ i pc' lv (.long (x ^^^ y) :: st) h Q) : HJ i pc lv (.long y :: .long x :: st) h Q := by
  subst hp
  exact HJ.ex a (Or.inl rfl) rfl g
theorem hM_lshl {x : Int64} {y : Int32} {zy : Int} (a : m_at i pc = some (.lshl, 1)) (hy : y.toInt = zy) (hp : pc + 1 = pc') (g : HJ i pc' lv (.long (x <<< ((Int32.ofInt zy).toInt64 &&& 63)) :: st) h Q) : HJ i pc lv (.int y :: .long x :: st) h Q := by
  subst hp hy
  rw [Int32.ofInt_toInt] at g
  exact HJ.ex a (Or.inl rfl) rfl g
theorem hI_lshr {x : Int64} {y : Int32} (a : m_at i pc = some (.lshr, 1)) (hp : pc + 1 = pc') (g : HJ i pc' lv (.long (x >>> (y.toInt64 &&& 63)) :: st) h Q) : HJ i pc lv (.int y :: .long x :: st) h Q := by
  subst hp
  exact HJ.ex a (Or.inl rfl) rfl g
theorem hM_lcmp {x y : Int64} (a : m_at i pc = some (.lcmp, 1)) (hp : pc + 1 = pc') (g : ∀ w : Int32, w.toInt = (lg_cmp x y).toInt → HJ i pc' lv (.int w :: st) h Q) : HJ i pc lv (.long y :: .long x :: st) h Q := by
  subst hp
  exact HJ.ex a (Or.inl rfl) rfl (g _ rfl)
theorem hM_i2l {x : Int32} {zx : Int} (a : m_at i pc = some (.i2l, 1)) (hx : x.toInt = zx) (hp : pc + 1 = pc') (g : HJ i pc' lv (.long (Int32.ofInt zx).toInt64 :: st) h Q) : HJ i pc lv (.int x :: st) h Q := by
  subst hp hx
  rw [Int32.ofInt_toInt] at g
  exact HJ.ex a (Or.inl rfl) rfl g
theorem hM_ceq {off : Int} {x y : Int32} {zx zy : Int} {t : Nat} (a : m_at i pc = some (.if_icmp .eq off, 3)) (hx : x.toInt = zx) (hy : y.toInt = zy) (ht : (pc : Int) + off = (t : Int)) (hp : pc + 3 = pc') (g1 : zx = zy → HJ i t lv st h Q) (g2 : zx ≠ zy → HJ i pc' lv st h Q) : HJ i pc lv (.int y :: .int x :: st) h Q := by
  subst hx hy
  exact hI_cmp a ht hp (fun z => g1 z) (fun z => g2 z)
theorem hM_zeq {off : Int} {x : Int32} {zx : Int} {t : Nat} (a : m_at i pc = some (.ifCond .eq off, 3)) (hx : x.toInt = zx) (ht : (pc : Int) + off = (t : Int)) (hp : pc + 3 = pc') (g1 : zx = 0 → HJ i t lv st h Q) (g2 : zx ≠ 0 → HJ i pc' lv st h Q) : HJ i pc lv (.int x :: st) h Q := by
  subst hx
  exact hI_if a ht hp (fun z => g1 z) (fun z => g2 z)

theorem hM_cne {off : Int} {x y : Int32} {zx zy : Int} {t : Nat} (a : m_at i pc = some (.if_icmp .ne off, 3)) (hx : x.toInt = zx) (hy : y.toInt = zy) (ht : (pc : Int) + off = (t : Int)) (hp : pc + 3 = pc') (g1 : zx ≠ zy → HJ i t lv st h Q) (g2 : zx = zy → HJ i pc' lv st h Q) : HJ i pc lv (.int y :: .int x :: st) h Q := by
  subst hx hy
  exact hI_cmp a ht hp (fun z => g1 z) (fun z => g2 (Classical.not_not.mp z))
theorem hM_zne {off : Int} {x : Int32} {zx : Int} {t : Nat} (a : m_at i pc = some (.ifCond .ne off, 3)) (hx : x.toInt = zx) (ht : (pc : Int) + off = (t : Int)) (hp : pc + 3 = pc') (g1 : zx ≠ 0 → HJ i t lv st h Q) (g2 : zx = 0 → HJ i pc' lv st h Q) : HJ i pc lv (.int x :: st) h Q := by
  subst hx
  exact hI_if a ht hp (fun z => g1 z) (fun z => g2 (Classical.not_not.mp z))

theorem hM_clt {off : Int} {x y : Int32} {zx zy : Int} {t : Nat} (a : m_at i pc = some (.if_icmp .lt off, 3)) (hx : x.toInt = zx) (hy : y.toInt = zy) (ht : (pc : Int) + off = (t : Int)) (hp : pc + 3 = pc') (g1 : zx < zy → HJ i t lv st h Q) (g2 : zy ≤ zx → HJ i pc' lv st h Q) : HJ i pc lv (.int y :: .int x :: st) h Q := by
  subst hx hy
  exact hI_cmp a ht hp (fun z => g1 z) (fun z => g2 (Int.not_lt.mp z))
theorem hM_zlt {off : Int} {x : Int32} {zx : Int} {t : Nat} (a : m_at i pc = some (.ifCond .lt off, 3)) (hx : x.toInt = zx) (ht : (pc : Int) + off = (t : Int)) (hp : pc + 3 = pc') (g1 : zx < 0 → HJ i t lv st h Q) (g2 : 0 ≤ zx → HJ i pc' lv st h Q) : HJ i pc lv (.int x :: st) h Q := by
  subst hx
  exact hI_if a ht hp (fun z => g1 z) (fun z => g2 (Int.not_lt.mp z))

theorem hM_cge {off : Int} {x y : Int32} {zx zy : Int} {t : Nat} (a : m_at i pc = some (.if_icmp .ge off, 3)) (hx : x.toInt = zx) (hy : y.toInt = zy) (ht : (pc : Int) + off = (t : Int)) (hp : pc + 3 = pc') (g1 : zy ≤ zx → HJ i t lv st h Q) (g2 : zx < zy → HJ i pc' lv st h Q) : HJ i pc lv (.int y :: .int x :: st) h Q := by
  subst hx hy
  exact hI_cmp a ht hp (fun z => g1 z) (fun z => g2 (Int.not_le.mp z))
theorem hM_zge {off : Int} {x : Int32} {zx : Int} {t : Nat} (a : m_at i pc = some (.ifCond .ge off, 3)) (hx : x.toInt = zx) (ht : (pc : Int) + off = (t : Int)) (hp : pc + 3 = pc') (g1 : 0 ≤ zx → HJ i t lv st h Q) (g2 : zx < 0 → HJ i pc' lv st h Q) : HJ i pc lv (.int x :: st) h Q := by
  subst hx
  exact hI_if a ht hp (fun z => g1 z) (fun z => g2 (Int.not_le.mp z))

theorem hM_cgt {off : Int} {x y : Int32} {zx zy : Int} {t : Nat} (a : m_at i pc = some (.if_icmp .gt off, 3)) (hx : x.toInt = zx) (hy : y.toInt = zy) (ht : (pc : Int) + off = (t : Int)) (hp : pc + 3 = pc') (g1 : zy < zx → HJ i t lv st h Q) (g2 : zx ≤ zy → HJ i pc' lv st h Q) : HJ i pc lv (.int y :: .int x :: st) h Q := by
  subst hx hy
  exact hI_cmp a ht hp (fun z => g1 z) (fun z => g2 (Int.not_lt.mp z))
theorem hM_zgt {off : Int} {x : Int32} {zx : Int} {t : Nat} (a : m_at i pc = some (.ifCond .gt off, 3)) (hx : x.toInt = zx) (ht : (pc : Int) + off = (t : Int)) (hp : pc + 3 = pc') (g1 : 0 < zx → HJ i t lv st h Q) (g2 : zx ≤ 0 → HJ i pc' lv st h Q) : HJ i pc lv (.int x :: st) h Q := by
  subst hx
  exact hI_if a ht hp (fun z => g1 z) (fun z => g2 (Int.not_lt.mp z))

theorem hM_cle {off : Int} {x y : Int32} {zx zy : Int} {t : Nat} (a : m_at i pc = some (.if_icmp .le off, 3)) (hx : x.toInt = zx) (hy : y.toInt = zy) (ht : (pc : Int) + off = (t : Int)) (hp : pc + 3 = pc') (g1 : zx ≤ zy → HJ i t lv st h Q) (g2 : zy < zx → HJ i pc' lv st h Q) : HJ i pc lv (.int y :: .int x :: st) h Q := by
  subst hx hy
  exact hI_cmp a ht hp (fun z => g1 z) (fun z => g2 (Int.not_le.mp z))
theorem hM_zle {off : Int} {x : Int32} {zx : Int} {t : Nat} (a : m_at i pc = some (.ifCond .le off, 3)) (hx : x.toInt = zx) (ht : (pc : Int) + off = (t : Int)) (hp : pc + 3 = pc') (g1 : zx ≤ 0 → HJ i t lv st h Q) (g2 : 0 < zx → HJ i pc' lv st h Q) : HJ i pc lv (.int x :: st) h Q := by
  subst hx
  exact hI_if a ht hp (fun z => g1 z) (fun z => g2 (Int.not_le.mp z))

-- locals
theorem hM_si {k : Fin 4} {x : Int32} (a : m_at i pc = some (.istore_n k, 1)) (hk : k.val < m_lc i) (hp : pc + 1 = pc') (g : ∀ lv', m_lk lv' k.val = some (.int x) → (∀ (q : Nat) (w : Value), q ≠ k.val → (w.category = 1 ∨ q + 1 ≠ k.val) → m_lk lv q = some w → m_lk lv' q = some w) → HJ i pc' lv' st h Q) : HJ i pc lv (.int x :: st) h Q := hI_is a hk hp (g _ (lk_s1 _ _) (fun _ _ h1 h2 e => lk_k1 e h1 h2))
theorem hM_si2 {k : Nat} {x : Int32} (a : m_at i pc = some (.istore k, 2)) (hk : k < m_lc i) (hp : pc + 2 = pc') (g : ∀ lv', m_lk lv' k = some (.int x) → (∀ (q : Nat) (w : Value), q ≠ k → (w.category = 1 ∨ q + 1 ≠ k) → m_lk lv q = some w → m_lk lv' q = some w) → HJ i pc' lv' st h Q) : HJ i pc lv (.int x :: st) h Q := hI_is2 a hk hp (g _ (lk_s1 _ _) (fun _ _ h1 h2 e => lk_k1 e h1 h2))
theorem hM_sl {k : Fin 4} {x : Int64} (a : m_at i pc = some (.lstore_n k, 1)) (hk : k.val + 1 < m_lc i) (hp : pc + 1 = pc') (g : ∀ lv', m_lk lv' k.val = some (.long x) → (∀ (q : Nat) (w : Value), q ≠ k.val → q ≠ k.val + 1 → (w.category = 1 ∨ q + 1 ≠ k.val) → m_lk lv q = some w → m_lk lv' q = some w) → HJ i pc' lv' st h Q) : HJ i pc lv (.long x :: st) h Q := by
  subst hp
  exact HJ.ex a (Or.inl rfl) (by exact if_pos hk) (g _ (lk_s2 _ _) (fun _ _ h1 h2 h3 e => lk_k2 e h1 h2 h3))
theorem hM_sl2 {k : Nat} {x : Int64} (a : m_at i pc = some (.lstore k, 2)) (hk : k + 1 < m_lc i) (hp : pc + 2 = pc') (g : ∀ lv', m_lk lv' k = some (.long x) → (∀ (q : Nat) (w : Value), q ≠ k → q ≠ k + 1 → (w.category = 1 ∨ q + 1 ≠ k) → m_lk lv q = some w → m_lk lv' q = some w) → HJ i pc' lv' st h Q) : HJ i pc lv (.long x :: st) h Q := by
  subst hp
  exact HJ.ex a (Or.inl rfl) (by exact if_pos hk) (g _ (lk_s2 _ _) (fun _ _ h1 h2 h3 e => lk_k2 e h1 h2 h3))
theorem hM_inc {k : Nat} {z : Int} {x : Int32} {zx : Int} (a : m_at i pc = some (.iinc k z, 3)) (e : m_lk lv k = some (.int x)) (hx : x.toInt = zx) (hz : (Int32.ofInt z).toInt = z) (b0 : -2147483648 ≤ zx + z) (b1 : zx + z ≤ 2147483647) (hk : k < m_lc i) (hp : pc + 3 = pc') (g : ∀ (lv' : List (Nat × Value)) (w : Int32), w.toInt = zx + z → m_lk lv' k = some (.int w) → (∀ (q : Nat) (w : Value), q ≠ k → (w.category = 1 ∨ q + 1 ≠ k) → m_lk lv q = some w → m_lk lv' q = some w) → HJ i pc' lv' st h Q) : HJ i pc lv st h Q := hI_inc a e hk hp (g _ _ (by rw [i_add _ _ (by rw [hx, hz]; exact b0) (by rw [hx, hz]; exact b1), hx, hz]) (lk_s1 _ _) (fun _ _ h1 h2 e => lk_k1 e h1 h2))
-- fields
theorem hM_gi {idx nest c k : Nat} {rs : RS} {lo hi : Int} (M : MX R W ρ m A h0 h F V G) (hR : R ≠ 0) (hs : c_sp[R]? = some rs) (hn : rs.2.2.1 = false) (hc : rs.1.1 = c + 1) (a : m_at i pc = some (.getfield idx, 3)) (hf : m_fl i idx = some (nest, c, k)) (ht : (m_ty c k).1 = 0) (hp0 : r_ft rs k = some (.inl (lo, hi))) (hp : pc + 3 = pc') (g : ∀ x : Int32, x.toInt = F k → lo ≤ F k → F k ≤ hi → HJ i pc' lv (.int x :: st) h Q) : HJ i pc lv (.ref m :: st) h Q := by
  obtain ⟨b0, b1⟩ := M.fi hR hs hn hp0
  exact hI_gi a hf ht ((t_spec M.1.1 hR hs M.1.2.1).1.trans hc) hp (g _ (M.2.1 k) b0 b1)
theorem hM_ga {idx nest c k : Nat} {rs : RS} (M : MX R W ρ m A h0 h F V G) (hR : R ≠ 0) (hs : c_sp[R]? = some rs) (hc : rs.1.1 = c + 1) (a : m_at i pc = some (.getfield idx, 3)) (hf : m_fl i idx = some (nest, c, k)) (ht : (m_ty c k).1 = 2) (hk : rg_a R k ≠ 0) (hp : pc + 3 = pc') (g : HJ i pc' lv (.ref (A k) :: st) h Q) : HJ i pc lv (.ref m :: st) h Q := by
  rw [← (M.2.2 k hk).1] at g
  exact hI_gr a hf ht ((t_spec M.1.1 hR hs M.1.2.1).1.trans hc) hp g
theorem hM_pi {idx nest c k : Nat} {rs : RS} {lo hi : Int} {x : Int32} {zx : Int} (M : MX R W ρ m A h0 h F V G) (hR : R ≠ 0) (ok : rg_okb R = true) (hs : c_sp[R]? = some rs) (hc : rs.1.1 = c + 1) (a : m_at i pc = some (.putfield idx, 3)) (hf : m_fl i idx = some (nest, c, k)) (ht : c < 10 ∧ k < m_nf c ∧ m_ty c k = (0, false)) (hp0 : r_ft rs k = some (.inl (lo, hi))) (hw : d_sub [(R, k)] W = true) (hx : x.toInt = zx) (b0 : lo ≤ zx) (b1 : zx ≤ hi) (hp : pc + 3 = pc') (g : ∀ (h' : MH) (F' : Nat → Int), F' = m_u F k zx → MX R W ρ m A h0 h' F' V G → HJ i pc' lv st h' Q) : HJ i pc lv (.int x :: .ref m :: st) h Q := by
  refine hI_pi a hf ht ((t_spec M.1.1 hR hs M.1.2.1).1.trans hc) hp (g _ _ rfl ?_)
  refine ⟨⟨s_siT M.1.1 hR hs M.1.2.1 hp0 (by show lo ≤ _; omega) (by show _ ≤ hi; omega), M.1.2.1, M.1.2.2.trans (FS.mono hw (FS.ofFR (s_siF M.1.2.1 (Or.inl (List.mem_singleton.mpr rfl)))))⟩, fun K => ?_, fun K hK => ⟨(M.2.2 K hK).1, fun j => ⟨?_, ((M.2.2 K hK).2 j).2⟩⟩⟩
  · rw [s_siI]
    by_cases e : K = k
    · rw [if_pos ⟨rfl, e⟩, e, m_uE, hx]
    · rw [if_neg (fun z => e z.2), m_uN _ _ _ _ e]
      exact M.2.1 K
  · rw [s_siI, if_neg (fun z => ?_)]
    · exact ((M.2.2 K hK).2 j).1
    · have := (M.ar hR hK).1
      rw [z.1, M.1.2.1] at this
      exact rg_self ok hK this.symm
-- rows
theorem hM_ia {K R2 L H : Nat} {lo hi : Int} {rs2 : RS} {j : Int32} {zj : Int} (M : MX R W ρ m A h0 h F V G) (hR : R ≠ 0) (hr : rg_a R K = R2) (h2 : R2 ≠ 0) (hs2 : c_sp[R2]? = some rs2) (hk : rs2.1 = (20, (L, H))) (hft : ∀ q, r_ft rs2 q = some (.inl (lo, hi))) (a : m_at i pc = some (.iaload, 1)) (hj : j.toInt = zj) (b0 : 0 ≤ zj) (b1 : zj < L) (hp : pc + 1 = pc') (g : ∀ x : Int32, x.toInt = V K zj.toNat → lo ≤ V K zj.toNat → V K zj.toNat ≤ hi → HJ i pc' lv (.int x :: st) h Q) : HJ i pc lv (.int j :: .ref (A K) :: st) h Q := by
  have hK : rg_a R K ≠ 0 := by rw [hr]; exact h2
  have a1 := (M.ar hR hK).1
  rw [hr] at a1
  have c := t_spec M.1.1 h2 hs2 a1
  have c0 := c.1
  have c1 := c.2.1.1
  rw [hk] at c0 c1
  obtain ⟨d0, d1⟩ := M.vi hR hr h2 hs2 hk zj.toNat (hft _) (by omega)
  refine hI_ia a c0 (by omega) (by show j.toInt < ((h_k h (A K)).2 : Int); have c1 : L ≤ (h_k h (A K)).2 := c1; omega) hp ?_
  rw [hj]
  exact g _ ((M.2.2 K hK).2 _).1 d0 d1
theorem hM_ba {K R2 L H kd : Nat} {lo hi : Int} {rs2 : RS} {j : Int32} {zj : Int} (M : MX R W ρ m A h0 h F V G) (hR : R ≠ 0) (hr : rg_a R K = R2) (h2 : R2 ≠ 0) (hs2 : c_sp[R2]? = some rs2) (hk : rs2.1 = (kd, (L, H))) (hkd : kd = 21 ∨ kd = 22) (hft : ∀ q, r_ft rs2 q = some (.inl (lo, hi))) (a : m_at i pc = some (.baload, 1)) (hj : j.toInt = zj) (b0 : 0 ≤ zj) (b1 : zj < L) (hp : pc + 1 = pc') (g : ∀ x : Int32, x.toInt = V K zj.toNat → lo ≤ V K zj.toNat → V K zj.toNat ≤ hi → HJ i pc' lv (.int x :: st) h Q) : HJ i pc lv (.int j :: .ref (A K) :: st) h Q := by
  have hK : rg_a R K ≠ 0 := by rw [hr]; exact h2
  have a1 := (M.ar hR hK).1
  rw [hr] at a1
  have c := t_spec M.1.1 h2 hs2 a1
  have c0 := c.1
  have c1 := c.2.1.1
  rw [hk] at c0 c1
  obtain ⟨d0, d1⟩ := M.vi hR hr h2 hs2 hk zj.toNat (hft _) (by omega)
  refine hI_ba a (by rw [c0]; exact hkd) (by omega) (by show j.toInt < ((h_k h (A K)).2 : Int); have c1 : L ≤ (h_k h (A K)).2 := c1; omega) hp ?_
  rw [hj]
  exact g _ ((M.2.2 K hK).2 _).1 d0 d1
theorem hI_la {j : Int32} {o : Nat} (a : m_at i pc = some (.laload, 1)) (hk : (h_k h o).1 = 25) (h0 : 0 ≤ j.toInt) (h1 : j.toInt < (h_k h o).2) (hp : pc + 1 = pc') (g : HJ i pc' lv (.long (h_l h o j.toInt.toNat) :: st) h Q) : HJ i pc lv (.int j :: .ref o :: st) h Q := by
  subst hp
  refine HJ.ex a (Or.inl rfl) ?_ g
  show (if (h_k h o).1 = 25 ∧ m_in j (h_k h o).2 = true then _ else none) = _
  rw [if_pos ⟨hk, m_inZ h0 h1⟩]
  rfl
theorem hM_la {K R2 L H : Nat} {rs2 : RS} {j : Int32} {zj : Int} (M : MX R W ρ m A h0 h F V G) (hR : R ≠ 0) (hr : rg_a R K = R2) (h2 : R2 ≠ 0) (hs2 : c_sp[R2]? = some rs2) (hk : rs2.1 = (25, (L, H))) (a : m_at i pc = some (.laload, 1)) (hj : j.toInt = zj) (b0 : 0 ≤ zj) (b1 : zj < L) (hp : pc + 1 = pc') (g : HJ i pc' lv (.long (G K zj.toNat) :: st) h Q) : HJ i pc lv (.int j :: .ref (A K) :: st) h Q := by
  have hK : rg_a R K ≠ 0 := by rw [hr]; exact h2
  have a1 := (M.ar hR hK).1
  rw [hr] at a1
  have c := t_spec M.1.1 h2 hs2 a1
  have c0 := c.1
  have c1 := c.2.1.1
  rw [hk] at c0 c1
  refine hI_la a c0 (by omega) (by show j.toInt < ((h_k h (A K)).2 : Int); have c1 : L ≤ (h_k h (A K)).2 := c1; omega) hp ?_
  rw [hj, ((M.2.2 K hK).2 _).2]
  exact g
-- an int into a row
theorem mx_si {K R2 j : Nat} {lo hi : Int} {rs2 : RS} {x : Int32} (M : MX R W ρ m A h0 h F V G) (hR : R ≠ 0) (ok : rg_okb R = true) (hr : rg_a R K = R2) (h2 : R2 ≠ 0) (hs2 : c_sp[R2]? = some rs2) (hft : r_ft rs2 j = some (.inl (lo, hi))) (hw : d_sub [(R2, 1001)] W = true) (b0 : lo ≤ x.toInt) (b1 : x.toInt ≤ hi) : MX R W ρ m A h0 (h_si h (A K) j x) F (m_u V K (m_u (V K) j x.toInt)) G := by
  have hK : rg_a R K ≠ 0 := by rw [hr]; exact h2
  have a1 := (M.ar hR hK).1
  have a2 := a1
  rw [hr] at a1
  refine ⟨⟨s_siT M.1.1 h2 hs2 a1 hft b0 b1, M.1.2.1, M.1.2.2.trans (FS.mono hw (FS.ofFR (s_siF a1 (Or.inr (List.mem_singleton.mpr rfl)))))⟩, fun K' => ?_, fun K' hK' => ⟨(M.2.2 K' hK').1, fun j' => ⟨?_, ((M.2.2 K' hK').2 j').2⟩⟩⟩
  · rw [s_siI, if_neg (fun z => ?_)]
    · exact M.2.1 K'
    · rw [← z.1, M.1.2.1] at a2
      exact rg_self ok hK a2.symm
  · rw [s_siI]
    by_cases e : K' = K
    · subst e
      rw [m_uE]
      by_cases e2 : j' = j
      · rw [if_pos ⟨rfl, e2⟩, e2, m_uE]
      · rw [if_neg (fun z => e2 z.2), m_uN _ _ _ _ e2]
        exact ((M.2.2 K' hK').2 j').1
    · rw [if_neg (fun z => ?_), m_uN _ _ _ _ e]
      · exact ((M.2.2 K' hK').2 j').1
      · have a3 := (M.ar hR hK').1
        rw [z.1, a2] at a3
        exact e (rg_inj ok hK a3).symm
theorem hM_is {K R2 L H : Nat} {lo hi : Int} {rs2 : RS} {j x : Int32} {zj zx : Int} (M : MX R W ρ m A h0 h F V G) (hR : R ≠ 0) (ok : rg_okb R = true) (hr : rg_a R K = R2) (h2 : R2 ≠ 0) (hs2 : c_sp[R2]? = some rs2) (hk : rs2.1 = (20, (L, H))) (hmd : rs2.2.1 = true) (hft : ∀ q, r_ft rs2 q = some (.inl (lo, hi))) (hw : d_sub [(R2, 1001)] W = true) (a : m_at i pc = some (.iastore, 1)) (hj : j.toInt = zj) (hx : x.toInt = zx) (b0 : 0 ≤ zj) (b1 : zj < L) (b2 : lo ≤ zx) (b3 : zx ≤ hi) (hp : pc + 1 = pc') (g : ∀ (h' : MH) (V' : Nat → Nat → Int), V' = m_u V K (m_u (V K) zj.toNat zx) → MX R W ρ m A h0 h' F V' G → HJ i pc' lv st h' Q) : HJ i pc lv (.int x :: .int j :: .ref (A K) :: st) h Q := by
  have hK : rg_a R K ≠ 0 := by rw [hr]; exact h2
  have a1 := (M.ar hR hK).1
  rw [hr] at a1
  have c := t_spec M.1.1 h2 hs2 a1
  have c0 := c.1
  have c1 := c.2.1.1
  rw [hk] at c0 c1
  refine hI_is_ a (c.2.2.1 hmd) c0 (by omega) (by show j.toInt < ((h_k h (A K)).2 : Int); have c1 : L ≤ (h_k h (A K)).2 := c1; omega) hp ?_
  rw [hj]
  exact g _ _ (by rw [← hx]) (mx_si M hR ok hr h2 hs2 (hft _) hw (by omega) (by omega))
theorem hM_bs {K R2 L H : Nat} {lo hi : Int} {rs2 : RS} {j x : Int32} {zj zx : Int} (M : MX R W ρ m A h0 h F V G) (hR : R ≠ 0) (ok : rg_okb R = true) (hr : rg_a R K = R2) (h2 : R2 ≠ 0) (hs2 : c_sp[R2]? = some rs2) (hk : rs2.1 = (21, (L, H))) (hmd : rs2.2.1 = true) (hft : ∀ q, r_ft rs2 q = some (.inl (lo, hi))) (hl : lo ≤ -128) (hh : 127 ≤ hi) (hw : d_sub [(R2, 1001)] W = true) (a : m_at i pc = some (.bastore, 1)) (hj : j.toInt = zj) (hx : x.toInt = zx) (b0 : 0 ≤ zj) (b1 : zj < L) (b2 : -128 ≤ zx) (b3 : zx ≤ 127) (hp : pc + 1 = pc') (g : ∀ (h' : MH) (V' : Nat → Nat → Int), V' = m_u V K (m_u (V K) zj.toNat zx) → MX R W ρ m A h0 h' F V' G → HJ i pc' lv st h' Q) : HJ i pc lv (.int x :: .int j :: .ref (A K) :: st) h Q := by
  have hK : rg_a R K ≠ 0 := by rw [hr]; exact h2
  have a1 := (M.ar hR hK).1
  rw [hr] at a1
  have c := t_spec M.1.1 h2 hs2 a1
  have c0 := c.1
  have c1 := c.2.1.1
  rw [hk] at c0 c1
  refine hI_bs_ a (c.2.2.1 hmd) c0 (by omega) (by show j.toInt < ((h_k h (A K)).2 : Int); have c1 : L ≤ (h_k h (A K)).2 := c1; omega) hp ?_
  rw [hj, i_byte x (by omega) (by omega)]
  exact g _ _ (by rw [← hx]) (mx_si M hR ok hr h2 hs2 (hft _) hw (by omega) (by omega))
theorem hI_zs_ {j x : Int32} {o : Nat} (a : m_at i pc = some (.bastore, 1)) (ho : 16 ≤ o) (hk : (h_k h o).1 = 22) (h0 : 0 ≤ j.toInt) (h1 : j.toInt < (h_k h o).2) (hp : pc + 1 = pc') (g : HJ i pc' lv st (h_si h o j.toInt.toNat (x &&& 1)) Q) : HJ i pc lv (.int x :: .int j :: .ref o :: st) h Q := by
  subst hp
  refine HJ.ex a (Or.inl rfl) ?_ g
  show (if 16 ≤ o ∧ (h_k h o).1 = 21 ∧ m_in j (h_k h o).2 = true then _ else if 16 ≤ o ∧ (h_k h o).1 = 22 ∧ m_in j (h_k h o).2 = true then _ else none) = _
  rw [if_neg (fun z => by rw [hk] at z; exact absurd z.2.1 (by decide)), if_pos ⟨ho, hk, m_inZ h0 h1⟩]
  rfl
theorem hM_zs {K R2 L H : Nat} {rs2 : RS} {j x : Int32} {zj zx : Int} (M : MX R W ρ m A h0 h F V G) (hR : R ≠ 0) (ok : rg_okb R = true) (hr : rg_a R K = R2) (h2 : R2 ≠ 0) (hs2 : c_sp[R2]? = some rs2) (hk : rs2.1 = (22, (L, H))) (hmd : rs2.2.1 = true) (hft : ∀ q, r_ft rs2 q = some (.inl (-2147483648, 2147483647))) (hw : d_sub [(R2, 1001)] W = true) (a : m_at i pc = some (.bastore, 1)) (hj : j.toInt = zj) (hx : x.toInt = zx) (b0 : 0 ≤ zj) (b1 : zj < L) (b2 : 0 ≤ zx) (b3 : zx ≤ 1) (hp : pc + 1 = pc') (g : ∀ (h' : MH) (V' : Nat → Nat → Int), V' = m_u V K (m_u (V K) zj.toNat zx) → MX R W ρ m A h0 h' F V' G → HJ i pc' lv st h' Q) : HJ i pc lv (.int x :: .int j :: .ref (A K) :: st) h Q := by
  have hK : rg_a R K ≠ 0 := by rw [hr]; exact h2
  have a1 := (M.ar hR hK).1
  rw [hr] at a1
  have c := t_spec M.1.1 h2 hs2 a1
  have c0 := c.1
  have c1 := c.2.1.1
  rw [hk] at c0 c1
  refine hI_zs_ a (c.2.2.1 hmd) c0 (by omega) (by show j.toInt < ((h_k h (A K)).2 : Int); have c1 : L ≤ (h_k h (A K)).2 := c1; omega) hp ?_
  rw [hj, i_bool x (by omega) (by omega)]
  exact g _ _ (by rw [← hx]) (mx_si M hR ok hr h2 hs2 (hft _) hw (by omega) (by omega))
-- a long into a row
theorem hI_ls_ {j : Int32} {x : Int64} {o : Nat} (a : m_at i pc = some (.lastore, 1)) (ho : 16 ≤ o) (hk : (h_k h o).1 = 25) (h0 : 0 ≤ j.toInt) (h1 : j.toInt < (h_k h o).2) (hp : pc + 1 = pc') (g : HJ i pc' lv st (h_sl h o j.toInt.toNat x) Q) : HJ i pc lv (.long x :: .int j :: .ref o :: st) h Q := by
  subst hp
  refine HJ.ex a (Or.inl rfl) ?_ g
  show (if 16 ≤ o ∧ (h_k h o).1 = 25 ∧ m_in j (h_k h o).2 = true then _ else none) = _
  rw [if_pos ⟨ho, hk, m_inZ h0 h1⟩]
  rfl
theorem sl_I (h : MH) (a k : Nat) (x : Int64) (b j : Nat) : h_l (h_sl h a k x) b j = if b = a ∧ j = k then x else h_l h b j := by
  show m_u (h_l h) a (m_u (h_l h a) k x) b j = _
  by_cases e : b = a
  · rw [e, m_uE]
    by_cases e2 : j = k
    · rw [if_pos ⟨rfl, e2⟩, e2, m_uE]
    · rw [if_neg (fun z => e2 z.2), m_uN _ _ _ _ e2]
  · rw [m_uN _ _ _ _ e, if_neg (fun z => e z.1)]
theorem sl_T {sp : List RS} {a k : Nat} {x : Int64} (ht : TH sp ρ h) : TH sp ρ (h_sl h a k x) := ⟨ht.1, fun b hb => by
  obtain ⟨q1, rs2, q2, q3, q4, q5, q6⟩ := ht.2 b hb
  refine ⟨q1, rs2, q2, q3, q4, q5, fun j ft hj hjl => ?_⟩
  have q7 := q6 j ft hj hjl
  cases ft with
  | inl p2 => exact q7
  | inr ft => cases ft with
    | inl u => trivial
    | inr q => exact q7⟩
theorem sl_F {a k R : Nat} {x : Int64} (ha : ρ a = R) (hW : t_W W R k) : FR ρ W h (h_sl h a k x) := by
  refine ⟨rfl, fun _ => rfl, fun b j hj => ⟨rfl, ?_, rfl⟩⟩
  rw [sl_I]
  by_cases e : b = a ∧ j = k
  · rw [e.1, e.2, ha] at hj
    exact absurd hW hj
  · rw [if_neg e]
theorem hM_ls {K R2 L H : Nat} {rs2 : RS} {j : Int32} {x : Int64} {zj : Int} (M : MX R W ρ m A h0 h F V G) (hR : R ≠ 0) (ok : rg_okb R = true) (hr : rg_a R K = R2) (h2 : R2 ≠ 0) (hs2 : c_sp[R2]? = some rs2) (hk : rs2.1 = (25, (L, H))) (hmd : rs2.2.1 = true) (hw : d_sub [(R2, 1001)] W = true) (a : m_at i pc = some (.lastore, 1)) (hj : j.toInt = zj) (b0 : 0 ≤ zj) (b1 : zj < L) (hp : pc + 1 = pc') (g : ∀ (h' : MH) (G' : Nat → Nat → Int64), G' = m_u G K (m_u (G K) zj.toNat x) → MX R W ρ m A h0 h' F V G' → HJ i pc' lv st h' Q) : HJ i pc lv (.long x :: .int j :: .ref (A K) :: st) h Q := by
  have hK : rg_a R K ≠ 0 := by rw [hr]; exact h2
  have a1 := (M.ar hR hK).1
  have a2 := a1
  rw [hr] at a1
  have c := t_spec M.1.1 h2 hs2 a1
  have c0 := c.1
  have c1 := c.2.1.1
  rw [hk] at c0 c1
  refine hI_ls_ a (c.2.2.1 hmd) c0 (by omega) (by show j.toInt < ((h_k h (A K)).2 : Int); have c1 : L ≤ (h_k h (A K)).2 := c1; omega) hp ?_
  rw [hj]
  refine g _ _ rfl ⟨⟨sl_T M.1.1, M.1.2.1, M.1.2.2.trans (FS.mono hw (FS.ofFR (sl_F a1 (Or.inr (List.mem_singleton.mpr rfl)))))⟩, M.2.1, fun K' hK' => ⟨(M.2.2 K' hK').1, fun j' => ⟨((M.2.2 K' hK').2 j').1, ?_⟩⟩⟩
  rw [sl_I]
  by_cases e : K' = K
  · subst e
    rw [m_uE]
    by_cases e2 : j' = zj.toNat
    · rw [if_pos ⟨rfl, e2⟩, e2, m_uE]
    · rw [if_neg (fun z => e2 z.2), m_uN _ _ _ _ e2]
      exact ((M.2.2 K' hK').2 j').2
  · rw [if_neg (fun z => ?_), m_uN _ _ _ _ e]
    · exact ((M.2.2 K' hK').2 j').2
    · have a3 := (M.ar hR hK').1
      rw [z.1, a2] at a3
      exact e (rg_inj ok hK a3).symm
-- stacks and ends
theorem hI_dup2 {v w : Value} (a : m_at i pc = some (.dup2, 1)) (hv : v.category = 1) (hw : w.category = 1) (hp : pc + 1 = pc') (g : HJ i pc' lv (v :: w :: v :: w :: st) h Q) : HJ i pc lv (v :: w :: st) h Q := by
  subst hp
  exact HJ.ex a (Or.inl rfl) (by show (if v.category = 1 ∧ w.category = 1 then _ else none) = _; rw [if_pos ⟨hv, hw⟩]; rfl) g
theorem hM_rb {x : Int32} {zx : Int} (a : m_at i pc = some (.ireturn, 1)) (hr : m_rt i = some .boolean) (hx : x.toInt = zx) (b0 : 0 ≤ zx) (b1 : zx ≤ 1) (q : Q (some (.int x)) h) : HJ i pc lv [.int x] h Q := hI_ri a (by
  rw [hr]
  exact decide_eq_true (i_bool x (by omega) (by omega))) q
-- calls
theorem hM_iv {idx nest j : Nat} {as r st0 : List Value} {rs : RS} (M : MX R W ρ m A h0 h F V G) (hR : R ≠ 0) (hs : c_sp[R]? = some rs) (hmd : rs.2.1 = true) (hkd : 0 < rs.1.1 ∧ rs.1.1 < 11) (a : m_at i pc = some (.invokevirtual idx, 3)) (hm : m_ml i idx = some (nest, j)) (hok : k_ok 1 i j = true) (hcl : m_cnm (rs.1.1 - 1) = (m_m j).2.1.cls) (hns : ¬ (m_m j).2.1.cls = "java/lang/String") (hna : m_na j = as.length) (hst : st0 = as.reverse ++ (.ref m :: r)) (hc : Nat.ble (m_cat r) 8 = true) (hca : Nat.ble (m_cat (.ref m :: as)) (m_lc j) = true) (hp : pc + 3 = pc') (g : HJ j 0 (lv_args 0 (.ref m :: as)) [] h (fun v h' => HJ i pc' lv (v.toList ++ r) h' Q)) : HJ i pc lv st0 h Q := by
  subst hp hst
  have c := t_spec M.1.1 hR hs M.1.2.1
  obtain ⟨⟨k1, k2, k3, k4⟩, k5⟩ := of_decide_eq_true hok
  have e1 : (as.reverse ++ Value.ref m :: r).drop (m_na j) = .ref m :: r := by
    rw [hna, ← List.length_reverse]
    exact List.drop_left
  have e2 : (as.reverse ++ Value.ref m :: r).take (m_na j) = as.reverse := by
    rw [hna, ← List.length_reverse]
    exact List.take_left
  refine HJ.call (j := j) (as := .ref m :: as) (rr := r) (pc' := pc + 3) ((m_stx a (Or.inl rfl)).trans ?_) (Nat.le_of_ble_eq_true hca) g
  show e_call 1 i idx pc lv _ h = _
  unfold e_call
  rw [hm]
  dsimp only
  rw [if_neg k1, if_neg k2, if_neg k3, if_neg k4, if_pos k5, if_neg (by decide), e1, e2]
  dsimp only
  rw [if_pos, List.reverse_reverse]
  refine ⟨by rw [hna, List.length_append, List.length_reverse, List.length_cons]; omega, Nat.le_of_ble_eq_true hc, ?_⟩
  rw [if_neg hns, c.1]
  exact ⟨hcl, c.2.2.1 hmd, hkd⟩
theorem hM_is0 {idx nest j : Nat} {as r st0 : List Value} (a : m_at i pc = some (.invokestatic idx, 3)) (hm : m_ml i idx = some (nest, j)) (hok : k_ok 0 i j = true) (hna : m_na j = as.length) (hst : st0 = as.reverse ++ r) (hc : Nat.ble (m_cat r) 8 = true) (hca : Nat.ble (m_cat as) (m_lc j) = true) (hp : pc + 3 = pc') (g : HJ j 0 (lv_args 0 as) [] h (fun v h' => HJ i pc' lv (v.toList ++ r) h' Q)) : HJ i pc lv st0 h Q := by
  subst hp hst
  obtain ⟨⟨k1, k2, k3, k4⟩, k5⟩ := of_decide_eq_true hok
  have e1 : (as.reverse ++ r).drop (m_na j) = r := by
    rw [hna, ← List.length_reverse]
    exact List.drop_left
  have e2 : (as.reverse ++ r).take (m_na j) = as.reverse := by
    rw [hna, ← List.length_reverse]
    exact List.take_left
  refine HJ.call (j := j) (as := as) (rr := r) (pc' := pc + 3) ((m_stx a (Or.inl rfl)).trans ?_) (Nat.le_of_ble_eq_true hca) g
  show e_call 0 i idx pc lv _ h = _
  unfold e_call
  rw [hm]
  dsimp only
  rw [if_neg k1, if_neg k2, if_neg k3, if_neg k4, if_pos k5, if_pos rfl, e1, e2, if_pos, List.reverse_reverse]
  exact ⟨by rw [hna, List.length_append, List.length_reverse]; omega, Nat.le_of_ble_eq_true hc⟩
-- a method that is proved by its summary
theorem HJ.ofV {j : Nat} {sm : SM} {K : List Int} {KA : List Nat} (v : V_ok c_sp c_CC c_PT j sm) (hC : CCok c_CC ρ) (hS : TS c_sp ρ K KA sm.1.1 lv [] h) (hT : ∀ t ∈ sm.1.2, c_PT t ρ h) (g : ∀ (x : Option Value) (h' : MH) (ρ' : Nat → Nat), FQ ρ ρ' sm.2.1 h h' → (∃ P ∈ sm.2.2, TS c_sp ρ' K KA P.1 [] x.toList h' ∧ ∀ t ∈ P.2, c_PT t ρ' h') → Q x h') : HJ j 0 lv [] h Q := by
  obtain ⟨n, x, h', ρ', g1, g2, g3⟩ := v ρ K KA lv h hC hS hT
  exact ⟨x, h', ⟨n, g1⟩, g x h' ρ' g2 g3⟩
end
theorem ok_49 : rg_okb 49 = true := by decide +kernel
