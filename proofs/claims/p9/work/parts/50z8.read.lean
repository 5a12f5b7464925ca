-- A TEXT, AS THE CLASS READS IT: the reader at work knows its tape
def rd_r (ρ : Nat → Nat) (r : Nat) : Nat → Nat := fun c => if c = r then 106 else if ρ c = 6 ∨ ρ c = 11 ∨ ρ c = 106 then 0 else ρ c
def rd_ft (t : FT) : Bool := match t with
  | .inr (.inr q) => !(Nat.beq q.1 6 || (Nat.beq q.1 11 || Nat.beq q.1 106))
  | _ => true
theorem rd_all1 : (List.range c_sp.length).all (fun R => Nat.beq R 6 || (match c_sp[R]? with
  | some rs => rs.2.2.2.all rd_ft
  | none => true)) = true := by decide +kernel
theorem rd_sp {R k : Nat} {rs : RS} {q : Nat × Bool} (hs : c_sp[R]? = some rs) (hR : R ≠ 6) (hf : r_ft rs k = some (.inr (.inr q))) : q.1 ≠ 6 ∧ q.1 ≠ 11 ∧ q.1 ≠ 106 := by
  have hb := List.all_eq_true.mp rd_all1 R (List.mem_range.mpr (List.getElem?_eq_some_iff.mp hs).1)
  rw [Bool.or_eq_true, hs] at hb
  have hm : (.inr (.inr q) : FT) ∈ rs.2.2.2 := by
    unfold r_ft at hf
    split at hf
    · exact List.mem_of_getElem? hf
    · exact List.mem_of_getElem? hf
  have h2 : rd_ft (.inr (.inr q)) = true := by
    rcases hb with hb | hb
    · exact absurd (Nat.eq_of_beq_eq_true hb) hR
    · exact List.all_eq_true.mp hb _ hm
  have h2 : (!(Nat.beq q.1 6 || (Nat.beq q.1 11 || Nat.beq q.1 106))) = true := h2
  have g : ∀ R, q.1 = R → Nat.beq q.1 R = true := fun R e => by rw [e]; exact Nat.beq_refl R
  exact ⟨fun z => (by rw [g _ z] at h2; cases h2), fun z => (by rw [g _ z, Bool.true_or, Bool.or_true] at h2; cases h2), fun z => (by rw [g _ z, Bool.or_true, Bool.or_true] at h2; cases h2)⟩
section
variable {ρ : Nat → Nat} {h h' : MH} {r : Nat} {W W' : List (Nat × Nat)}
theorem rd_own : rd_r ρ r r = 106 := if_pos rfl
theorem rd_le {c : Nat} (hc : c ≠ r) (e : rd_r ρ r c ≠ 0) : rd_r ρ r c = ρ c ∧ ρ c ≠ 6 ∧ ρ c ≠ 11 ∧ ρ c ≠ 106 := by
  unfold rd_r at e ⊢
  rw [if_neg hc] at e ⊢
  by_cases h2 : ρ c = 6 ∨ ρ c = 11 ∨ ρ c = 106
  · rw [if_pos h2] at e
    exact absurd rfl e
  · rw [if_neg h2]
    exact ⟨rfl, fun z => h2 (Or.inl z), fun z => h2 (Or.inr (Or.inl z)), fun z => h2 (Or.inr (Or.inr z))⟩
theorem rd_of {c : Nat} (hr : ρ r = 11) (h1 : ρ c ≠ 6) (h2 : ρ c ≠ 11) (h3 : ρ c ≠ 106) : rd_r ρ r c = ρ c := by
  unfold rd_r
  rw [if_neg (fun z => h2 (by rw [z]; exact hr)), if_neg (fun z => z.elim h1 (fun y => y.elim h2 h3))]
-- the tape kept
theorem rd_st {x : Nat} (ht : TH c_sp ρ h) (hr : ρ r = 11) : TH c_sp ρ (h_sr h r 0 x) := by
  refine ⟨ht.1, fun b hb => ?_⟩
  obtain ⟨q1, rs2, q2, q3, q4, q5, q6⟩ := ht.2 b hb
  refine ⟨q1, rs2, q2, q3, q4, q5, fun j ft hj hjl => ?_⟩
  by_cases e : b = r ∧ j = 0
  · obtain ⟨e1, e2⟩ := e
    subst e1 e2
    rw [hr] at q2
    cases q2
    cases (Option.some.inj hj)
    trivial
  · have q := q6 j ft hj hjl
    cases ft with
    | inl p => exact q
    | inr y => cases y with
      | inl u => trivial
      | inr y =>
        show t_rf ρ y.1 y.2 (h_r (h_sr h r 0 x) b j)
        rw [s_srR, if_neg e]
        exact q
theorem rd_TH (ht : TH c_sp ρ h) (hr : ρ r = 11) (ta : ρ (h_r h r 0) = 13) : TH c_sp (rd_r ρ r) h := by
  have r0 : (0 : Nat) ≠ r := fun z => by rw [← z, ht.1] at hr; cases hr
  refine ⟨?_, fun c hc => ?_⟩
  · by_cases e : rd_r ρ r 0 = 0
    · exact e
    · rw [(rd_le r0 e).1]
      exact ht.1
  · by_cases hcr : c = r
    · subst hcr
      rw [rd_own]
      have c1 := t_spec ht (by decide) (rfl : c_sp[11]? = some _) hr
      refine ⟨(ht.2 c (by rw [hr]; decide)).1, _, (rfl : c_sp[106]? = some _), c1.1, c1.2.1, c1.2.2.1, fun k ft hk hl => ?_⟩
      match k, hk with
      | 0, hk =>
        cases (Option.some.inj hk)
        refine Or.inr ⟨?_, by decide, ?_⟩
        · intro z
          have z : h_r h c 0 = 0 := z
          rw [z, ht.1] at ta
          cases ta
        · exact (rd_of hr (by rw [ta]; decide) (by rw [ta]; decide) (by rw [ta]; decide)).trans ta
      | 1, hk => cases (Option.some.inj hk); exact c1.2.2.2 1 _ rfl (fun z => by cases z)
      | 2, hk => cases (Option.some.inj hk); exact c1.2.2.2 2 _ rfl (fun z => by cases z)
      | 3, hk => cases (Option.some.inj hk); exact c1.2.2.2 3 _ rfl (fun z => by cases z)
      | 4, hk => cases (Option.some.inj hk); exact c1.2.2.2 4 _ rfl (fun z => by cases z)
      | 5, hk => cases (Option.some.inj hk); exact c1.2.2.2 5 _ rfl (fun z => by cases z)
      | 6, hk => cases (Option.some.inj hk); exact c1.2.2.2 6 _ rfl (fun z => by cases z)
      | 7, hk => cases (Option.some.inj hk); exact c1.2.2.2 7 _ rfl (fun z => by cases z)
      | 8, hk => cases (Option.some.inj hk); exact c1.2.2.2 8 _ rfl (fun z => by cases z)
      | k + 9, hk => cases hk
    · obtain ⟨e, n1, n2, n3⟩ := rd_le hcr hc
      rw [e]
      have hc0 : ρ c ≠ 0 := by rw [← e]; exact hc
      obtain ⟨l, rs, hs, t1, t2, t3, t4⟩ := ht.2 c hc0
      refine ⟨l, rs, hs, t1, t2, t3, fun k ft hk hl => ?_⟩
      have t := t4 k ft hk hl
      cases ft with
      | inl p => exact t
      | inr q => cases q with
        | inl u => trivial
        | inr q =>
          obtain ⟨m1, m2, m3⟩ := rd_sp hs n1 hk
          rcases (t : t_rf ρ q.1 q.2 (h_r h c k)) with f | ⟨f1, f2, f3⟩
          · exact Or.inl f
          · refine Or.inr ⟨f1, f2, ?_⟩
            rw [rd_of hr (by rw [f3]; exact m1) (by rw [f3]; exact m2) (by rw [f3]; exact m3)]
            exact f3
def rd_q (W' : List (Nat × Nat)) (q : Nat × Nat) : Bool := !(Nat.beq q.1 0) && W'.contains (if q.1 = 106 then 11 else q.1, q.2)
theorem rd_wq0 {R k : Nat} (h : rd_q W' (R, k) = true) : R ≠ 0 ∧ (if R = 106 then 11 else R, k) ∈ W' := by
  unfold rd_q at h
  rw [Bool.and_eq_true] at h
  refine ⟨fun z => ?_, List.contains_iff_mem.mp h.2⟩
  subst z
  have := h.1
  cases this
theorem rd_wq {R k : Nat} (hw : W.all (rd_q W') = true) (h : t_W W R k) : R ≠ 0 ∧ t_W W' (if R = 106 then 11 else R) k := by
  rcases h with h | h
  · obtain ⟨a, b⟩ := rd_wq0 (List.all_eq_true.mp hw _ h)
    exact ⟨a, Or.inl b⟩
  · obtain ⟨a, b⟩ := rd_wq0 (List.all_eq_true.mp hw _ h)
    exact ⟨a, Or.inr b⟩
theorem rd_back (ht : TH c_sp ρ h) (hr : ρ r = 11) (hw : W.all (rd_q W') = true) (f : FS (rd_r ρ r) W h h') (t : TH c_sp (rd_r ρ r) h') : FS ρ W' h h' ∧ TH c_sp ρ h' := by
  have out : ∀ c, c < 16 + h_n h → rd_r ρ r c = 0 → ∀ k, h_i h' c k = h_i h c k ∧ h_l h' c k = h_l h c k ∧ h_r h' c k = h_r h c k := fun c hc e k => (f.2 c hc).2 k (by
    rw [e]
    intro z
    exact (rd_wq hw z).1 rfl)
  refine ⟨⟨f.1, fun c hc => ⟨(f.2 c hc).1, fun k hk => ?_⟩⟩, ⟨ht.1, fun c hc => ?_⟩⟩
  · by_cases e : rd_r ρ r c = 0
    · exact out c hc e k
    · refine (f.2 c hc).2 k (fun z => hk ?_)
      have y := (rd_wq hw z).2
      by_cases hcr : c = r
      · subst hcr
        rw [rd_own, if_pos rfl] at y
        rw [hr]
        exact y
      · obtain ⟨e1, -, -, n3⟩ := rd_le hcr e
        rw [e1, if_neg n3] at y
        exact y
  · have hn : h_n h' = h_n h := congrArg Prod.fst f.1
    obtain ⟨l, rs, hs, t1, t2, t3, t4⟩ := ht.2 c hc
    by_cases hcr : c = r
    · subst hcr
      have c1 := t_spec t (by decide) (rfl : c_sp[106]? = some _) rd_own
      rw [hr] at hs ⊢
      cases hs
      refine ⟨by rw [hn]; exact l, _, (rfl : c_sp[11]? = some _), by rw [(f.2 c l).1]; exact t1, by rw [(f.2 c l).1]; exact t2, t3, fun k ft hk hl => ?_⟩
      match k, hk with
      | 0, hk => cases (Option.some.inj hk); trivial
      | 1, hk => cases (Option.some.inj hk); exact c1.2.2.2 1 _ rfl (fun z => by cases z)
      | 2, hk => cases (Option.some.inj hk); exact c1.2.2.2 2 _ rfl (fun z => by cases z)
      | 3, hk => cases (Option.some.inj hk); exact c1.2.2.2 3 _ rfl (fun z => by cases z)
      | 4, hk => cases (Option.some.inj hk); exact c1.2.2.2 4 _ rfl (fun z => by cases z)
      | 5, hk => cases (Option.some.inj hk); exact c1.2.2.2 5 _ rfl (fun z => by cases z)
      | 6, hk => cases (Option.some.inj hk); exact c1.2.2.2 6 _ rfl (fun z => by cases z)
      | 7, hk => cases (Option.some.inj hk); exact c1.2.2.2 7 _ rfl (fun z => by cases z)
      | 8, hk => cases (Option.some.inj hk); exact c1.2.2.2 8 _ rfl (fun z => by cases z)
      | k + 9, hk => cases hk
    · by_cases e : rd_r ρ r c = 0
      · refine ⟨by rw [hn]; exact l, rs, hs, by rw [(f.2 c l).1]; exact t1, by rw [(f.2 c l).1]; exact t2, t3, fun k ft hk hl => ?_⟩
        rw [(f.2 c l).1] at hl
        have q := t4 k ft hk hl
        have o := out c l e k
        cases ft with
        | inl p =>
          show p.1 ≤ (h_i h' c k).toInt ∧ (h_i h' c k).toInt ≤ p.2
          rw [o.1]
          exact q
        | inr y => cases y with
          | inl u => trivial
          | inr y =>
            show t_rf ρ y.1 y.2 (h_r h' c k)
            rw [o.2.2]
            exact q
      · obtain ⟨e1, n1, -, -⟩ := rd_le hcr e
        obtain ⟨l, rs, hs, t1, t2, t3, t4⟩ := t.2 c e
        rw [e1] at hs
        refine ⟨l, rs, hs, t1, t2, t3, fun k ft hk hl => ?_⟩
        have q := t4 k ft hk hl
        cases ft with
        | inl p => exact q
        | inr y => cases y with
          | inl u => trivial
          | inr y =>
            obtain ⟨m1, m2, m3⟩ := rd_sp hs n1 hk
            rcases (q : t_rf (rd_r ρ r) y.1 y.2 (h_r h' c k)) with g | ⟨g1, g2, g3⟩
            · exact Or.inl g
            · have g4 : h_r h' c k ≠ r := fun z => by
                rw [z, rd_own] at g3
                exact m3 g3.symm
              exact Or.inr ⟨g1, g2, (rd_le g4 (by rw [g3]; exact g2)).1.symm.trans g3⟩
end
theorem rd_lineB {T : Nat → Int} {n : Nat} {S : RLS} : (rd_line T n S).1 = 0 ∨ (rd_line T n S).1 = 1 ∨ (rd_line T n S).1 = 2 := by
  unfold rd_line
  split
  · exact Or.inl rfl
  · split
    · split
      · unfold rd_mark
        split
        · exact Or.inr (Or.inr rfl)
        · exact Or.inr (Or.inl rfl)
      · exact Or.inr (Or.inl rfl)
    · exact Or.inr (Or.inl rfl)
section
variable {lv : List (Nat × Value)} {Q : Option Value → MH → Prop} {W : List (Nat × Nat)} {ρ : Nat → Nat} {m : Nat} {A : Nat → Nat} {h0 h : MH} {F : Nat → Int} {V : Nat → Nat → Int} {G : Nat → Nat → Int64}
theorem s_ra5 {n : Int} (M : MX 106 W ρ m A h0 h F V G) (e0 : m_lk lv 0 = some (.ref m)) (e1 : m_lk lv 1 = some (.ref (A 0))) {lx2 : Int32} (e2 : m_lk lv 2 = some (.int lx2)) (lq2 : lx2.toInt = n) {ac : Nat} (e3 : m_lk lv 3 = some (.ref ac)) (hr_ac : ρ ac = 103) 
    (g0 : ∀ x1 : Int32, ∀ z1 : Int, x1.toInt = z1 → 600 ≤ z1 → z1 ≤ 600 → z1 = ((h_k h0 (A 0)).2 : Int) → HJ 12 9 lv [.int x1, .int lx2, .ref m] h Q)
    : HJ 12 5 lv [] h Q := by
  refine hI_al (k := 0) rfl e0 rfl ?_ -- 5
  refine hI_il (k := 2) rfl e2 rfl ?_ -- 6
  refine hI_al (k := 1) rfl e1 rfl ?_ -- 7
  refine hM_al M (by decide) (K := 0) (R2 := 13) (L := 600) (H := 600) rfl (by decide) rfl rfl (by decide) rfl rfl (fun x1 z1 q1 a1 b1 c1 => ?_) -- 8
  exact g0 x1 z1 q1 a1 b1 c1
theorem s_ra12 {n : Int} (M : MX 106 W ρ m A h0 h F V G) (e0 : m_lk lv 0 = some (.ref m)) {ac : Nat} (e3 : m_lk lv 3 = some (.ref ac)) (hr_ac : ρ ac = 103) {sx1 : Int32} (sq1 : sx1.toInt = n) (n0 : 0 ≤ n) (n6 : n ≤ 600)(hw : d_sub [(106, 1), (106, 3), (106, 6), (106, 7), (106, 8)] W = true)
    (g0 : ∀ h1 : MH, ∀ F1 : Nat → Int, F1 = m_u F 1 (n) → ∀ h3 : MH, ∀ F3 : Nat → Int, F3 = m_u F1 3 (0) → ∀ h5 : MH, ∀ F5 : Nat → Int, F5 = m_u F3 6 (0) → ∀ h7 : MH, ∀ F7 : Nat → Int, F7 = m_u F5 7 (0) → ∀ h9 : MH, ∀ F9 : Nat → Int, F9 = m_u F7 8 ((-1)) → MX 106 W ρ m A h0 h9 F9 V G → HJ 14 0 (lv_args 0 [.ref ac]) [] h9 (fun v h' => HJ 12 39 lv (v.toList ++ []) h' Q))
    : HJ 12 12 lv [.int sx1, .ref m] h Q := by
  refine hM_pi M (by decide) ok_106 rfl rfl (k := 1) (c := 4) (lo := 0) (hi := 600) rfl rfl ⟨by decide, by decide +kernel, rfl⟩ rfl (d_subm hw (by decide +kernel)) sq1 (by omega) (by omega) rfl (fun h1 F1 f1 M1 => ?_) -- 12
  refine hI_al (k := 0) rfl e0 rfl ?_ -- 15
  refine hM_ic (n := 0) rfl (by decide) rfl (fun x2 q2 => ?_) -- 16
  refine hM_pi M1 (by decide) ok_106 rfl rfl (k := 3) (c := 4) (lo := 0) (hi := 600) rfl rfl ⟨by decide, by decide +kernel, rfl⟩ rfl (d_subm hw (by decide +kernel)) q2 (by omega) (by omega) rfl (fun h3 F3 f3 M3 => ?_) -- 17
  refine hI_al (k := 0) rfl e0 rfl ?_ -- 20
  refine hM_ic (n := 0) rfl (by decide) rfl (fun x4 q4 => ?_) -- 21
  refine hM_pi M3 (by decide) ok_106 rfl rfl (k := 6) (c := 4) (lo := (-2147483648)) (hi := 2147483647) rfl rfl ⟨by decide, by decide +kernel, rfl⟩ rfl (d_subm hw (by decide +kernel)) q4 (by omega) (by omega) rfl (fun h5 F5 f5 M5 => ?_) -- 22
  refine hI_al (k := 0) rfl e0 rfl ?_ -- 25
  refine hM_ic (n := 0) rfl (by decide) rfl (fun x6 q6 => ?_) -- 26
  refine hM_pi M5 (by decide) ok_106 rfl rfl (k := 7) (c := 4) (lo := (-2147483648)) (hi := 2147483647) rfl rfl ⟨by decide, by decide +kernel, rfl⟩ rfl (d_subm hw (by decide +kernel)) q6 (by omega) (by omega) rfl (fun h7 F7 f7 M7 => ?_) -- 27
  refine hI_al (k := 0) rfl e0 rfl ?_ -- 30
  refine hM_ic (n := (-1)) rfl (by decide) rfl (fun x8 q8 => ?_) -- 31
  refine hM_pi M7 (by decide) ok_106 rfl rfl (k := 8) (c := 4) (lo := (-2147483648)) (hi := 2147483647) rfl rfl ⟨by decide, by decide +kernel, rfl⟩ rfl (d_subm hw (by decide +kernel)) q8 (by omega) (by omega) rfl (fun h9 F9 f9 M9 => ?_) -- 32
  refine hI_al (k := 3) rfl e3 rfl ?_ -- 35
  refine hM_iv (MX.start (W := W) M9.1.1 hr_ac) (by decide) rfl rfl (by decide) (as := []) (r := []) rfl rfl (by decide +kernel) rfl (by decide +kernel) rfl rfl rfl rfl rfl ?_ -- 36
  exact g0 h1 F1 f1 h3 F3 f3 h5 F5 f5 h7 F7 f7 h9 F9 f9 M9
theorem s_ra39 (M : MX 106 W ρ m A h0 h F V G) (e0 : m_lk lv 0 = some (.ref m)) {ac : Nat} (e3 : m_lk lv 3 = some (.ref ac)) (hr_ac : ρ ac = 103) 
    (g0 : ∀ x1 : Int32, x1.toInt = 1 → ∀ x3 : Int32, x3.toInt = 0 → ∀ lv4 : List (Nat × Value), m_lk lv4 0 = some (.ref m) → m_lk lv4 3 = some (.ref ac) → m_lk lv4 4 = some (.int x1) → m_lk lv4 5 = some (.int x3) → HJ 12 45 lv4 [] h Q)
    : HJ 12 39 lv [] h Q := by
  refine hM_ic (n := 1) rfl (by decide) rfl (fun x1 q1 => ?_) -- 39
  refine hM_si2 (k := 4) rfl (by decide +kernel) rfl (fun lv2 e2_4 u2 => ?_) -- 40
  have e2_0 := u2 0 _ (by decide) (Or.inl rfl) e0
  have e2_3 := u2 3 _ (by decide) (Or.inl rfl) e3
  refine hM_ic (n := 0) rfl (by decide) rfl (fun x3 q3 => ?_) -- 42
  refine hM_si2 (k := 5) rfl (by decide +kernel) rfl (fun lv4 e4_5 u4 => ?_) -- 43
  have e4_0 := u4 0 _ (by decide) (Or.inl rfl) e2_0
  have e4_3 := u4 3 _ (by decide) (Or.inl rfl) e2_3
  have e4_4 := u4 4 _ (by decide) (Or.inl rfl) e2_4
  exact g0 x1 q1 x3 q3 lv4 e4_0 e4_3 e4_4 e4_5
theorem s_ra45 {g i : Int} (M : MX 106 W ρ m A h0 h F V G) (e0 : m_lk lv 0 = some (.ref m)) {ac : Nat} (e3 : m_lk lv 3 = some (.ref ac)) (hr_ac : ρ ac = 103) {lx4 : Int32} (e4 : m_lk lv 4 = some (.int lx4)) (lq4 : lx4.toInt = g) {lx5 : Int32} (e5 : m_lk lv 5 = some (.int lx5)) (lq5 : lx5.toInt = i) 
    (g0 : g = 0 → HJ 12 71 lv [] h Q)
    (g1 : g ≠ 0 → i > 600 → HJ 12 71 lv [] h Q)
    (g2 : g ≠ 0 → i ≤ 600 → HJ 15 0 (lv_args 0 [.ref m, .ref ac]) [] h (fun v h' => HJ 12 63 lv (v.toList ++ []) h' Q))
    : HJ 12 45 lv [] h Q := by
  refine hI_il2 (k := 4) rfl e4 rfl ?_ -- 45
  refine hM_zeq (off := 24) (t := 71) rfl lq4 (by decide) rfl (fun c47 => ?_) (fun c47 => ?_) -- 47
  · exact g0 c47
  · refine hI_il2 (k := 5) rfl e5 rfl ?_ -- 50
    refine hM_sp (n := 600) rfl (by decide) rfl (fun x1 q1 => ?_) -- 52
    refine hM_cgt (off := 16) (t := 71) rfl lq5 q1 (by decide) rfl (fun c55 => ?_) (fun c55 => ?_) -- 55
    · exact g1 c47 c55
    · refine hI_al (k := 0) rfl e0 rfl ?_ -- 58
      refine hI_al (k := 3) rfl e3 rfl ?_ -- 59
      refine hM_iv M (by decide) rfl rfl (by decide) (as := [.ref ac]) (r := []) rfl rfl (by decide +kernel) rfl (by decide +kernel) rfl rfl rfl rfl rfl ?_ -- 60
      exact g2 c47 c55
theorem s_ra63 {i z : Int} (M : MX 106 W ρ m A h0 h F V G) (e0 : m_lk lv 0 = some (.ref m)) {ac : Nat} (e3 : m_lk lv 3 = some (.ref ac)) (hr_ac : ρ ac = 103) {lx5 : Int32} (e5 : m_lk lv 5 = some (.int lx5)) (lq5 : lx5.toInt = i) {sx0 : Int32} (sq0 : sx0.toInt = z) (i0 : 0 ≤ i) (i6 : i ≤ 600)
    (g0 : ∀ x2 : Int32, x2.toInt = i + 1 → ∀ lv2 : List (Nat × Value), m_lk lv2 0 = some (.ref m) → m_lk lv2 3 = some (.ref ac) → m_lk lv2 4 = some (.int sx0) → m_lk lv2 5 = some (.int x2) → HJ 12 45 lv2 [] h Q)
    : HJ 12 63 lv [.int sx0] h Q := by
  refine hM_si2 (k := 4) rfl (by decide +kernel) rfl (fun lv1 e1_4 u1 => ?_) -- 63
  have e1_0 := u1 0 _ (by decide) (Or.inl rfl) e0
  have e1_3 := u1 3 _ (by decide) (Or.inl rfl) e3
  have e1_5 := u1 5 _ (by decide) (Or.inl rfl) e5
  refine hM_inc (k := 5) (z := 1) rfl e1_5 lq5 (by decide) (by omega) (by omega) (by decide +kernel) rfl (fun lv2 x2 q2 e2_5 u2 => ?_) -- 65
  have e2_0 := u2 0 _ (by decide) (Or.inl rfl) e1_0
  have e2_3 := u2 3 _ (by decide) (Or.inl rfl) e1_3
  have e2_4 := u2 4 _ (by decide) (Or.inl rfl) e1_4
  refine hI_go (pc' := 45) (off := (-23)) rfl (by decide) ?_ -- 68
  exact g0 x2 q2 lv2 e2_0 e2_3 e2_4 e2_5
theorem s_ra71 (M : MX 106 W ρ m A h0 h F V G) (e0 : m_lk lv 0 = some (.ref m)) 
    (g0 : (-2147483648) ≤ F 6 → F 6 ≤ 2147483647 → F 6 ≠ 0 → Q none h)
    (g1 : ∀ x2 : Int32, x2.toInt = 4 → ∀ x3 : Int32, x3.toInt = F 1 → (-2147483648) ≤ F 6 → F 6 ≤ 2147483647 → F 6 = 0 → 0 ≤ F 1 → F 1 ≤ 600 → HJ 35 0 (lv_args 0 [.ref m, .int x2, .int x3]) [] h (fun v h' => HJ 12 87 lv (v.toList ++ []) h' Q))
    : HJ 12 71 lv [] h Q := by
  refine hI_al (k := 0) rfl e0 rfl ?_ -- 71
  refine hM_gi M (by decide) rfl rfl rfl (k := 6) (c := 4) (lo := (-2147483648)) (hi := 2147483647) rfl rfl rfl rfl rfl (fun x1 q1 a1 b1 => ?_) -- 72
  refine hM_zne (off := 12) (t := 87) rfl q1 (by decide) rfl (fun c75 => ?_) (fun c75 => ?_) -- 75
  · refine hI_rv rfl rfl ?_
    exact g0 a1 b1 c75
  · refine hI_al (k := 0) rfl e0 rfl ?_ -- 78
    refine hM_ic (n := 4) rfl (by decide) rfl (fun x2 q2 => ?_) -- 79
    refine hI_al (k := 0) rfl e0 rfl ?_ -- 80
    refine hM_gi M (by decide) rfl rfl rfl (k := 1) (c := 4) (lo := 0) (hi := 600) rfl rfl rfl rfl rfl (fun x3 q3 a3 b3 => ?_) -- 81
    refine hM_iv M (by decide) rfl rfl (by decide) (as := [.int x2, .int x3]) (r := []) rfl rfl (by decide +kernel) rfl (by decide +kernel) rfl rfl rfl rfl rfl ?_ -- 84
    exact g1 x2 q2 x3 q3 a1 b1 c75 a3 b3
theorem s_ra87   
    (g0 : Q none h)
    : HJ 12 87 lv [] h Q := by
  refine hI_rv rfl rfl ?_
  exact g0 
end
section
variable {lv : List (Nat × Value)} {Q : Option Value → MH → Prop} {W : List (Nat × Nat)} {ρ : Nat → Nat} {m a : Nat} {A B : Nat → Nat} {h0 h : MH} {F Fa : Nat → Int} {V Va : Nat → Nat → Int} {G Ga : Nat → Nat → Int64}
theorem l_ra {n : Nat} {R : Bool × RLS} (H : rd_env W ρ h0) (hw : d_sub w_rd W = true) (n6 : n ≤ 600) (g : ∀ (lv : List (Nat × Value)) (h : MH), RR W ρ m A a B h0 V G Ga n R.2 h → m_lk lv 0 = some (.ref m) → HJ 12 71 lv [] h Q) : ∀ (d i : Nat) (lv : List (Nat × Value)) (h : MH) (S : RLS) (xg xi : Int32), i + d = 601 → RR W ρ m A a B h0 V G Ga n S h → rd_run (V 0) n d S = R → xg.toInt = 1 → xi.toInt = (i : Int) → m_lk lv 0 = some (.ref m) → m_lk lv 3 = some (.ref a) → m_lk lv 4 = some (.int xg) → m_lk lv 5 = some (.int xi) → HJ 12 45 lv [] h Q := by
  intro d
  induction d with
  | zero =>
    intro i lv h S xg xi hd RS eR qg qi e0 e3 e4 e5
    obtain ⟨F, Fa, Va, ⟨M, MA⟩, -⟩ := id RS
    have RS : RR W ρ m A a B h0 V G Ga n R.2 h := by rw [← eR]; exact RS
    exact s_ra45 M e0 e3 MA.1.2.1 e4 qg e5 qi (fun c => absurd c (by decide)) (fun _ _ => g lv h RS e0) (fun _ c => by omega)
  | succ d ih =>
    intro i lv h S xg xi hd RS eR qg qi e0 e3 e4 e5
    obtain ⟨F, Fa, Va, ⟨M, MA⟩, -⟩ := id RS
    rw [rd_run] at eR
    refine s_ra45 M e0 e3 MA.1.2.1 e4 qg e5 qi (fun c => absurd c (by decide)) (fun _ c => by omega) (fun _ _ => c_line H hw n6 RS (fun x h' hx bx RS' _ => ?_))
    obtain ⟨F', Fa', Va', ⟨M', MA'⟩, -⟩ := id RS'
    show HJ 12 63 lv [.int x] h' Q
    refine s_ra63 M' e0 e3 MA'.1.2.1 e5 qi rfl (z := x.toInt) (by omega) (by omega) (fun x2 q2 lv2 d0 d3 d4 d5 => ?_)
    by_cases c : x.toInt = 1
    · have l2 := hx.mp c
      rw [if_neg (by rw [l2]; decide), if_neg (by rw [l2]; decide)] at eR
      exact ih (i + 1) lv2 h' _ x x2 (by omega) RS' eR c (by omega) d0 d3 d4 d5
    · have x0 : x.toInt = 0 := by omega
      have hR : R.2 = (rd_line (V 0) n S).2 := by
        rcases rd_lineB (T := V 0) (n := n) (S := S) with l | l | l
        · rw [if_pos l] at eR
          rw [← eR]
        · rw [if_neg (by rw [l]; decide), if_pos l] at eR
          rw [← eR]
        · exact absurd (hx.mpr l) c
      exact s_ra45 M' d0 d3 MA'.1.2.1 d4 x0 d5 q2 (fun _ => g lv2 h' (by rw [hR]; exact RS') d0) (fun y => absurd rfl y) (fun y => absurd rfl y)
end
-- what a reading leaves with the row of acts
def ar_q (h : MH) (c : Nat) (S : RLS) : Prop := q_fd h c 2 = (ls_g S : Int) ∧ ∀ k, k < ls_g S → q_kd h c k = ls_t S (4 * k + 1) ∧ ∀ i, i < 3 → q_nm h c (3 * k + i) = ls_t S (4 * k + 2 + i)
def w_rda : List (Nat × Nat) := (106, 1) :: w_rd
def w_rdx : List (Nat × Nat) := [(11, 0), (11, 1), (11, 2), (11, 3), (11, 4), (11, 5), (11, 6), (11, 7), (11, 8), (103, 2), (104, 1001), (105, 1001)]
theorem c_read {ρ : Nat → Nat} {h : MH} {Q : Option Value → MH → Prop} {r ta ac n : Nat} {xn : Int32} (ht : TH c_sp ρ h) (sb : t_sb ρ h) (hr : ρ r = 11) (hta : ρ ta = 13) (hac : ρ ac = 103) (qn : xn.toInt = (n : Int)) (n6 : n ≤ 600) (T : Nat → Int) (hT : T = fun j => (h_i h ta j).toInt)
    (g : ∀ h', FS ρ w_rdx h h' → TH c_sp ρ h' → (h_i h' r 7).toInt = ls_f (rd_tx T n) → (h_i h' r 8).toInt = ls_l (rd_tx T n) → (ls_f (rd_tx T n) = 0 → ar_q h' ac (rd_tx T n)) → Q none h') : HJ 12 0 (lv_args 0 [.ref r, .ref ta, .int xn, .ref ac]) [] h Q := by
  have k5 : (h_k h r).1 = 5 := (t_spec ht (by decide) (rfl : c_sp[11]? = some _) hr).1
  obtain ⟨s1, s2, s3, s4⟩ := sb
  have b : ∀ {c R : Nat}, ρ c = R → R ≠ 6 → R ≠ 11 → R ≠ 106 → rd_r ρ r c = R := fun {c R} e n1 n2 n3 => by
    subst e
    exact rd_of hr n1 n2 n3
  refine hI_al (k := 0) rfl rfl rfl ?_
  refine hI_al (k := 1) rfl rfl rfl ?_
  refine hI_pr (c := 4) (k := 0) rfl rfl (by decide +kernel) k5 rfl ?_
  have t1 : TH c_sp ρ (h_sr h r 0 ta) := rd_st ht hr
  have f1 : FS ρ [(11, 0)] h (h_sr h r 0 ta) := FS.ofFR (s_srF hr (Or.inl (List.mem_singleton.mpr rfl)))
  have a0 : h_r (h_sr h r 0 ta) r 0 = ta := by rw [s_srR, if_pos ⟨rfl, rfl⟩]
  have hi : ∀ x k, h_i (h_sr h r 0 ta) x k = h_i h x k := fun _ _ => rfl
  generalize h_sr h r 0 ta = h1 at t1 f1 a0 hi ⊢
  have t2 : TH c_sp (rd_r ρ r) h1 := rd_TH t1 hr (by rw [a0]; exact hta)
  have hT1 : (fun j => (h_i h1 (h_r h1 r 0) j).toInt) = T := by
    rw [hT, a0]
    exact funext (fun j => by rw [hi])
  have M0 : MX 106 w_rda (rd_r ρ r) r (h_r h1 r) h1 h1 (fun K => (h_i h1 r K).toInt) (fun K j => (h_i h1 (h_r h1 r K) j).toInt) (fun K j => h_l h1 (h_r h1 r K) j) := MX.start t2 rd_own
  have hac1 : rd_r ρ r ac = 103 := b hac (by decide) (by decide) (by decide)
  have MA0 : MX 103 w_rda (rd_r ρ r) ac (h_r h1 ac) h1 h1 (fun K => (h_i h1 ac K).toInt) (fun K j => (h_i h1 (h_r h1 ac K) j).toInt) (fun K j => h_l h1 (h_r h1 ac K) j) := MX.start t2 hac1
  generalize (fun K => (h_i h1 r K).toInt) = F0 at M0
  generalize hV : (fun K j => (h_i h1 (h_r h1 r K) j).toInt) = V0 at M0
  generalize (fun K j => h_l h1 (h_r h1 r K) j) = G0 at M0
  generalize (fun K => (h_i h1 ac K).toInt) = Fa0 at MA0
  generalize (fun K j => (h_i h1 (h_r h1 ac K) j).toInt) = Va0 at MA0
  generalize (fun K j => h_l h1 (h_r h1 ac K) j) = Ga0 at MA0
  have hV0 : V0 0 = T := by
    rw [← hV]
    exact hT1
  have H : rd_env w_rda (rd_r ρ r) h1 := ⟨fun k hk => ⟨b (s1 k hk).1 (by decide) (by decide) (by decide), b (s1 k hk).2 (by decide) (by decide) (by decide)⟩, b s2 (by decide) (by decide) (by decide), by decide +kernel, by decide +kernel, sb_fs s1 (by decide +kernel) f1 s3, lim_fs s2 (by decide +kernel) f1 s4⟩
  refine s_ra5 (n := (n : Int)) M0 rfl (by rw [a0]; rfl) rfl qn rfl hac1 (fun x1 z1 q1 a1 b1 c1 => ?_)
  refine hI_min rfl rfl ⟨rfl, by decide +kernel, by show 1 + 13 ≤ m_lo 12; decide +kernel⟩ rfl ?_
  have hm : (if x1 < xn then x1 else xn) = xn := if_neg (fun z => by
    have := Int32.lt_iff_toInt_lt.mp z
    omega)
  rw [hm]
  refine s_ra12 (MX.again M0 [(106, 1), (106, 3), (106, 6), (106, 7), (106, 8)]) rfl rfl hac1 qn (by omega) (by omega) (by decide +kernel) (fun h2 F2 f2 h3 F3 f3 h5 F5 f5 h7 F7 f7 h9 F9 f9 M9 => ?_)
  have MA9 := MA0.stay (by decide) M9.1.1 M9.1.2.2 (by decide +kernel) (by decide +kernel)
  have M9 := M0.re M9 (by decide +kernel)
  refine s_cl (MX.again MA9 [(103, 2)]) rfl (by decide +kernel) (fun h10 F10 f10 MA10 => ?_)
  have M10 := M9.stay (by decide) MA10.1.1 MA10.1.2.2 (by decide +kernel) (by decide +kernel)
  have MA10 := MA9.re MA10 (by decide +kernel)
  show HJ 12 39 _ [] h10 Q
  refine s_ra39 M10 rfl rfl hac1 (fun x1 q1 x3 q3 lv4 d0 d3 d4 d5 => ?_)
  have R0 : RR w_rda (rd_r ρ r) r (h_r h1 r) ac (h_r h1 ac) h1 V0 G0 Ga0 n rd_S0 h10 := by
    refine ⟨F9, F10, Va0, ⟨M10, MA10⟩, ⟨?_, ?_, ?_, ?_, ?_⟩, ⟨?_, fun k _ hk => absurd hk (Nat.not_lt_zero k)⟩, Nat.zero_le _, Nat.le_refl _⟩
    · rw [f9, m_uN _ _ _ _ (by decide), f7, m_uN _ _ _ _ (by decide), f5, m_uN _ _ _ _ (by decide), f3, m_uN _ _ _ _ (by decide), f2, m_uE]
    · rw [f9, m_uN _ _ _ _ (by decide), f7, m_uN _ _ _ _ (by decide), f5, m_uN _ _ _ _ (by decide), f3, m_uE]
      rfl
    · rw [f9, m_uN _ _ _ _ (by decide), f7, m_uN _ _ _ _ (by decide), f5, m_uE]
      rfl
    · rw [f9, m_uN _ _ _ _ (by decide), f7, m_uE]
      rfl
    · rw [f9, m_uE]
      rfl
    · rw [f10, m_uE]
      rfl
  have hZ : rd_tx T n = rd_fin n (rd_run T n 601 rd_S0).2 := rd_txE
  have ok := ls_okT (T := T) (n := n)
  generalize rd_tx T n = Z at g hZ ok
  -- the end
  have fin : ∀ (h' : MH) (S : RLS), RR w_rda (rd_r ρ r) r (h_r h1 r) ac (h_r h1 ac) h1 V0 G0 Ga0 n S h' → ls_f S = ls_f Z → ls_l S = ls_l Z → ls_g S = ls_g Z → ls_t S = ls_t Z → Q none h' := fun h' S ⟨F', Fa', Va', ⟨M', MA'⟩, ⟨_, _, _, p7, p8⟩, ao, _, _⟩ e1 e2 e3 e4 => by
    obtain ⟨k1, k2⟩ := rd_back (W' := w_rdx) t1 hr (by decide +kernel) M'.1.2.2 M'.1.1
    refine g h' ((f1.mono (by decide +kernel)).trans k1) k2 ?_ ?_ (fun z => ?_)
    · rw [M'.2.1 7, p7, e1]
    · rw [M'.2.1 8, p8, e2]
    · have g40 := (ok.1 z).2
      rw [e3, e4] at ao
      have r0 := MA'.2.2 0 (by decide +kernel)
      have r1 := MA'.2.2 1 (by decide +kernel)
      refine ⟨(MA'.2.1 2).trans (by rw [ao.1, if_pos g40]), fun k hk => ?_⟩
      obtain ⟨y1, y2⟩ := ao.2 k (by omega) hk
      refine ⟨?_, fun i hi => ?_⟩
      · unfold q_kd
        rw [r0.1, (r0.2 k).1]
        exact y1
      · unfold q_nm
        rw [r1.1, (r1.2 _).1]
        exact y2 i hi
  refine l_ra (R := rd_run T n 601 rd_S0) H (by decide +kernel) n6 (fun lv h' RS e0 => ?_) 601 0 lv4 h10 rd_S0 x1 x3 (by decide) R0 (by rw [hV0]) q1 q3 d0 d3 d4 d5
  generalize (rd_run T n 601 rd_S0).2 = S at hZ RS
  obtain ⟨F', Fa', Va', ⟨M', MA'⟩, ⟨p1, p3, p6, p7, p8⟩, ao, pn, gp⟩ := id RS
  refine s_ra71 M' e0 (fun _ _ c => ?_) (fun x2 q2 x3 q3 _ _ c _ _ => ?_)
  · have hg : ¬ ls_g S = 0 := by omega
    have e : Z = S := by rw [hZ]; unfold rd_fin; rw [if_neg hg]
    exact fin h' S RS (by rw [e]) (by rw [e]) (by rw [e]) (by rw [e])
  · have hg : ls_g S = 0 := by omega
    have e : Z = ls_note 4 n S := by rw [hZ]; unfold rd_fin; rw [if_pos hg]
    obtain ⟨n1, n2, n3, n4, n5⟩ := ls_noteE (w := 4) (s := n) (S := S)
    refine c_note2 M' MA' (by decide +kernel) q2 (q3.trans p1) (fun h5 F5 M5 MA5 d7 d8 dd => s_ra87 (fin h5 (ls_note 4 n S) ⟨F5, Fa', Va', ⟨M5, MA5⟩, ⟨?_, ?_, ?_, ?_, ?_⟩, ?_, ?_, ?_⟩ (by rw [e]) (by rw [e]) (by rw [e]) (by rw [e])))
    · rw [dd 1 (by decide) (by decide)]
      exact p1
    · rw [dd 3 (by decide) (by decide), n1]
      exact p3
    · rw [dd 6 (by decide) (by decide), n2]
      exact p6
    · rw [d7, p7, n4]
    · rw [d8, p7, p8, n5]
    · rw [n2, n3]
      exact ao
    · rw [n1]
      exact pn
    · rw [n1, n2]
      exact gp
