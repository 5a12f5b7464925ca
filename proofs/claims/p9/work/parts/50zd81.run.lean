-- A RUN'S BOOKS
def bk_of (h : MH) (pa : Nat) (Y : RYt) : Prop := pr_of h pa Y ∧ (∀ k : Nat, k + 1 < ry_v Y → z_i h (h_r h pa 4) k = ry_m Y k ∧ z_i h (h_r h pa 5) k = ry_l Y k ∧ z_i h (h_r h pa 6) k = ry_pd Y k) ∧ (∀ v : Nat, v < ry_v Y → z_i h (h_r h (h_r h pa 1) 0) v = ry_a Y v ∧ z_i h (h_r h (h_r h pa 1) 1) v = ry_b Y v) ∧ fro_of (h_l h (h_r h (h_r h pa 1) 2)) Y
def pk_of (h : MH) (pa : Nat) (Y : RYt) : Prop := cs_of h (z_i h) (h_r h pa 0) (ry_s Y) ∧ z_i h pa 12 = ry_t Y ∧ bk_of h pa Y
def run_Y (h : MH) (pa a : Nat) : Prop := a = pa ∨ a = h_r h (h_r h pa 0) 4 ∨ (∃ i, i < 59 ∧ a = pa_w h pa i) ∨ a = h_r h (h_r h pa 1) 2
theorem py_run {h : MH} {pa a : Nat} (z : py_Y h pa a) : run_Y h pa a := by
  rcases z with z | z | ⟨i, hi, z⟩
  · exact Or.inl z
  · exact Or.inr (Or.inl z)
  · exact Or.inr (Or.inr (Or.inl ⟨i, by omega, z⟩))
theorem run_Ye {h h' : MH} {pa a : Nat} {Y : Nat → Prop} (ok : pa_ok h pa) (o' : nl_ok h' (h_r h pa 0)) (F : FX (h_r h pa 0) Y h h') (al : a < 16 + h_n h) (z : run_Y h' pa a) : run_Y h pa a ∨ a = h_r h (h_r h pa 0) 0 := by
  obtain ⟨okp, re, rw_⟩ := pa_FX ok o' F
  have ln : h_r h pa 1 ≠ h_r h pa 0 := fun z => by
    have := ok.2.2.2.2.1.1
    rw [z, ok.2.1.1.1] at this
    omega
  rcases z with z | z | ⟨i, hi, z⟩ | z
  · exact Or.inl (Or.inl z)
  · rw [re, (F.2.2 _ ok.2.1.1.2.2).2.1 4 (by omega)] at z
    exact Or.inl (Or.inr (Or.inl z))
  · by_cases c : i = 11
    · subst c
      have e : pa_w h' pa 11 = h_r h' (h_r h pa 0) 0 := by
        show h_r h' (h_r h' pa 0) 0 = _
        rw [re]
      rw [e] at z
      rcases F.2.1.1 0 (by decide) with f | f
      · exact Or.inr (z.trans f)
      · omega
    · rw [rw_ i hi c] at z
      exact Or.inl (Or.inr (Or.inr (Or.inl ⟨i, hi, z⟩)))
  · rw [re, (F.2.2 _ ok.2.2.2.2.1.2.2).2.1 2 (fun z => ln z.1)] at z
    exact Or.inl (Or.inr (Or.inr (Or.inr z)))
theorem FX.trans2 {nd : Nat} {Y Y' : Nat → Prop} {h h1 h2 : MH} (a : FX nd Y h h1) (b : FX nd Y' h1 h2) (s : ∀ q, q < 16 + h_n h → Y' q → Y q ∨ q = h_r h nd 0) : FX nd Y h h2 := by
  obtain ⟨a1, ⟨a2, ax⟩, a3⟩ := a
  obtain ⟨b1, ⟨b2, bx⟩, b3⟩ := b
  refine ⟨Nat.le_trans a1 b1, ⟨fun k hk => ?_, ax.trans bx⟩, fun q hq => ?_⟩
  · rcases b2 k hk with e | e
    · rw [e]
      exact a2 k hk
    · exact Or.inr (by omega)
  · obtain ⟨x1, x2, x3⟩ := a3 q hq
    obtain ⟨y1, y2, y3⟩ := b3 q (by omega)
    refine ⟨y1.trans x1, fun k hk => (y2 k hk).trans (x2 k hk), fun hn => ?_⟩
    obtain ⟨u1, u2⟩ := x3 hn
    obtain ⟨v1, v2⟩ := y3 (fun z => by
      rcases z with z | z | z | z
      · exact hn (Or.inl z)
      · rcases a2 0 (by decide) with e | e
        · exact hn (Or.inr (Or.inl (z.trans e)))
        · omega
      · rcases a2 1 (by decide) with e | e
        · exact hn (Or.inr (Or.inr (Or.inl (z.trans e))))
        · omega
      · rcases s q hq z with z | z
        · exact hn (Or.inr (Or.inr (Or.inr z)))
        · exact hn (Or.inr (Or.inl z)))
    exact ⟨fun j => (v1 j).trans (u1 j), fun j => (v2 j).trans (u2 j)⟩
-- the same, whoever holds the nodes
def FW (nd : Nat) (Y : Nat → Prop) (h h' : MH) : Prop := h_n h ≤ h_n h' ∧ (∀ k, k < 2 → h_r h' nd k = h_r h nd k ∨ 16 + h_n h ≤ h_r h' nd k) ∧ ∀ a, a < 16 + h_n h → h_k h' a = h_k h a ∧ (∀ k, ¬ (a = nd ∧ k < 2) → h_r h' a k = h_r h a k) ∧ (¬ (a = nd ∨ a = h_r h nd 0 ∨ a = h_r h nd 1 ∨ Y a) → (∀ j, z_i h' a j = z_i h a j) ∧ ∀ j, h_l h' a j = h_l h a j)
theorem FW.ofFX {nd : Nat} {Y : Nat → Prop} {h h' : MH} (F : FX nd Y h h') : FW nd Y h h' := ⟨F.1, F.2.1.1, F.2.2⟩
theorem FW.trans2 {nd : Nat} {Y Y' : Nat → Prop} {h h1 h2 : MH} (a : FW nd Y h h1) (b : FW nd Y' h1 h2) (s : ∀ q, q < 16 + h_n h → Y' q → Y q ∨ q = h_r h nd 0) : FW nd Y h h2 := by
  obtain ⟨a1, a2, a3⟩ := a
  obtain ⟨b1, b2, b3⟩ := b
  refine ⟨Nat.le_trans a1 b1, fun k hk => ?_, fun q hq => ?_⟩
  · rcases b2 k hk with e | e
    · rw [e]
      exact a2 k hk
    · exact Or.inr (by omega)
  · obtain ⟨x1, x2, x3⟩ := a3 q hq
    obtain ⟨y1, y2, y3⟩ := b3 q (by omega)
    refine ⟨y1.trans x1, fun k hk => (y2 k hk).trans (x2 k hk), fun hn => ?_⟩
    obtain ⟨u1, u2⟩ := x3 hn
    obtain ⟨v1, v2⟩ := y3 (fun z => by
      rcases z with z | z | z | z
      · exact hn (Or.inl z)
      · rcases a2 0 (by decide) with e | e
        · exact hn (Or.inr (Or.inl (z.trans e)))
        · omega
      · rcases a2 1 (by decide) with e | e
        · exact hn (Or.inr (Or.inr (Or.inl (z.trans e))))
        · omega
      · rcases s q hq z with z | z
        · exact hn (Or.inr (Or.inr (Or.inr z)))
        · exact hn (Or.inr (Or.inl z)))
    exact ⟨fun j => (v1 j).trans (u1 j), fun j => (v2 j).trans (u2 j)⟩
theorem FW.ofRL {nd : Nat} {Y : Nat → Prop} {h0 h : MH} {H : Nat → Nat → Int} {L : Nat → Nat → Int64} (M : RL h0 h H L) (e : ∀ a, ¬ (a = nd ∨ a = h_r h0 nd 0 ∨ a = h_r h0 nd 1 ∨ Y a) → (∀ j, H a j = z_i h0 a j) ∧ ∀ j, L a j = h_l h0 a j) : FW nd Y h0 h := by
  obtain ⟨m1, m2, m3, m4, m5⟩ := M
  exact ⟨by unfold h_n; rw [m1]; exact Nat.le_refl _, fun k _ => Or.inl (by rw [m3]), fun a _ => ⟨by rw [m2], fun k _ => by rw [m3], fun hn => ⟨fun j => by rw [m5]; exact (e a hn).1 j, fun j => by rw [m4]; exact (e a hn).2 j⟩⟩⟩
-- the books stand while only an act's own things change
theorem pa_li {h : MH} {pa : Nat} (ok : pa_ok h pa) : li_ok h (h_r h pa 1) ∧ h_r h (h_r h pa 1) 0 ≠ h_r h (h_r h pa 1) 1 := by
  obtain ⟨a, n, t, r, li, fr, b, c⟩ := ok
  obtain ⟨b1, b2, -, b4, -⟩ := b 16 (by decide)
  obtain ⟨d1, d2, -, d4, -⟩ := b 17 (by decide)
  have n16 : pa_n 16 = 41 := rfl
  have n17 : pa_n 17 = 41 := rfl
  have e16 : pa_w h pa 16 = h_r h (h_r h pa 1) 0 := rfl
  have e17 : pa_w h pa 17 = h_r h (h_r h pa 1) 1 := rfl
  rw [e16] at b1 b2 b4
  rw [e17] at d1 d2 d4
  exact ⟨⟨⟨li.1, li.2.1⟩, ⟨b1, b2, by omega⟩, ⟨d1, d2, by omega⟩, ⟨fr.1, fr.2.2.1, by omega⟩⟩, c 16 17 (by decide) (by decide) (by decide)⟩
theorem pa_fr {h : MH} {pa : Nat} (ok : pa_ok h pa) : (∀ i, i < 59 → h_r h (h_r h pa 1) 2 ≠ pa_w h pa i) ∧ h_r h (h_r h pa 1) 2 ≠ pa ∧ h_r h (h_r h pa 1) 2 ≠ h_r h pa 0 ∧ h_r h (h_r h pa 1) 2 ≠ h_r h (h_r h pa 0) 4 ∧ h_r h (h_r h pa 1) 2 ≠ h_r h (h_r h pa 0) 1 := by
  obtain ⟨a, n, t, r, li, fr, b, c⟩ := ok
  refine ⟨fun i hi z => ?_, fun z => ?_, fun z => ?_, fun z => ?_, fr.2.2.2.2⟩
  · have := (b i hi).1
    rw [← z, fr.1] at this
    omega
  · have := a.1
    rw [← z, fr.1] at this
    omega
  · have := n.1.1
    rw [← z, fr.1] at this
    omega
  · have := t.1
    rw [← z, fr.1] at this
    omega
theorem py_fr {h h' : MH} {pa : Nat} (ok : pa_ok h pa) (F : FX (h_r h pa 0) (py_Y h pa) h h') : ∀ j, h_l h' (h_r h (h_r h pa 1) 2) j = h_l h (h_r h (h_r h pa 1) 2) j := by
  obtain ⟨f1, f2, f3, f4, f5⟩ := pa_fr ok
  refine (F.kp (q := h_r h (h_r h pa 1) 2) ok.2.2.2.2.2.1.2.2.2.1 f3 (f1 11 (by decide)) f5 (fun z => ?_)).2.2
  rcases z with z | z | ⟨i, hi, z⟩
  · exact f2 z
  · exact f4 z
  · exact f1 i (by omega) z
theorem bk_FX {h h' : MH} {pa : Nat} {Y : RYt} (ok : pa_ok h pa) (o' : nl_ok h' (h_r h pa 0)) (F : FX (h_r h pa 0) (py_Y h pa) h h') (z11 : z_i h' pa 11 = z_i h pa 11) (B : bk_of h pa Y) : bk_of h' pa Y := by
  obtain ⟨okp, re, rw_⟩ := pa_FX ok o' F
  have ln : h_r h pa 1 ≠ h_r h pa 0 := fun z => by
    have := ok.2.2.2.2.1.1
    rw [z, ok.2.1.1.1] at this
    omega
  have rl : ∀ k, h_r h' (h_r h pa 1) k = h_r h (h_r h pa 1) k := fun k => (F.2.2 _ ok.2.2.2.2.1.2.2).2.1 k (fun z => ln z.1)
  have kp : ∀ i, i < 59 → 12 ≤ i → ∀ j, z_i h' (pa_w h pa i) j = z_i h (pa_w h pa i) j := fun i h1 h2 j => py_kp ok F h1 h2 j
  have k12 : ∀ j, z_i h' (h_r h pa 3) j = z_i h (h_r h pa 3) j := kp 12 (by decide) (by decide)
  have k13 : ∀ j, z_i h' (h_r h pa 4) j = z_i h (h_r h pa 4) j := kp 13 (by decide) (by decide)
  have k14 : ∀ j, z_i h' (h_r h pa 5) j = z_i h (h_r h pa 5) j := kp 14 (by decide) (by decide)
  have k15 : ∀ j, z_i h' (h_r h pa 6) j = z_i h (h_r h pa 6) j := kp 15 (by decide) (by decide)
  have k16 : ∀ j, z_i h' (h_r h (h_r h pa 1) 0) j = z_i h (h_r h (h_r h pa 1) 0) j := kp 16 (by decide) (by decide)
  have k17 : ∀ j, z_i h' (h_r h (h_r h pa 1) 1) j = z_i h (h_r h (h_r h pa 1) 1) j := kp 17 (by decide) (by decide)
  obtain ⟨⟨⟨p1, p2, p3⟩, p4⟩, b2, b3, b4⟩ := B
  refine ⟨⟨⟨by rw [z11]; exact p1, p2, p3⟩, fun v hv => ⟨fun q hq => ?_, ?_⟩⟩, fun k hk => ?_, fun v hv => ?_, ?_⟩
  · rw [rw_ (18 + v) (by omega) (by omega), kp (18 + v) (by omega) (by omega)]
    exact (p4 v hv).1 q hq
  · rw [re, k12]
    exact (p4 v hv).2
  · rw [re, re, re, k13, k14, k15]
    exact b2 k hk
  · rw [re, rl, rl, k16, k17]
    exact b3 v hv
  · rw [re, rl, funext (py_fr ok F)]
    exact b4
-- WHAT A RUN KEEPS, PURE
def ry_ok (Y : RYt) (k : Nat) : Prop := (ps_sh (ry_s Y) ∧ ∀ u : Nat, u < ry_v Y → hp_in (ry_s Y) (ry_h Y u)) ∧ (ry_v Y = k + 1 ∧ ps_n (ry_s Y) ≤ 378 * k ∧ 0 ≤ ry_t Y ∧ ry_t Y ≤ k) ∧ ∀ u : Nat, u < ry_v Y → (-1 ≤ ry_a Y u ∧ ry_a Y u < u) ∧ (-1 ≤ ry_b Y u ∧ ry_b Y u < u)
theorem ry_ok0 : ry_ok ry_0 0 := ⟨⟨fun v hv => absurd hv (Nat.not_lt_zero v), fun _ _ _ _ => Or.inl rfl⟩, ⟨rfl, Nat.le_refl _, Int.le_refl _, Int.le_refl _⟩, fun u hu => by
  have : u < 1 := hu
  have a : ry_a ry_0 u = -1 := rfl
  have b : ry_b ry_0 u = -1 := rfl
  omega⟩
theorem ry_kpH {Y : RYt} {k : Nat} {w v a : Int} {X : PSt × (Nat → Int) × Int} {u : Nat} (hu : u < ry_v Y) : hp6 (ry_h (ry_kp (ry_z Y) k w v a X) u) (ry_h Y u) := fun r hr => by
  show (if 6 * ry_v Y ≤ 6 * (u : Int).toNat + r ∧ 6 * (u : Int).toNat + r < 6 * ry_v Y + 6 then X.2.1 (6 * (u : Int).toNat + r - 6 * ry_v Y) else ry_r Y (6 * (u : Int).toNat + r)) = ry_r Y (6 * (u : Int).toNat + r)
  rw [if_neg (by omega)]
theorem ry_kpN {Y : RYt} {k : Nat} {w v a : Int} {X : PSt × (Nat → Int) × Int} : hp6 (ry_h (ry_kp (ry_z Y) k w v a X) (ry_v Y)) X.2.1 := fun r hr => by
  show (if 6 * ry_v Y ≤ 6 * (ry_v Y : Int).toNat + r ∧ 6 * (ry_v Y : Int).toNat + r < 6 * ry_v Y + 6 then X.2.1 (6 * (ry_v Y : Int).toNat + r - 6 * ry_v Y) else ry_r Y (6 * (ry_v Y : Int).toNat + r)) = X.2.1 r
  rw [if_pos (by omega), show 6 * (ry_v Y : Int).toNat + r - 6 * ry_v Y = r by omega]
theorem hp_inC {S : PSt} {f g : Nat → Int} (e : hp6 f g) (h : hp_in S g) : hp_in S f := fun r hr => by
  rw [e r hr]
  exact h r hr
theorem p_wsH {f g : Nat → Int} (e : hp6 f g) : p_ws f 6 = p_ws g 6 := p_wsC (f := g) (f' := f) (r := 6) (fun j hj => e j hj)
theorem ry_okS {Y : RYt} {k : Nat} {w v a b : Int} {X : PSt × (Nat → Int) × Int} (O : ry_ok Y k) (e : ry_do (ry_z Y) w v a b = some X) (w0 : w = 0 → v = -1) : ry_ok (ry_kp (ry_z Y) k w v a X) (k + 1) := by
  obtain ⟨⟨o1, o2⟩, ⟨o3, o4, o5, o6⟩, o7⟩ := O
  obtain ⟨⟨x1, x2⟩, ⟨x3, x4⟩, x5⟩ := ry_doI (Y := ry_z Y) o1 o2 e
  have nz : ps_n (ry_s (ry_z Y)) = ps_n (ry_s Y) := rfl
  have tz : ry_t (ry_z Y) = ry_t Y := rfl
  have x3' : ps_ex (ry_s Y) X.1 := x3
  have par : (-1 ≤ (if w = 0 then -1 else v) ∧ (if w = 0 then -1 else v) < (ry_v Y : Int)) ∧ (-1 ≤ (if w = 2 then a else -1) ∧ (if w = 2 then a else -1) < (ry_v Y : Int)) := by
    by_cases c : w = 0
    · rw [if_pos c, if_neg (by omega)]
      omega
    · rw [if_neg c]
      cases is : ry_is (ry_z Y) v with
      | false =>
        rw [ry_doF c is] at e
        cases e
      | true =>
        have iv : 0 ≤ v ∧ v < (ry_v Y : Int) := ry_isV is
        by_cases c2 : w = 2
        · rw [if_pos c2]
          rw [ry_do2 c2 is] at e
          by_cases c3 : ry_is (ry_z Y) a = true ∧ p_ws (ry_h (ry_z Y) v) 6 + p_ws (ry_h (ry_z Y) a) 6 ≤ 63
          · have ia : 0 ≤ a ∧ a < (ry_v Y : Int) := ry_isV c3.1
            omega
          · rw [if_neg c3] at e
            cases e
        · rw [if_neg c2]
          omega
  refine ⟨⟨x1, fun u hu => ?_⟩, ⟨?_, ?_, ?_, ?_⟩, fun u hu => ?_⟩
  · have hu : u < ry_v Y + 1 := hu
    by_cases c : u = ry_v Y
    · rw [c]
      exact hp_inC ry_kpN x2
    · exact hp_inC (ry_kpH (by omega)) (hp_inE x3' (o2 u (by omega)))
  · show ry_v Y + 1 = k + 1 + 1
    omega
  · show ps_n X.1 ≤ _
    omega
  · show 0 ≤ X.2.2
    rcases x5 with z | z <;> omega
  · show X.2.2 ≤ ((k + 1 : Nat) : Int)
    rcases x5 with z | z <;> omega
  · have hu : u < ry_v Y + 1 := hu
    show (-1 ≤ m_u (ry_a Y) (ry_v Y) (if w = 0 then -1 else v) u ∧ m_u (ry_a Y) (ry_v Y) (if w = 0 then -1 else v) u < (u : Int)) ∧ (-1 ≤ m_u (ry_b Y) (ry_v Y) (if w = 2 then a else -1) u ∧ m_u (ry_b Y) (ry_v Y) (if w = 2 then a else -1) u < (u : Int))
    by_cases c : u = ry_v Y
    · rw [c, m_uE, m_uE]
      exact par
    · rw [m_uN _ _ _ _ c, m_uN _ _ _ _ c]
      exact o7 u (by omega)
-- what is paid, told the same of the longer run
theorem cr_kp {Y : RYt} {k : Nat} {w v a : Int} {X : PSt × (Nat → Int) × Int} {u : Int} (h0 : -1 ≤ u) (h1 : u < (ry_v Y : Int)) : cr_of (ry_kp (ry_z Y) k w v a X) u = cr_of Y u := by
  unfold cr_of
  by_cases c : u = -1
  · rw [if_pos c, if_pos c]
  · rw [if_neg c, if_neg c, show u = ((u.toNat : Nat) : Int) by omega, p_wsH (ry_kpH (by omega))]
theorem pd_kp {Y : RYt} {k q : Nat} {w v a : Int} {X : PSt × (Nat → Int) × Int} (O : ry_ok Y k) (hq : q < k) : ry_pd (ry_kp (ry_z Y) k w v a X) q = ry_pd Y q := by
  obtain ⟨-, ⟨o3, -⟩, o7⟩ := O
  obtain ⟨⟨a0, a1⟩, b0, b1⟩ := o7 (q + 1) (by omega)
  unfold ry_pd
  have e1 : ry_l (ry_kp (ry_z Y) k w v a X) q = ry_l Y q := m_uN _ _ _ _ (by omega)
  have e2 : ry_a (ry_kp (ry_z Y) k w v a X) (q + 1) = ry_a Y (q + 1) := m_uN _ _ _ _ (show q + 1 ≠ ry_v Y by omega)
  have e3 : ry_b (ry_kp (ry_z Y) k w v a X) (q + 1) = ry_b Y (q + 1) := m_uN _ _ _ _ (show q + 1 ≠ ry_v Y by omega)
  rw [e1, e2, e3, cr_kp a0 (by omega), cr_kp b0 (by omega), p_wsH (ry_kpH (Y := Y) (u := q + 1) (by omega))]
