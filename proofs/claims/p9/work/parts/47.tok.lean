-- tokens: what they hang on
def c_dep (t : Nat) : List (Nat × Nat) := match t with
  | 1 => [(39, 0), (39, 1), (39, 5), (39, 1002), (48, 0), (48, 1), (48, 5), (48, 1002)]
  | 2 => [(0, 1001), (0, 1002), (6, 0), (6, 1), (6, 2), (6, 7), (6, 1002), (8, 1001), (9, 1001), (25, 0), (25, 1002), (29, 0), (39, 1), (39, 1002), (47, 0), (48, 1), (48, 1002), (1000, 1002)]
  | 3 => [(49, 17), (49, 22), (49, 23), (49, 1002), (59, 1001), (59, 1002), (60, 1001), (60, 1002)]
  | 4 => [(49, 17), (49, 22), (49, 23), (49, 24), (49, 1002), (59, 1001), (59, 1002), (60, 1001), (60, 1002), (61, 1001), (61, 1002)]
  | 5 => [(49, 17), (49, 22), (49, 23), (49, 25), (49, 1002), (59, 1001), (59, 1002), (60, 1001), (60, 1002), (62, 1001), (62, 1002)]
  | 6 => [(49, 17), (49, 22), (49, 23), (49, 35), (49, 36), (49, 1002), (59, 1001), (59, 1002), (60, 1001), (60, 1002), (71, 1001), (71, 1002)]
  | 7 => [(49, 6), (49, 1002), (55, 1001), (55, 1002)]
  | 8 => [(49, 39), (49, 40), (49, 1002), (74, 1001), (74, 1002), (75, 1001), (75, 1002)]
  | 9 => [(49, 17), (49, 22), (49, 26), (49, 27), (49, 28), (49, 29), (49, 1002), (59, 1001), (59, 1002), (63, 1001), (63, 1002), (64, 1001), (64, 1002), (65, 1001), (65, 1002)]
  | 10 => [(6, 1), (6, 1002), (8, 1001), (8, 1002), (49, 67), (49, 1002), (96, 1001), (96, 1002)]
  | 11 => [(6, 0), (6, 1), (6, 1002), (7, 2), (7, 1002), (8, 1001), (8, 1002), (49, 2), (49, 1002), (51, 1001), (51, 1002), (97, 2), (97, 1002)]
  | 12 => [(6, 0), (6, 1), (6, 1002), (7, 0), (7, 1), (7, 2), (7, 3), (7, 4), (7, 5), (8, 1001), (8, 1002), (10, 1001), (10, 1002), (12, 0), (12, 1), (12, 2), (13, 1001), (13, 1002), (14, 1001), (14, 1002), (15, 1001), (15, 1002), (49, 1), (49, 2), (49, 3), (49, 4), (49, 5), (49, 6), (49, 1002), (50, 1001), (50, 1002), (51, 1001), (51, 1002), (52, 1001), (52, 1002), (53, 1001), (53, 1002), (54, 1001), (54, 1002), (55, 1001), (55, 1002), (97, 0), (97, 1), (97, 2), (97, 3), (97, 4), (97, 5), (98, 1001), (98, 1002), (99, 1001), (99, 1002), (100, 0), (100, 1), (100, 2), (101, 1001), (101, 1002), (102, 1001), (102, 1002)]
  | 13 => [(6, 0), (6, 1), (6, 1002), (7, 0), (7, 1), (8, 1001), (8, 1002), (10, 1001), (10, 1002), (12, 0), (12, 1), (97, 0), (97, 1), (98, 1001), (98, 1002), (100, 0), (100, 1)]
  | 14 => [(1, 1001), (1, 1002), (2, 1001), (2, 1002), (3, 1001), (3, 1002)]
  | 15 => [(6, 0), (6, 1), (6, 2), (6, 1002), (7, 0), (7, 1), (7, 5), (8, 1001), (8, 1002), (9, 1001), (9, 1002), (10, 1001), (10, 1002), (12, 0), (12, 1), (12, 2), (14, 1001), (14, 1002), (15, 1001), (15, 1002), (16, 0), (16, 1), (16, 2), (16, 3), (16, 4), (16, 5), (16, 6), (29, 0), (29, 1), (29, 2), (29, 3), (29, 4), (29, 5), (29, 6), (29, 7), (29, 8), (29, 11), (29, 12), (30, 1001), (30, 1002), (31, 1001), (31, 1002), (32, 1001), (32, 1002), (33, 1001), (33, 1002), (34, 1001), (34, 1002), (35, 1001), (35, 1002), (39, 0), (39, 1), (39, 2), (39, 3), (39, 4), (39, 5), (39, 6), (40, 1001), (40, 1002), (41, 1001), (41, 1002), (42, 0), (42, 1), (42, 2), (43, 1001), (43, 1002), (44, 1001), (44, 1002), (45, 1001), (45, 1002), (97, 0), (97, 1), (97, 5), (98, 1001), (98, 1002), (100, 0), (100, 1), (100, 2), (101, 1001), (101, 1002), (102, 1001), (102, 1002)]
  | _ => []
-- TOKENS: what the heap is known for, by number
-- the reference's nodes
def v_n (h : MH) (m : Nat) : Int := (h_i h m 17).toInt
def v_vs (h : MH) (m : Nat) : Int := (h_i h m 35).toInt
def v_rk (h : MH) (m v : Nat) : Int := (h_i h (h_r h m 22) v).toInt
def v_bl (h : MH) (m j : Nat) : Int := (h_i h (h_r h m 23) j).toInt
def v_hp (h : MH) (m r : Nat) : Int := (h_i h (h_r h m 24) r).toInt
def v_sc (h : MH) (m r : Nat) : Int := (h_i h (h_r h m 25) r).toInt
def v_ro (h : MH) (m j : Nat) : Int := (h_i h (h_r h m 36) j).toInt
def v_rw (h : MH) (m j : Nat) : Int := (h_i h (h_r h m 6) j).toInt
def v_pa (h : MH) (m j : Nat) : Int := (h_i h (h_r h m 39) j).toInt
def v_pb (h : MH) (m j : Nat) : Int := (h_i h (h_r h m 40) j).toInt
-- (a rank's tree: its nodes below it are earlier ones, of each lesser rank one)
def p_sh (n : Int) (rk bl : Nat → Int) : Prop := ∀ v : Nat, (v : Int) < n → (0 ≤ rk v ∧ rk v ≤ 6) ∧ ∀ r : Nat, (r : Int) < rk v → 0 ≤ bl (6 * v + r) ∧ bl (6 * v + r) < n ∧ rk (bl (6 * v + r)).toNat = r
def p_rt (n : Int) (rk : Nat → Int) (x : Int) (r : Nat) : Prop := x = -1 ∨ (0 ≤ x ∧ x < n ∧ rk x.toNat = r)
def p_hp (n : Int) (rk hp : Nat → Int) : Prop := ∀ r, r < 6 → p_rt n rk (hp r) r
def p_ro (n vs : Int) (rk ro : Nat → Int) : Prop := ∀ w r : Nat, (w : Int) < vs → r < 6 → p_rt n rk (ro (6 * w + r)) r
def p_rw (rw : Nat → Int) : Prop := ∀ q, q < 16 → 0 ≤ rw (161 * q) ∧ rw (161 * q) ≤ 40
-- the class's room: slots of pasts, images, the table
def r_P (h : MH) : Nat := h_r h 16 2
def r_I (h : MH) : Nat := h_r h 16 1
def r_S (h : MH) : Nat := h_r h 16 7
def r_sl (h : MH) (k : Nat) : Nat := h_r h (r_P h) k
def r_im (h : MH) (k : Nat) : Nat := h_r h (r_I h) k
def r_no (h : MH) (k : Nat) : Nat := h_r h (r_sl h k) 0
def r_ho (h : MH) (k : Nat) : Nat := h_r h (r_no h k) 1
def r_L (h : MH) (k : Nat) : Nat := (h_k h (r_ho h k)).2
def r_T (h : MH) : Nat := (h_k h (h_r h (r_S h) 0)).2
def r_pn (h : MH) (k : Nat) : Nat := if r_sl h k = 0 then 0 else 100 + r_L h k
def r_pz (h : MH) (k : Nat) : Nat := if r_sl h k = 0 then 0 else 4000 + 16 * r_L h k
def r_qn (h : MH) (k : Nat) : Nat := if r_im h k = 0 then 0 else 20
def r_qz (h : MH) (k : Nat) : Nat := if r_im h k = 0 then 0 else 1400
def r_iu (ρ : Nat → Nat) (h : MH) (a R : Nat) : Prop := a < 16 + h_n h ∧ (ρ a = R ∨ ρ a = 0)
def r_iu2 (ρ : Nat → Nat) (h : MH) (a R R2 : Nat) : Prop := a < 16 + h_n h ∧ (ρ a = R ∨ ρ a = R2 ∨ ρ a = 0)
-- what a table's doublings have cost
def r_tz (n : Nat) : Nat := 2 * 2 ^ Nat.log2 n
def t_rm (ρ : Nat → Nat) (h : MH) : Prop := (r_iu ρ h 16 6 ∧ r_iu ρ h (r_P h) 9 ∧ r_iu ρ h (r_I h) 8 ∧ r_iu ρ h (r_S h) 25 ∧ h_r h (r_S h) 0 < 16 + h_n h ∧ (∀ a, ρ a = 6 → a = 16) ∧ ∀ a, ρ a = 25 → a = r_S h) ∧ (∀ k, k < 4 → r_sl h k = 0 ∨ (r_iu2 ρ h (r_sl h k) 29 47 ∧ r_iu2 ρ h (r_no h k) 39 48 ∧ r_ho h k < 16 + h_n h)) ∧ (∀ a, ρ a = 39 ∨ ρ a = 48 → ∃ k, k < 4 ∧ r_sl h k ≠ 0 ∧ a = r_no h k) ∧ h_n h ≤ 1000 + (r_pn h 0 + (r_pn h 1 + (r_pn h 2 + r_pn h 3))) + (r_qn h 0 + (r_qn h 1 + r_qn h 2)) + r_T h ∧ h_z h ≤ 400000 + (r_pz h 0 + (r_pz h 1 + (r_pz h 2 + r_pz h 3))) + (r_qz h 0 + (r_qz h 1 + r_qz h 2)) + r_tz (r_T h)
def t_nd (ρ : Nat → Nat) (h : MH) : Prop := ∀ a, (ρ a = 39 ∨ ρ a = 48) → 7 * (h_k h (h_r h a 1)).2 = (h_k h (h_r h a 0)).2 ∧ (h_i h a 5).toInt ≤ (h_k h (h_r h a 1)).2
-- what the walk leaves: its nodes, each behind what it hangs on
def w_X (n : Int) (rk At Up D : Nat → Int) (w : Nat) : Prop := ∀ i, i < w → (0 ≤ At i ∧ At i < n ∧ rk (At i).toNat ≤ 5) ∧ ((Up i = -1 ∧ D i = 0) ∨ (0 ≤ Up i ∧ Up i < i ∧ D i = D (Up i).toNat + 1))
def v_wd (h : MH) (m : Nat) : Int := (h_i h m 26).toInt
def v_at (h : MH) (m j : Nat) : Int := (h_i h (h_r h m 27) j).toInt
def v_dp (h : MH) (m j : Nat) : Int := (h_i h (h_r h m 28) j).toInt
def v_up (h : MH) (m j : Nat) : Int := (h_i h (h_r h m 29) j).toInt
def v_ke (h : MH) (m j : Nat) : Int := (h_i h (h_r h m 67) j).toInt
-- there is one reference
def t_um (ρ : Nat → Nat) : Prop := ∀ m m' : Nat, ρ m = 49 → ρ m' = 49 → m = m'
-- an image is there just where the reference keeps one
def t_ik (ρ : Nat → Nat) (h : MH) : Prop := ρ 16 = 6 ∧ t_um ρ ∧ ∀ m, ρ m = 49 → ∀ k, k < 3 → (r_im h k = 0 ↔ v_ke h m k = 0)
-- how much of the tape is used: the class's, the reference's
def u_now (h : MH) : Int := (h_i h (h_r h 16 0) 2).toInt
def u_im (h : MH) (k : Nat) : Int := (h_i h (r_im h k) 2).toInt
def v_sz (h : MH) (m j : Nat) : Int := (h_i h (h_r h m 2) j).toInt
def im_ne (h : MH) : Prop := ∀ j k, j < 3 → k < 3 → j ≠ k → r_im h j ≠ 0 → r_im h j ≠ r_im h k
def us_ok (h : MH) (m : Nat) : Prop := u_now h = v_sz h m 0 ∧ ∀ k, k < 3 → r_im h k ≠ 0 → u_im h k = v_sz h m (k + 1)
def t_us (ρ : Nat → Nat) (h : MH) : Prop := ρ 16 = 6 ∧ t_um ρ ∧ im_ne h ∧ ∀ m, ρ m = 49 → us_ok h m
-- WHAT IS TOLD: the class's objects, the reference's rows (tokens 12, 13)
def q_tp (h : MH) (a j : Nat) : Int := (h_i h (h_r h a 0) j).toInt
def q_ac (h : MH) (a r : Nat) : Nat := h_r h (h_r h a 1) r
def q_fd (h : MH) (a K : Nat) : Int := (h_i h a K).toInt
def q_kd (h : MH) (c k : Nat) : Int := (h_i h (h_r h c 0) k).toInt
def q_nm (h : MH) (c k : Nat) : Int := (h_i h (h_r h c 1) k).toInt
def q_vm (h : MH) (m K : Nat) (j : Nat) : Int := (h_i h (h_r h m K) j).toInt
def ac_rel (h : MH) (c : Nat) (U : Nat → Int) (b : Nat) : Prop := q_fd h c 2 = U b ∧ ∀ k : Nat, (k : Int) < q_fd h c 2 → q_kd h c k = U (b + 1 + 4 * k) ∧ ∀ i, i < 3 → q_nm h c (3 * k + i) = U (b + 2 + 4 * k + i)
def td_rel (h : MH) (a m s : Nat) : Prop := (q_fd h a 2 = q_vm h m 2 s ∧ q_fd h a 3 = q_vm h m 3 s ∧ q_fd h a 4 = q_vm h m 4 s ∧ q_fd h a 5 = q_vm h m 5 s) ∧ (∀ j : Nat, (j : Int) < q_fd h a 2 → q_tp h a j = q_vm h m 1 (600 * s + j)) ∧ ∀ r : Nat, (r : Int) < q_fd h a 5 → ac_rel h (q_ac h a r) (q_vm h m 6) (644 * s + 161 * r)
def t_rt (ρ : Nat → Nat) (h : MH) : Prop := ρ 16 = 6 ∧ t_um ρ ∧ ∀ m, ρ m = 49 → td_rel h (h_r h 16 0) m 0 ∧ ∀ k, k < 3 → r_im h k ≠ 0 → td_rel h (r_im h k) m (k + 1)
-- rows of acts, apart
def ow_ne (h : MH) (a b : Nat) : Prop := ∀ r s, r < 4 → s < 4 → (a ≠ b ∨ r ≠ s) → q_ac h a r ≠ q_ac h b s ∧ h_r h (q_ac h a r) 0 ≠ h_r h (q_ac h b s) 0 ∧ h_r h (q_ac h a r) 1 ≠ h_r h (q_ac h b s) 1
def t_ow (ρ : Nat → Nat) (h : MH) : Prop := ρ 16 = 6 ∧ ow_ne h (h_r h 16 0) (h_r h 16 0) ∧ ∀ j k, j < 3 → k < 3 → r_im h j ≠ 0 → r_im h k ≠ 0 → ow_ne h (r_im h j) (r_im h k) ∧ (j ≠ k → r_im h j ≠ r_im h k ∧ h_r h (r_im h j) 0 ≠ h_r h (r_im h k) 0)
def rd_nm (k : Nat) : List Int := match k with
  | 0 => [110, 101, 119]
  | 1 => [112, 117, 116]
  | 2 => [109, 101, 108, 100]
  | 3 => [108, 101, 115, 115]
  | 4 => [108, 111, 119, 101, 114]
  | 5 => [99, 117, 116]
  | _ => []
def nm_ok (h : MH) (o v : Nat) (l : List Int) : Prop := (h_k h o).1 = 40 ∧ h_r h o 0 = v ∧ h_i h o 1 = 0 ∧ h_k h v = (21, l.length) ∧ l.length ≤ 5 ∧ ∀ i, i < l.length → (h_i h v i).toInt = l.getD i 0 ∧ 0 ≤ l.getD i 0 ∧ l.getD i 0 ≤ 127
def sb_ok (h : MH) : Prop := ∀ k, k < 6 → nm_ok h (2 + k) (8 + k) (rd_nm k)
def lm_at (j : Nat) : Int := [-1, -1, -1, 40, 99, -1, 40, 40, -1, 40, -1, -1, 40, 39, 99, 40, 99, -1].getD j 0
def lim_ok (h : MH) : Prop := h_k h 1 = (20, 18) ∧ ∀ j, j < 18 → (h_i h 1 j).toInt = lm_at j
-- strings and limits, as they stand
def t_sb (ρ : Nat → Nat) (h : MH) : Prop := (∀ k, k < 6 → ρ (2 + k) = 2 ∧ ρ (8 + k) = 3) ∧ ρ 1 = 1 ∧ sb_ok h ∧ lim_ok h
-- THE CLASS'S PASTS (token 15): they stand apart; a row's past is the run of its acts; acts are in their limits
def ac_T (h : MH) (c : Nat) (j : Nat) : Int := if j % 4 = 0 then q_kd h c (j / 4) else q_nm h c (3 * (j / 4) + (j % 4 - 1))
def ac_N (h : MH) (c : Nat) : Nat := (q_fd h c 2).toNat
def ac_Y (h : MH) (c : Nat) : RYt := (ry_run (ac_T h c) (ac_N h c)).1
def av_c (h : MH) (c : Nat) : Prop := ∀ k : Nat, (k : Int) < q_fd h c 2 → av_2 (ac_T h c) k
def av_t (h : MH) (a : Nat) : Prop := ∀ r : Nat, (r : Int) < q_fd h a 5 → av_c h (q_ac h a r)
def z_i (h : MH) (a j : Nat) : Int := (h_i h a j).toInt
def cs_of (h0 : MH) (H : Nat → Nat → Int) (nd : Nat) (S : PSt) : Prop := H nd 5 = (ps_n S : Int) ∧ H nd 6 = ps_l S ∧ (0 ≤ ps_l S ∧ ps_l S ≤ (ps_n S : Int)) ∧ ps_n S ≤ 16000 ∧ ∀ v : Nat, v < ps_n S → H (h_r h0 nd 0) (7 * v) = 128 * ps_y S v + ps_t S v ∧ (0 ≤ ps_t S v ∧ ps_t S v ≤ 127) ∧ (0 ≤ ps_y S v ∧ ps_y S v ≤ 99) ∧ H (h_r h0 nd 0) (7 * v + 1) = ps_k S v ∧ (0 ≤ ps_k S v ∧ ps_k S v ≤ 5) ∧ ∀ r : Nat, (r : Int) < ps_k S v → H (h_r h0 nd 0) (7 * v + 2 + ((ps_k S v).toNat - 1 - r)) = ps_b S (6 * v + r)
-- who holds a node: versions, one after the other, each over its walk
def hd_w (O : WKt) (x : Int64) : Nat → (Nat → Int64) → Nat → Int64
  | 0, L => L
  | i + 1, L => fun j => if j = (O.2.1 i).toNat then hd_w O x i L j ||| x else hd_w O x i L j
def hd_n (S : PSt) (f : Int → Nat → Int) (L : Nat → Int64) : Nat → Nat → Int64
  | 0 => L
  | u + 1 => hd_w (wk_all S (f (u : Int))) (bt (u : Int)) (wk_all S (f (u : Int))).1 (hd_n S f L u)
def hd_Y (Y : RYt) : Nat → Int64 := hd_n (ry_s Y) (ry_h Y) (fun _ => Int64.ofNat (0 : Fin 2).val) (ry_v Y)
def hd_0 (h : MH) (pa : Nat) (Y : RYt) : Prop := ∀ j : Nat, j < ps_n (ry_s Y) → h_l h (h_r h (h_r h pa 0) 1) j = hd_Y Y j
-- of a past its nodes, things, roots
def pn_0 (h : MH) (pa : Nat) (Y : RYt) : Prop := (∃ l, cs_of h (z_i h) (h_r h pa 0) (ps_le (ry_s Y) l)) ∧ z_i h pa 12 = ry_t Y ∧ ∀ v : Nat, v < ry_v Y → ∀ r, r < 6 → z_i h (pa_w h pa (18 + v)) r = ry_h Y (v : Int) r
def bk_0 (h : MH) (pa : Nat) (Y : RYt) : Prop := ((h_i h pa 11).toInt + 1 = (ry_v Y : Int) ∧ 1 ≤ ry_v Y ∧ ry_v Y ≤ 41) ∧ (∀ v : Nat, v < ry_v Y → (h_i h (pa_w h pa 12) v).toInt = (p_ws (ry_h Y v) 6 : Int)) ∧ (∀ k : Nat, k + 1 < ry_v Y → (h_i h (pa_w h pa 13) k).toInt = ry_m Y k ∧ (h_i h (pa_w h pa 14) k).toInt = ry_l Y k ∧ (h_i h (pa_w h pa 15) k).toInt = ry_pd Y k) ∧ (∀ v : Nat, v < ry_v Y → (h_i h (pa_w h pa 16) v).toInt = ry_a Y v ∧ (h_i h (pa_w h pa 17) v).toInt = ry_b Y v) ∧ (fro_of (h_l h (h_r h (h_r h pa 1) 2)) Y ∧ hd_0 h pa Y) ∧ pn_0 h pa Y
def pl_o (h : MH) (pa : Nat) : Prop := ∀ i j, i < 59 → j < 59 → i ≠ 11 → j ≠ 11 → i ≠ j → pa_w h pa i ≠ pa_w h pa j
def pl_x (h : MH) (pa pb : Nat) : Prop := pa ≠ pb ∧ h_r h pa 0 ≠ h_r h pb 0 ∧ h_r h (h_r h pa 0) 4 ≠ h_r h (h_r h pb 0) 4 ∧ h_r h (h_r h pa 1) 2 ≠ h_r h (h_r h pb 1) 2 ∧ (∀ i j, i < 59 → j < 59 → i ≠ 11 → j ≠ 11 → pa_w h pa i ≠ pa_w h pb j) ∧ h_r h (h_r h pa 0) 0 ≠ h_r h (h_r h pb 0) 0 ∧ h_r h (h_r h pa 0) 1 ≠ h_r h (h_r h pb 0) 1
def pl_t (h : MH) : Prop := ∀ k, k < 4 → r_sl h k ≠ 0 → pl_o h (r_sl h k) ∧ ∀ j, j < 4 → j ≠ k → r_sl h j ≠ 0 → pl_x h (r_sl h k) (r_sl h j)
def pb_t (h : MH) : Prop := ∀ r : Nat, (r : Int) < q_fd h (h_r h 16 0) 5 → r_sl h r ≠ 0 ∧ bk_0 h (r_sl h r) (ac_Y h (q_ac h (h_r h 16 0) r))
def t_pk (ρ : Nat → Nat) (h : MH) : Prop := ρ 16 = 6 ∧ pl_t h ∧ pb_t h ∧ av_t h (h_r h 16 0) ∧ ∀ k, k < 3 → r_im h k ≠ 0 → av_t h (r_im h k)
def c_PT (t : Nat) (ρ : Nat → Nat) (h : MH) : Prop := match t with
  | 1 => t_nd ρ h
  | 2 => t_rm ρ h
  | 3 => t_um ρ ∧ ∀ m, ρ m = 49 → p_sh (v_n h m) (v_rk h m) (v_bl h m)
  | 4 => t_um ρ ∧ ∀ m, ρ m = 49 → p_hp (v_n h m) (v_rk h m) (v_hp h m)
  | 5 => t_um ρ ∧ ∀ m, ρ m = 49 → p_hp (v_n h m) (v_rk h m) (v_sc h m)
  | 6 => t_um ρ ∧ ∀ m, ρ m = 49 → p_ro (v_n h m) (v_vs h m) (v_rk h m) (v_ro h m)
  | 7 => t_um ρ ∧ ∀ m, ρ m = 49 → p_rw (v_rw h m)
  | 8 => t_um ρ ∧ ∀ m, ρ m = 49 → v_pa h m 0 = -1 ∧ v_pb h m 0 = -1
  | 9 => t_um ρ ∧ ∀ m, ρ m = 49 → w_X (v_n h m) (v_rk h m) (v_at h m) (v_up h m) (v_dp h m) (v_wd h m).toNat
  | 10 => t_ik ρ h
  | 11 => t_us ρ h
  | 12 => t_rt ρ h
  | 13 => t_ow ρ h
  | 14 => t_sb ρ h
  | 15 => t_pk ρ h
  | _ => True
-- frames keep them
section
variable {ρ ρ' : Nat → Nat} {W : List (Nat × Nat)} {h h' : MH}
theorem fq_m {D : List (Nat × Nat)} {R m : Nat} (f : FQ ρ ρ' W h h') (ht : TH c_sp ρ h) (hn : d_no D W = true) (hR : R ≠ 0) (hd : (R, 1002) ∈ D) (hm : ρ' m = R) : ρ m = R ∧ m < 16 + h_n h := by
  by_cases h0 : ρ m = 0
  · have := (f.2.2.1 m h0 (by rw [hm]; exact hR)).2
    rw [hm] at this
    exact absurd this (d_noN hn hd)
  · have := f.2.1 m h0
    exact ⟨this.symm.trans hm, (ht.2 m h0).1⟩
-- one field, one row's element, as they were
theorem fq_f {D : List (Nat × Nat)} {R m k : Nat} (f : FQ ρ ρ' W h h') (hn : d_no D W = true) (hd : (R, k) ∈ D) (hk : k ≠ 1002) (hm : ρ m = R) (hl : m < 16 + h_n h) : h_i h' m k = h_i h m k ∧ h_r h' m k = h_r h m k := by
  have := (f.2.2.2 m hl).2 k (by rw [hm]; exact d_noW hn hd hk)
  exact ⟨this.1, this.2.2⟩
theorem fq_e {D : List (Nat × Nat)} {R m : Nat} (k : Nat) (f : FQ ρ ρ' W h h') (hn : d_no D W = true) (hd : (R, 1001) ∈ D) (hd2 : (R, 1002) ∈ D) (hm : ρ m = R) (hl : m < 16 + h_n h) : h_i h' m k = h_i h m k ∧ h_r h' m k = h_r h m k := by
  have hw : ¬ t_W W (ρ m) k := by
    rw [hm]
    by_cases hk : k = 1002
    · intro z
      rcases z with z | z
      · rw [hk] at z
        exact d_noN hn hd2 z
      · exact d_noW hn hd (by decide) (Or.inr z)
    · rcases d_noE (k := k) hn hd with z | z
      · exact z
      · exact absurd z hk
  have := (f.2.2.2 m hl).2 k hw
  exact ⟨this.1, this.2.2⟩
end
-- a reference field's target
theorem th_rf {ρ : Nat → Nat} {h : MH} {R m k R2 : Nat} {rs : RS} (ht : TH c_sp ρ h) (hR : R ≠ 0) (hsp : c_sp[R]? = some rs) (hm : ρ m = R) (hf : r_ft rs k = some (.inr (.inr (R2, true)))) (hk : rs.2.2.1 = true → k < (h_k h m).2) : h_r h m k ≠ 0 ∧ ρ (h_r h m k) = R2 := t_nn ((t_spec ht hR hsp hm).2.2.2 k _ hf hk)
theorem fq_arr {ρ ρ' : Nat → Nat} {W D : List (Nat × Nat)} {h h' : MH} {R m k R2 : Nat} {rs : RS} (f : FQ ρ ρ' W h h') (ht : TH c_sp ρ h) (hn : d_no D W = true) (hR : R ≠ 0) (hsp : c_sp[R]? = some rs) (hf : r_ft rs k = some (.inr (.inr (R2, true)))) (hna : rs.2.2.1 = false) (d1 : (R, k) ∈ D) (hk : k ≠ 1002) (d2 : (R2, 1001) ∈ D) (d3 : (R2, 1002) ∈ D) (hR2 : R2 ≠ 0) (hm : ρ m = R) (hl : m < 16 + h_n h) (j : Nat) : h_i h' (h_r h' m k) j = h_i h (h_r h m k) j := by
  obtain ⟨-, hr⟩ := th_rf ht hR hsp hm hf (fun z => by rw [hna] at z; cases z)
  rw [(fq_f f hn d1 hk hm hl).2]
  exact (fq_e j f hn d2 d3 hr (ht.2 _ (by rw [hr]; exact hR2)).1).1
theorem c_PT3 {ρ ρ' : Nat → Nat} {W : List (Nat × Nat)} {h h' : MH} (ht : TH c_sp ρ h) (f : FQ ρ ρ' W h h') (hn : d_no (c_dep 3) W = true) (k : c_PT 3 ρ h) : c_PT 3 ρ' h' := ⟨fun m m' e e' => k.1 m m' (fq_m f ht hn (by decide) (show (49, 1002) ∈ c_dep 3 by decide) e).1 (fq_m f ht hn (by decide) (show (49, 1002) ∈ c_dep 3 by decide) e').1, fun m hm' => by
  obtain ⟨hm, hl⟩ := fq_m f ht hn (by decide) (show (49, 1002) ∈ c_dep 3 by decide) hm'
  have k := k.2 m hm
  have e_n : v_n h' m = v_n h m := congrArg Int32.toInt (fq_f f hn (show (49, 17) ∈ c_dep 3 by decide) (by decide) hm hl).1
  have e_rk : v_rk h' m = v_rk h m := funext (fun j => congrArg Int32.toInt (fq_arr f ht hn (by decide) rfl rfl rfl (show (49, 22) ∈ c_dep 3 by decide) (by decide) (show (59, 1001) ∈ c_dep 3 by decide) (show (59, 1002) ∈ c_dep 3 by decide) (by decide) hm hl j))
  have e_bl : v_bl h' m = v_bl h m := funext (fun j => congrArg Int32.toInt (fq_arr f ht hn (by decide) rfl rfl rfl (show (49, 23) ∈ c_dep 3 by decide) (by decide) (show (60, 1001) ∈ c_dep 3 by decide) (show (60, 1002) ∈ c_dep 3 by decide) (by decide) hm hl j))
  rw [e_n, e_rk, e_bl]
  exact k⟩
theorem c_PT4 {ρ ρ' : Nat → Nat} {W : List (Nat × Nat)} {h h' : MH} (ht : TH c_sp ρ h) (f : FQ ρ ρ' W h h') (hn : d_no (c_dep 4) W = true) (k : c_PT 4 ρ h) : c_PT 4 ρ' h' := ⟨fun m m' e e' => k.1 m m' (fq_m f ht hn (by decide) (show (49, 1002) ∈ c_dep 4 by decide) e).1 (fq_m f ht hn (by decide) (show (49, 1002) ∈ c_dep 4 by decide) e').1, fun m hm' => by
  obtain ⟨hm, hl⟩ := fq_m f ht hn (by decide) (show (49, 1002) ∈ c_dep 4 by decide) hm'
  have k := k.2 m hm
  have e_n : v_n h' m = v_n h m := congrArg Int32.toInt (fq_f f hn (show (49, 17) ∈ c_dep 4 by decide) (by decide) hm hl).1
  have e_rk : v_rk h' m = v_rk h m := funext (fun j => congrArg Int32.toInt (fq_arr f ht hn (by decide) rfl rfl rfl (show (49, 22) ∈ c_dep 4 by decide) (by decide) (show (59, 1001) ∈ c_dep 4 by decide) (show (59, 1002) ∈ c_dep 4 by decide) (by decide) hm hl j))
  have e_hp : v_hp h' m = v_hp h m := funext (fun j => congrArg Int32.toInt (fq_arr f ht hn (by decide) rfl rfl rfl (show (49, 24) ∈ c_dep 4 by decide) (by decide) (show (61, 1001) ∈ c_dep 4 by decide) (show (61, 1002) ∈ c_dep 4 by decide) (by decide) hm hl j))
  rw [e_n, e_rk, e_hp]
  exact k⟩
theorem c_PT5 {ρ ρ' : Nat → Nat} {W : List (Nat × Nat)} {h h' : MH} (ht : TH c_sp ρ h) (f : FQ ρ ρ' W h h') (hn : d_no (c_dep 5) W = true) (k : c_PT 5 ρ h) : c_PT 5 ρ' h' := ⟨fun m m' e e' => k.1 m m' (fq_m f ht hn (by decide) (show (49, 1002) ∈ c_dep 5 by decide) e).1 (fq_m f ht hn (by decide) (show (49, 1002) ∈ c_dep 5 by decide) e').1, fun m hm' => by
  obtain ⟨hm, hl⟩ := fq_m f ht hn (by decide) (show (49, 1002) ∈ c_dep 5 by decide) hm'
  have k := k.2 m hm
  have e_n : v_n h' m = v_n h m := congrArg Int32.toInt (fq_f f hn (show (49, 17) ∈ c_dep 5 by decide) (by decide) hm hl).1
  have e_rk : v_rk h' m = v_rk h m := funext (fun j => congrArg Int32.toInt (fq_arr f ht hn (by decide) rfl rfl rfl (show (49, 22) ∈ c_dep 5 by decide) (by decide) (show (59, 1001) ∈ c_dep 5 by decide) (show (59, 1002) ∈ c_dep 5 by decide) (by decide) hm hl j))
  have e_sc : v_sc h' m = v_sc h m := funext (fun j => congrArg Int32.toInt (fq_arr f ht hn (by decide) rfl rfl rfl (show (49, 25) ∈ c_dep 5 by decide) (by decide) (show (62, 1001) ∈ c_dep 5 by decide) (show (62, 1002) ∈ c_dep 5 by decide) (by decide) hm hl j))
  rw [e_n, e_rk, e_sc]
  exact k⟩
theorem c_PT6 {ρ ρ' : Nat → Nat} {W : List (Nat × Nat)} {h h' : MH} (ht : TH c_sp ρ h) (f : FQ ρ ρ' W h h') (hn : d_no (c_dep 6) W = true) (k : c_PT 6 ρ h) : c_PT 6 ρ' h' := ⟨fun m m' e e' => k.1 m m' (fq_m f ht hn (by decide) (show (49, 1002) ∈ c_dep 6 by decide) e).1 (fq_m f ht hn (by decide) (show (49, 1002) ∈ c_dep 6 by decide) e').1, fun m hm' => by
  obtain ⟨hm, hl⟩ := fq_m f ht hn (by decide) (show (49, 1002) ∈ c_dep 6 by decide) hm'
  have k := k.2 m hm
  have e_n : v_n h' m = v_n h m := congrArg Int32.toInt (fq_f f hn (show (49, 17) ∈ c_dep 6 by decide) (by decide) hm hl).1
  have e_vs : v_vs h' m = v_vs h m := congrArg Int32.toInt (fq_f f hn (show (49, 35) ∈ c_dep 6 by decide) (by decide) hm hl).1
  have e_rk : v_rk h' m = v_rk h m := funext (fun j => congrArg Int32.toInt (fq_arr f ht hn (by decide) rfl rfl rfl (show (49, 22) ∈ c_dep 6 by decide) (by decide) (show (59, 1001) ∈ c_dep 6 by decide) (show (59, 1002) ∈ c_dep 6 by decide) (by decide) hm hl j))
  have e_ro : v_ro h' m = v_ro h m := funext (fun j => congrArg Int32.toInt (fq_arr f ht hn (by decide) rfl rfl rfl (show (49, 36) ∈ c_dep 6 by decide) (by decide) (show (71, 1001) ∈ c_dep 6 by decide) (show (71, 1002) ∈ c_dep 6 by decide) (by decide) hm hl j))
  rw [e_n, e_vs, e_rk, e_ro]
  exact k⟩
theorem c_PT7 {ρ ρ' : Nat → Nat} {W : List (Nat × Nat)} {h h' : MH} (ht : TH c_sp ρ h) (f : FQ ρ ρ' W h h') (hn : d_no (c_dep 7) W = true) (k : c_PT 7 ρ h) : c_PT 7 ρ' h' := ⟨fun m m' e e' => k.1 m m' (fq_m f ht hn (by decide) (show (49, 1002) ∈ c_dep 7 by decide) e).1 (fq_m f ht hn (by decide) (show (49, 1002) ∈ c_dep 7 by decide) e').1, fun m hm' => by
  obtain ⟨hm, hl⟩ := fq_m f ht hn (by decide) (show (49, 1002) ∈ c_dep 7 by decide) hm'
  have k := k.2 m hm
  have e_rw : v_rw h' m = v_rw h m := funext (fun j => congrArg Int32.toInt (fq_arr f ht hn (by decide) rfl rfl rfl (show (49, 6) ∈ c_dep 7 by decide) (by decide) (show (55, 1001) ∈ c_dep 7 by decide) (show (55, 1002) ∈ c_dep 7 by decide) (by decide) hm hl j))
  rw [e_rw]
  exact k⟩
theorem c_PT8 {ρ ρ' : Nat → Nat} {W : List (Nat × Nat)} {h h' : MH} (ht : TH c_sp ρ h) (f : FQ ρ ρ' W h h') (hn : d_no (c_dep 8) W = true) (k : c_PT 8 ρ h) : c_PT 8 ρ' h' := ⟨fun m m' e e' => k.1 m m' (fq_m f ht hn (by decide) (show (49, 1002) ∈ c_dep 8 by decide) e).1 (fq_m f ht hn (by decide) (show (49, 1002) ∈ c_dep 8 by decide) e').1, fun m hm' => by
  obtain ⟨hm, hl⟩ := fq_m f ht hn (by decide) (show (49, 1002) ∈ c_dep 8 by decide) hm'
  have k := k.2 m hm
  have e_pa : v_pa h' m = v_pa h m := funext (fun j => congrArg Int32.toInt (fq_arr f ht hn (by decide) rfl rfl rfl (show (49, 39) ∈ c_dep 8 by decide) (by decide) (show (74, 1001) ∈ c_dep 8 by decide) (show (74, 1002) ∈ c_dep 8 by decide) (by decide) hm hl j))
  have e_pb : v_pb h' m = v_pb h m := funext (fun j => congrArg Int32.toInt (fq_arr f ht hn (by decide) rfl rfl rfl (show (49, 40) ∈ c_dep 8 by decide) (by decide) (show (75, 1001) ∈ c_dep 8 by decide) (show (75, 1002) ∈ c_dep 8 by decide) (by decide) hm hl j))
  rw [e_pa, e_pb]
  exact k⟩
theorem c_PT9 {ρ ρ' : Nat → Nat} {W : List (Nat × Nat)} {h h' : MH} (ht : TH c_sp ρ h) (f : FQ ρ ρ' W h h') (hn : d_no (c_dep 9) W = true) (k : c_PT 9 ρ h) : c_PT 9 ρ' h' := ⟨fun m m' e e' => k.1 m m' (fq_m f ht hn (by decide) (show (49, 1002) ∈ c_dep 9 by decide) e).1 (fq_m f ht hn (by decide) (show (49, 1002) ∈ c_dep 9 by decide) e').1, fun m hm' => by
  obtain ⟨hm, hl⟩ := fq_m f ht hn (by decide) (show (49, 1002) ∈ c_dep 9 by decide) hm'
  have k := k.2 m hm
  have e_n : v_n h' m = v_n h m := congrArg Int32.toInt (fq_f f hn (show (49, 17) ∈ c_dep 9 by decide) (by decide) hm hl).1
  have e_wd : v_wd h' m = v_wd h m := congrArg Int32.toInt (fq_f f hn (show (49, 26) ∈ c_dep 9 by decide) (by decide) hm hl).1
  have e_rk : v_rk h' m = v_rk h m := funext (fun j => congrArg Int32.toInt (fq_arr f ht hn (by decide) rfl rfl rfl (show (49, 22) ∈ c_dep 9 by decide) (by decide) (show (59, 1001) ∈ c_dep 9 by decide) (show (59, 1002) ∈ c_dep 9 by decide) (by decide) hm hl j))
  have e_at : v_at h' m = v_at h m := funext (fun j => congrArg Int32.toInt (fq_arr f ht hn (by decide) rfl rfl rfl (show (49, 27) ∈ c_dep 9 by decide) (by decide) (show (63, 1001) ∈ c_dep 9 by decide) (show (63, 1002) ∈ c_dep 9 by decide) (by decide) hm hl j))
  have e_dp : v_dp h' m = v_dp h m := funext (fun j => congrArg Int32.toInt (fq_arr f ht hn (by decide) rfl rfl rfl (show (49, 28) ∈ c_dep 9 by decide) (by decide) (show (64, 1001) ∈ c_dep 9 by decide) (show (64, 1002) ∈ c_dep 9 by decide) (by decide) hm hl j))
  have e_up : v_up h' m = v_up h m := funext (fun j => congrArg Int32.toInt (fq_arr f ht hn (by decide) rfl rfl rfl (show (49, 29) ∈ c_dep 9 by decide) (by decide) (show (65, 1001) ∈ c_dep 9 by decide) (show (65, 1002) ∈ c_dep 9 by decide) (by decide) hm hl j))
  rw [e_n, e_rk, e_at, e_up, e_dp, e_wd]
  exact k⟩
theorem c_PT1 {ρ ρ' : Nat → Nat} {W : List (Nat × Nat)} {h h' : MH} (ht : TH c_sp ρ h) (f : FQ ρ ρ' W h h') (hn : d_no (c_dep 1) W = true) (k : t_nd ρ h) : t_nd ρ' h' := fun a ha' => by
  have key : ∀ R, (R = 39 ∨ R = 48) → ρ' a = R → ρ a = R ∧ a < 16 + h_n h := fun R hR e => by
    rcases hR with rfl | rfl
    · exact fq_m f ht hn (by decide) (show (39, 1002) ∈ c_dep 1 by decide) e
    · exact fq_m f ht hn (by decide) (show (48, 1002) ∈ c_dep 1 by decide) e
  have hall : (ρ a = 39 ∨ ρ a = 48) ∧ a < 16 + h_n h ∧ h_r h' a 0 = h_r h a 0 ∧ h_r h' a 1 = h_r h a 1 ∧ h_i h' a 5 = h_i h a 5 ∧ ρ (h_r h a 0) = 40 ∧ ρ (h_r h a 1) = 41 := by
    rcases ha' with e | e
    · obtain ⟨hm, hl⟩ := key _ (Or.inl rfl) e
      exact ⟨Or.inl hm, hl, (fq_f f hn (show (39, 0) ∈ c_dep 1 by decide) (by decide) hm hl).2, (fq_f f hn (show (39, 1) ∈ c_dep 1 by decide) (by decide) hm hl).2, (fq_f f hn (show (39, 5) ∈ c_dep 1 by decide) (by decide) hm hl).1, (th_rf ht (by decide) rfl hm rfl (fun z => by cases z)).2, (th_rf ht (by decide) rfl hm rfl (fun z => by cases z)).2⟩
    · obtain ⟨hm, hl⟩ := key _ (Or.inr rfl) e
      exact ⟨Or.inr hm, hl, (fq_f f hn (show (48, 0) ∈ c_dep 1 by decide) (by decide) hm hl).2, (fq_f f hn (show (48, 1) ∈ c_dep 1 by decide) (by decide) hm hl).2, (fq_f f hn (show (48, 5) ∈ c_dep 1 by decide) (by decide) hm hl).1, (th_rf ht (by decide) rfl hm rfl (fun z => by cases z)).2, (th_rf ht (by decide) rfl hm rfl (fun z => by cases z)).2⟩
  obtain ⟨h0, hl, e1, e2, e3, r1, r2⟩ := hall
  have b1 := (ht.2 (h_r h a 0) (by rw [r1]; decide)).1
  have b2 := (ht.2 (h_r h a 1) (by rw [r2]; decide)).1
  rw [e1, e2, e3, (f.2.2.2 _ b1).1, (f.2.2.2 _ b2).1]
  exact k a h0
-- the room
theorem rm_r {ρ ρ' : Nat → Nat} {W : List (Nat × Nat)} {h h' : MH} {b k R : Nat} (f : FQ ρ ρ' W h h') (hn : d_no (c_dep 2) W = true) (hb : b < 16 + h_n h) (hR : (R, k) ∈ c_dep 2) (hk : k ≠ 1002) (hρ : ρ b = R ∨ ρ b = 0) : h_r h' b k = h_r h b k := by
  have hw : ¬ t_W W (ρ b) k := by
    rcases hρ with e | e
    · rw [e]
      exact d_noW hn hR hk
    · rw [e]
      intro z
      rcases d_noE (R := 0) (k := k) hn (by decide) with y | y
      · exact y z
      · exact hk y
  exact ((f.2.2.2 b hb).2 k hw).2.2
theorem rm_e {ρ ρ' : Nat → Nat} {W : List (Nat × Nat)} {h h' : MH} {b k R : Nat} (f : FQ ρ ρ' W h h') (hn : d_no (c_dep 2) W = true) (hb : b < 16 + h_n h) (hR : (R, 1001) ∈ c_dep 2) (hk : k < 1000) (hρ : ρ b = R ∨ ρ b = 0) : h_r h' b k = h_r h b k := by
  have hw : ¬ t_W W (ρ b) k := by
    rcases hρ with e | e
    · rw [e]
      rcases d_noE (k := k) hn hR with y | y
      · exact y
      · omega
    · rw [e]
      rcases d_noE (R := 0) (k := k) hn (by decide) with y | y
      · exact y
      · omega
  exact ((f.2.2.2 b hb).2 k hw).2.2
theorem c_PT2 {ρ ρ' : Nat → Nat} {W : List (Nat × Nat)} {h h' : MH} (ht : TH c_sp ρ h) (f : FQ ρ ρ' W h h') (hn : d_no (c_dep 2) W = true) (k : t_rm ρ h) : t_rm ρ' h' := by
  obtain ⟨⟨a1, a2, a3, a4, a5⟩, b, c, d, e⟩ := k
  have e0 : h'.1 = h.1 := f.1.2 (d_noN hn (show (1000, 1002) ∈ c_dep 2 by decide))
  have en : h_n h' = h_n h := congrArg Prod.fst e0
  have ez : h_z h' = h_z h := congrArg Prod.snd e0
  have eP : r_P h' = r_P h := rm_r f hn a1.1 (R := 6) (by decide) (by decide) a1.2
  have eI : r_I h' = r_I h := rm_r f hn a1.1 (R := 6) (by decide) (by decide) a1.2
  have eS : r_S h' = r_S h := rm_r f hn a1.1 (R := 6) (by decide) (by decide) a1.2
  have eT0 : h_r h' (r_S h') 0 = h_r h (r_S h) 0 := by
    rw [eS]
    exact rm_r f hn a4.1 (R := 25) (by decide) (by decide) a4.2
  have eT : r_T h' = r_T h := by
    unfold r_T
    rw [eT0, (f.2.2.2 _ a5.1).1]
  have esl : ∀ k, k < 4 → r_sl h' k = r_sl h k := fun k hk => by
    unfold r_sl
    rw [eP]
    exact rm_e f hn a2.1 (R := 9) (by decide) (by omega) a2.2
  have eim : ∀ k, k < 4 → r_im h' k = r_im h k := fun k hk => by
    unfold r_im
    rw [eI]
    exact rm_e f hn a3.1 (R := 8) (by decide) (by omega) a3.2
  have eno : ∀ k, k < 4 → r_sl h k ≠ 0 → r_no h' k = r_no h k := fun k hk hs => by
    rcases b k hk with z | ⟨z1, z2, z3⟩
    · exact absurd z hs
    · unfold r_no
      rw [esl k hk]
      rcases z1.2 with q | q | q
      · exact rm_r f hn z1.1 (R := 29) (by decide) (by decide) (Or.inl q)
      · exact rm_r f hn z1.1 (R := 47) (by decide) (by decide) (Or.inl q)
      · exact rm_r f hn z1.1 (R := 29) (by decide) (by decide) (Or.inr q)
  have eho : ∀ k, k < 4 → r_sl h k ≠ 0 → r_ho h' k = r_ho h k ∧ r_L h' k = r_L h k := fun k hk hs => by
    rcases b k hk with z | ⟨z1, z2, z3⟩
    · exact absurd z hs
    · have e1 : r_ho h' k = r_ho h k := by
        unfold r_ho
        rw [eno k hk hs]
        rcases z2.2 with q | q | q
        · exact rm_r f hn z2.1 (R := 39) (by decide) (by decide) (Or.inl q)
        · exact rm_r f hn z2.1 (R := 48) (by decide) (by decide) (Or.inl q)
        · exact rm_r f hn z2.1 (R := 39) (by decide) (by decide) (Or.inr q)
      refine ⟨e1, ?_⟩
      unfold r_L
      rw [e1, (f.2.2.2 _ z3).1]
  have epn : ∀ k, k < 4 → r_pn h' k = r_pn h k ∧ r_pz h' k = r_pz h k := fun k hk => by
    unfold r_pn r_pz
    rw [esl k hk]
    by_cases hs : r_sl h k = 0
    · rw [if_pos hs, if_pos hs, if_pos hs, if_pos hs]
      exact ⟨rfl, rfl⟩
    · rw [if_neg hs, if_neg hs, if_neg hs, if_neg hs, (eho k hk hs).2]
      exact ⟨rfl, rfl⟩
  have eqn : ∀ k, k < 4 → r_qn h' k = r_qn h k ∧ r_qz h' k = r_qz h k := fun k hk => by
    unfold r_qn r_qz
    rw [eim k hk]
    exact ⟨rfl, rfl⟩
  have hin : ∀ {a R : Nat}, r_iu ρ h a R → r_iu ρ' h' a R := fun {a R} q => ⟨by rw [en]; exact q.1, by rw [f.same q.1]; exact q.2⟩
  have hin2 : ∀ {a R R2 : Nat}, r_iu2 ρ h a R R2 → r_iu2 ρ' h' a R R2 := fun {a R R2} q => ⟨by rw [en]; exact q.1, by rw [f.same q.1]; exact q.2⟩
  refine ⟨⟨hin a1, by rw [eP]; exact hin a2, by rw [eI]; exact hin a3, by rw [eS]; exact hin a4, by rw [eT0, en]; exact a5.1, fun a ha => a5.2.1 a (fq_m f ht hn (by decide) (show (6, 1002) ∈ c_dep 2 by decide) ha).1, fun a ha => by rw [eS]; exact a5.2.2 a (fq_m f ht hn (by decide) (show (25, 1002) ∈ c_dep 2 by decide) ha).1⟩, fun k hk => ?_, fun a ha => ?_, ?_, ?_⟩
  · by_cases hs : r_sl h k = 0
    · exact Or.inl ((esl k hk).trans hs)
    · rcases b k hk with z | ⟨z1, z2, z3⟩
      · exact absurd z hs
      · refine Or.inr ⟨by rw [esl k hk]; exact hin2 z1, by rw [eno k hk hs]; exact hin2 z2, ?_⟩
        rw [(eho k hk hs).1, en]
        exact z3
  · have ha2 : ρ a = 39 ∨ ρ a = 48 := by
      rcases ha with q | q
      · exact Or.inl (fq_m f ht hn (by decide) (show (39, 1002) ∈ c_dep 2 by decide) q).1
      · exact Or.inr (fq_m f ht hn (by decide) (show (48, 1002) ∈ c_dep 2 by decide) q).1
    obtain ⟨k, hk, hs, e9⟩ := c a ha2
    exact ⟨k, hk, by rw [esl k hk]; exact hs, by rw [eno k hk hs]; exact e9⟩
  · rw [en, (epn 0 (by decide)).1, (epn 1 (by decide)).1, (epn 2 (by decide)).1, (epn 3 (by decide)).1, (eqn 0 (by decide)).1, (eqn 1 (by decide)).1, (eqn 2 (by decide)).1, eT]
    exact d
  · rw [ez, (epn 0 (by decide)).2, (epn 1 (by decide)).2, (epn 2 (by decide)).2, (epn 3 (by decide)).2, (eqn 0 (by decide)).2, (eqn 1 (by decide)).2, (eqn 2 (by decide)).2, eT]
    exact e
theorem c_PT10 {ρ ρ' : Nat → Nat} {W : List (Nat × Nat)} {h h' : MH} (ht : TH c_sp ρ h) (f : FQ ρ ρ' W h h') (hn : d_no (c_dep 10) W = true) (k : t_ik ρ h) : t_ik ρ' h' := by
  obtain ⟨h16, um, k⟩ := k
  have l16 := (ht.2 16 (by rw [h16]; decide)).1
  have eI : r_I h' = r_I h := (fq_f f hn (show (6, 1) ∈ c_dep 10 by decide) (by decide) h16 l16).2
  have fI : ρ (r_I h) = 8 := (th_rf ht (R := 6) (by decide) rfl h16 (k := 1) rfl (fun z => by cases z)).2
  have eim : ∀ j, r_im h' j = r_im h j := fun j => by
    unfold r_im
    rw [eI]
    exact (fq_e j f hn (show (8, 1001) ∈ c_dep 10 by decide) (show (8, 1002) ∈ c_dep 10 by decide) fI (ht.2 _ (by rw [fI]; decide)).1).2
  refine ⟨(f.2.1 16 (by rw [h16]; decide)).trans h16, fun m m' e e' => um m m' (fq_m f ht hn (by decide) (show (49, 1002) ∈ c_dep 10 by decide) e).1 (fq_m f ht hn (by decide) (show (49, 1002) ∈ c_dep 10 by decide) e').1, fun m hm' j hj => ?_⟩
  obtain ⟨hm, hl⟩ := fq_m f ht hn (by decide) (show (49, 1002) ∈ c_dep 10 by decide) hm'
  have e_ke : v_ke h' m j = v_ke h m j := congrArg Int32.toInt (fq_arr f ht hn (by decide) rfl rfl rfl (show (49, 67) ∈ c_dep 10 by decide) (by decide) (show (96, 1001) ∈ c_dep 10 by decide) (show (96, 1002) ∈ c_dep 10 by decide) (by decide) hm hl j)
  rw [eim, e_ke]
  exact k m hm j hj
-- the images and their tapes, by frames
theorem us_im {ρ ρ' : Nat → Nat} {W D : List (Nat × Nat)} {h h' : MH} (ht : TH c_sp ρ h) (f : FQ ρ ρ' W h h') (h16 : ρ 16 = 6) (hn : d_no D W = true) (d1 : (6, 1) ∈ D) (d2 : (8, 1001) ∈ D) (d3 : (8, 1002) ∈ D) (d4 : (97, 2) ∈ D) : (∀ j, r_im h' j = r_im h j) ∧ ∀ j, j < 3 → r_im h j ≠ 0 → u_im h' j = u_im h j := by
  have l16 := (ht.2 16 (by rw [h16]; decide)).1
  have eI : r_I h' = r_I h := (fq_f f hn d1 (by decide) h16 l16).2
  have fI : ρ (r_I h) = 8 := (th_rf ht (R := 6) (by decide) rfl h16 (k := 1) rfl (fun z => by cases z)).2
  have eim : ∀ j, r_im h' j = r_im h j := fun j => by
    unfold r_im
    rw [eI]
    exact (fq_e j f hn d2 d3 fI (ht.2 _ (by rw [fI]; decide)).1).2
  refine ⟨eim, fun j hj h0 => ?_⟩
  unfold u_im
  rw [eim]
  have c := t_spec ht (by decide) (rfl : c_sp[8]? = some _) fI
  have l3 : 3 ≤ (h_k h (r_I h)).2 := c.2.1.1
  rcases (c.2.2.2 j (.inr (.inr (97, false))) rfl (fun _ => by omega) : t_rf ρ 97 false (r_im h j)) with q | ⟨-, -, q⟩
  · exact absurd q.1 h0
  · exact congrArg Int32.toInt (fq_f f hn d4 (by decide) q (ht.2 _ (by rw [q]; decide)).1).1
theorem us_nw {ρ ρ' : Nat → Nat} {W D : List (Nat × Nat)} {h h' : MH} (ht : TH c_sp ρ h) (f : FQ ρ ρ' W h h') (h16 : ρ 16 = 6) (hn : d_no D W = true) (d1 : (6, 0) ∈ D) : h_r h' 16 0 = h_r h 16 0 ∧ ((7, 2) ∈ D → u_now h' = u_now h) := by
  have l16 := (ht.2 16 (by rw [h16]; decide)).1
  have eN := (fq_f f hn d1 (by decide) h16 l16).2
  have fN : ρ (h_r h 16 0) = 7 := (th_rf ht (R := 6) (by decide) rfl h16 (k := 0) rfl (fun z => by cases z)).2
  refine ⟨eN, fun d2 => ?_⟩
  unfold u_now
  rw [eN]
  exact congrArg Int32.toInt (fq_f f hn d2 (by decide) fN (ht.2 _ (by rw [fN]; decide)).1).1
theorem us_sz {ρ ρ' : Nat → Nat} {W D : List (Nat × Nat)} {h h' : MH} {m : Nat} (ht : TH c_sp ρ h) (f : FQ ρ ρ' W h h') (hm : ρ m = 49) (hn : d_no D W = true) (d1 : (49, 2) ∈ D) (d2 : (51, 1001) ∈ D) (d3 : (51, 1002) ∈ D) (j : Nat) : v_sz h' m j = v_sz h m j := congrArg Int32.toInt (fq_arr f ht hn (by decide) rfl rfl rfl d1 (by decide) d2 d3 (by decide) hm (ht.2 m (by rw [hm]; decide)).1 j)
theorem c_PT11 {ρ ρ' : Nat → Nat} {W : List (Nat × Nat)} {h h' : MH} (ht : TH c_sp ρ h) (f : FQ ρ ρ' W h h') (hn : d_no (c_dep 11) W = true) (k : t_us ρ h) : t_us ρ' h' := by
  obtain ⟨h16, um, ne, k⟩ := k
  obtain ⟨e1, e2⟩ := us_im ht f h16 hn (by decide) (by decide) (by decide) (by decide)
  have e3 := (us_nw ht f h16 hn (by decide)).2 (by decide)
  refine ⟨(f.2.1 16 (by rw [h16]; decide)).trans h16, fun m m' e e' => um m m' (fq_m f ht hn (by decide) (show (49, 1002) ∈ c_dep 11 by decide) e).1 (fq_m f ht hn (by decide) (show (49, 1002) ∈ c_dep 11 by decide) e').1, fun j k hj hk hjk => ?_, fun m hm' => ?_⟩
  · rw [e1, e1]
    exact ne j k hj hk hjk
  · obtain ⟨hm, hl⟩ := fq_m f ht hn (by decide) (show (49, 1002) ∈ c_dep 11 by decide) hm'
    have e4 := us_sz (D := c_dep 11) ht f hm hn (by decide) (by decide) (by decide)
    obtain ⟨k1, k2⟩ := k m hm
    refine ⟨by rw [e3, e4]; exact k1, fun j hj h0 => ?_⟩
    rw [e1] at h0
    rw [e2 j hj h0, e4]
    exact k2 j hj h0
-- as it was
def ac_same (h h' : MH) (c : Nat) : Prop := h_i h' c 2 = h_i h c 2 ∧ (h_r h' c 0 = h_r h c 0 ∧ h_r h' c 1 = h_r h c 1) ∧ ∀ k, q_kd h' c k = q_kd h c k ∧ q_nm h' c k = q_nm h c k
def td_same (h h' : MH) (a : Nat) : Prop := (∀ K, K < 6 → h_i h' a K = h_i h a K) ∧ h_r h' a 0 = h_r h a 0 ∧ (∀ j, q_tp h' a j = q_tp h a j) ∧ ∀ r, r < 4 → q_ac h' a r = q_ac h a r ∧ ac_same h h' (q_ac h a r)
def td_refs (h h' : MH) (a : Nat) : Prop := h_r h' a 0 = h_r h a 0 ∧ ∀ r, r < 4 → q_ac h' a r = q_ac h a r ∧ h_r h' (q_ac h a r) 0 = h_r h (q_ac h a r) 0 ∧ h_r h' (q_ac h a r) 1 = h_r h (q_ac h a r) 1
def vm_same (h h' : MH) (m : Nat) : Prop := ∀ K, (K = 1 ∨ K = 2 ∨ K = 3 ∨ K = 4 ∨ K = 5 ∨ K = 6) → q_vm h' m K = q_vm h m K
section
variable {h h' : MH} {a b c m s : Nat} {U : Nat → Int}
theorem ac_sameR {q : Nat} (e : ac_same h h' c) (k : ac_rel h c U q) : ac_rel h' c U q := by
  have e2 : q_fd h' c 2 = q_fd h c 2 := congrArg Int32.toInt e.1
  refine ⟨e2.trans k.1, fun j hj => ?_⟩
  rw [e2] at hj
  obtain ⟨k1, k2⟩ := k.2 j hj
  exact ⟨(e.2.2 j).1.trans k1, fun i hi => (e.2.2 _).2.trans (k2 i hi)⟩
theorem td_sameR (e : td_same h h' a) (ev : vm_same h h' m) (r4 : q_fd h a 5 ≤ 4) (k : td_rel h a m s) : td_rel h' a m s := by
  have f : ∀ K, K < 6 → q_fd h' a K = q_fd h a K := fun K hK => congrArg Int32.toInt (e.1 K hK)
  obtain ⟨⟨k2, k3, k4, k5⟩, k6, k7⟩ := k
  refine ⟨⟨?_, ?_, ?_, ?_⟩, fun j hj => ?_, fun r hr => ?_⟩
  · rw [f 2 (by decide), ev 2 (by decide)]
    exact k2
  · rw [f 3 (by decide), ev 3 (by decide)]
    exact k3
  · rw [f 4 (by decide), ev 4 (by decide)]
    exact k4
  · rw [f 5 (by decide), ev 5 (by decide)]
    exact k5
  · rw [f 2 (by decide)] at hj
    rw [e.2.2.1 j, ev 1 (by decide)]
    exact k6 j hj
  · rw [f 5 (by decide)] at hr
    obtain ⟨e1, e2⟩ := e.2.2.2 r (by omega)
    rw [e1, ev 6 (by decide)]
    exact ac_sameR e2 (k7 r hr)
theorem ow_sameR (ea : td_refs h h' a) (eb : td_refs h h' b) (k : ow_ne h a b) : ow_ne h' a b := fun r s hr hs hn => by
  obtain ⟨a1, a2, a3⟩ := ea.2 r hr
  obtain ⟨b1, b2, b3⟩ := eb.2 s hs
  rw [a1, b1, a2, a3, b2, b3]
  exact k r s hr hs hn
theorem td_sameT {h2 : MH} (e : td_same h h' a) (e2 : td_same h' h2 a) : td_same h h2 a := by
  refine ⟨fun K hK => (e2.1 K hK).trans (e.1 K hK), e2.2.1.trans e.2.1, fun j => (e2.2.2.1 j).trans (e.2.2.1 j), fun r hr => ?_⟩
  obtain ⟨a1, a2⟩ := e.2.2.2 r hr
  obtain ⟨b1, b2⟩ := e2.2.2.2 r hr
  rw [a1] at b2
  exact ⟨b1.trans a1, b2.1.trans a2.1, ⟨b2.2.1.1.trans a2.2.1.1, b2.2.1.2.trans a2.2.1.2⟩, fun k => ⟨(b2.2.2 k).1.trans (a2.2.2 k).1, (b2.2.2 k).2.trans (a2.2.2 k).2⟩⟩
theorem td_same0 : td_same h h a := ⟨fun _ _ => rfl, rfl, fun _ => rfl, fun _ _ => ⟨rfl, rfl, ⟨rfl, rfl⟩, fun _ => ⟨rfl, rfl⟩⟩⟩
end
theorem d_noS {D D' W : List (Nat × Nat)} (h : d_no D W = true) (s : D'.all (fun q => D.contains q) = true) : d_no D' W = true := List.all_eq_true.mpr (fun q hq => List.all_eq_true.mp h q (List.contains_iff_mem.mp (List.all_eq_true.mp s q hq)))
def td_DN : List (Nat × Nat) := [(7, 0), (7, 1), (7, 2), (7, 3), (7, 4), (7, 5), (13, 1001), (13, 1002), (10, 1001), (10, 1002), (14, 1001), (14, 1002), (15, 1001), (15, 1002), (12, 0), (12, 1), (12, 2)]
theorem td_r4N {ρ : Nat → Nat} {h : MH} {a : Nat} (ht : TH c_sp ρ h) (ha : ρ a = 7) : 0 ≤ q_fd h a 5 ∧ q_fd h a 5 ≤ 4 ∧ 0 ≤ q_fd h a 2 ∧ q_fd h a 2 ≤ 600 := by
  have c := t_spec ht (by decide) (rfl : c_sp[7]? = some _) ha
  have c5 := c.2.2.2 5 (.inl (0, 4)) rfl (fun z => by cases z)
  have c2 := c.2.2.2 2 (.inl (0, 600)) rfl (fun z => by cases z)
  exact ⟨c5.1, c5.2, c2.1, c2.2⟩
theorem td_obN {ρ : Nat → Nat} {h : MH} {a : Nat} (ht : TH c_sp ρ h) (ha : ρ a = 7) : ρ (h_r h a 0) = 13 ∧ ρ (h_r h a 1) = 10 ∧ ∀ r, r < 4 → ρ (q_ac h a r) = 12 ∧ ρ (h_r h (q_ac h a r) 0) = 14 ∧ ρ (h_r h (q_ac h a r) 1) = 15 := by
  have r0 := (th_rf ht (R := 7) (by decide) rfl ha (k := 0) rfl (fun z => by cases z)).2
  have r1 := (th_rf ht (R := 7) (by decide) rfl ha (k := 1) rfl (fun z => by cases z)).2
  refine ⟨r0, r1, fun r hr => ?_⟩
  have c1 := t_spec ht (by decide) (rfl : c_sp[10]? = some _) r1
  have l4 : 4 ≤ (h_k h (h_r h a 1)).2 := c1.2.1.1
  have rc : ρ (q_ac h a r) = 12 := (t_nn (c1.2.2.2 r (.inr (.inr (12, true))) rfl (fun _ => by omega))).2
  exact ⟨rc, (th_rf ht (R := 12) (by decide) rfl rc (k := 0) rfl (fun z => by cases z)).2, (th_rf ht (R := 12) (by decide) rfl rc (k := 1) rfl (fun z => by cases z)).2⟩
theorem td_frN {ρ ρ' : Nat → Nat} {W : List (Nat × Nat)} {h h' : MH} {a : Nat} (ht : TH c_sp ρ h) (f : FQ ρ ρ' W h h') (hn : d_no td_DN W = true) (ha : ρ a = 7) : td_same h h' a := by
  have lt : ∀ x, ρ x ≠ 0 → x < 16 + h_n h := fun x hx => (ht.2 x hx).1
  obtain ⟨r0, r1, rr⟩ := td_obN ht ha
  have la := lt a (by rw [ha]; decide)
  have e0 := (fq_f f hn (List.mem_of_getElem? (i := 0) rfl) (by decide) ha la).2
  have e1 := (fq_f f hn (List.mem_of_getElem? (i := 1) rfl) (by decide) ha la).2
  refine ⟨fun K hK => ?_, e0, fun j => ?_, fun r hr => ?_⟩
  · match K, hK with
    | 0, _ => exact (fq_f f hn (List.mem_of_getElem? (i := 0) rfl) (by decide) ha la).1
    | 1, _ => exact (fq_f f hn (List.mem_of_getElem? (i := 1) rfl) (by decide) ha la).1
    | 2, _ => exact (fq_f f hn (List.mem_of_getElem? (i := 2) rfl) (by decide) ha la).1
    | 3, _ => exact (fq_f f hn (List.mem_of_getElem? (i := 3) rfl) (by decide) ha la).1
    | 4, _ => exact (fq_f f hn (List.mem_of_getElem? (i := 4) rfl) (by decide) ha la).1
    | 5, _ => exact (fq_f f hn (List.mem_of_getElem? (i := 5) rfl) (by decide) ha la).1
  · show (h_i h' (h_r h' a 0) j).toInt = _
    rw [e0]
    exact congrArg Int32.toInt (fq_e j f hn (List.mem_of_getElem? (i := 6) rfl) (List.mem_of_getElem? (i := 7) rfl) r0 (lt _ (by rw [r0]; decide))).1
  · obtain ⟨rc, rk, rn⟩ := rr r hr
    have lc := lt _ (by rw [rc]; decide)
    have er : q_ac h' a r = q_ac h a r := by
      unfold q_ac
      rw [e1]
      exact (fq_e r f hn (List.mem_of_getElem? (i := 8) rfl) (List.mem_of_getElem? (i := 9) rfl) r1 (lt _ (by rw [r1]; decide))).2
    have ek := (fq_f f hn (List.mem_of_getElem? (i := 14) rfl) (by decide) rc lc).2
    have en := (fq_f f hn (List.mem_of_getElem? (i := 15) rfl) (by decide) rc lc).2
    refine ⟨er, (fq_f f hn (List.mem_of_getElem? (i := 16) rfl) (by decide) rc lc).1, ⟨ek, en⟩, fun k => ⟨?_, ?_⟩⟩
    · show (h_i h' (h_r h' (q_ac h a r) 0) k).toInt = _
      rw [ek]
      exact congrArg Int32.toInt (fq_e k f hn (List.mem_of_getElem? (i := 10) rfl) (List.mem_of_getElem? (i := 11) rfl) rk (lt _ (by rw [rk]; decide))).1
    · show (h_i h' (h_r h' (q_ac h a r) 1) k).toInt = _
      rw [en]
      exact congrArg Int32.toInt (fq_e k f hn (List.mem_of_getElem? (i := 12) rfl) (List.mem_of_getElem? (i := 13) rfl) rn (lt _ (by rw [rn]; decide))).1
def td_DI : List (Nat × Nat) := [(97, 0), (97, 1), (97, 2), (97, 3), (97, 4), (97, 5), (99, 1001), (99, 1002), (98, 1001), (98, 1002), (101, 1001), (101, 1002), (102, 1001), (102, 1002), (100, 0), (100, 1), (100, 2)]
theorem td_r4I {ρ : Nat → Nat} {h : MH} {a : Nat} (ht : TH c_sp ρ h) (ha : ρ a = 97) : 0 ≤ q_fd h a 5 ∧ q_fd h a 5 ≤ 4 ∧ 0 ≤ q_fd h a 2 ∧ q_fd h a 2 ≤ 600 := by
  have c := t_spec ht (by decide) (rfl : c_sp[97]? = some _) ha
  have c5 := c.2.2.2 5 (.inl (0, 4)) rfl (fun z => by cases z)
  have c2 := c.2.2.2 2 (.inl (0, 600)) rfl (fun z => by cases z)
  exact ⟨c5.1, c5.2, c2.1, c2.2⟩
theorem td_obI {ρ : Nat → Nat} {h : MH} {a : Nat} (ht : TH c_sp ρ h) (ha : ρ a = 97) : ρ (h_r h a 0) = 99 ∧ ρ (h_r h a 1) = 98 ∧ ∀ r, r < 4 → ρ (q_ac h a r) = 100 ∧ ρ (h_r h (q_ac h a r) 0) = 101 ∧ ρ (h_r h (q_ac h a r) 1) = 102 := by
  have r0 := (th_rf ht (R := 97) (by decide) rfl ha (k := 0) rfl (fun z => by cases z)).2
  have r1 := (th_rf ht (R := 97) (by decide) rfl ha (k := 1) rfl (fun z => by cases z)).2
  refine ⟨r0, r1, fun r hr => ?_⟩
  have c1 := t_spec ht (by decide) (rfl : c_sp[98]? = some _) r1
  have l4 : 4 ≤ (h_k h (h_r h a 1)).2 := c1.2.1.1
  have rc : ρ (q_ac h a r) = 100 := (t_nn (c1.2.2.2 r (.inr (.inr (100, true))) rfl (fun _ => by omega))).2
  exact ⟨rc, (th_rf ht (R := 100) (by decide) rfl rc (k := 0) rfl (fun z => by cases z)).2, (th_rf ht (R := 100) (by decide) rfl rc (k := 1) rfl (fun z => by cases z)).2⟩
theorem td_frI {ρ ρ' : Nat → Nat} {W : List (Nat × Nat)} {h h' : MH} {a : Nat} (ht : TH c_sp ρ h) (f : FQ ρ ρ' W h h') (hn : d_no td_DI W = true) (ha : ρ a = 97) : td_same h h' a := by
  have lt : ∀ x, ρ x ≠ 0 → x < 16 + h_n h := fun x hx => (ht.2 x hx).1
  obtain ⟨r0, r1, rr⟩ := td_obI ht ha
  have la := lt a (by rw [ha]; decide)
  have e0 := (fq_f f hn (List.mem_of_getElem? (i := 0) rfl) (by decide) ha la).2
  have e1 := (fq_f f hn (List.mem_of_getElem? (i := 1) rfl) (by decide) ha la).2
  refine ⟨fun K hK => ?_, e0, fun j => ?_, fun r hr => ?_⟩
  · match K, hK with
    | 0, _ => exact (fq_f f hn (List.mem_of_getElem? (i := 0) rfl) (by decide) ha la).1
    | 1, _ => exact (fq_f f hn (List.mem_of_getElem? (i := 1) rfl) (by decide) ha la).1
    | 2, _ => exact (fq_f f hn (List.mem_of_getElem? (i := 2) rfl) (by decide) ha la).1
    | 3, _ => exact (fq_f f hn (List.mem_of_getElem? (i := 3) rfl) (by decide) ha la).1
    | 4, _ => exact (fq_f f hn (List.mem_of_getElem? (i := 4) rfl) (by decide) ha la).1
    | 5, _ => exact (fq_f f hn (List.mem_of_getElem? (i := 5) rfl) (by decide) ha la).1
  · show (h_i h' (h_r h' a 0) j).toInt = _
    rw [e0]
    exact congrArg Int32.toInt (fq_e j f hn (List.mem_of_getElem? (i := 6) rfl) (List.mem_of_getElem? (i := 7) rfl) r0 (lt _ (by rw [r0]; decide))).1
  · obtain ⟨rc, rk, rn⟩ := rr r hr
    have lc := lt _ (by rw [rc]; decide)
    have er : q_ac h' a r = q_ac h a r := by
      unfold q_ac
      rw [e1]
      exact (fq_e r f hn (List.mem_of_getElem? (i := 8) rfl) (List.mem_of_getElem? (i := 9) rfl) r1 (lt _ (by rw [r1]; decide))).2
    have ek := (fq_f f hn (List.mem_of_getElem? (i := 14) rfl) (by decide) rc lc).2
    have en := (fq_f f hn (List.mem_of_getElem? (i := 15) rfl) (by decide) rc lc).2
    refine ⟨er, (fq_f f hn (List.mem_of_getElem? (i := 16) rfl) (by decide) rc lc).1, ⟨ek, en⟩, fun k => ⟨?_, ?_⟩⟩
    · show (h_i h' (h_r h' (q_ac h a r) 0) k).toInt = _
      rw [ek]
      exact congrArg Int32.toInt (fq_e k f hn (List.mem_of_getElem? (i := 10) rfl) (List.mem_of_getElem? (i := 11) rfl) rk (lt _ (by rw [rk]; decide))).1
    · show (h_i h' (h_r h' (q_ac h a r) 1) k).toInt = _
      rw [en]
      exact congrArg Int32.toInt (fq_e k f hn (List.mem_of_getElem? (i := 12) rfl) (List.mem_of_getElem? (i := 13) rfl) rn (lt _ (by rw [rn]; decide))).1
def td_EN : List (Nat × Nat) := [(7, 0), (7, 1), (10, 1001), (10, 1002), (12, 0), (12, 1)]
theorem td_rfN {ρ ρ' : Nat → Nat} {W : List (Nat × Nat)} {h h' : MH} {a : Nat} (ht : TH c_sp ρ h) (f : FQ ρ ρ' W h h') (hn : d_no td_EN W = true) (ha : ρ a = 7) : td_refs h h' a := by
  have lt : ∀ x, ρ x ≠ 0 → x < 16 + h_n h := fun x hx => (ht.2 x hx).1
  obtain ⟨r0, r1, rr⟩ := td_obN ht ha
  have la := lt a (by rw [ha]; decide)
  have e0 := (fq_f f hn (List.mem_of_getElem? (i := 0) rfl) (by decide) ha la).2
  have e1 := (fq_f f hn (List.mem_of_getElem? (i := 1) rfl) (by decide) ha la).2
  refine ⟨e0, fun r hr => ?_⟩
  obtain ⟨rc, rk, rn⟩ := rr r hr
  have lc := lt _ (by rw [rc]; decide)
  have er : q_ac h' a r = q_ac h a r := by
    unfold q_ac
    rw [e1]
    exact (fq_e r f hn (List.mem_of_getElem? (i := 2) rfl) (List.mem_of_getElem? (i := 3) rfl) r1 (lt _ (by rw [r1]; decide))).2
  exact ⟨er, (fq_f f hn (List.mem_of_getElem? (i := 4) rfl) (by decide) rc lc).2, (fq_f f hn (List.mem_of_getElem? (i := 5) rfl) (by decide) rc lc).2⟩
def td_EI : List (Nat × Nat) := [(97, 0), (97, 1), (98, 1001), (98, 1002), (100, 0), (100, 1)]
theorem td_rfI {ρ ρ' : Nat → Nat} {W : List (Nat × Nat)} {h h' : MH} {a : Nat} (ht : TH c_sp ρ h) (f : FQ ρ ρ' W h h') (hn : d_no td_EI W = true) (ha : ρ a = 97) : td_refs h h' a := by
  have lt : ∀ x, ρ x ≠ 0 → x < 16 + h_n h := fun x hx => (ht.2 x hx).1
  obtain ⟨r0, r1, rr⟩ := td_obI ht ha
  have la := lt a (by rw [ha]; decide)
  have e0 := (fq_f f hn (List.mem_of_getElem? (i := 0) rfl) (by decide) ha la).2
  have e1 := (fq_f f hn (List.mem_of_getElem? (i := 1) rfl) (by decide) ha la).2
  refine ⟨e0, fun r hr => ?_⟩
  obtain ⟨rc, rk, rn⟩ := rr r hr
  have lc := lt _ (by rw [rc]; decide)
  have er : q_ac h' a r = q_ac h a r := by
    unfold q_ac
    rw [e1]
    exact (fq_e r f hn (List.mem_of_getElem? (i := 2) rfl) (List.mem_of_getElem? (i := 3) rfl) r1 (lt _ (by rw [r1]; decide))).2
  exact ⟨er, (fq_f f hn (List.mem_of_getElem? (i := 4) rfl) (by decide) rc lc).2, (fq_f f hn (List.mem_of_getElem? (i := 5) rfl) (by decide) rc lc).2⟩
def td_DV : List (Nat × Nat) := [(49, 1), (50, 1001), (50, 1002), (49, 2), (51, 1001), (51, 1002), (49, 3), (52, 1001), (52, 1002), (49, 4), (53, 1001), (53, 1002), (49, 5), (54, 1001), (54, 1002), (49, 6), (55, 1001), (55, 1002)]
theorem vm_fr {ρ ρ' : Nat → Nat} {W : List (Nat × Nat)} {h h' : MH} {m : Nat} (ht : TH c_sp ρ h) (f : FQ ρ ρ' W h h') (hn : d_no td_DV W = true) (hm : ρ m = 49) : vm_same h h' m := fun K hK => by
  have hl := (ht.2 m (by rw [hm]; decide)).1
  rcases hK with rfl | rfl | rfl | rfl | rfl | rfl
  · exact funext (fun j => congrArg Int32.toInt (fq_arr f ht hn (by decide) rfl rfl rfl (List.mem_of_getElem? (i := 0) rfl) (by decide) (List.mem_of_getElem? (i := 1) rfl) (List.mem_of_getElem? (i := 2) rfl) (by decide) hm hl j))
  · exact funext (fun j => congrArg Int32.toInt (fq_arr f ht hn (by decide) rfl rfl rfl (List.mem_of_getElem? (i := 3) rfl) (by decide) (List.mem_of_getElem? (i := 4) rfl) (List.mem_of_getElem? (i := 5) rfl) (by decide) hm hl j))
  · exact funext (fun j => congrArg Int32.toInt (fq_arr f ht hn (by decide) rfl rfl rfl (List.mem_of_getElem? (i := 6) rfl) (by decide) (List.mem_of_getElem? (i := 7) rfl) (List.mem_of_getElem? (i := 8) rfl) (by decide) hm hl j))
  · exact funext (fun j => congrArg Int32.toInt (fq_arr f ht hn (by decide) rfl rfl rfl (List.mem_of_getElem? (i := 9) rfl) (by decide) (List.mem_of_getElem? (i := 10) rfl) (List.mem_of_getElem? (i := 11) rfl) (by decide) hm hl j))
  · exact funext (fun j => congrArg Int32.toInt (fq_arr f ht hn (by decide) rfl rfl rfl (List.mem_of_getElem? (i := 12) rfl) (by decide) (List.mem_of_getElem? (i := 13) rfl) (List.mem_of_getElem? (i := 14) rfl) (by decide) hm hl j))
  · exact funext (fun j => congrArg Int32.toInt (fq_arr f ht hn (by decide) rfl rfl rfl (List.mem_of_getElem? (i := 15) rfl) (by decide) (List.mem_of_getElem? (i := 16) rfl) (List.mem_of_getElem? (i := 17) rfl) (by decide) hm hl j))
theorem im_ob {ρ : Nat → Nat} {h : MH} (ht : TH c_sp ρ h) (h16 : ρ 16 = 6) (j : Nat) (hj : j < 3) (h0 : r_im h j ≠ 0) : ρ (r_im h j) = 97 := by
  have fI : ρ (r_I h) = 8 := (th_rf ht (R := 6) (by decide) rfl h16 (k := 1) rfl (fun z => by cases z)).2
  have c := t_spec ht (by decide) (rfl : c_sp[8]? = some _) fI
  have l3 : 3 ≤ (h_k h (r_I h)).2 := c.2.1.1
  rcases (c.2.2.2 j (.inr (.inr (97, false))) rfl (fun _ => by omega) : t_rf ρ 97 false (r_im h j)) with q | ⟨-, -, q⟩
  · exact absurd q.1 h0
  · exact q
theorem nw_ob {ρ : Nat → Nat} {h : MH} (ht : TH c_sp ρ h) (h16 : ρ 16 = 6) : ρ (h_r h 16 0) = 7 := (th_rf ht (R := 6) (by decide) rfl h16 (k := 0) rfl (fun z => by cases z)).2
theorem im_eq {ρ ρ' : Nat → Nat} {W D : List (Nat × Nat)} {h h' : MH} (ht : TH c_sp ρ h) (f : FQ ρ ρ' W h h') (h16 : ρ 16 = 6) (hn : d_no D W = true) (d1 : (6, 1) ∈ D) (d2 : (8, 1001) ∈ D) (d3 : (8, 1002) ∈ D) : ∀ j, r_im h' j = r_im h j := fun j => by
  have l16 := (ht.2 16 (by rw [h16]; decide)).1
  have eI : r_I h' = r_I h := (fq_f f hn d1 (by decide) h16 l16).2
  have fI : ρ (r_I h) = 8 := (th_rf ht (R := 6) (by decide) rfl h16 (k := 1) rfl (fun z => by cases z)).2
  unfold r_im
  rw [eI]
  exact (fq_e j f hn d2 d3 fI (ht.2 _ (by rw [fI]; decide)).1).2
theorem c_PT12 {ρ ρ' : Nat → Nat} {W : List (Nat × Nat)} {h h' : MH} (ht : TH c_sp ρ h) (f : FQ ρ ρ' W h h') (hn : d_no (c_dep 12) W = true) (k : t_rt ρ h) : t_rt ρ' h' := by
  obtain ⟨h16, um, k⟩ := k
  have e1 := im_eq ht f h16 hn (by decide) (by decide) (by decide)
  have e3 := (us_nw ht f h16 hn (by decide)).1
  refine ⟨(f.2.1 16 (by rw [h16]; decide)).trans h16, fun m m' e e' => um m m' (fq_m f ht hn (by decide) (show (49, 1002) ∈ c_dep 12 by decide) e).1 (fq_m f ht hn (by decide) (show (49, 1002) ∈ c_dep 12 by decide) e').1, fun m hm' => ?_⟩
  obtain ⟨hm, hl⟩ := fq_m f ht hn (by decide) (show (49, 1002) ∈ c_dep 12 by decide) hm'
  obtain ⟨k1, k2⟩ := k m hm
  have ev := vm_fr ht f (d_noS hn (by decide)) hm
  rw [e3]
  have nN := nw_ob ht h16
  refine ⟨td_sameR (td_frN ht f (d_noS hn (by decide)) nN) ev (td_r4N ht nN).2.1 k1, fun j hj h0 => ?_⟩
  rw [e1] at h0 ⊢
  have nI := im_ob ht h16 j hj h0
  exact td_sameR (td_frI ht f (d_noS hn (by decide)) nI) ev (td_r4I ht nI).2.1 (k2 j hj h0)
theorem c_PT13 {ρ ρ' : Nat → Nat} {W : List (Nat × Nat)} {h h' : MH} (ht : TH c_sp ρ h) (f : FQ ρ ρ' W h h') (hn : d_no (c_dep 13) W = true) (k : t_ow ρ h) : t_ow ρ' h' := by
  obtain ⟨h16, k1, k2⟩ := k
  have e1 := im_eq ht f h16 hn (by decide) (by decide) (by decide)
  have e3 := (us_nw ht f h16 hn (by decide)).1
  have nN := nw_ob ht h16
  have sN := td_rfN ht f (d_noS hn (by decide)) nN
  refine ⟨(f.2.1 16 (by rw [h16]; decide)).trans h16, by rw [e3]; exact ow_sameR sN sN k1, fun j k hj hk h0 h1 => ?_⟩
  rw [e1] at h0 h1
  rw [e1, e1]
  have sJ := td_rfI ht f (d_noS hn (by decide)) (im_ob ht h16 j hj h0)
  have sK := td_rfI ht f (d_noS hn (by decide)) (im_ob ht h16 k hk h1)
  obtain ⟨y1, y2⟩ := k2 j k hj hk h0 h1
  exact ⟨ow_sameR sJ sK y1, fun hjk => by rw [sJ.1, sK.1]; exact y2 hjk⟩
theorem c_PT14 {ρ ρ' : Nat → Nat} {W : List (Nat × Nat)} {h h' : MH} (ht : TH c_sp ρ h) (f : FQ ρ ρ' W h h') (hn : d_no (c_dep 14) W = true) (k : t_sb ρ h) : t_sb ρ' h' := by
  obtain ⟨k1, k2, k3, k4⟩ := k
  have lt : ∀ x, ρ x ≠ 0 → x < 16 + h_n h := fun x hx => (ht.2 x hx).1
  have c1 : ∀ a R, ρ a = R → R ≠ 0 → (R, 1001) ∈ c_dep 14 → (R, 1002) ∈ c_dep 14 → h_k h' a = h_k h a ∧ ∀ j, h_i h' a j = h_i h a j ∧ h_r h' a j = h_r h a j := fun a R ha hR d1 d2 => by
    have la := lt a (by rw [ha]; exact hR)
    exact ⟨(f.2.2.2 a la).1, fun j => fq_e j f hn d1 d2 ha la⟩
  have same : ∀ a, ρ a ≠ 0 → ρ' a = ρ a := fun a ha => f.2.1 a ha
  refine ⟨fun j hj => ?_, (same 1 (by rw [k2]; decide)).trans k2, fun j hj => ?_, ?_⟩
  · obtain ⟨a1, a2⟩ := k1 j hj
    exact ⟨(same _ (by rw [a1]; decide)).trans a1, (same _ (by rw [a2]; decide)).trans a2⟩
  · obtain ⟨a1, a2⟩ := k1 j hj
    obtain ⟨e1, e2⟩ := c1 _ _ a1 (by decide) (by decide) (by decide)
    obtain ⟨e3, e4⟩ := c1 _ _ a2 (by decide) (by decide) (by decide)
    obtain ⟨n1, n2, n3, n4, n5, n6⟩ := k3 j hj
    refine ⟨by rw [e1]; exact n1, by rw [(e2 0).2]; exact n2, by rw [(e2 1).1]; exact n3, by rw [e3]; exact n4, n5, fun i hi => ?_⟩
    rw [(e4 i).1]
    exact n6 i hi
  · obtain ⟨e1, e2⟩ := c1 1 _ k2 (by decide) (by decide) (by decide)
    refine ⟨by rw [e1]; exact k4.1, fun j hj => ?_⟩
    rw [(e2 j).1]
    exact k4.2 j hj
-- THE CLASS'S PASTS, kept by frames
def pl_same (h h' : MH) (p : Nat) : Prop := (h_r h' p 0 = h_r h p 0 ∧ h_r h' p 1 = h_r h p 1 ∧ h_r h' (h_r h p 0) 4 = h_r h (h_r h p 0) 4 ∧ h_r h' (h_r h p 1) 2 = h_r h (h_r h p 1) 2) ∧ ∀ i, i < 59 → i ≠ 11 → pa_w h' p i = pa_w h p i
def nd_same (h h' : MH) (p : Nat) : Prop := h_r h' (h_r h p 0) 0 = h_r h (h_r h p 0) 0 ∧ (h_i h' (h_r h p 0) 5 = h_i h (h_r h p 0) 5 ∧ h_i h' (h_r h p 0) 6 = h_i h (h_r h p 0) 6) ∧ (∀ j, h_i h' (h_r h (h_r h p 0) 0) j = h_i h (h_r h (h_r h p 0) 0) j) ∧ h_r h' (h_r h p 0) 1 = h_r h (h_r h p 0) 1 ∧ ∀ j, h_l h' (h_r h (h_r h p 0) 1) j = h_l h (h_r h (h_r h p 0) 1) j
def bk_same (h h' : MH) (p : Nat) : Prop := (h_i h' p 11 = h_i h p 11 ∧ h_i h' p 12 = h_i h p 12) ∧ (∀ i, i < 59 → 12 ≤ i → ∀ j, h_i h' (pa_w h p i) j = h_i h (pa_w h p i) j) ∧ (∀ j, h_l h' (h_r h (h_r h p 1) 2) j = h_l h (h_r h (h_r h p 1) 2) j) ∧ nd_same h h' p
def ac_sm (h h' : MH) (c : Nat) : Prop := h_i h' c 2 = h_i h c 2 ∧ ∀ k, q_kd h' c k = q_kd h c k ∧ q_nm h' c k = q_nm h c k
section
variable {h h' : MH} {p q c a : Nat} {Y : RYt}
theorem pl_sameO (e : pl_same h h' p) (k : pl_o h p) : pl_o h' p := fun i j hi hj i1 j1 hn => by
  rw [e.2 i hi i1, e.2 j hj j1]
  exact k i j hi hj i1 j1 hn
theorem pl_sameX (e : pl_same h h' p) (f : pl_same h h' q) (k : pl_x h p q) (c : h_r h' (h_r h' p 0) 0 ≠ h_r h' (h_r h' q 0) 0) (d : h_r h' (h_r h' p 0) 1 ≠ h_r h' (h_r h' q 0) 1) : pl_x h' p q := by
  obtain ⟨⟨a1, a2, a3, a4⟩, a5⟩ := e
  obtain ⟨⟨b1, b2, b3, b4⟩, b5⟩ := f
  obtain ⟨k1, k2, k3, k4, k5, -⟩ := k
  refine ⟨k1, by rw [a1, b1]; exact k2, by rw [a1, b1, a3, b3]; exact k3, by rw [a2, b2, a4, b4]; exact k4, fun i j hi hj i1 j1 => ?_, c, d⟩
  rw [a5 i hi i1, b5 j hj j1]
  exact k5 i j hi hj i1 j1
theorem ce_same (e : pl_same h h' p) (b : bk_same h h' p) : h_r h' (h_r h' p 0) 0 = h_r h (h_r h p 0) 0 := by
  rw [e.1.1]
  exact b.2.2.2.1
theorem he_same (e : pl_same h h' p) (b : bk_same h h' p) : h_r h' (h_r h' p 0) 1 = h_r h (h_r h p 0) 1 := by
  rw [e.1.1]
  exact b.2.2.2.2.2.2.1
theorem pl_sameX2 (e : pl_same h h' p) (f : pl_same h h' q) (be : bk_same h h' p) (bf : bk_same h h' q) (k : pl_x h p q) : pl_x h' p q := pl_sameX e f k (by rw [ce_same e be, ce_same f bf]; exact k.2.2.2.2.2.1) (by rw [he_same e be, he_same f bf]; exact k.2.2.2.2.2.2)
theorem bk_sameB (e : pl_same h h' p) (f : bk_same h h' p) (k : bk_0 h p Y) : bk_0 h' p Y := by
  obtain ⟨⟨a1, a2, a3, a4⟩, a5⟩ := e
  obtain ⟨⟨f1, f12⟩, f2, f3, n1, ⟨n2, n3⟩, n4, n5, n6⟩ := f
  obtain ⟨k1, k2, k3, k4, ⟨k5, kd⟩, ⟨l, c⟩, k7, k8⟩ := k
  have g : ∀ i j, i < 59 → 12 ≤ i → h_i h' (pa_w h' p i) j = h_i h (pa_w h p i) j := fun i j h1 h2 => by
    rw [a5 i h1 (by omega)]
    exact f2 i h1 h2 j
  refine ⟨by rw [f1]; exact k1, fun v hv => ?_, fun k hk => ?_, fun v hv => ?_, ⟨fun v hv => ?_, fun j hj => ?_⟩, ⟨l, ?_⟩, (congrArg Int32.toInt f12).trans k7, fun v hv r hr => (congrArg Int32.toInt (g (18 + v) r (by omega) (by omega))).trans (k8 v hv r hr)⟩
  · rw [g 12 v (by decide) (by decide)]
    exact k2 v hv
  · rw [g 13 k (by decide) (by decide), g 14 k (by decide) (by decide), g 15 k (by decide) (by decide)]
    exact k3 k hk
  · rw [g 16 v (by decide) (by decide), g 17 v (by decide) (by decide)]
    exact k4 v hv
  · have e : h_l h' (h_r h' (h_r h' p 1) 2) = h_l h (h_r h (h_r h p 1) 2) := by
      rw [a2, a4]
      exact funext f3
    rw [e]
    exact k5 v hv
  · rw [a1, n5, n6]
    exact kd j hj
  · rw [a1]
    have e0 : z_i h' (h_r h' (h_r h p 0) 0) = z_i h (h_r h (h_r h p 0) 0) := by
      rw [n1]
      exact funext (fun j => congrArg Int32.toInt (n4 j))
    have e5 : z_i h' (h_r h p 0) 5 = z_i h (h_r h p 0) 5 := congrArg Int32.toInt n2
    have e6 : z_i h' (h_r h p 0) 6 = z_i h (h_r h p 0) 6 := congrArg Int32.toInt n3
    unfold cs_of at c ⊢
    rw [e0, e5, e6]
    exact c
theorem ac_smT (e : ac_sm h h' c) : ac_T h' c = ac_T h c ∧ q_fd h' c 2 = q_fd h c 2 := ⟨funext (fun j => by
  unfold ac_T
  rw [(e.2 _).1, (e.2 _).2]), congrArg Int32.toInt e.1⟩
theorem ac_smY (e : ac_sm h h' c) : ac_Y h' c = ac_Y h c := by
  unfold ac_Y ac_N
  rw [(ac_smT e).1, (ac_smT e).2]
theorem ac_smV (e : ac_sm h h' c) (k : av_c h c) : av_c h' c := fun n hn => by
  rw [(ac_smT e).1]
  rw [(ac_smT e).2] at hn
  exact k n hn
theorem av_same (e5 : q_fd h' a 5 = q_fd h a 5) (b5 : q_fd h a 5 ≤ 4) (er : ∀ r, r < 4 → q_ac h' a r = q_ac h a r ∧ ac_sm h h' (q_ac h a r)) (k : av_t h a) : av_t h' a := fun r hr => by
  rw [e5] at hr
  obtain ⟨e1, e2⟩ := er r (by omega)
  rw [e1]
  exact ac_smV e2 (k r hr)
end
theorem sl_ob {ρ : Nat → Nat} {h : MH} (ht : TH c_sp ρ h) (h16 : ρ 16 = 6) {k : Nat} (hk : k < 4) (h0 : r_sl h k ≠ 0) : ρ (r_sl h k) = 29 := by
  have fP : ρ (r_P h) = 9 := (th_rf ht (R := 6) (by decide) rfl h16 (k := 2) rfl (fun z => by cases z)).2
  have c := t_spec ht (by decide) (rfl : c_sp[9]? = some _) fP
  have l4 : 4 ≤ (h_k h (r_P h)).2 := c.2.1.1
  rcases (c.2.2.2 k (.inr (.inr (29, false))) rfl (fun _ => by omega) : t_rf ρ 29 false (r_sl h k)) with q | ⟨-, -, q⟩
  · exact absurd q.1 h0
  · exact q
def pk_D : List (Nat × Nat) := [(6, 0), (6, 1), (6, 2), (6, 1002), (8, 1001), (8, 1002), (9, 1001), (9, 1002), (29, 0), (29, 1), (29, 2), (29, 3), (29, 4), (29, 5), (29, 6), (29, 7), (29, 8), (29, 11), (39, 2), (39, 3), (39, 4), (16, 0), (16, 1), (16, 2), (16, 3), (16, 4), (16, 5), (16, 6), (42, 0), (42, 1), (42, 2), (30, 1001), (30, 1002), (31, 1001), (31, 1002), (32, 1001), (32, 1002), (33, 1001), (33, 1002), (34, 1001), (34, 1002), (43, 1001), (43, 1002), (44, 1001), (44, 1002), (45, 1001), (45, 1002), (7, 0), (7, 1), (7, 5), (97, 0), (97, 1), (97, 5), (10, 1001), (10, 1002), (98, 1001), (98, 1002), (12, 0), (12, 1), (12, 2), (100, 0), (100, 1), (100, 2), (14, 1001), (14, 1002), (15, 1001), (15, 1002), (101, 1001), (101, 1002), (102, 1001), (102, 1002), (39, 0), (39, 5), (39, 6), (29, 12), (40, 1001), (40, 1002), (35, 1001), (35, 1002), (39, 1), (41, 1001), (41, 1002)]
theorem past_ob {ρ : Nat → Nat} {h : MH} {p : Nat} (ht : TH c_sp ρ h) (hp : ρ p = 29) : (ρ (h_r h p 0) = 39 ∧ ρ (h_r h p 1) = 42 ∧ ρ (h_r h p 2) = 30 ∧ ρ (h_r h p 7) = 35 ∧ ρ (h_r h p 8) = 35) ∧ ρ (h_r h (h_r h p 0) 4) = 16 ∧ ρ (h_r h (h_r h p 1) 2) = 45 := by
  have f := fun (k R2 : Nat) (e : r_ft _ k = some (.inr (.inr (R2, true)))) => (th_rf ht (R := 29) (by decide) rfl hp (k := k) (R2 := R2) e (fun z => by cases z)).2
  have r0 := f 0 39 rfl
  have r1 := f 1 42 rfl
  exact ⟨⟨r0, r1, f 2 30 rfl, f 7 35 rfl, f 8 35 rfl⟩, (th_rf ht (R := 39) (by decide) rfl r0 (k := 4) rfl (fun z => by cases z)).2, (th_rf ht (R := 42) (by decide) rfl r1 (k := 2) rfl (fun z => by cases z)).2⟩
def pa_R (i : Nat) : Nat := if i < 18 then [17, 18, 21, 19, 23, 20, 22, 35, 35, 35, 38, 40, 31, 32, 33, 34, 43, 44].getD i 0 else 35
theorem past_row {ρ : Nat → Nat} {h : MH} {p : Nat} (ht : TH c_sp ρ h) (hp : ρ p = 29) : ∀ i, i < 59 → ρ (pa_w h p i) = pa_R i := by
  obtain ⟨⟨r0, r1, r2, r7, r8⟩, r4, -⟩ := past_ob ht hp
  have f := fun (k R2 : Nat) (e : r_ft _ k = some (.inr (.inr (R2, true)))) => (th_rf ht (R := 29) (by decide) rfl hp (k := k) (R2 := R2) e (fun z => by cases z)).2
  have fw := fun (k R2 : Nat) (e : r_ft _ k = some (.inr (.inr (R2, true)))) => (th_rf ht (R := 16) (by decide) rfl r4 (k := k) (R2 := R2) e (fun z => by cases z)).2
  have fn := fun (k R2 : Nat) (e : r_ft _ k = some (.inr (.inr (R2, true)))) => (th_rf ht (R := 39) (by decide) rfl r0 (k := k) (R2 := R2) e (fun z => by cases z)).2
  have fl := fun (k R2 : Nat) (e : r_ft _ k = some (.inr (.inr (R2, true)))) => (th_rf ht (R := 42) (by decide) rfl r1 (k := k) (R2 := R2) e (fun z => by cases z)).2
  have cR := t_spec ht (by decide) (rfl : c_sp[30]? = some _) r2
  intro i hi
  by_cases h18 : i < 18
  · match i, h18 with
    | 0, _ => exact fw 0 17 rfl
    | 1, _ => exact fw 1 18 rfl
    | 2, _ => exact fw 2 21 rfl
    | 3, _ => exact fw 3 19 rfl
    | 4, _ => exact fw 4 23 rfl
    | 5, _ => exact fw 5 20 rfl
    | 6, _ => exact fw 6 22 rfl
    | 7, _ => exact f 7 35 rfl
    | 8, _ => exact f 8 35 rfl
    | 9, _ => exact fn 2 35 rfl
    | 10, _ => exact fn 3 38 rfl
    | 11, _ => exact fn 0 40 rfl
    | 12, _ => exact f 3 31 rfl
    | 13, _ => exact f 4 32 rfl
    | 14, _ => exact f 5 33 rfl
    | 15, _ => exact f 6 34 rfl
    | 16, _ => exact fl 0 43 rfl
    | 17, _ => exact fl 1 44 rfl
    | q + 18, z => exact absurd z (by omega)
  · have e : pa_w h p i = h_r h (h_r h p 2) (i - 18) := by
      unfold pa_w
      rw [if_neg (by omega), if_neg (by omega), if_neg (by omega), if_neg (by omega), if_neg (by omega), if_neg (by omega), if_neg (by omega), if_neg h18]
    have e2 : pa_R i = 35 := if_neg h18
    have l41 : 41 ≤ (h_k h (h_r h p 2)).2 := cR.2.1.1
    rw [e, e2]
    exact (t_nn (cR.2.2.2 (i - 18) (.inr (.inr (35, true))) rfl (fun _ => by omega))).2
theorem pl_fr {ρ ρ' : Nat → Nat} {W : List (Nat × Nat)} {h h' : MH} {p : Nat} (ht : TH c_sp ρ h) (f : FQ ρ ρ' W h h') (hn : d_no pk_D W = true) (hp : ρ p = 29) : pl_same h h' p ∧ bk_same h h' p := by
  have lt : ∀ {x : Nat}, ρ x ≠ 0 → x < 16 + h_n h := fun {x} hx => (ht.2 x hx).1
  obtain ⟨⟨r0, r1, r2, r7, r8⟩, r4, rf⟩ := past_ob ht hp
  have rw_ := past_row ht hp
  have lp := lt (by rw [hp]; decide)
  have l0 := lt (by rw [r0]; decide)
  have l1 := lt (by rw [r1]; decide)
  have l2 := lt (by rw [r2]; decide)
  have l4 := lt (by rw [r4]; decide)
  have lf := lt (by rw [rf]; decide)
  have p0 := (fq_f f hn (List.mem_of_getElem? (i := 8) rfl) (by decide) hp lp).2
  have p1 := (fq_f f hn (List.mem_of_getElem? (i := 9) rfl) (by decide) hp lp).2
  have p2 := (fq_f f hn (List.mem_of_getElem? (i := 10) rfl) (by decide) hp lp).2
  have p3 := (fq_f f hn (List.mem_of_getElem? (i := 11) rfl) (by decide) hp lp).2
  have p4 := (fq_f f hn (List.mem_of_getElem? (i := 12) rfl) (by decide) hp lp).2
  have p5 := (fq_f f hn (List.mem_of_getElem? (i := 13) rfl) (by decide) hp lp).2
  have p6 := (fq_f f hn (List.mem_of_getElem? (i := 14) rfl) (by decide) hp lp).2
  have p7 := (fq_f f hn (List.mem_of_getElem? (i := 15) rfl) (by decide) hp lp).2
  have p8 := (fq_f f hn (List.mem_of_getElem? (i := 16) rfl) (by decide) hp lp).2
  have n2 := (fq_f f hn (List.mem_of_getElem? (i := 18) rfl) (by decide) r0 l0).2
  have n3 := (fq_f f hn (List.mem_of_getElem? (i := 19) rfl) (by decide) r0 l0).2
  have n4 := (fq_f f hn (List.mem_of_getElem? (i := 20) rfl) (by decide) r0 l0).2
  have w0 := (fq_f f hn (List.mem_of_getElem? (i := 21) rfl) (by decide) r4 l4).2
  have w1 := (fq_f f hn (List.mem_of_getElem? (i := 22) rfl) (by decide) r4 l4).2
  have w2 := (fq_f f hn (List.mem_of_getElem? (i := 23) rfl) (by decide) r4 l4).2
  have w3 := (fq_f f hn (List.mem_of_getElem? (i := 24) rfl) (by decide) r4 l4).2
  have w4 := (fq_f f hn (List.mem_of_getElem? (i := 25) rfl) (by decide) r4 l4).2
  have w5 := (fq_f f hn (List.mem_of_getElem? (i := 26) rfl) (by decide) r4 l4).2
  have w6 := (fq_f f hn (List.mem_of_getElem? (i := 27) rfl) (by decide) r4 l4).2
  have i0 := (fq_f f hn (List.mem_of_getElem? (i := 28) rfl) (by decide) r1 l1).2
  have i1 := (fq_f f hn (List.mem_of_getElem? (i := 29) rfl) (by decide) r1 l1).2
  have i2 := (fq_f f hn (List.mem_of_getElem? (i := 30) rfl) (by decide) r1 l1).2
  have eR := fun j => (fq_e j f hn (List.mem_of_getElem? (i := 31) rfl) (List.mem_of_getElem? (i := 32) rfl) r2 l2).2
  have W_ : ∀ i, i < 59 → i ≠ 11 → pa_w h' p i = pa_w h p i := fun i hi h11 => by
    by_cases h18 : i < 18
    · match i, h18 with
      | 0, _ =>
        show h_r h' (h_r h' (h_r h' p 0) 4) 0 = _
        rw [p0, n4]
        exact w0
      | 1, _ =>
        show h_r h' (h_r h' (h_r h' p 0) 4) 1 = _
        rw [p0, n4]
        exact w1
      | 2, _ =>
        show h_r h' (h_r h' (h_r h' p 0) 4) 2 = _
        rw [p0, n4]
        exact w2
      | 3, _ =>
        show h_r h' (h_r h' (h_r h' p 0) 4) 3 = _
        rw [p0, n4]
        exact w3
      | 4, _ =>
        show h_r h' (h_r h' (h_r h' p 0) 4) 4 = _
        rw [p0, n4]
        exact w4
      | 5, _ =>
        show h_r h' (h_r h' (h_r h' p 0) 4) 5 = _
        rw [p0, n4]
        exact w5
      | 6, _ =>
        show h_r h' (h_r h' (h_r h' p 0) 4) 6 = _
        rw [p0, n4]
        exact w6
      | 7, _ =>
        exact p7
      | 8, _ =>
        exact p8
      | 9, _ =>
        show h_r h' (h_r h' p 0) 2 = _
        rw [p0]
        exact n2
      | 10, _ =>
        show h_r h' (h_r h' p 0) 3 = _
        rw [p0]
        exact n3
      | 11, _ =>
        exact absurd rfl h11
      | 12, _ =>
        exact p3
      | 13, _ =>
        exact p4
      | 14, _ =>
        exact p5
      | 15, _ =>
        exact p6
      | 16, _ =>
        show h_r h' (h_r h' p 1) 0 = _
        rw [p1]
        exact i0
      | 17, _ =>
        show h_r h' (h_r h' p 1) 1 = _
        rw [p1]
        exact i1
      | q + 18, z => exact absurd z (by omega)
    · have e : ∀ g : MH, pa_w g p i = h_r g (h_r g p 2) (i - 18) := fun g => by
        unfold pa_w
        rw [if_neg (by omega), if_neg (by omega), if_neg (by omega), if_neg (by omega), if_neg (by omega), if_neg (by omega), if_neg (by omega), if_neg h18]
      rw [e, e, p2]
      exact eR _
  have rcl := (th_rf ht (R := 39) (by decide) rfl r0 (k := 0) rfl (fun z => by cases z)).2
  have rhl := (th_rf ht (R := 39) (by decide) rfl r0 (k := 1) rfl (fun z => by cases z)).2
  have lh := lt (by rw [rhl]; decide : ρ (h_r h (h_r h p 0) 1) ≠ 0)
  refine ⟨⟨⟨p0, p1, n4, i2⟩, W_⟩, ⟨(fq_f f hn (List.mem_of_getElem? (i := 17) rfl) (by decide) hp lp).1, (fq_f f hn (List.mem_of_getElem? (i := 74) rfl) (by decide) hp lp).1⟩, fun i h1 h2 j => ?_, fun j => ?_, (fq_f f hn (List.mem_of_getElem? (i := 71) rfl) (by decide) r0 l0).2, ⟨(fq_f f hn (List.mem_of_getElem? (i := 72) rfl) (by decide) r0 l0).1, (fq_f f hn (List.mem_of_getElem? (i := 73) rfl) (by decide) r0 l0).1⟩, fun j => (fq_e j f hn (List.mem_of_getElem? (i := 75) rfl) (List.mem_of_getElem? (i := 76) rfl) rcl (lt (by rw [rcl]; decide))).1, (fq_f f hn (List.mem_of_getElem? (i := 79) rfl) (by decide) r0 l0).2, fun j => ?_⟩
  · have ri := rw_ i (by omega)
    match i, h1, h2 with
    | 12, _, _ => exact (fq_e j f hn (List.mem_of_getElem? (i := 33) rfl) (List.mem_of_getElem? (i := 34) rfl) ri (lt (by rw [ri]; decide))).1
    | 13, _, _ => exact (fq_e j f hn (List.mem_of_getElem? (i := 35) rfl) (List.mem_of_getElem? (i := 36) rfl) ri (lt (by rw [ri]; decide))).1
    | 14, _, _ => exact (fq_e j f hn (List.mem_of_getElem? (i := 37) rfl) (List.mem_of_getElem? (i := 38) rfl) ri (lt (by rw [ri]; decide))).1
    | 15, _, _ => exact (fq_e j f hn (List.mem_of_getElem? (i := 39) rfl) (List.mem_of_getElem? (i := 40) rfl) ri (lt (by rw [ri]; decide))).1
    | 16, _, _ => exact (fq_e j f hn (List.mem_of_getElem? (i := 41) rfl) (List.mem_of_getElem? (i := 42) rfl) ri (lt (by rw [ri]; decide))).1
    | 17, _, _ => exact (fq_e j f hn (List.mem_of_getElem? (i := 43) rfl) (List.mem_of_getElem? (i := 44) rfl) ri (lt (by rw [ri]; decide))).1
    | q + 18, z, _ =>
      have r6 : ρ (pa_w h p (q + 18)) = 35 := ri.trans (if_neg (by omega))
      exact (fq_e j f hn (List.mem_of_getElem? (i := 77) rfl) (List.mem_of_getElem? (i := 78) rfl) r6 (lt (by rw [r6]; decide))).1
  · have hw : ¬ t_W W (ρ (h_r h (h_r h p 1) 2)) j := by
      rw [rf]
      by_cases hk : j = 1002
      · intro z
        rcases z with z | z
        · rw [hk] at z
          exact d_noN hn (List.mem_of_getElem? (i := 46) rfl) z
        · exact d_noW hn (List.mem_of_getElem? (i := 45) rfl) (by decide) (Or.inr z)
      · rcases d_noE (k := j) hn (List.mem_of_getElem? (i := 45) rfl) with z | z
        · exact z
        · exact absurd z hk
    exact ((f.2.2.2 _ lf).2 j hw).2.1
  · have hw : ¬ t_W W (ρ (h_r h (h_r h p 0) 1)) j := by
      rw [rhl]
      by_cases hk : j = 1002
      · intro z
        rcases z with z | z
        · rw [hk] at z
          exact d_noN hn (List.mem_of_getElem? (i := 81) rfl) z
        · exact d_noW hn (List.mem_of_getElem? (i := 80) rfl) (by decide) (Or.inr z)
      · rcases d_noE (k := j) hn (List.mem_of_getElem? (i := 80) rfl) with z | z
        · exact z
        · exact absurd z hk
    exact ((f.2.2.2 _ lh).2 j hw).2.1
theorem as_frN {ρ ρ' : Nat → Nat} {W : List (Nat × Nat)} {h h' : MH} {a : Nat} (ht : TH c_sp ρ h) (f : FQ ρ ρ' W h h') (hn : d_no pk_D W = true) (ha : ρ a = 7) : q_fd h' a 5 = q_fd h a 5 ∧ ∀ r, r < 4 → q_ac h' a r = q_ac h a r ∧ ac_sm h h' (q_ac h a r) := by
  have lt : ∀ {x : Nat}, ρ x ≠ 0 → x < 16 + h_n h := fun {x} hx => (ht.2 x hx).1
  obtain ⟨-, -, oA⟩ := td_obN ht ha
  have rf := td_rfN ht f (d_noS hn (by decide)) ha
  refine ⟨congrArg Int32.toInt (fq_f f hn (List.mem_of_getElem? (i := 49) rfl) (by decide) ha (lt (by rw [ha]; decide))).1, fun r hr => ?_⟩
  obtain ⟨e1, e2, e3⟩ := rf.2 r hr
  obtain ⟨o1, o2, o3⟩ := oA r hr
  refine ⟨e1, (fq_f f hn (List.mem_of_getElem? (i := 59) rfl) (by decide) o1 (lt (by rw [o1]; decide))).1, fun k => ⟨?_, ?_⟩⟩
  · show (h_i h' (h_r h' (q_ac h a r) 0) k).toInt = _
    rw [e2]
    exact congrArg Int32.toInt (fq_e k f hn (List.mem_of_getElem? (i := 63) rfl) (List.mem_of_getElem? (i := 64) rfl) o2 (lt (by rw [o2]; decide))).1
  · show (h_i h' (h_r h' (q_ac h a r) 1) k).toInt = _
    rw [e3]
    exact congrArg Int32.toInt (fq_e k f hn (List.mem_of_getElem? (i := 65) rfl) (List.mem_of_getElem? (i := 66) rfl) o3 (lt (by rw [o3]; decide))).1
theorem as_frI {ρ ρ' : Nat → Nat} {W : List (Nat × Nat)} {h h' : MH} {a : Nat} (ht : TH c_sp ρ h) (f : FQ ρ ρ' W h h') (hn : d_no pk_D W = true) (ha : ρ a = 97) : q_fd h' a 5 = q_fd h a 5 ∧ ∀ r, r < 4 → q_ac h' a r = q_ac h a r ∧ ac_sm h h' (q_ac h a r) := by
  have lt : ∀ {x : Nat}, ρ x ≠ 0 → x < 16 + h_n h := fun {x} hx => (ht.2 x hx).1
  obtain ⟨-, -, oA⟩ := td_obI ht ha
  have rf := td_rfI ht f (d_noS hn (by decide)) ha
  refine ⟨congrArg Int32.toInt (fq_f f hn (List.mem_of_getElem? (i := 52) rfl) (by decide) ha (lt (by rw [ha]; decide))).1, fun r hr => ?_⟩
  obtain ⟨e1, e2, e3⟩ := rf.2 r hr
  obtain ⟨o1, o2, o3⟩ := oA r hr
  refine ⟨e1, (fq_f f hn (List.mem_of_getElem? (i := 62) rfl) (by decide) o1 (lt (by rw [o1]; decide))).1, fun k => ⟨?_, ?_⟩⟩
  · show (h_i h' (h_r h' (q_ac h a r) 0) k).toInt = _
    rw [e2]
    exact congrArg Int32.toInt (fq_e k f hn (List.mem_of_getElem? (i := 67) rfl) (List.mem_of_getElem? (i := 68) rfl) o2 (lt (by rw [o2]; decide))).1
  · show (h_i h' (h_r h' (q_ac h a r) 1) k).toInt = _
    rw [e3]
    exact congrArg Int32.toInt (fq_e k f hn (List.mem_of_getElem? (i := 69) rfl) (List.mem_of_getElem? (i := 70) rfl) o3 (lt (by rw [o3]; decide))).1
theorem sl_fr {ρ ρ' : Nat → Nat} {W : List (Nat × Nat)} {h h' : MH} (ht : TH c_sp ρ h) (f : FQ ρ ρ' W h h') (hn : d_no pk_D W = true) (h16 : ρ 16 = 6) (k : Nat) : r_sl h' k = r_sl h k := by
  have l16 := (ht.2 16 (by rw [h16]; decide)).1
  have eP : r_P h' = r_P h := (fq_f f hn (List.mem_of_getElem? (i := 2) rfl) (by decide) h16 l16).2
  have fP : ρ (r_P h) = 9 := (th_rf ht (R := 6) (by decide) rfl h16 (k := 2) rfl (fun z => by cases z)).2
  unfold r_sl
  rw [eP]
  exact (fq_e k f hn (List.mem_of_getElem? (i := 6) rfl) (List.mem_of_getElem? (i := 7) rfl) fP (ht.2 _ (by rw [fP]; decide)).1).2
theorem c_PT15 {ρ ρ' : Nat → Nat} {W : List (Nat × Nat)} {h h' : MH} (ht : TH c_sp ρ h) (f : FQ ρ ρ' W h h') (hn0 : d_no (c_dep 15) W = true) (k : t_pk ρ h) : t_pk ρ' h' := by
  obtain ⟨h16, k1, k2, k3, k4⟩ := k
  have hn : d_no pk_D W = true := d_noS hn0 (by decide)
  have l16 := (ht.2 16 (by rw [h16]; decide)).1
  have e0 : h_r h' 16 0 = h_r h 16 0 := (fq_f f hn (List.mem_of_getElem? (i := 0) rfl) (by decide) h16 l16).2
  have es := sl_fr ht f hn h16
  have fN := nw_ob ht h16
  obtain ⟨n5, nA⟩ := as_frN ht f hn fN
  have b5 := (td_r4N ht fN).2.1
  refine ⟨(f.2.1 16 (by rw [h16]; decide)).trans h16, fun i hi h0 => ?_, fun r hr => ?_, by rw [e0]; exact av_same n5 b5 nA k3, fun j hj h0 => ?_⟩
  · rw [es] at h0
    rw [es]
    obtain ⟨y1, y2⟩ := k1 i hi h0
    have si := pl_fr ht f hn (sl_ob ht h16 hi h0)
    refine ⟨pl_sameO si.1 y1, fun j hj hn2 h1 => ?_⟩
    rw [es] at h1
    rw [es]
    have sj := pl_fr ht f hn (sl_ob ht h16 hj h1)
    exact pl_sameX2 si.1 sj.1 si.2 sj.2 (y2 j hj hn2 h1)
  · rw [e0, n5] at hr
    have r4 : r < 4 := by omega
    obtain ⟨y1, y2⟩ := k2 r hr
    have sr := pl_fr ht f hn (sl_ob ht h16 r4 y1)
    rw [es, e0, (nA r r4).1, ac_smY (nA r r4).2]
    exact ⟨y1, bk_sameB sr.1 sr.2 y2⟩
  · have ei := im_eq ht f h16 hn (List.mem_of_getElem? (i := 1) rfl) (List.mem_of_getElem? (i := 4) rfl) (List.mem_of_getElem? (i := 5) rfl) j
    rw [ei] at h0 ⊢
    have oI := im_ob ht h16 j hj h0
    obtain ⟨m5, mA⟩ := as_frI ht f hn oI
    exact av_same m5 (td_r4I ht oI).2.1 mA (k4 j hj h0)
theorem c_PTx : PTx c_sp c_dep c_PT := fun t ρ ρ' W h h' ht f hn k => by
  match t with
  | 1 => exact c_PT1 ht f hn k
  | 2 => exact c_PT2 ht f hn k
  | 3 => exact c_PT3 ht f hn k
  | 4 => exact c_PT4 ht f hn k
  | 5 => exact c_PT5 ht f hn k
  | 6 => exact c_PT6 ht f hn k
  | 7 => exact c_PT7 ht f hn k
  | 8 => exact c_PT8 ht f hn k
  | 9 => exact c_PT9 ht f hn k
  | 10 => exact c_PT10 ht f hn k
  | 11 => exact c_PT11 ht f hn k
  | 12 => exact c_PT12 ht f hn k
  | 13 => exact c_PT13 ht f hn k
  | 14 => exact c_PT14 ht f hn k
  | 15 => exact c_PT15 ht f hn k
  | 0 => exact trivial
  | t + 16 => exact trivial
def c_g_ND_NODES : SM := (((([(1, (0, 15120)), (3, (448, 224000)), (5, (64, 32000))], []), ([((0, (39, 5)), .inl ([(1, 1)], 0)), ((0, (39, 0)), .inr (.inr (2, (40, true)))), ((2, (40, 1000)), .inl ([(3, 1)], 0)), ((0, (39, 1)), .inr (.inr (4, (41, true)))), ((4, (41, 1000)), .inl ([(5, 1)], 0))], ((k_pins 6, List.range 6), (6, ([(0, .inr (.inr (0, (39, true))))], []))))), [1]), ([], [((([], [([(1, 7), (3, (-1))], 0), ([(1, 1), (5, (-1))], 0)]), ([], ((k_pins 6, List.range 6), (6, ([], []))))), [])]))
def c_g_ND_NODESA : SM := (((([(1, (0, 16000)), (3, (448, 224000)), (5, (64, 32000))], []), ([((0, (48, 5)), .inl ([(1, 1)], 0)), ((0, (48, 0)), .inr (.inr (2, (40, true)))), ((2, (40, 1000)), .inl ([(3, 1)], 0)), ((0, (48, 1)), .inr (.inr (4, (41, true)))), ((4, (41, 1000)), .inl ([(5, 1)], 0))], ((k_pins 6, List.range 6), (6, ([(0, .inr (.inr (0, (48, true))))], []))))), [1]), ([], [((([], [([(1, 7), (3, (-1))], 0), ([(1, 1), (5, (-1))], 0)]), ([], ((k_pins 6, List.range 6), (6, ([], []))))), [])]))
def c_g_RW : SM := (((([(1, (0, 3)), (4, ((-2147483648), 2147483647))], [([(1, (-161)), (3, 1)], 0), ([(1, 161), (3, (-1))], 0)]), ([((0, (49, 6)), .inr (.inr (2, (55, true)))), ((2, (55, 5003)), .inl ([(4, 1)], 0))], ((k_pins 5, List.range 5), (5, ([(0, .inr (.inr (0, (49, true)))), (1, .inl ([(1, 1)], 0))], []))))), [7]), ([], [((([], [([(4, (-1))], 0), ([(4, 1)], (-40))]), ([], ((k_pins 5, List.range 5), (5, ([], []))))), [])]))
def c_g_TOLD0 : SM := (((([(1, (0, 160)), (3, ((-2147483648), 2147483647)), (4, ((-2147483648), 2147483647))], []), ([((0, (49, 16)), .inr (.inr (2, (56, true)))), ((2, (56, 0)), .inl ([(3, 1)], 0)), ((2, (56, 5001)), .inl ([(4, 1)], 0))], ((k_pins 5, List.range 5), (5, ([(0, .inr (.inr (0, (49, true)))), (3, .inl ([(1, 1)], 0))], []))))), []), ([], [((([], [([(1, 1)], 0), ([(3, (-1)), (4, 1)], 0), ([(3, 1), (4, (-1))], 0)]), ([], ((k_pins 5, List.range 5), (5, ([], []))))), []), ((([], [([(1, (-1))], 1)]), ([], ((k_pins 5, List.range 5), (5, ([], []))))), [])]))
def c_g_P0a : SM := (((([(1, (0, 40)), (3, ((-1), 40))], []), ([((0, (49, 39)), .inr (.inr (2, (74, true)))), ((2, (74, 5001)), .inl ([(3, 1)], 0))], ((k_pins 4, List.range 4), (4, ([(0, .inr (.inr (0, (49, true)))), (1, .inl ([(1, 1)], 0))], []))))), [8]), ([], [((([], [([(3, 1)], 1)]), ([], ((k_pins 4, List.range 4), (4, ([], []))))), []), ((([], [([(1, (-1))], 1)]), ([], ((k_pins 4, List.range 4), (4, ([], []))))), [])]))
def c_g_P0b : SM := (((([(1, (0, 40)), (3, ((-1), 40))], []), ([((0, (49, 40)), .inr (.inr (2, (75, true)))), ((2, (75, 5001)), .inl ([(3, 1)], 0))], ((k_pins 4, List.range 4), (4, ([(0, .inr (.inr (0, (49, true)))), (1, .inl ([(1, 1)], 0))], []))))), [8]), ([], [((([], [([(3, 1)], 1)]), ([], ((k_pins 4, List.range 4), (4, ([], []))))), []), ((([], [([(1, (-1))], 1)]), ([], ((k_pins 4, List.range 4), (4, ([], []))))), [])]))
def c_k_ND_NODES : KR := (((([(2, (64, 32000)), (3, ((-2147483648), 2147483647))], [([(2, (-1)), (3, 1)], 0)]), ([((0, (39, 1)), .inr (.inr (1, (41, true)))), ((1, (41, 1000)), .inl ([(2, 1)], 0))], ((k_pins 4, List.range 4), (4, ([(0, .inr (.inr (0, (39, true))))], [.inl ([(3, 1)], 0), .inr (.inr (0, (39, true)))]))))), [1]), [1])
def c_k_ND_NODESA : KR := (((([(2, (64, 32000)), (3, ((-2147483648), 2147483647))], [([(2, (-1)), (3, 1)], 0)]), ([((0, (48, 1)), .inr (.inr (1, (41, true)))), ((1, (41, 1000)), .inl ([(2, 1)], 0))], ((k_pins 4, List.range 4), (4, ([(0, .inr (.inr (0, (48, true))))], [.inl ([(3, 1)], 0), .inr (.inr (0, (48, true)))]))))), [1]), [1])
def c_k_RWt : KR := (((([(1, (0, 3)), (2, (0, 160)), (4, ((-2147483648), 2147483647))], [([(2, (-4294967296)), (4, 1)], (-40)), ([(2, (-4294967296)), (4, (-1))], 0)]), ([((0, (49, 6)), .inr (.inr (3, (55, true))))], ((k_pins 5, List.range 5), (5, ([(0, .inr (.inr (0, (49, true)))), (2, .inl ([(1, 1)], 0)), (3, .inl ([(2, 1)], 0))], [.inl ([(4, 1)], 0), .inl ([(1, 161), (2, 1)], 0), .inr (.inr (3, (55, true)))]))))), [7]), [7])
def c_k_RWc : KR := (((([(1, (0, 3)), (2, (0, 3)), (3, (0, 643)), (5, ((-2147483648), 2147483647))], [([(1, (-644)), (3, (-1)), (4, 1)], 0), ([(1, 644), (3, 1), (4, (-1))], 0)]), ([((0, (55, 5004)), .inl ([(5, 1)], 0))], ((k_pins 6, List.range 6), (6, ([(0, .inr (.inr (0, (55, true)))), (2, .inl ([(1, 1)], 0)), (3, .inl ([(2, 1)], 0)), (4, .inl ([(3, 1)], 0))], [.inl ([(5, 1)], 0), .inl ([(2, 644), (3, 1)], 0), .inr (.inr (0, (55, true)))]))))), [7]), [7])
def c_k_HSro : KR := (((([(1, (0, 40)), (2, (0, 5)), (5, (0, 41)), (7, ((-1), 15999))], [([(1, (-6)), (2, (-1)), (6, 1)], 0), ([(1, 6), (2, 1), (6, (-1))], 0), ([(1, 1), (5, (-1))], 1)]), ([((0, (49, 24)), .inr (.inr (3, (61, true)))), ((0, (49, 36)), .inr (.inr (4, (71, true)))), ((0, (49, 35)), .inl ([(5, 1)], 0)), ((4, (71, 5006)), .inl ([(7, 1)], 0))], ((k_pins 8, List.range 8), (8, ([(0, .inr (.inr (0, (49, true)))), (1, .inl ([(1, 1)], 0)), (2, .inl ([(2, 1)], 0))], [.inl ([(7, 1)], 0), .inl ([(2, 1)], 0), .inr (.inr (3, (61, true)))]))))), [4, 6]), [4])
