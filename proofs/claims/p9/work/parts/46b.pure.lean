-- THE RUN OF A ROW OF ACTS, PURE (ahead of the tokens)
-- how much a heap's roots weigh
def y_tg (x : Int) : Nat := if x = -1 then 0 else 1
theorem y_tg0 {x : Int} (h : x = -1) : y_tg x = 0 := if_pos h
theorem y_tg1 {x : Int} (h : x ≠ -1) : y_tg x = 1 := if_neg h
def p_ws (f : Nat → Int) : Nat → Nat
  | 0 => 0
  | r + 1 => p_ws f r + y_tg (f r) * 2 ^ r
theorem p_wsC {f f' : Nat → Int} : ∀ {r : Nat}, (∀ j, j < r → f' j = f j) → p_ws f' r = p_ws f r
  | 0, _ => rfl
  | r + 1, h => by
    rw [p_ws, p_ws, p_wsC (fun j hj => h j (by omega)), h r (by omega)]
-- a store of nodes: how many, things, keys, ranks, what is right below (6 * node + rank), links made
abbrev PSt : Type := Nat × (Nat → Int) × (Nat → Int) × (Nat → Int) × (Nat → Int) × Int
def ps_n (S : PSt) : Nat := S.1
def ps_t (S : PSt) : Nat → Int := S.2.1
def ps_y (S : PSt) : Nat → Int := S.2.2.1
def ps_k (S : PSt) : Nat → Int := S.2.2.2.1
def ps_b (S : PSt) : Nat → Int := S.2.2.2.2.1
def ps_l (S : PSt) : Int := S.2.2.2.2.2
def ps_mk (S : PSt) (t y k : Int) (f : Nat → Int) : PSt := (ps_n S + 1, m_u (ps_t S) (ps_n S) t, m_u (ps_y S) (ps_n S) y, m_u (ps_k S) (ps_n S) k, fun j => if 6 * ps_n S ≤ j ∧ j < 6 * ps_n S + 6 then f (j - 6 * ps_n S) else ps_b S j, ps_l S)
def ps_le (S : PSt) (l : Int) : PSt := (ps_n S, ps_t S, ps_y S, ps_k S, ps_b S, l)
theorem ps_mkN {S : PSt} {t y k : Int} {f : Nat → Int} : ps_n (ps_mk S t y k f) = ps_n S + 1 ∧ ps_t (ps_mk S t y k f) = m_u (ps_t S) (ps_n S) t ∧ ps_y (ps_mk S t y k f) = m_u (ps_y S) (ps_n S) y ∧ ps_k (ps_mk S t y k f) = m_u (ps_k S) (ps_n S) k ∧ ps_l (ps_mk S t y k f) = ps_l S := ⟨rfl, rfl, rfl, rfl, rfl⟩
theorem ps_mkB {S : PSt} {t y k : Int} {f : Nat → Int} {j : Nat} (h : j < 6 * ps_n S) : ps_b (ps_mk S t y k f) j = ps_b S j := by
  show (if 6 * ps_n S ≤ j ∧ j < 6 * ps_n S + 6 then f (j - 6 * ps_n S) else ps_b S j) = _
  rw [if_neg (by omega)]
theorem ps_mkC {S : PSt} {t y k : Int} {f : Nat → Int} {r : Nat} (h : r < 6) : ps_b (ps_mk S t y k f) (6 * ps_n S + r) = f r := by
  show (if 6 * ps_n S ≤ 6 * ps_n S + r ∧ 6 * ps_n S + r < 6 * ps_n S + 6 then f (6 * ps_n S + r - 6 * ps_n S) else _) = _
  rw [if_pos ⟨by omega, by omega⟩, show 6 * ps_n S + r - 6 * ps_n S = r by omega]
-- of two nodes the lesser
abbrev ps_ls (S : PSt) (a b : Int) : Prop := ps_y S a.toNat < ps_y S b.toNat ∨ (ps_y S a.toNat = ps_y S b.toNat ∧ ps_t S a.toNat < ps_t S b.toNat)
def ps_up (S : PSt) (a b : Int) : Int := if ps_ls S b a then b else a
def ps_dn (S : PSt) (a b : Int) : Int := if ps_ls S b a then a else b
theorem ps_udT {S : PSt} {a b : Int} (h : ps_ls S b a) : ps_up S a b = b ∧ ps_dn S a b = a := ⟨if_pos h, if_pos h⟩
theorem ps_udF {S : PSt} {a b : Int} (h : ¬ ps_ls S b a) : ps_up S a b = a ∧ ps_dn S a b = b := ⟨if_neg h, if_neg h⟩
-- a link
def ps_lk (S : PSt) (u d : Int) : PSt := ps_le (ps_mk S (ps_t S u.toNat) (ps_y S u.toNat) (ps_k S u.toNat + 1) (fun r => if (r : Int) < ps_k S u.toNat then ps_b S (6 * u.toNat + r) else d)) (ps_l S + 1)
def ps_link (S : PSt) (a b : Int) : PSt := ps_lk S (ps_up S a b) (ps_dn S a b)
theorem ps_lkN {S : PSt} {u d : Int} : ps_n (ps_lk S u d) = ps_n S + 1 ∧ ps_t (ps_lk S u d) = m_u (ps_t S) (ps_n S) (ps_t S u.toNat) ∧ ps_y (ps_lk S u d) = m_u (ps_y S) (ps_n S) (ps_y S u.toNat) ∧ ps_k (ps_lk S u d) = m_u (ps_k S) (ps_n S) (ps_k S u.toNat + 1) ∧ ps_l (ps_lk S u d) = ps_l S + 1 := ⟨rfl, rfl, rfl, rfl, rfl⟩
theorem ps_lkB {S : PSt} {u d : Int} {j : Nat} (h : j < 6 * ps_n S) : ps_b (ps_lk S u d) j = ps_b S j := ps_mkB (S := S) (t := ps_t S u.toNat) (y := ps_y S u.toNat) (k := ps_k S u.toNat + 1) (f := fun r => if (r : Int) < ps_k S u.toNat then ps_b S (6 * u.toNat + r) else d) h
theorem ps_lkC {S : PSt} {u d : Int} {r : Nat} (h : r < 6) : ps_b (ps_lk S u d) (6 * ps_n S + r) = if (r : Int) < ps_k S u.toNat then ps_b S (6 * u.toNat + r) else d := ps_mkC (S := S) (t := ps_t S u.toNat) (y := ps_y S u.toNat) (k := ps_k S u.toNat + 1) (f := fun r => if (r : Int) < ps_k S u.toNat then ps_b S (6 * u.toNat + r) else d) h
-- heaps melded, rank by rank: (store, heap, carried)
abbrev PXt : Type := PSt × (Nat → Int) × Int
def pm_one (x y : Int) : Int := if x = -1 then y else x
def pm_st (s : Nat → Int) (X : PXt) (r : Nat) : PXt :=
  if X.2.1 r ≠ -1 ∧ s r ≠ -1 then (ps_link X.1 (X.2.1 r) (s r), m_u X.2.1 r X.2.2, (ps_n X.1 : Int))
  else if X.2.2 ≠ -1 ∧ pm_one (X.2.1 r) (s r) ≠ -1 then (ps_link X.1 X.2.2 (pm_one (X.2.1 r) (s r)), m_u X.2.1 r (-1), (ps_n X.1 : Int))
  else (X.1, m_u X.2.1 r (pm_one X.2.2 (pm_one (X.2.1 r) (s r))), -1)
def pm_run (s : Nat → Int) (X : PXt) : Nat → PXt
  | 0 => X
  | r + 1 => pm_st s (pm_run s X r) r
def pm_md (S : PSt) (h s : Nat → Int) : PSt × (Nat → Int) := ((pm_run s (S, h, -1) 6).1, (pm_run s (S, h, -1) 6).2.1)
-- the least root's rank
def pm_le (S : PSt) (h : Nat → Int) : Nat → Int
  | 0 => -1
  | r + 1 => if h r ≠ -1 ∧ (pm_le S h r = -1 ∨ ps_ls S (h r) (h (pm_le S h r).toNat)) then (r : Int) else pm_le S h r
def pm_tk (X : PSt × (Nat → Int)) : PSt × (Nat → Int) := if pm_le X.1 X.2 6 = -1 then X else pm_md X.1 (m_u X.2 (pm_le X.1 X.2 6).toNat (-1)) (fun i => if (i : Int) < pm_le X.1 X.2 6 then ps_b X.1 (6 * (X.2 (pm_le X.1 X.2 6).toNat).toNat + i) else -1)
-- what a put makes
def pm_pu (S : PSt) (h : Nat → Int) (t k : Int) : PSt × (Nat → Int) := pm_md (ps_mk S t k 0 (fun _ => -1)) h (fun r => if r = 0 then (ps_n S : Int) else -1)
-- all less than a key go
def pm_ct (k : Int) : Nat → PSt × (Nat → Int) → PSt × (Nat → Int)
  | 0, X => X
  | f + 1, X => if pm_le X.1 X.2 6 = -1 ∨ k ≤ ps_y X.1 (X.2 (pm_le X.1 X.2 6).toNat).toNat then X else pm_ct k f (pm_tk X)
-- a walk: (how many, nodes, from which place, how deep); what waits, the next one first
abbrev WKt : Type := Nat × (Nat → Int) × (Nat → Int) × (Nat → Int)
def wk_on (v u : Int) (O : WKt) : WKt := (O.1 + 1, m_u O.2.1 O.1 v, m_u O.2.2.1 O.1 u, m_u O.2.2.2 O.1 (if u = -1 then 0 else O.2.2.2 u.toNat + 1))
def wk_ch (S : PSt) (v : Int) (w : Nat) : Nat → List (Int × Int)
  | 0 => []
  | r + 1 => (ps_b S (6 * v.toNat + r), (w : Int)) :: wk_ch S v w r
def wk_go (S : PSt) : Nat → List (Int × Int) → WKt → WKt
  | 0, _, O => O
  | _ + 1, [], O => O
  | f + 1, (v, u) :: l, O => wk_go S f (wk_ch S v O.1 (ps_k S v.toNat).toNat ++ l) (wk_on v u O)
def wk_rs (h : Nat → Int) : Nat → Nat → List (Int × Int)
  | 0, _ => []
  | d + 1, r => if h r = -1 then wk_rs h d (r + 1) else (h r, -1) :: wk_rs h d (r + 1)
def wk_0 : WKt := (0, fun _ => 0, fun _ => 0, fun _ => 0)
def wk_all (S : PSt) (h : Nat → Int) : WKt := wk_go S 64 (wk_rs h 6 0) wk_0
def wk_st (P U : Nat → Int) : Nat → List (Int × Int)
  | 0 => []
  | t + 1 => (P t, U t) :: wk_st P U t
-- a thing lowered
def lw_f (S : PSt) (t k : Int) (O : WKt) : Nat → Nat → Int
  | 0, _ => -1
  | d + 1, i => if ps_t S (O.2.1 i).toNat = t ∧ k ≤ ps_y S (O.2.1 i).toNat then (i : Int) else lw_f S t k O d (i + 1)
def lw_an (O : WKt) (p : Int) : Nat → Int
  | 0 => p
  | j + 1 => O.2.2.1 (lw_an O p j).toNat
def lw_ri (S : PSt) (t k : Int) (y : Nat → Nat) : Nat → Nat
  | 0 => 0
  | i + 1 => if k < ps_y S (y i) ∨ (k = ps_y S (y i) ∧ t < ps_t S (y i)) then lw_ri S t k y i else i + 1
def lw_mk (S : PSt) (t k : Int) (y : Nat → Nat) (n e : Nat) : Nat → PSt
  | 0 => S
  | d + 1 => ps_mk (lw_mk S t k y n e d) (if d = e then t else ps_t S (y (if e < d then d - 1 else d))) (if d = e then k else ps_y S (y (if e < d then d - 1 else d))) (ps_k S (y d)) (fun r => if d < n ∧ (r : Int) = ps_k S (y (d + 1)) then ((ps_n S + d + 1 : Nat) : Int) else ps_b S (6 * y d + r))
def lw_y (O : WKt) (p : Int) (n i : Nat) : Nat := (O.2.1 (lw_an O p (n - i)).toNat).toNat
def lw_do (S : PSt) (h : Nat → Int) (t k : Int) : Option (PSt × (Nat → Int)) :=
  let O := wk_all S h
  let p := lw_f S t k O O.1 0
  let n := (O.2.2.2 p.toNat).toNat
  let y := lw_y O p n
  if p = -1 then none else some (lw_mk S t k y n (lw_ri S t k y n) (n + 1), m_u h (ps_k S (y 0)).toNat (ps_n S : Int))
-- a row: store, things, versions, roots (6 * version + rank), made, linked, from which versions
abbrev RYt : Type := PSt × Int × Nat × (Nat → Int) × (Nat → Int) × (Nat → Int) × (Nat → Int) × (Nat → Int)
def ry_s (Y : RYt) : PSt := Y.1
def ry_t (Y : RYt) : Int := Y.2.1
def ry_v (Y : RYt) : Nat := Y.2.2.1
def ry_r (Y : RYt) : Nat → Int := Y.2.2.2.1
def ry_m (Y : RYt) : Nat → Int := Y.2.2.2.2.1
def ry_l (Y : RYt) : Nat → Int := Y.2.2.2.2.2.1
def ry_a (Y : RYt) : Nat → Int := Y.2.2.2.2.2.2.1
def ry_b (Y : RYt) : Nat → Int := Y.2.2.2.2.2.2.2
def ry_h (Y : RYt) (v : Int) : Nat → Int := fun r => ry_r Y (6 * v.toNat + r)
def ry_is (Y : RYt) (v : Int) : Bool := decide (0 ≤ v ∧ v < (ry_v Y : Int))
def ry_do (Y : RYt) (w v a b : Int) : Option (PSt × (Nat → Int) × Int) :=
  let S := ps_le (ry_s Y) 0
  if w = 0 then some (S, fun _ => -1, ry_t Y)
  else if ry_is Y v = false then none
  else if w = 2 then (if ry_is Y a = true ∧ p_ws (ry_h Y v) 6 + p_ws (ry_h Y a) 6 ≤ 63 then some ((pm_md S (ry_h Y v) (ry_h Y a)).1, (pm_md S (ry_h Y v) (ry_h Y a)).2, ry_t Y) else none)
  else if w = 1 then (if p_ws (ry_h Y v) 6 = 63 then none else some ((pm_pu S (ry_h Y v) (ry_t Y) a).1, (pm_pu S (ry_h Y v) (ry_t Y) a).2, ry_t Y + 1))
  else if w = 3 then (if pm_le S (ry_h Y v) 6 = -1 then none else some ((pm_tk (S, ry_h Y v)).1, (pm_tk (S, ry_h Y v)).2, ry_t Y))
  else if w = 4 then (match lw_do S (ry_h Y v) a b with
    | none => none
    | some X => some (X.1, X.2, ry_t Y))
  else some ((pm_ct a 63 (S, ry_h Y v)).1, (pm_ct a 63 (S, ry_h Y v)).2, ry_t Y)
def ry_z (Y : RYt) : RYt := (ps_le (ry_s Y) 0, Y.2)
def ry_kp (Y : RYt) (k : Nat) (w v a : Int) (X : PSt × (Nat → Int) × Int) : RYt := (X.1, X.2.2, ry_v Y + 1, fun j => if 6 * ry_v Y ≤ j ∧ j < 6 * ry_v Y + 6 then X.2.1 (j - 6 * ry_v Y) else ry_r Y j, m_u (ry_m Y) k ((ps_n X.1 : Int) - (ps_n (ry_s Y) : Int)), m_u (ry_l Y) k (ps_l X.1), m_u (ry_a Y) (ry_v Y) (if w = 0 then -1 else v), m_u (ry_b Y) (ry_v Y) (if w = 2 then a else -1))
def ry_0 : RYt := ((0, fun _ => 0, fun _ => 0, fun _ => 0, fun _ => 0, 0), 0, 1, fun _ => -1, fun _ => 0, fun _ => 0, fun _ => -1, fun _ => -1)
-- the acts one after the other: 4 * k the kind, behind it the numbers
def ry_run (T : Nat → Int) : Nat → RYt × Bool
  | 0 => (ry_0, true)
  | k + 1 => if (ry_run T k).2 = true then (match ry_do (ry_z (ry_run T k).1) (T (4 * k)) (T (4 * k + 1)) (T (4 * k + 2)) (T (4 * k + 3)) with
    | none => (ry_z (ry_run T k).1, false)
    | some X => (ry_kp (ry_z (ry_run T k).1) k (T (4 * k)) (T (4 * k + 1)) (T (4 * k + 2)) X, true)) else ry_run T k
theorem ry_run0 {T : Nat → Int} {k : Nat} (f : (ry_run T k).2 = true) (e : ry_do (ry_z (ry_run T k).1) (T (4 * k)) (T (4 * k + 1)) (T (4 * k + 2)) (T (4 * k + 3)) = none) : ry_run T (k + 1) = (ry_z (ry_run T k).1, false) := by
  rw [ry_run, if_pos f, e]
theorem ry_run1 {T : Nat → Int} {k : Nat} {X : PSt × (Nat → Int) × Int} (f : (ry_run T k).2 = true) (e : ry_do (ry_z (ry_run T k).1) (T (4 * k)) (T (4 * k + 1)) (T (4 * k + 2)) (T (4 * k + 3)) = some X) : ry_run T (k + 1) = (ry_kp (ry_z (ry_run T k).1) k (T (4 * k)) (T (4 * k + 1)) (T (4 * k + 2)) X, true) := by
  rw [ry_run, if_pos f, e]
theorem ry_runE {T : Nat → Int} {k : Nat} (f : (ry_run T k).2 = false) : ∀ d, ry_run T (k + d) = ry_run T k
  | 0 => rfl
  | d + 1 => by
    have e := ry_runE f d
    rw [← Nat.add_assoc, ry_run, e, f, if_neg (by decide)]
-- the reference's picture of a store
def rs_of (F : Nat → Int) (V : Nat → Nat → Int) (S : PSt) : Prop := F 17 = (ps_n S : Int) ∧ F 19 = ps_l S ∧ (0 ≤ ps_l S ∧ ps_l S ≤ (ps_n S : Int)) ∧ ∀ v : Nat, v < ps_n S → ps_t S v = V 20 v ∧ (0 ≤ V 20 v ∧ V 20 v ≤ 127) ∧ ps_y S v = V 21 v ∧ (0 ≤ V 21 v ∧ V 21 v ≤ 99) ∧ ps_k S v = V 22 v ∧ ∀ r : Nat, (r : Int) < V 22 v → ps_b S (6 * v + r) = V 23 (6 * v + r)
def hp6 (f h : Nat → Int) : Prop := ∀ k, k < 6 → f k = h k
theorem rs_ofV {F F' : Nat → Int} {V V' : Nat → Nat → Int} {S : PSt} (I : rs_of F V S) (f17 : F' 17 = F 17) (f19 : F' 19 = F 19) (v20 : V' 20 = V 20) (v21 : V' 21 = V 21) (v22 : V' 22 = V 22) (v23 : V' 23 = V 23) : rs_of F' V' S := by
  unfold rs_of
  rw [f17, f19, v20, v21, v22, v23]
  exact I
def p_bc (n : Nat) : Nat := n % 2 + n / 2 % 2 + n / 4 % 2 + n / 8 % 2 + n / 16 % 2 + n / 32 % 2
def bt (v : Int) : Int64 := (Int64.ofNat (1 : Fin 2).val) <<< ((Int32.ofInt v).toInt64 &&& 63)
def fo_of (L : Nat → Int64) (v : Int) : Int64 := if 0 ≤ v ∧ v < 41 then L v.toNat else Int64.ofNat (0 : Fin 2).val
def cr_of (Y : RYt) (v : Int) : Int := if v = -1 then 0 else (p_bc (p_ws (ry_h Y v) 6) : Int)
def ry_pd (Y : RYt) (k : Nat) : Int := ry_l Y k + (p_bc (p_ws (ry_h Y ((k + 1 : Nat) : Int)) 6) : Int) - cr_of Y (ry_a Y (k + 1)) - cr_of Y (ry_b Y (k + 1))
def fro_of (L : Nat → Int64) (Y : RYt) : Prop := ∀ v : Nat, v < ry_v Y → L v = bt v ||| fo_of L (ry_a Y v) ||| fo_of L (ry_b Y v)
def av_1 (w a b : Int) : Prop := (w = 1 → 0 ≤ a ∧ a ≤ 99) ∧ (w = 4 → 0 ≤ b ∧ b ≤ 99)
def av_2 (T : Nat → Int) (k : Nat) : Prop := (0 ≤ T (4 * k) ∧ T (4 * k) ≤ 5) ∧ av_1 (T (4 * k)) (T (4 * k + 2)) (T (4 * k + 3)) ∧ (T (4 * k) = 0 → T (4 * k + 1) = -1)
def pa_w (h : MH) (pa i : Nat) : Nat := if i < 7 then h_r h (h_r h (h_r h pa 0) 4) i else if i = 7 then h_r h pa 7 else if i = 8 then h_r h pa 8 else if i = 9 then h_r h (h_r h pa 0) 2 else if i = 10 then h_r h (h_r h pa 0) 3 else if i = 11 then h_r h (h_r h pa 0) 0 else if i < 16 then h_r h pa (i - 9) else if i < 18 then h_r h (h_r h pa 1) (i - 16) else h_r h (h_r h pa 2) (i - 18)
