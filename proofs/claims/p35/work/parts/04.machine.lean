-- A MACHINE OF MY OWN, small and pure: its words are those of the kit's Value, its heap rows of numbers by address (0: null; 1 .. 15: what stands still; from 16 on: what is made, in its order)
abbrev MH : Type := (Nat × Nat) × (Nat → Nat × Nat) × (Nat → Nat → Int32) × (Nat → Nat → Int64) × (Nat → Nat → Nat)
abbrev MS : Type := Nat × List (Nat × Value) × List Value × MH
abbrev MA : Type := MS ⊕ ((Option Value × MH) ⊕ (Nat × List Value × List Value × Nat))
def h_n (h : MH) : Nat := h.1.1
def h_z (h : MH) : Nat := h.1.2
def h_k (h : MH) : Nat → Nat × Nat := h.2.1
def h_i (h : MH) : Nat → Nat → Int32 := h.2.2.1
def h_l (h : MH) : Nat → Nat → Int64 := h.2.2.2.1
def h_r (h : MH) : Nat → Nat → Nat := h.2.2.2.2
def m_u {α : Type} (f : Nat → α) (k : Nat) (v : α) : Nat → α := fun j => if j = k then v else f j
def h_si (h : MH) (a i : Nat) (x : Int32) : MH := (h.1, h.2.1, m_u h.2.2.1 a (m_u (h.2.2.1 a) i x), h.2.2.2)
def h_sl (h : MH) (a i : Nat) (x : Int64) : MH := (h.1, h.2.1, h.2.2.1, m_u h.2.2.2.1 a (m_u (h.2.2.2.1 a) i x), h.2.2.2.2)
def h_sr (h : MH) (a i : Nat) (x : Nat) : MH := (h.1, h.2.1, h.2.2.1, h.2.2.2.1, m_u h.2.2.2.2 a (m_u (h.2.2.2.2 a) i x))
def h_new (h : MH) (k len sz : Nat) : MH := ((h.1.1 + 1, h.1.2 + sz), m_u h.2.1 (16 + h.1.1) (k, len), m_u h.2.2.1 (16 + h.1.1) (fun _ => 0), m_u h.2.2.2.1 (16 + h.1.1) (fun _ => 0), m_u h.2.2.2.2 (16 + h.1.1) (fun _ => 0))
def h_grid (h : MH) (n k : Nat) : MH := ((h.1.1 + (1 + n), h.1.2 + (n + n * k)), (fun a => if a = 16 + h.1.1 then (33, n) else if 16 + h.1.1 < a ∧ a ≤ 16 + h.1.1 + n then (20, k) else h.2.1 a), (fun a => if 16 + h.1.1 ≤ a ∧ a ≤ 16 + h.1.1 + n then (fun _ => 0) else h.2.2.1 a), h.2.2.2.1, m_u h.2.2.2.2 (16 + h.1.1) (fun i => if i < n then 16 + h.1.1 + 1 + i else 0))
def h_cpi (h : MH) (a0 a1 sp dp n : Nat) : MH := (h.1, h.2.1, m_u h.2.2.1 a1 (fun j => if dp ≤ j ∧ j < dp + n then h.2.2.1 a0 (sp + (j - dp)) else h.2.2.1 a1 j), h.2.2.2)
def h_cpl (h : MH) (a0 a1 sp dp n : Nat) : MH := (h.1, h.2.1, h.2.2.1, m_u h.2.2.2.1 a1 (fun j => if dp ≤ j ∧ j < dp + n then h.2.2.2.1 a0 (sp + (j - dp)) else h.2.2.2.1 a1 j), h.2.2.2.2)
-- the program
def m_name (j : Nat) : MethodName := if j = 900 then objectInit else if j = 901 then arraycopyName else match m_meths[j]? with
  | some q => q.2.1
  | none => objectInit
def m_cnm (c : Nat) : String := match m_cl[c]? with
  | some q => q.1
  | none => "[[I"
def m_m (i : Nat) : m_M := m_meths.getD i m_d0
def m_lc (i : Nat) : Nat := (m_m i).2.2.2.1
def m_rt (i : Nat) : Option FieldType := (m_m i).2.2.2.2.1
def m_kind (i : Nat) : Nat := (m_m i).2.2.2.2.2.1
def m_fr (i : Nat) : Nat := (m_m i).2.2.2.2.2.2.1
def m_lo (i : Nat) : Nat := (m_m i).2.2.2.2.2.2.2.1
def m_na (i : Nat) : Nat := (m_m i).2.2.2.2.2.2.2.2
def m_ow (i : Nat) : Nat := m_ownL.getD i 0
def m_lk {α : Type} (l : List (Nat × α)) (k : Nat) : Option α := (l.find? (fun e => e.1 == k)).map (·.2)
def m_at (i pc : Nat) : Option (Instr × Nat) := m_lk (m_m i).1 pc
def m_fl (i idx : Nat) : Option (Nat × Nat × Nat) := m_lk (m_flk.getD (m_ow i) []) idx
def m_ml (i idx : Nat) : Option (Nat × Nat) := m_lk (m_mlk.getD (m_ow i) []) idx
def m_sf (i idx : Nat) : Option Nat := m_lk (m_sfl.getD (m_ow i) []) idx
def m_cc (i idx : Nat) : Option Nat := m_lk (m_clk.getD (m_ow i) []) idx
def m_ic (i idx : Nat) : Option Int32 := m_lk (m_ick.getD (m_ow i) []) idx
def m_jc (i idx : Nat) : Option Int64 := m_lk (m_lck.getD (m_ow i) []) idx
def m_sc (i idx : Nat) : Option Nat := m_lk (m_sck.getD (m_ow i) []) idx
def m_ty (c k : Nat) : Nat × Bool := if c = 39 then (if k = 0 then (2, true) else (0, true)) else (m_fts.getD c []).getD k (0, true)
def m_nf (c : Nat) : Nat := (m_fts.getD c []).length
-- Math's own (the kit has them as one step)
def m_jmin : Nat := 13
def m_jmax : Nat := 47
def m_jmaxl : Nat := 137
def m_jminl : Nat := 138
-- steps
def m_cat (st : List Value) : Nat := (st.map fun v => v.category).sum
def m_s1 (lv : List (Nat × Value)) (i : Nat) (v : Value) : List (Nat × Value) := (i, v) :: lv.filter (fun q => !(q.1 == i) && !(q.1 + 1 == i && q.2.category == 2))
def m_s2 (lv : List (Nat × Value)) (i : Nat) (v : Value) : List (Nat × Value) := (i, v) :: lv.filter (fun q => !(q.1 == i) && (!(q.1 == i + 1) && !(q.1 + 1 == i && q.2.category == 2)))
def m_go (pc : Nat) (lv : List (Nat × Value)) (st : List Value) (h : MH) : Option MA := some (.inl (pc, lv, st, h))
def m_tg (pc : Nat) (off : Int) (lv : List (Nat × Value)) (st : List Value) (h : MH) : Option MA := if 0 ≤ (pc : Int) + off then some (.inl (((pc : Int) + off).toNat, lv, st, h)) else none
def m_cmp (c : ClassFile.Cond) (x y : Int32) : Bool := match c with
  | .eq => decide (x = y)
  | .ne => !decide (x = y)
  | .lt => decide (x < y)
  | .ge => decide (y ≤ x)
  | .gt => decide (y < x)
  | .le => decide (x ≤ y)
def m_br (b : Bool) (pc : Nat) (off : Int) (lv : List (Nat × Value)) (st : List Value) (h : MH) : Option MA := if 0 ≤ (pc : Int) + off then (match b with
  | true => some (.inl (((pc : Int) + off).toNat, lv, st, h))
  | false => m_go (pc + 3) lv st h) else none
def m_in (j : Int32) (n : Nat) : Bool := decide (¬ j < 0) && decide (j.toNatClampNeg < n)
def e_ii (f : Int32 → Int32 → Int32) (pc : Nat) (lv : List (Nat × Value)) (st : List Value) (h : MH) : Option MA := match st with
  | .int y :: .int x :: r => m_go (pc + 1) lv (.int (f x y) :: r) h
  | _ => none
def e_ll (f : Int64 → Int64 → Int64) (pc : Nat) (lv : List (Nat × Value)) (st : List Value) (h : MH) : Option MA := match st with
  | .long y :: .long x :: r => m_go (pc + 1) lv (.long (f x y) :: r) h
  | _ => none
def e_li (f : Int64 → Int32 → Int64) (pc : Nat) (lv : List (Nat × Value)) (st : List Value) (h : MH) : Option MA := match st with
  | .int y :: .long x :: r => m_go (pc + 1) lv (.long (f x y) :: r) h
  | _ => none
def e_i (f : Int32 → Value) (pc : Nat) (lv : List (Nat × Value)) (st : List Value) (h : MH) : Option MA := match st with
  | .int x :: r => m_go (pc + 1) lv (f x :: r) h
  | _ => none
def e_l (f : Int64 → Value) (pc : Nat) (lv : List (Nat × Value)) (st : List Value) (h : MH) : Option MA := match st with
  | .long x :: r => m_go (pc + 1) lv (f x :: r) h
  | _ => none
def e_dv (f : Int32 → Int32 → Int32) (pc : Nat) (lv : List (Nat × Value)) (st : List Value) (h : MH) : Option MA := match st with
  | .int y :: .int x :: r => if y = 0 then none else m_go (pc + 1) lv (.int (f x y) :: r) h
  | _ => none
def e_ild (k pc : Nat) (lv : List (Nat × Value)) (st : List Value) (h : MH) : Option MA := match m_lk lv k with
  | some (.int x) => m_go pc lv (.int x :: st) h
  | _ => none
def e_lld (k pc : Nat) (lv : List (Nat × Value)) (st : List Value) (h : MH) : Option MA := match m_lk lv k with
  | some (.long x) => m_go pc lv (.long x :: st) h
  | _ => none
def e_ald (k pc : Nat) (lv : List (Nat × Value)) (st : List Value) (h : MH) : Option MA := match m_lk lv k with
  | some (.ref x) => m_go pc lv (.ref x :: st) h
  | _ => none
def e_ist (n k pc : Nat) (lv : List (Nat × Value)) (st : List Value) (h : MH) : Option MA := match st with
  | .int x :: r => if k < n then m_go pc (m_s1 lv k (.int x)) r h else none
  | _ => none
def e_lst (n k pc : Nat) (lv : List (Nat × Value)) (st : List Value) (h : MH) : Option MA := match st with
  | .long x :: r => if k + 1 < n then m_go pc (m_s2 lv k (.long x)) r h else none
  | _ => none
def e_ast (n k pc : Nat) (lv : List (Nat × Value)) (st : List Value) (h : MH) : Option MA := match st with
  | .ref x :: r => if k < n then m_go pc (m_s1 lv k (.ref x)) r h else none
  | _ => none
def e_inc (n k : Nat) (z : Int) (pc : Nat) (lv : List (Nat × Value)) (st : List Value) (h : MH) : Option MA := match m_lk lv k with
  | some (.int x) => if k < n then m_go (pc + 3) (m_s1 lv k (.int (x + Int32.ofInt z))) st h else none
  | _ => none
def e_get (i idx pc : Nat) (lv : List (Nat × Value)) (st : List Value) (h : MH) : Option MA := match st, m_fl i idx with
  | .ref a :: r, some (_, c, k) => if (h_k h a).1 = c + 1 then (match (m_ty c k).1 with
      | 0 => m_go (pc + 3) lv (.int (h_i h a k) :: r) h
      | 1 => m_go (pc + 3) lv (.long (h_l h a k) :: r) h
      | _ => m_go (pc + 3) lv (.ref (h_r h a k) :: r) h) else none
  | _, _ => none
def e_put (i idx pc : Nat) (lv : List (Nat × Value)) (st : List Value) (h : MH) : Option MA := match st, m_fl i idx with
  | .int x :: .ref a :: r, some (nest, c, k) => if (h_k h a).1 = c + 1 ∧ c < 10 ∧ k < m_nf c ∧ m_ty c k = (0, false) then m_go (pc + 3) lv r (h_si h a k x) else none
  | .long x :: .ref a :: r, some (nest, c, k) => if (h_k h a).1 = c + 1 ∧ c < 10 ∧ k < m_nf c ∧ m_ty c k = (1, false) then m_go (pc + 3) lv r (h_sl h a k x) else none
  | .ref x :: .ref a :: r, some (nest, c, k) => if (h_k h a).1 = c + 1 ∧ c < 10 ∧ k < m_nf c ∧ (m_ty c k).1 = 2 ∧ ((m_ty c k).2 = true → nest = 0 ∧ m_kind i = 2 ∧ m_ownL.getD i 0 = m_ow i ∧ m_cnm c = (m_m i).2.1.cls) then m_go (pc + 3) lv r (h_sr h a k x) else none
  | _, _ => none
def e_iald (k0 k1 pc : Nat) (lv : List (Nat × Value)) (st : List Value) (h : MH) : Option MA := match st with
  | .int j :: .ref a :: r => if ((h_k h a).1 = k0 ∨ (h_k h a).1 = k1) ∧ m_in j (h_k h a).2 = true then m_go (pc + 1) lv (.int (h_i h a j.toNatClampNeg) :: r) h else none
  | _ => none
def e_lald (pc : Nat) (lv : List (Nat × Value)) (st : List Value) (h : MH) : Option MA := match st with
  | .int j :: .ref a :: r => if (h_k h a).1 = 25 ∧ m_in j (h_k h a).2 = true then m_go (pc + 1) lv (.long (h_l h a j.toNatClampNeg) :: r) h else none
  | _ => none
def e_aald (pc : Nat) (lv : List (Nat × Value)) (st : List Value) (h : MH) : Option MA := match st with
  | .int j :: .ref a :: r => if (30 ≤ (h_k h a).1 ∧ (h_k h a).1 < 34) ∧ m_in j (h_k h a).2 = true then m_go (pc + 1) lv (.ref (h_r h a j.toNatClampNeg) :: r) h else none
  | _ => none
def e_iast (pc : Nat) (lv : List (Nat × Value)) (st : List Value) (h : MH) : Option MA := match st with
  | .int x :: .int j :: .ref a :: r => if 16 ≤ a ∧ (h_k h a).1 = 20 ∧ m_in j (h_k h a).2 = true then m_go (pc + 1) lv r (h_si h a j.toNatClampNeg x) else none
  | _ => none
def e_bast (pc : Nat) (lv : List (Nat × Value)) (st : List Value) (h : MH) : Option MA := match st with
  | .int x :: .int j :: .ref a :: r => if 16 ≤ a ∧ (h_k h a).1 = 21 ∧ m_in j (h_k h a).2 = true then m_go (pc + 1) lv r (h_si h a j.toNatClampNeg x.toInt8.toInt32)
      else if 16 ≤ a ∧ (h_k h a).1 = 22 ∧ m_in j (h_k h a).2 = true then m_go (pc + 1) lv r (h_si h a j.toNatClampNeg (x &&& 1)) else none
  | _ => none
def e_last (pc : Nat) (lv : List (Nat × Value)) (st : List Value) (h : MH) : Option MA := match st with
  | .long x :: .int j :: .ref a :: r => if 16 ≤ a ∧ (h_k h a).1 = 25 ∧ m_in j (h_k h a).2 = true then m_go (pc + 1) lv r (h_sl h a j.toNatClampNeg x) else none
  | _ => none
def m_el (k : Nat) : Nat := match k with
  | 30 => 7
  | 31 => 4
  | _ => 1
def e_aast (pc : Nat) (lv : List (Nat × Value)) (st : List Value) (h : MH) : Option MA := match st with
  | .ref x :: .int j :: .ref a :: r => if 16 ≤ a ∧ (30 ≤ (h_k h a).1 ∧ (h_k h a).1 < 33) ∧ m_in j (h_k h a).2 = true ∧ 16 ≤ x ∧ (h_k h x).1 = m_el (h_k h a).1 then m_go (pc + 1) lv r (h_sr h a j.toNatClampNeg x) else none
  | _ => none
def e_alen (pc : Nat) (lv : List (Nat × Value)) (st : List Value) (h : MH) : Option MA := match st with
  | .ref a :: r => if 20 ≤ (h_k h a).1 ∧ (h_k h a).1 < 34 then m_go (pc + 1) lv (.int (Int32.ofNat (h_k h a).2) :: r) h else none
  | _ => none
def m_ak (t : ArrayType) : Nat := match t with
  | .int => 20
  | .byte => 21
  | .boolean => 22
  | .long => 25
  | _ => 0
def e_newa (t : ArrayType) (pc : Nat) (lv : List (Nat × Value)) (st : List Value) (h : MH) : Option MA := match st with
  | .int n :: r => if m_ak t ≠ 0 ∧ ¬ n < 0 ∧ n.toNatClampNeg ≤ 1000000 then m_go (pc + 2) lv (.ref (16 + h_n h) :: r) (h_new h (m_ak t) n.toNatClampNeg n.toNatClampNeg) else none
  | _ => none
def e_new (i idx pc : Nat) (lv : List (Nat × Value)) (st : List Value) (h : MH) : Option MA := match m_cc i idx with
  | some c => if c < 10 then m_go (pc + 3) lv (.ref (16 + h_n h) :: st) (h_new h (c + 1) (m_nf c) (m_nf c)) else none
  | none => none
def m_ek (c : Nat) : Nat := match c with
  | 6 => 30
  | 3 => 31
  | 0 => 32
  | _ => 0
def e_anew (i idx pc : Nat) (lv : List (Nat × Value)) (st : List Value) (h : MH) : Option MA := match st, m_cc i idx with
  | .int n :: r, some c => if m_ek c ≠ 0 ∧ ¬ n < 0 ∧ n.toNatClampNeg ≤ 1000000 then m_go (pc + 3) lv (.ref (16 + h_n h) :: r) (h_new h (m_ek c) n.toNatClampNeg n.toNatClampNeg) else none
  | _, _ => none
def e_grid (i idx pc : Nat) (lv : List (Nat × Value)) (st : List Value) (h : MH) : Option MA := match st, m_cc i idx with
  | .int k :: .int n :: r, some 33 => if ¬ n < 0 ∧ ¬ k < 0 ∧ n.toNatClampNeg ≤ 1000000 ∧ k.toNatClampNeg ≤ 1000000 then m_go (pc + 4) lv (.ref (16 + h_n h) :: r) (h_grid h n.toNatClampNeg k.toNatClampNeg) else none
  | _, _ => none
def e_gets (i idx pc : Nat) (lv : List (Nat × Value)) (st : List Value) (h : MH) : Option MA := match m_sf i idx with
  | some 1 => m_go (pc + 3) lv (.int 1 :: st) h
  | some 2 => m_go (pc + 3) lv (.ref 1 :: st) h
  | some 3 => m_go (pc + 3) lv (.ref 15 :: st) h
  | _ => none
def e_ldc (w : Nat) (i idx pc : Nat) (lv : List (Nat × Value)) (st : List Value) (h : MH) : Option MA := match m_ic i idx with
  | some x => m_go (pc + w) lv (.int x :: st) h
  | none => if w = 2 then (match m_sc i idx with
      | some a => m_go (pc + w) lv (.ref a :: st) h
      | none => none) else none
def e_cp (i pc : Nat) (lv : List (Nat × Value)) (st : List Value) (h : MH) : Option MA := match st with
  | .int n :: .int dp :: .ref a1 :: .int sp :: .ref a0 :: r => if (16 ≤ a0 ∧ 16 ≤ a1 ∧ ¬ sp < 0 ∧ ¬ dp < 0 ∧ ¬ n < 0 ∧ sp.toNatClampNeg + n.toNatClampNeg ≤ (h_k h a0).2 ∧ dp.toNatClampNeg + n.toNatClampNeg ≤ (h_k h a1).2 ∧ 1 ≤ m_fr i ∧ m_cat r + 18 ≤ m_lo i ∧ m_cat r ≤ 8) then
      (if ((h_k h a0).1 = 20 ∧ (h_k h a1).1 = 20) ∨ ((h_k h a0).1 = 21 ∧ (h_k h a1).1 = 21) then m_go (pc + 3) lv r (h_cpi h a0 a1 sp.toNatClampNeg dp.toNatClampNeg n.toNatClampNeg)
       else if (h_k h a0).1 = 25 ∧ (h_k h a1).1 = 25 then m_go (pc + 3) lv r (h_cpl h a0 a1 sp.toNatClampNeg dp.toNatClampNeg n.toNatClampNeg) else none) else none
  | _ => none
-- a call: kind 0 static, 1 virtual, 2 special
def e_call (kd i idx pc : Nat) (lv : List (Nat × Value)) (st : List Value) (h : MH) : Option MA := match m_ml i idx with
  | some (nest, j) =>
    if j = 900 then (match st with
      | .ref a :: r => if kd = 2 ∧ 16 ≤ a ∧ 1 ≤ m_fr i ∧ m_cat r + 12 ≤ m_lo i ∧ m_cat r ≤ 8 then m_go (pc + 3) lv r h else none
      | _ => none)
    else if j = 901 then (if kd = 0 then e_cp i pc lv st h else none)
    else if j = m_jmin ∨ j = m_jmax then (match st with
      | .int y :: .int x :: r => if kd = 0 ∧ nest = 0 ∧ 1 ≤ m_fr i ∧ m_cat r + 13 ≤ m_lo i then m_go (pc + 3) lv (.int (if j = m_jmin then (if y < x then y else x) else (if x < y then y else x)) :: r) h else none
      | _ => none)
    else if j = m_jminl ∨ j = m_jmaxl then (match st with
      | .long y :: .long x :: r => if kd = 0 ∧ nest = 0 ∧ 1 ≤ m_fr i ∧ m_cat r + 15 ≤ m_lo i then m_go (pc + 3) lv (.long (if j = m_jminl then (if y < x then y else x) else (if y < x then x else y)) :: r) h else none
      | _ => none)
    else if 0 < j ∧ j < 292 ∧ m_kind j = kd ∧ m_fr j + 1 ≤ m_fr i ∧ 8 + (m_lc j + 11) + m_lo j ≤ m_lo i then
      (if kd = 0 then (if m_na j ≤ st.length ∧ m_cat (st.drop (m_na j)) ≤ 8 then some (.inr (.inr (j, (st.take (m_na j)).reverse, st.drop (m_na j), pc + 3))) else none)
       else match st.drop (m_na j) with
        | .ref a :: r => if m_na j + 1 ≤ st.length ∧ m_cat r ≤ 8 ∧ (if (m_m j).2.1.cls = "java/lang/String" then (h_k h a).1 = 40 else m_cnm ((h_k h a).1 - 1) = (m_m j).2.1.cls ∧ 16 ≤ a ∧ 0 < (h_k h a).1 ∧ (h_k h a).1 < 11) then some (.inr (.inr (j, .ref a :: (st.take (m_na j)).reverse, r, pc + 3))) else none
        | _ => none)
    else none
  | none => none
def m_rok (t : Option FieldType) (v : Int32) : Bool := match t with
  | some .int => true
  | some .boolean => decide (v &&& 1 = v)
  | some .byte => decide (v.toInt8.toInt32 = v)
  | some .char => decide (v.toUInt32.toUInt16.toUInt32.toInt32 = v)
  | _ => false
def m_rr (t : Option FieldType) : Bool := match t with
  | some (.object _) => true
  | some (.array _) => true
  | _ => false
def m_ex (i pc : Nat) (ins : Instr) (lv : List (Nat × Value)) (st : List Value) (h : MH) : Option MA := match ins with
  | .iconst n => m_go (pc + 1) lv (.int (Int32.ofInt n) :: st) h
  | .bipush n => m_go (pc + 2) lv (.int (Int8.ofInt n).toInt32 :: st) h
  | .sipush n => m_go (pc + 3) lv (.int (Int16.ofInt n).toInt32 :: st) h
  | .lconst n => m_go (pc + 1) lv (.long (Int64.ofNat n) :: st) h
  | .aconst_null => m_go (pc + 1) lv (.ref 0 :: st) h
  | .ldc idx => e_ldc 2 i idx pc lv st h
  | .ldc_w idx => e_ldc 3 i idx pc lv st h
  | .ldc2_w idx => (match m_jc i idx with
      | some x => m_go (pc + 3) lv (.long x :: st) h
      | none => none)
  | .iload_n k => e_ild k (pc + 1) lv st h
  | .iload k => e_ild k (pc + 2) lv st h
  | .lload_n k => e_lld k (pc + 1) lv st h
  | .lload k => e_lld k (pc + 2) lv st h
  | .aload_n k => e_ald k (pc + 1) lv st h
  | .aload k => e_ald k (pc + 2) lv st h
  | .istore_n k => e_ist (m_lc i) k (pc + 1) lv st h
  | .istore k => e_ist (m_lc i) k (pc + 2) lv st h
  | .lstore_n k => e_lst (m_lc i) k (pc + 1) lv st h
  | .lstore k => e_lst (m_lc i) k (pc + 2) lv st h
  | .astore_n k => e_ast (m_lc i) k (pc + 1) lv st h
  | .astore k => e_ast (m_lc i) k (pc + 2) lv st h
  | .iinc k z => e_inc (m_lc i) k z pc lv st h
  | .iadd => e_ii (fun x y => x + y) pc lv st h
  | .isub => e_ii (fun x y => x - y) pc lv st h
  | .imul => e_ii (fun x y => x * y) pc lv st h
  | .iand => e_ii (fun x y => x &&& y) pc lv st h
  | .ior => e_ii (fun x y => x ||| y) pc lv st h
  | .ixor => e_ii (fun x y => x ^^^ y) pc lv st h
  | .idiv => e_dv (fun x y => x / y) pc lv st h
  | .irem => e_dv (fun x y => x - x / y * y) pc lv st h
  | .ineg => e_i (fun x => .int (-x)) pc lv st h
  | .ishl => e_ii (fun x y => x <<< (y &&& 31)) pc lv st h
  | .ishr => e_ii (fun x y => x >>> (y &&& 31)) pc lv st h
  | .iushr => e_ii (fun x y => (x.toUInt32 >>> (y.toUInt32 &&& Int32.toUInt32 31)).toInt32) pc lv st h
  | .ladd => e_ll (fun x y => x + y) pc lv st h
  | .lsub => e_ll (fun x y => x - y) pc lv st h
  | .land => e_ll (fun x y => x &&& y) pc lv st h
  | .lor => e_ll (fun x y => x ||| y) pc lv st h
  | .lxor => e_ll (fun x y => x ^^^ y) pc lv st h
  | .lneg => e_l (fun x => .long (-x)) pc lv st h
  | .lshl => e_li (fun x y => x <<< (y.toInt64 &&& 63)) pc lv st h
  | .lshr => e_li (fun x y => x >>> (y.toInt64 &&& 63)) pc lv st h
  | .lushr => e_li (fun x y => (x.toUInt64 >>> (y.toInt64.toUInt64 &&& Int64.toUInt64 63)).toInt64) pc lv st h
  | .lcmp => (match st with
      | .long y :: .long x :: r => m_go (pc + 1) lv (.int (lg_cmp x y) :: r) h
      | _ => none)
  | .i2l => e_i (fun x => .long x.toInt64) pc lv st h
  | .l2i => e_l (fun x => .int x.toInt32) pc lv st h
  | .i2b => e_i (fun x => .int x.toInt8.toInt32) pc lv st h
  | .i2c => e_i (fun x => .int (x.toUInt32 % 65536).toInt32) pc lv st h
  | .dup => (match st with
      | v :: r => if v.category = 1 then m_go (pc + 1) lv (v :: v :: r) h else none
      | _ => none)
  | .pop => (match st with
      | v :: r => if v.category = 1 then m_go (pc + 1) lv r h else none
      | _ => none)
  | .pop2 => (match st with
      | v :: r => if v.category = 2 then m_go (pc + 1) lv r h else none
      | _ => none)
  | .dup2 => (match st with
      | v :: w :: r => if v.category = 1 ∧ w.category = 1 then m_go (pc + 1) lv (v :: w :: v :: w :: r) h else none
      | _ => none)
  | .goto off => m_tg pc off lv st h
  | .ifCond c off => (match st with
      | .int x :: r => m_br (m_cmp c x 0) pc off lv r h
      | _ => none)
  | .if_icmp c off => (match st with
      | .int y :: .int x :: r => m_br (m_cmp c x y) pc off lv r h
      | _ => none)
  | .ifnull off => (match st with
      | .ref a :: r => if a = 0 then m_tg pc off lv r h else if 16 ≤ a then m_go (pc + 3) lv r h else none
      | _ => none)
  | .ifnonnull off => (match st with
      | .ref a :: r => if a = 0 then m_go (pc + 3) lv r h else if 16 ≤ a then m_tg pc off lv r h else none
      | _ => none)
  | .tableswitch d lo hi offs => (match st with
      | .int x :: r => if x.toInt < lo ∨ hi < x.toInt then m_tg pc d lv r h else (match offs[(x.toInt - lo).toNat]? with
          | some o => m_tg pc o lv r h
          | none => none)
      | _ => none)
  | .getfield idx => e_get i idx pc lv st h
  | .putfield idx => e_put i idx pc lv st h
  | .getstatic idx => e_gets i idx pc lv st h
  | .iaload => e_iald 20 20 pc lv st h
  | .baload => e_iald 21 22 pc lv st h
  | .laload => e_lald pc lv st h
  | .aaload => e_aald pc lv st h
  | .iastore => e_iast pc lv st h
  | .bastore => e_bast pc lv st h
  | .lastore => e_last pc lv st h
  | .aastore => e_aast pc lv st h
  | .arraylength => e_alen pc lv st h
  | .newarray t => e_newa t pc lv st h
  | .new idx => e_new i idx pc lv st h
  | .anewarray idx => e_anew i idx pc lv st h
  | .multianewarray idx d => if d = 2 then e_grid i idx pc lv st h else none
  | .invokestatic idx => e_call 0 i idx pc lv st h
  | .invokevirtual idx => e_call 1 i idx pc lv st h
  | .invokespecial idx => e_call 2 i idx pc lv st h
  | .ireturn => (match st with
      | [.int v] => if m_rok (m_rt i) v = true then some (.inr (.inl (some (.int v), h))) else none
      | _ => none)
  | .lreturn => (match st with
      | [.long v] => if m_rt i = some .long then some (.inr (.inl (some (.long v), h))) else none
      | _ => none)
  | .areturn => (match st with
      | [.ref v] => if m_rr (m_rt i) = true then some (.inr (.inl (some (.ref v), h))) else none
      | _ => none)
  | .return_ => (match st with
      | [] => if m_rt i = none then some (.inr (.inl (none, h))) else none
      | _ => none)
  | _ => none
-- how long each is
def m_ln (ins : Instr) : Nat := match ins with
  | .bipush _ => 2
  | .ldc _ => 2
  | .iload _ => 2
  | .lload _ => 2
  | .aload _ => 2
  | .istore _ => 2
  | .lstore _ => 2
  | .astore _ => 2
  | .newarray _ => 2
  | .sipush _ => 3
  | .ldc_w _ => 3
  | .ldc2_w _ => 3
  | .iinc _ _ => 3
  | .goto _ => 3
  | .ifCond _ _ => 3
  | .if_icmp _ _ => 3
  | .ifnull _ => 3
  | .ifnonnull _ => 3
  | .getfield _ => 3
  | .putfield _ => 3
  | .getstatic _ => 3
  | .new _ => 3
  | .anewarray _ => 3
  | .invokestatic _ => 3
  | .invokevirtual _ => 3
  | .invokespecial _ => 3
  | .multianewarray _ _ => 4
  | .tableswitch _ _ _ _ => 0
  | _ => 1
def m_st (i pc : Nat) (lv : List (Nat × Value)) (st : List Value) (h : MH) : Option MA := match m_at i pc with
  | some e => if m_ln e.1 = e.2 ∨ m_ln e.1 = 0 then m_ex i pc e.1 lv st h else none
  | none => none
def m_run : Nat → Nat → Nat → List (Nat × Value) → List Value → MH → Option (Option Value × MH)
  | 0, _, _, _, _, _ => none
  | n + 1, i, pc, lv, st, h => match m_st i pc lv st h with
    | some (.inl (pc', lv', st', h')) => m_run n i pc' lv' st' h'
    | some (.inr (.inl q)) => some q
    | some (.inr (.inr (j, as, r, pc'))) => (match m_run n j 0 (lv_args 0 as) [] h with
      | some (v, h') => m_run n i pc' lv (v.toList ++ r) h'
      | none => none)
    | none => none
