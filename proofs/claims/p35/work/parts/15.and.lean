section
-- A RUN WITH RANGES: the small machine over ranges of numbers in place of numbers. A value: a range of ints, the script's own first (of which only its low 6 bits are known), a range of longs, an address.
abbrev AI : Type := Int × Int
abbrev AV : Type := AI ⊕ (Unit ⊕ (AI ⊕ Nat))
abbrev AR : Type := AI × List (Nat × AI)
abbrev AC : Type := (Nat × Nat) × AR × AR × List (Nat × Nat)
abbrev AH : Type := (Nat × Nat) × List (Nat × AC)
abbrev AL : Type := List (Nat × AV)
abbrev AA : Type := (Nat × AL × List AV × AH) ⊕ ((Option AV × AH) ⊕ (Nat × List AV × List AV × Nat))
def b_t : AI := (-2147483648, 2147483647)
def b_tl : AI := (-9223372036854775808, 9223372036854775807)
def b_i (x : Int32) : AV := .inl (x.toInt, x.toInt)
def b_l (x : Int64) : AV := .inr (.inr (.inl (x.toInt, x.toInt)))
def b_r (a : Nat) : AV := .inr (.inr (.inr a))
def b_cat (v : AV) : Nat := match v with
  | .inr (.inr (.inl _)) => 2
  | _ => 1
def b_ct (st : List AV) : Nat := (st.map b_cat).sum
def b_au {α : Type} : List (Nat × α) → Nat → α → List (Nat × α)
  | [], a, v => [(a, v)]
  | (k, w) :: r, a, v => if k = a then (a, v) :: r else (k, w) :: b_au r a v
def b_rw (d : AR) (j : Nat) : AI := match m_lk d.2 j with
  | some v => v
  | none => d.1
def b_st (d : AR) (j : Nat) (v : AI) : AR := if b_rw d j = v then d else (d.1, b_au d.2 j v)
def b_jn (x y : AI) : AI := (if x.1 ≤ y.1 then x.1 else y.1, if x.2 ≤ y.2 then y.2 else x.2)
def b_all (d : AR) : AI := d.2.foldr (fun q r => b_jn q.2 r) d.1
def b_cell (A : AH) (a : Nat) : Option AC := m_lk A.2 a
def b_set (A : AH) (a : Nat) (c : AC) : AH := (A.1, b_au A.2 a c)
def b_new (A : AH) (k len sz : Nat) : AH := ((A.1.1 + 1, A.1.2 + sz), b_au A.2 (16 + A.1.1) ((k, len), ((0, 0), []), ((0, 0), []), []))
-- ints and longs
def b_f1 (f : Int32 → Int32) (x : AI) : AI := if x.1 = x.2 then (let z := (f (Int32.ofInt x.1)).toInt; (z, z)) else b_t
def b_f2 (f : Int32 → Int32 → Int32) (x y : AI) : AI := if x.1 = x.2 ∧ y.1 = y.2 then (let z := (f (Int32.ofInt x.1) (Int32.ofInt y.1)).toInt; (z, z)) else b_t
def b_g2 (f : Int64 → Int64 → Int64) (x y : AI) : AI := if x.1 = x.2 ∧ y.1 = y.2 then (let z := (f (Int64.ofInt x.1) (Int64.ofInt y.1)).toInt; (z, z)) else b_tl
def b_gi (f : Int64 → Int32 → Int64) (x y : AI) : AI := if x.1 = x.2 ∧ y.1 = y.2 then (let z := (f (Int64.ofInt x.1) (Int32.ofInt y.1)).toInt; (z, z)) else b_tl
def b_il (f : Int32 → Int64) (x : AI) : AI := if x.1 = x.2 then (let z := (f (Int32.ofInt x.1)).toInt; (z, z)) else b_tl
def b_li (f : Int64 → Int32) (x : AI) : AI := if x.1 = x.2 then (let z := (f (Int64.ofInt x.1)).toInt; (z, z)) else b_t
def b_ll (f : Int64 → Int64) (x : AI) : AI := if x.1 = x.2 then (let z := (f (Int64.ofInt x.1)).toInt; (z, z)) else b_tl
def b_lc (x y : AI) : AI := if x.1 = x.2 ∧ y.1 = y.2 then (let z := (lg_cmp (Int64.ofInt x.1) (Int64.ofInt y.1)).toInt; (z, z)) else b_t
def b_eq (x y : AI) : Option Bool := if x.1 = x.2 ∧ y.1 = y.2 ∧ x.1 = y.1 then some true else if x.2 < y.1 ∨ y.2 < x.1 then some false else none
def b_lt (x y : AI) : Option Bool := if x.2 < y.1 then some true else if y.2 ≤ x.1 then some false else none
def b_cmp (c : ClassFile.Cond) (x y : AI) : Option Bool := match c with
  | .eq => b_eq x y
  | .ne => (b_eq x y).map (fun b => !b)
  | .lt => b_lt x y
  | .ge => (b_lt x y).map (fun b => !b)
  | .gt => b_lt y x
  | .le => (b_lt y x).map (fun b => !b)
-- steps
def b_go (pc : Nat) (lv : AL) (st : List AV) (h : AH) : Option AA := some (.inl (pc, lv, st, h))
def b_tg (pc : Nat) (off : Int) (lv : AL) (st : List AV) (h : AH) : Option AA := if 0 ≤ (pc : Int) + off then some (.inl (((pc : Int) + off).toNat, lv, st, h)) else none
def b_br (b : Option Bool) (pc : Nat) (off : Int) (lv : AL) (st : List AV) (h : AH) : Option AA := if 0 ≤ (pc : Int) + off then (match b with
  | some true => some (.inl (((pc : Int) + off).toNat, lv, st, h))
  | some false => b_go (pc + 3) lv st h
  | none => none) else none
def b_s1 (lv : AL) (i : Nat) (v : AV) : AL := (i, v) :: lv.filter (fun q => !(q.1 == i) && !(q.1 + 1 == i && b_cat q.2 == 2))
def b_s2 (lv : AL) (i : Nat) (v : AV) : AL := (i, v) :: lv.filter (fun q => !(q.1 == i) && (!(q.1 == i + 1) && !(q.1 + 1 == i && b_cat q.2 == 2)))
def c_ii (f : Int32 → Int32 → Int32) (pc : Nat) (lv : AL) (st : List AV) (h : AH) : Option AA := match st with
  | .inl y :: .inl x :: r => b_go (pc + 1) lv (.inl (b_f2 f x y) :: r) h
  | _ => none
def c_and (s : AI) (pc : Nat) (lv : AL) (st : List AV) (h : AH) : Option AA := match st with
  | .inl y :: .inl x :: r => b_go (pc + 1) lv (.inl (b_f2 (fun x y => x &&& y) x y) :: r) h
  | .inl y :: .inr (.inl _) :: r => if y = (63, 63) then b_go (pc + 1) lv (.inl s :: r) h else none
  | _ => none
def c_ll (f : Int64 → Int64 → Int64) (pc : Nat) (lv : AL) (st : List AV) (h : AH) : Option AA := match st with
  | .inr (.inr (.inl y)) :: .inr (.inr (.inl x)) :: r => b_go (pc + 1) lv (.inr (.inr (.inl (b_g2 f x y))) :: r) h
  | _ => none
def c_li (f : Int64 → Int32 → Int64) (pc : Nat) (lv : AL) (st : List AV) (h : AH) : Option AA := match st with
  | .inl y :: .inr (.inr (.inl x)) :: r => b_go (pc + 1) lv (.inr (.inr (.inl (b_gi f x y))) :: r) h
  | _ => none
def c_i1 (f : Int32 → Int32) (pc : Nat) (lv : AL) (st : List AV) (h : AH) : Option AA := match st with
  | .inl x :: r => b_go (pc + 1) lv (.inl (b_f1 f x) :: r) h
  | _ => none
def c_il (f : Int32 → Int64) (pc : Nat) (lv : AL) (st : List AV) (h : AH) : Option AA := match st with
  | .inl x :: r => b_go (pc + 1) lv (.inr (.inr (.inl (b_il f x))) :: r) h
  | _ => none
def c_l2i (f : Int64 → Int32) (pc : Nat) (lv : AL) (st : List AV) (h : AH) : Option AA := match st with
  | .inr (.inr (.inl x)) :: r => b_go (pc + 1) lv (.inl (b_li f x) :: r) h
  | _ => none
def c_l1 (f : Int64 → Int64) (pc : Nat) (lv : AL) (st : List AV) (h : AH) : Option AA := match st with
  | .inr (.inr (.inl x)) :: r => b_go (pc + 1) lv (.inr (.inr (.inl (b_ll f x))) :: r) h
  | _ => none
def c_dv (f : Int32 → Int32 → Int32) (pc : Nat) (lv : AL) (st : List AV) (h : AH) : Option AA := match st with
  | .inl y :: .inl x :: r => if y.2 < 0 ∨ 0 < y.1 then b_go (pc + 1) lv (.inl (b_f2 f x y) :: r) h else none
  | _ => none
def c_ild (k pc : Nat) (lv : AL) (st : List AV) (h : AH) : Option AA := match m_lk lv k with
  | some (.inl x) => b_go pc lv (.inl x :: st) h
  | _ => none
def c_lld (k pc : Nat) (lv : AL) (st : List AV) (h : AH) : Option AA := match m_lk lv k with
  | some (.inr (.inr (.inl x))) => b_go pc lv (.inr (.inr (.inl x)) :: st) h
  | _ => none
def c_ald (k pc : Nat) (lv : AL) (st : List AV) (h : AH) : Option AA := match m_lk lv k with
  | some (.inr (.inr (.inr x))) => b_go pc lv (b_r x :: st) h
  | _ => none
def c_ist (n k pc : Nat) (lv : AL) (st : List AV) (h : AH) : Option AA := match st with
  | .inl x :: r => if k < n then b_go pc (b_s1 lv k (.inl x)) r h else none
  | _ => none
def c_lst (n k pc : Nat) (lv : AL) (st : List AV) (h : AH) : Option AA := match st with
  | .inr (.inr (.inl x)) :: r => if k + 1 < n then b_go pc (b_s2 lv k (.inr (.inr (.inl x)))) r h else none
  | _ => none
def c_ast (n k pc : Nat) (lv : AL) (st : List AV) (h : AH) : Option AA := match st with
  | .inr (.inr (.inr x)) :: r => if k < n then b_go pc (b_s1 lv k (b_r x)) r h else none
  | _ => none
def c_inc (n k : Nat) (z : Int) (pc : Nat) (lv : AL) (st : List AV) (h : AH) : Option AA := match m_lk lv k with
  | some (.inl x) => if k < n then b_go (pc + 3) (b_s1 lv k (.inl (b_f1 (fun x => x + Int32.ofInt z) x))) st h else none
  | _ => none
def b_gr (c : AC) (k : Nat) : Nat := match m_lk c.2.2.2 k with
  | some v => v
  | none => 0
def c_get (i idx pc : Nat) (lv : AL) (st : List AV) (h : AH) : Option AA := match st, m_fl i idx with
  | .inr (.inr (.inr a)) :: r, some (_, c, k) => (match b_cell h a with
    | some x => if x.1.1 = c + 1 then (match (m_ty c k).1 with
      | 0 => b_go (pc + 3) lv (.inl (b_rw x.2.1 k) :: r) h
      | 1 => b_go (pc + 3) lv (.inr (.inr (.inl (b_rw x.2.2.1 k))) :: r) h
      | _ => b_go (pc + 3) lv (b_r (b_gr x k) :: r) h) else none
    | none => none)
  | _, _ => none
def b_si (h : AH) (a : Nat) (x : AC) (k : Nat) (v : AI) : AH := if b_rw x.2.1 k = v then h else b_set h a (x.1, b_st x.2.1 k v, x.2.2)
def b_sl (h : AH) (a : Nat) (x : AC) (k : Nat) (v : AI) : AH := if b_rw x.2.2.1 k = v then h else b_set h a (x.1, x.2.1, b_st x.2.2.1 k v, x.2.2.2)
def b_sr (h : AH) (a : Nat) (x : AC) (k : Nat) (v : Nat) : AH := b_set h a (x.1, x.2.1, x.2.2.1, b_au x.2.2.2 k v)
def c_put (i idx pc : Nat) (lv : AL) (st : List AV) (h : AH) : Option AA := match st, m_fl i idx with
  | .inl x :: .inr (.inr (.inr a)) :: r, some (nest, c, k) => (match b_cell h a with
    | some o => if o.1.1 = c + 1 ∧ c < 10 ∧ k < m_nf c ∧ m_ty c k = (0, false) then b_go (pc + 3) lv r (b_si h a o k x) else none
    | none => none)
  | .inr (.inr (.inl x)) :: .inr (.inr (.inr a)) :: r, some (nest, c, k) => (match b_cell h a with
    | some o => if o.1.1 = c + 1 ∧ c < 10 ∧ k < m_nf c ∧ m_ty c k = (1, false) then b_go (pc + 3) lv r (b_sl h a o k x) else none
    | none => none)
  | .inr (.inr (.inr x)) :: .inr (.inr (.inr a)) :: r, some (nest, c, k) => (match b_cell h a with
    | some o => if o.1.1 = c + 1 ∧ c < 10 ∧ k < m_nf c ∧ (m_ty c k).1 = 2 ∧ ((m_ty c k).2 = true → nest = 0 ∧ m_kind i = 2 ∧ m_ownL.getD i 0 = m_ow i ∧ m_cnm c = (m_m i).2.1.cls) then b_go (pc + 3) lv r (b_sr h a o k x) else none
    | none => none)
  | _, _ => none
-- a place in an array: one number, or any within it
def b_at (j : AI) (n : Nat) : Bool := decide (0 ≤ j.1) && decide (j.2 < (n : Int))
def b_rd (d : AR) (j : AI) : AI := if j.1 = j.2 then b_rw d j.1.toNat else b_all d
def c_iald (k0 k1 pc : Nat) (s : AI) (lv : AL) (st : List AV) (h : AH) : Option AA := match st with
  | .inl j :: .inr (.inr (.inr a)) :: r => (match b_cell h a with
    | some x => if (x.1.1 = k0 ∨ x.1.1 = k1) ∧ b_at j x.1.2 = true then (if a = 14 then (if j = (0, 0) then b_go (pc + 1) lv (.inr (.inl ()) :: r) h else if j.1 = j.2 then b_go (pc + 1) lv (.inl (b_rw x.2.1 j.1.toNat) :: r) h else none) else b_go (pc + 1) lv (.inl (b_rd x.2.1 j) :: r) h) else none
    | none => none)
  | _ => none
def c_lald (pc : Nat) (lv : AL) (st : List AV) (h : AH) : Option AA := match st with
  | .inl j :: .inr (.inr (.inr a)) :: r => (match b_cell h a with
    | some x => if x.1.1 = 25 ∧ b_at j x.1.2 = true then b_go (pc + 1) lv (.inr (.inr (.inl (b_rd x.2.2.1 j))) :: r) h else none
    | none => none)
  | _ => none
def c_aald (pc : Nat) (lv : AL) (st : List AV) (h : AH) : Option AA := match st with
  | .inl j :: .inr (.inr (.inr a)) :: r => (match b_cell h a with
    | some x => if (30 ≤ x.1.1 ∧ x.1.1 < 34) ∧ b_at j x.1.2 = true ∧ j.1 = j.2 then b_go (pc + 1) lv (b_r (b_gr x j.1.toNat) :: r) h else none
    | none => none)
  | _ => none
def c_iast (pc : Nat) (lv : AL) (st : List AV) (h : AH) : Option AA := match st with
  | .inl x :: .inl j :: .inr (.inr (.inr a)) :: r => (match b_cell h a with
    | some o => if 16 ≤ a ∧ o.1.1 = 20 ∧ b_at j o.1.2 = true ∧ j.1 = j.2 then b_go (pc + 1) lv r (b_si h a o j.1.toNat x) else none
    | none => none)
  | _ => none
def c_bast (pc : Nat) (lv : AL) (st : List AV) (h : AH) : Option AA := match st with
  | .inl x :: .inl j :: .inr (.inr (.inr a)) :: r => (match b_cell h a with
    | some o => if 16 ≤ a ∧ o.1.1 = 21 ∧ b_at j o.1.2 = true ∧ j.1 = j.2 then b_go (pc + 1) lv r (b_si h a o j.1.toNat (b_f1 (fun x => x.toInt8.toInt32) x))
      else if 16 ≤ a ∧ o.1.1 = 22 ∧ b_at j o.1.2 = true ∧ j.1 = j.2 then b_go (pc + 1) lv r (b_si h a o j.1.toNat (b_f1 (fun x => x &&& 1) x)) else none
    | none => none)
  | _ => none
def c_last (pc : Nat) (lv : AL) (st : List AV) (h : AH) : Option AA := match st with
  | .inr (.inr (.inl x)) :: .inl j :: .inr (.inr (.inr a)) :: r => (match b_cell h a with
    | some o => if 16 ≤ a ∧ o.1.1 = 25 ∧ b_at j o.1.2 = true ∧ j.1 = j.2 then b_go (pc + 1) lv r (b_sl h a o j.1.toNat x) else none
    | none => none)
  | _ => none
def c_aast (pc : Nat) (lv : AL) (st : List AV) (h : AH) : Option AA := match st with
  | .inr (.inr (.inr x)) :: .inl j :: .inr (.inr (.inr a)) :: r => (match b_cell h a, b_cell h x with
    | some o, some q => if 16 ≤ a ∧ (30 ≤ o.1.1 ∧ o.1.1 < 33) ∧ b_at j o.1.2 = true ∧ j.1 = j.2 ∧ 16 ≤ x ∧ q.1.1 = m_el o.1.1 then b_go (pc + 1) lv r (b_sr h a o j.1.toNat x) else none
    | _, _ => none)
  | _ => none
def c_alen (pc : Nat) (lv : AL) (st : List AV) (h : AH) : Option AA := match st with
  | .inr (.inr (.inr a)) :: r => (match b_cell h a with
    | some o => if 20 ≤ o.1.1 ∧ o.1.1 < 34 then b_go (pc + 1) lv (b_i (Int32.ofNat o.1.2) :: r) h else none
    | none => none)
  | _ => none
def c_newa (t : ArrayType) (pc : Nat) (lv : AL) (st : List AV) (h : AH) : Option AA := match st with
  | .inl n :: r => if m_ak t ≠ 0 ∧ n.1 = n.2 ∧ 0 ≤ n.1 ∧ n.1 ≤ 1000000 then b_go (pc + 2) lv (b_r (16 + h.1.1) :: r) (b_new h (m_ak t) n.1.toNat n.1.toNat) else none
  | _ => none
def c_new (i idx pc : Nat) (lv : AL) (st : List AV) (h : AH) : Option AA := match m_cc i idx with
  | some c => if c < 10 then b_go (pc + 3) lv (b_r (16 + h.1.1) :: st) (b_new h (c + 1) (m_nf c) (m_nf c)) else none
  | none => none
def c_anew (i idx pc : Nat) (lv : AL) (st : List AV) (h : AH) : Option AA := match st, m_cc i idx with
  | .inl n :: r, some c => if m_ek c ≠ 0 ∧ n.1 = n.2 ∧ 0 ≤ n.1 ∧ n.1 ≤ 1000000 then b_go (pc + 3) lv (b_r (16 + h.1.1) :: r) (b_new h (m_ek c) n.1.toNat n.1.toNat) else none
  | _, _ => none
def c_gets (i idx pc : Nat) (lv : AL) (st : List AV) (h : AH) : Option AA := match m_sf i idx with
  | some 1 => b_go (pc + 3) lv (.inl (1, 1) :: st) h
  | some 2 => b_go (pc + 3) lv (b_r 1 :: st) h
  | some 3 => b_go (pc + 3) lv (b_r 15 :: st) h
  | _ => none
def c_ldc (w : Nat) (i idx pc : Nat) (lv : AL) (st : List AV) (h : AH) : Option AA := match m_ic i idx with
  | some x => b_go (pc + w) lv (b_i x :: st) h
  | none => if w = 2 then (match m_sc i idx with
      | some a => b_go (pc + w) lv (b_r a :: st) h
      | none => none) else none
def c_cp (i pc : Nat) (lv : AL) (st : List AV) (h : AH) : Option AA := match st with
  | .inl n :: .inl dp :: .inr (.inr (.inr a1)) :: .inl sp :: .inr (.inr (.inr a0)) :: r => (match b_cell h a0, b_cell h a1 with
    | some o0, some o1 => if (16 ≤ a0 ∧ 16 ≤ a1 ∧ 0 ≤ sp.1 ∧ 0 ≤ dp.1 ∧ 0 ≤ n.1 ∧ sp.2 + n.2 ≤ (o0.1.2 : Int) ∧ dp.2 + n.2 ≤ (o1.1.2 : Int) ∧ 1 ≤ m_fr i ∧ b_ct r + 18 ≤ m_lo i ∧ b_ct r ≤ 8) then
      (if (o0.1.1 = 20 ∧ o1.1.1 = 20) ∨ (o0.1.1 = 21 ∧ o1.1.1 = 21) then b_go (pc + 3) lv r (b_set h a1 (o1.1, (b_jn (b_all o0.2.1) (b_all o1.2.1), []), o1.2.2))
       else if o0.1.1 = 25 ∧ o1.1.1 = 25 then b_go (pc + 3) lv r (b_set h a1 (o1.1, o1.2.1, (b_jn (b_all o0.2.2.1) (b_all o1.2.2.1), []), o1.2.2.2)) else none) else none
    | _, _ => none)
  | _ => none
def c_call (kd i idx pc : Nat) (lv : AL) (st : List AV) (h : AH) : Option AA := match m_ml i idx with
  | some (nest, j) =>
    if j = 900 then (match st with
      | .inr (.inr (.inr a)) :: r => if kd = 2 ∧ 16 ≤ a ∧ 1 ≤ m_fr i ∧ b_ct r + 12 ≤ m_lo i ∧ b_ct r ≤ 8 then b_go (pc + 3) lv r h else none
      | _ => none)
    else if j = 901 then (if kd = 0 then c_cp i pc lv st h else none)
    else if j = m_jmin ∨ j = m_jmax then (match st with
      | .inl y :: .inl x :: r => if kd = 0 ∧ nest = 0 ∧ 1 ≤ m_fr i ∧ b_ct r + 13 ≤ m_lo i then b_go (pc + 3) lv (.inl (b_f2 (fun x y => if j = m_jmin then (if y < x then y else x) else (if x < y then y else x)) x y) :: r) h else none
      | _ => none)
    else if j = m_jminl ∨ j = m_jmaxl then (match st with
      | .inr (.inr (.inl y)) :: .inr (.inr (.inl x)) :: r => if kd = 0 ∧ nest = 0 ∧ 1 ≤ m_fr i ∧ b_ct r + 15 ≤ m_lo i then b_go (pc + 3) lv (.inr (.inr (.inl (b_g2 (fun x y => if j = m_jminl then (if y < x then y else x) else (if y < x then x else y)) x y))) :: r) h else none
      | _ => none)
    else if 0 < j ∧ j < 292 ∧ m_kind j = kd ∧ m_fr j + 1 ≤ m_fr i ∧ 8 + (m_lc j + 11) + m_lo j ≤ m_lo i then
      (if kd = 0 then (if m_na j ≤ st.length ∧ b_ct (st.drop (m_na j)) ≤ 8 then some (.inr (.inr (j, (st.take (m_na j)).reverse, st.drop (m_na j), pc + 3))) else none)
       else match st.drop (m_na j) with
        | .inr (.inr (.inr a)) :: r => (match b_cell h a with
          | some o => if m_na j + 1 ≤ st.length ∧ b_ct r ≤ 8 ∧ (if (m_m j).2.1.cls = "java/lang/String" then o.1.1 = 40 else m_cnm (o.1.1 - 1) = (m_m j).2.1.cls ∧ 16 ≤ a ∧ 0 < o.1.1 ∧ o.1.1 < 11) then some (.inr (.inr (j, b_r a :: (st.take (m_na j)).reverse, r, pc + 3))) else none
          | none => none)
        | _ => none)
    else none
  | none => none
def b_rok (t : Option FieldType) (v : AI) : Bool := match t with
  | some .int => true
  | t => decide (v.1 = v.2) && m_rok t (Int32.ofInt v.1)
def c_sw (d lo hi : Int) (offs : Array Int) (pc : Nat) (lv : AL) (st : List AV) (h : AH) : Option AA := match st with
  | .inl x :: r => if x.2 < lo ∨ hi < x.1 then b_tg pc d lv r h else if x.1 = x.2 ∧ lo ≤ x.1 ∧ x.1 ≤ hi then (match offs[(x.1 - lo).toNat]? with
      | some o => b_tg pc o lv r h
      | none => none) else none
  | _ => none
def c_ex (s : AI) (i pc : Nat) (ins : Instr) (lv : AL) (st : List AV) (h : AH) : Option AA := match ins with
  | .iconst n => b_go (pc + 1) lv (b_i (Int32.ofInt n) :: st) h
  | .bipush n => b_go (pc + 2) lv (b_i (Int8.ofInt n).toInt32 :: st) h
  | .sipush n => b_go (pc + 3) lv (b_i (Int16.ofInt n).toInt32 :: st) h
  | .lconst n => b_go (pc + 1) lv (b_l (Int64.ofNat n) :: st) h
  | .aconst_null => b_go (pc + 1) lv (b_r 0 :: st) h
  | .ldc idx => c_ldc 2 i idx pc lv st h
  | .ldc_w idx => c_ldc 3 i idx pc lv st h
  | .ldc2_w idx => (match m_jc i idx with
      | some x => b_go (pc + 3) lv (b_l x :: st) h
      | none => none)
  | .iload_n k => c_ild k (pc + 1) lv st h
  | .iload k => c_ild k (pc + 2) lv st h
  | .lload_n k => c_lld k (pc + 1) lv st h
  | .lload k => c_lld k (pc + 2) lv st h
  | .aload_n k => c_ald k (pc + 1) lv st h
  | .aload k => c_ald k (pc + 2) lv st h
  | .istore_n k => c_ist (m_lc i) k (pc + 1) lv st h
  | .istore k => c_ist (m_lc i) k (pc + 2) lv st h
  | .lstore_n k => c_lst (m_lc i) k (pc + 1) lv st h
  | .lstore k => c_lst (m_lc i) k (pc + 2) lv st h
  | .astore_n k => c_ast (m_lc i) k (pc + 1) lv st h
  | .astore k => c_ast (m_lc i) k (pc + 2) lv st h
  | .iinc k z => c_inc (m_lc i) k z pc lv st h
  | .iadd => c_ii (fun x y => x + y) pc lv st h
  | .isub => c_ii (fun x y => x - y) pc lv st h
  | .imul => c_ii (fun x y => x * y) pc lv st h
  | .iand => c_and s pc lv st h
  | .ior => c_ii (fun x y => x ||| y) pc lv st h
  | .ixor => c_ii (fun x y => x ^^^ y) pc lv st h
  | .idiv => c_dv (fun x y => x / y) pc lv st h
  | .irem => c_dv (fun x y => x - x / y * y) pc lv st h
  | .ineg => c_i1 (fun x => -x) pc lv st h
  | .ishl => c_ii (fun x y => x <<< (y &&& 31)) pc lv st h
  | .ishr => c_ii (fun x y => x >>> (y &&& 31)) pc lv st h
  | .iushr => c_ii (fun x y => (x.toUInt32 >>> (y.toUInt32 &&& Int32.toUInt32 31)).toInt32) pc lv st h
  | .ladd => c_ll (fun x y => x + y) pc lv st h
  | .lsub => c_ll (fun x y => x - y) pc lv st h
  | .land => c_ll (fun x y => x &&& y) pc lv st h
  | .lor => c_ll (fun x y => x ||| y) pc lv st h
  | .lxor => c_ll (fun x y => x ^^^ y) pc lv st h
  | .lneg => c_l1 (fun x => -x) pc lv st h
  | .lshl => c_li (fun x y => x <<< (y.toInt64 &&& 63)) pc lv st h
  | .lshr => c_li (fun x y => x >>> (y.toInt64 &&& 63)) pc lv st h
  | .lushr => c_li (fun x y => (x.toUInt64 >>> (y.toInt64.toUInt64 &&& Int64.toUInt64 63)).toInt64) pc lv st h
  | .lcmp => (match st with
      | .inr (.inr (.inl y)) :: .inr (.inr (.inl x)) :: r => b_go (pc + 1) lv (.inl (b_lc x y) :: r) h
      | _ => none)
  | .i2l => c_il (fun x => x.toInt64) pc lv st h
  | .l2i => c_l2i (fun x => x.toInt32) pc lv st h
  | .i2b => c_i1 (fun x => x.toInt8.toInt32) pc lv st h
  | .i2c => c_i1 (fun x => (x.toUInt32 % 65536).toInt32) pc lv st h
  | .dup => (match st with
      | v :: r => if b_cat v = 1 then b_go (pc + 1) lv (v :: v :: r) h else none
      | _ => none)
  | .pop => (match st with
      | v :: r => if b_cat v = 1 then b_go (pc + 1) lv r h else none
      | _ => none)
  | .dup2 => (match st with
      | v :: w :: r => if b_cat v = 1 ∧ b_cat w = 1 then b_go (pc + 1) lv (v :: w :: v :: w :: r) h else none
      | _ => none)
  | .goto off => b_tg pc off lv st h
  | .ifCond c off => (match st with
      | .inl x :: r => b_br (b_cmp c x (0, 0)) pc off lv r h
      | _ => none)
  | .if_icmp c off => (match st with
      | .inl y :: .inl x :: r => b_br (b_cmp c x y) pc off lv r h
      | _ => none)
  | .ifnull off => (match st with
      | .inr (.inr (.inr a)) :: r => if a = 0 then b_tg pc off lv r h else if 16 ≤ a then b_go (pc + 3) lv r h else none
      | _ => none)
  | .ifnonnull off => (match st with
      | .inr (.inr (.inr a)) :: r => if a = 0 then b_go (pc + 3) lv r h else if 16 ≤ a then b_tg pc off lv r h else none
      | _ => none)
  | .tableswitch d lo hi offs => c_sw d lo hi offs pc lv st h
  | .getfield idx => c_get i idx pc lv st h
  | .putfield idx => c_put i idx pc lv st h
  | .getstatic idx => c_gets i idx pc lv st h
  | .iaload => c_iald 20 20 pc s lv st h
  | .baload => c_iald 21 22 pc s lv st h
  | .laload => c_lald pc lv st h
  | .aaload => c_aald pc lv st h
  | .iastore => c_iast pc lv st h
  | .bastore => c_bast pc lv st h
  | .lastore => c_last pc lv st h
  | .aastore => c_aast pc lv st h
  | .arraylength => c_alen pc lv st h
  | .newarray t => c_newa t pc lv st h
  | .new idx => c_new i idx pc lv st h
  | .anewarray idx => c_anew i idx pc lv st h
  | .invokestatic idx => c_call 0 i idx pc lv st h
  | .invokevirtual idx => c_call 1 i idx pc lv st h
  | .invokespecial idx => c_call 2 i idx pc lv st h
  | .ireturn => (match st with
      | [.inl v] => if b_rok (m_rt i) v = true then some (.inr (.inl (some (.inl v), h))) else none
      | _ => none)
  | .lreturn => (match st with
      | [.inr (.inr (.inl v))] => if m_rt i = some .long then some (.inr (.inl (some (.inr (.inr (.inl v))), h))) else none
      | _ => none)
  | .areturn => (match st with
      | [.inr (.inr (.inr v))] => if m_rr (m_rt i) = true then some (.inr (.inl (some (b_r v), h))) else none
      | _ => none)
  | .return_ => (match st with
      | [] => if m_rt i = none then some (.inr (.inl (none, h))) else none
      | _ => none)
  | _ => none
noncomputable def b_ff (l : List m_I) (pc : Nat) : Option m_I := List.rec (motive := fun _ => Option m_I) none (fun e _ ih => Bool.rec (motive := fun _ => Option m_I) ih (some e) (Nat.beq e.1 pc)) l
noncomputable def c_st (s : AI) (i pc : Nat) (lv : AL) (st : List AV) (h : AH) : Option AA := match b_ff (m_m i).1 pc with
  | some e => if m_ln e.2.1 = e.2.2 ∨ m_ln e.2.1 = 0 then c_ex s i e.1 e.2.1 lv st h else none
  | none => none
def b_args : Nat → List AV → AL
  | _, [] => []
  | i, v :: vs => (i, v) :: b_args (if b_cat v = 2 then i + 2 else i + 1) vs
noncomputable def c_rn (s : AI) : Nat → Nat → Nat → AL → List AV → AH → Option (Option AV × AH)
  | 0, _, _, _, _, _ => none
  | n + 1, i, pc, lv, st, h => match c_st s i pc lv st h with
    | some (.inl (pc', lv', st', h')) => c_rn s n i pc' lv' st' h'
    | some (.inr (.inl q)) => some q
    | some (.inr (.inr (j, as, r, pc'))) => if b_ct as ≤ m_lc j then (match c_rn s n j 0 (b_args 0 as) [] h with
      | some (v, h') => c_rn s n i pc' lv (v.toList ++ r) h'
      | none => none) else none
    | none => none
-- where the law begins
def b_row : Nat → List Int32 → List (Nat × AI)
  | _, [] => []
  | k, x :: r => (k, (x.toInt, x.toInt)) :: b_row (k + 1) r
def b_xr : Nat → List AI → List (Nat × AI)
  | _, [] => []
  | k, x :: r => (k, x) :: b_xr (k + 1) r
def b_c0 (k len : Nat) (l : List Int32) : AC := ((k, len), ((0, 0), b_row 0 l), ((0, 0), []), [])
def b_cs (a : Nat) : AC := ((40, 0), ((0, 0), []), ((0, 0), []), [(0, a)])
def b_h0 (L : Nat) (xi : List AI) : AH := ((0, 0), [(1, b_c0 20 18 m_lim), (14, ((20, L), (b_t, b_xr 0 xi), ((0, 0), []), [])),
  (2, b_cs 8), (3, b_cs 9), (4, b_cs 10), (5, b_cs 11), (6, b_cs 12), (7, b_cs 13),
  (8, b_c0 21 3 [110, 101, 119]), (9, b_c0 21 3 [112, 117, 116]), (10, b_c0 21 4 [109, 101, 108, 100]), (11, b_c0 21 4 [108, 101, 115, 115]), (12, b_c0 21 5 [108, 111, 119, 101, 114]), (13, b_c0 21 3 [99, 117, 116])])
noncomputable def b_ok (s : AI) (fuel L : Nat) (xi : List AI) : Bool := match c_rn s fuel 0 0 [(0, b_r 14)] [] (b_h0 L xi) with
  | some (some (.inl v), A) => decide (v = (1, 1)) && (decide (A.1.1 ≤ 600000) && decide (A.1.2 ≤ 7302250))
  | _ => false
end
section
-- A run with ranges is true of every run within them.
def g_i (a : AI) (x : Int32) : Prop := a.1 ≤ x.toInt ∧ x.toInt ≤ a.2
def g_j (a : AI) (x : Int64) : Prop := a.1 ≤ x.toInt ∧ x.toInt ≤ a.2
def g_v (s : AI) (a : AV) (v : Value) : Prop := match a with
  | .inl p => ∃ x, v = .int x ∧ g_i p x
  | .inr (.inl _) => ∃ x, v = .int x ∧ g_i s (x &&& 63)
  | .inr (.inr (.inl p)) => ∃ x, v = .long x ∧ g_j p x
  | .inr (.inr (.inr n)) => v = .ref n
def g_s (s : AI) : List AV → List Value → Prop
  | [], [] => True
  | a :: r, v :: q => g_v s a v ∧ g_s s r q
  | _, _ => False
def g_l (s : AI) : AL → List (Nat × Value) → Prop
  | [], [] => True
  | a :: r, v :: q => (v.1 = a.1 ∧ g_v s a.2 v.2) ∧ g_l s r q
  | _, _ => False
def g_c (c : AC) (h : MH) (a : Nat) : Prop := h_k h a = c.1 ∧ (∀ j, g_i (b_rw c.2.1 j) (h_i h a j)) ∧ (∀ j, g_j (b_rw c.2.2.1 j) (h_l h a j)) ∧ (∀ j, h_r h a j = b_gr c j)
def g_h (s : AI) (A : AH) (h : MH) : Prop := h_n h = A.1.1 ∧ h_z h = A.1.2 ∧ (∀ a c, b_cell A a = some c → g_c c h a) ∧ g_i s (h_i h 14 0 &&& 63) ∧ (h_k h 14).1 = 20
def g_o (s : AI) (a : Option AV) (v : Option Value) : Prop := match a, v with
  | none, none => True
  | some a, some v => g_v s a v
  | _, _ => False
def g_r (s : AI) (R : AA) (R' : MA) : Prop := match R, R' with
  | .inl (pc, lv, st, A), .inl (pc', lv', st', h) => pc' = pc ∧ g_l s lv lv' ∧ g_s s st st' ∧ g_h s A h
  | .inr (.inl (v, A)), .inr (.inl (v', h)) => g_o s v v' ∧ g_h s A h
  | .inr (.inr (j, as, r, pc)), .inr (.inr (j', as', r', pc')) => j' = j ∧ g_s s as as' ∧ g_s s r r' ∧ pc' = pc
  | _, _ => False
-- plain words
theorem g_sc {s : AI} {a : AV} {r : List AV} {st : List Value} (h : g_s s (a :: r) st) : ∃ v q, st = v :: q ∧ g_v s a v ∧ g_s s r q := by
  cases st with
  | nil => exact h.elim
  | cons v q => exact ⟨v, q, rfl, h.1, h.2⟩
theorem g_sn {s : AI} {st : List Value} (h : g_s s [] st) : st = [] := by
  cases st with
  | nil => rfl
  | cons v q => exact h.elim
theorem g_iT (x : Int32) : g_i b_t x := by
  have h1 := Int32.le_toInt x
  have h2 := Int32.toInt_lt x
  exact ⟨by show (-2147483648 : Int) ≤ _; omega, by show _ ≤ (2147483647 : Int); omega⟩
theorem g_jT (x : Int64) : g_j b_tl x := by
  have h1 := Int64.le_toInt x
  have h2 := Int64.toInt_lt x
  exact ⟨by show (-9223372036854775808 : Int) ≤ _; omega, by show _ ≤ (9223372036854775807 : Int); omega⟩
theorem g_iE (x : Int32) : g_i (x.toInt, x.toInt) x := ⟨Int.le_refl _, Int.le_refl _⟩
theorem g_jE (x : Int64) : g_j (x.toInt, x.toInt) x := ⟨Int.le_refl _, Int.le_refl _⟩
theorem g_iC {a : AI} {x : Int32} (h : g_i a x) (e : a.1 = a.2) : x = Int32.ofInt a.1 := by
  have : x.toInt = a.1 := by
    obtain ⟨h1, h2⟩ := h
    omega
  rw [← this, Int32.ofInt_toInt]
theorem g_jC {a : AI} {x : Int64} (h : g_j a x) (e : a.1 = a.2) : x = Int64.ofInt a.1 := by
  have : x.toInt = a.1 := by
    obtain ⟨h1, h2⟩ := h
    omega
  rw [← this, Int64.ofInt_toInt]
theorem g_f1 {f : Int32 → Int32} {a : AI} {x : Int32} (h : g_i a x) : g_i (b_f1 f a) (f x) := by
  unfold b_f1
  split
  · next e => rw [g_iC h e]; exact g_iE _
  · exact g_iT _
theorem g_f2 {f : Int32 → Int32 → Int32} {a b : AI} {x y : Int32} (h : g_i a x) (k : g_i b y) : g_i (b_f2 f a b) (f x y) := by
  unfold b_f2
  split
  · next e => rw [g_iC h e.1, g_iC k e.2]; exact g_iE _
  · exact g_iT _
theorem g_g2 {f : Int64 → Int64 → Int64} {a b : AI} {x y : Int64} (h : g_j a x) (k : g_j b y) : g_j (b_g2 f a b) (f x y) := by
  unfold b_g2
  split
  · next e => rw [g_jC h e.1, g_jC k e.2]; exact g_jE _
  · exact g_jT _
theorem g_gi {f : Int64 → Int32 → Int64} {a b : AI} {x : Int64} {y : Int32} (h : g_j a x) (k : g_i b y) : g_j (b_gi f a b) (f x y) := by
  unfold b_gi
  split
  · next e => rw [g_jC h e.1, g_iC k e.2]; exact g_jE _
  · exact g_jT _
theorem g_il {f : Int32 → Int64} {a : AI} {x : Int32} (h : g_i a x) : g_j (b_il f a) (f x) := by
  unfold b_il
  split
  · next e => rw [g_iC h e]; exact g_jE _
  · exact g_jT _
theorem g_li {f : Int64 → Int32} {a : AI} {x : Int64} (h : g_j a x) : g_i (b_li f a) (f x) := by
  unfold b_li
  split
  · next e => rw [g_jC h e]; exact g_iE _
  · exact g_iT _
theorem g_ll {f : Int64 → Int64} {a : AI} {x : Int64} (h : g_j a x) : g_j (b_ll f a) (f x) := by
  unfold b_ll
  split
  · next e => rw [g_jC h e]; exact g_jE _
  · exact g_jT _
theorem g_lc {a b : AI} {x y : Int64} (h : g_j a x) (k : g_j b y) : g_i (b_lc a b) (lg_cmp x y) := by
  unfold b_lc
  split
  · next e => rw [g_jC h e.1, g_jC k e.2]; exact g_iE _
  · exact g_iT _
theorem g_eq {a b : AI} {x y : Int32} {r : Bool} (h : g_i a x) (k : g_i b y) (e : b_eq a b = some r) : decide (x = y) = r := by
  obtain ⟨h1, h2⟩ := h
  obtain ⟨k1, k2⟩ := k
  unfold b_eq at e
  split at e
  · cases e
    exact decide_eq_true (Int32.toInt_inj.mp (by omega))
  · split at e
    · cases e
      exact decide_eq_false (fun q => by rw [q] at h1 h2; omega)
    · cases e
theorem g_lt {a b : AI} {x y : Int32} {r : Bool} (h : g_i a x) (k : g_i b y) (e : b_lt a b = some r) : decide (x < y) = r := by
  obtain ⟨h1, h2⟩ := h
  obtain ⟨k1, k2⟩ := k
  unfold b_lt at e
  split at e
  · cases e
    exact decide_eq_true (Int32.lt_iff_toInt_lt.mpr (by omega))
  · split at e
    · cases e
      exact decide_eq_false (fun q => by have := Int32.lt_iff_toInt_lt.mp q; omega)
    · cases e
theorem g_ge (x y : Int32) : decide (y ≤ x) = !decide (x < y) := by
  by_cases h : x < y
  · rw [decide_eq_true h]
    refine decide_eq_false (fun q => ?_)
    have h1 := Int32.lt_iff_toInt_lt.mp h
    have h2 := Int32.le_iff_toInt_le.mp q
    omega
  · rw [decide_eq_false h]
    refine decide_eq_true (Int32.le_iff_toInt_le.mpr ?_)
    have h1 : ¬ x.toInt < y.toInt := fun q => h (Int32.lt_iff_toInt_lt.mpr q)
    omega
theorem g_cmp {c : ClassFile.Cond} {a b : AI} {x y : Int32} {r : Bool} (h : g_i a x) (k : g_i b y) (e : b_cmp c a b = some r) : m_cmp c x y = r := by
  have hm : ∀ {o : Option Bool}, o.map (fun b => !b) = some r → o = some (!r) := by
    intro o ho
    cases o with
    | none => cases ho
    | some q => cases ho; cases q <;> rfl
  cases c with
  | eq => exact g_eq h k e
  | ne => show (!decide (x = y)) = r; rw [g_eq h k (hm e)]; cases r <;> rfl
  | lt => exact g_lt h k e
  | ge => show decide (y ≤ x) = r; rw [g_ge, g_lt h k (hm e)]; cases r <;> rfl
  | gt => exact g_lt k h e
  | le => show decide (x ≤ y) = r; rw [g_ge, g_lt k h (hm e)]; cases r <;> rfl
-- joins
theorem g_jn1 {a b : AI} {z : Int} (h : a.1 ≤ z ∧ z ≤ a.2) : (b_jn a b).1 ≤ z ∧ z ≤ (b_jn a b).2 := by
  unfold b_jn
  dsimp only
  constructor
  · split <;> omega
  · split <;> omega
theorem g_jn2 {a b : AI} {z : Int} (h : b.1 ≤ z ∧ z ≤ b.2) : (b_jn a b).1 ≤ z ∧ z ≤ (b_jn a b).2 := by
  unfold b_jn
  dsimp only
  constructor
  · split <;> omega
  · split <;> omega
theorem m_lkc {α : Type} (q : Nat × α) (r : List (Nat × α)) (b : Nat) : m_lk (q :: r) b = if q.1 = b then some q.2 else m_lk r b := by
  unfold m_lk
  rw [List.find?_cons]
  by_cases h : q.1 = b
  · rw [if_pos h, show (q.1 == b) = true from beq_iff_eq.mpr h]
    rfl
  · rw [if_neg h, show (q.1 == b) = false from beq_eq_false_iff_ne.mpr h]
theorem m_lkau {α : Type} (l : List (Nat × α)) (a : Nat) (v : α) (b : Nat) : m_lk (b_au l a v) b = if a = b then some v else m_lk l b := by
  induction l with
  | nil => rw [b_au, m_lkc]
  | cons q r ih =>
    obtain ⟨k, w⟩ := q
    rw [b_au]
    by_cases h : k = a
    · rw [if_pos h, m_lkc, m_lkc]
      by_cases h2 : a = b
      · rw [if_pos h2, if_pos h2]
      · rw [if_neg h2, if_neg h2, if_neg (by dsimp only; omega)]
    · rw [if_neg h, m_lkc, m_lkc, ih]
      by_cases h2 : a = b
      · rw [if_pos h2, if_neg (by dsimp only; omega), if_pos h2]
      · rw [if_neg h2, if_neg h2]
theorem g_all (d : AR) (j : Nat) {z : Int} (h : (b_rw d j).1 ≤ z ∧ z ≤ (b_rw d j).2) : (b_all d).1 ≤ z ∧ z ≤ (b_all d).2 := by
  obtain ⟨e, l⟩ := d
  unfold b_all
  dsimp only
  induction l with
  | nil => exact h
  | cons q r ih =>
    rw [List.foldr_cons]
    unfold b_rw at h
    rw [m_lkc] at h
    by_cases hk : q.1 = j
    · rw [if_pos hk] at h
      exact g_jn1 h
    · rw [if_neg hk] at h
      exact g_jn2 (ih h)
theorem b_rwst (d : AR) (k : Nat) (v : AI) (j : Nat) : b_rw (b_st d k v) j = if k = j then v else b_rw d j := by
  unfold b_st
  split
  · next e =>
    by_cases h : k = j
    · rw [if_pos h, ← h, e]
    · rw [if_neg h]
  · unfold b_rw
    dsimp only
    rw [m_lkau]
    by_cases h : k = j
    · rw [if_pos h, if_pos h]
    · rw [if_neg h, if_neg h]
theorem b_grau (c : AC) (k v j : Nat) : b_gr (c.1, c.2.1, c.2.2.1, b_au c.2.2.2 k v) j = if k = j then v else b_gr c j := by
  unfold b_gr
  dsimp only
  rw [m_lkau]
  by_cases h : k = j
  · rw [if_pos h, if_pos h]
  · rw [if_neg h, if_neg h]
-- the heap
theorem b_cset (A : AH) (a : Nat) (c : AC) (b : Nat) : b_cell (b_set A a c) b = if a = b then some c else b_cell A b := m_lkau _ _ _ _
theorem g_set {s : AI} {A : AH} {h h2 : MH} {a : Nat} {c : AC} (hh : g_h s A h) (ha : a ≠ 14) (h1 : h2.1 = h.1) (hk : ∀ b, h_k h2 b = h_k h b) (hb : ∀ b, b ≠ a → h_i h2 b = h_i h b ∧ h_l h2 b = h_l h b ∧ h_r h2 b = h_r h b) (hc : g_c c h2 a) : g_h s (b_set A a c) h2 := by
  obtain ⟨q1, q2, q3, q4, q5⟩ := hh
  refine ⟨by unfold h_n at q1 ⊢; rw [h1]; exact q1, by unfold h_z at q2 ⊢; rw [h1]; exact q2, fun b x hx => ?_, ?_, by rw [hk]; exact q5⟩
  · rw [b_cset] at hx
    by_cases hab : a = b
    · rw [if_pos hab] at hx
      cases hx
      rw [← hab]
      exact hc
    · rw [if_neg hab] at hx
      obtain ⟨p1, p2, p3, p4⟩ := q3 b x hx
      obtain ⟨e1, e2, e3⟩ := hb b (fun z => hab z.symm)
      exact ⟨by rw [hk]; exact p1, fun j => by rw [e1]; exact p2 j, fun j => by rw [e2]; exact p3 j, fun j => by rw [e3]; exact p4 j⟩
  · rw [(hb 14 (fun z => ha z.symm)).1]
    exact q4
theorem g_same {s : AI} {A : AH} {h h2 : MH} {a : Nat} (hh : g_h s A h) (ha : a ≠ 14) (h1 : h2.1 = h.1) (hk : ∀ b, h_k h2 b = h_k h b) (hb : ∀ b, b ≠ a → h_i h2 b = h_i h b ∧ h_l h2 b = h_l h b ∧ h_r h2 b = h_r h b) (hc : ∀ c, b_cell A a = some c → g_c c h2 a) : g_h s A h2 := by
  obtain ⟨q1, q2, q3, q4, q5⟩ := hh
  refine ⟨by unfold h_n at q1 ⊢; rw [h1]; exact q1, by unfold h_z at q2 ⊢; rw [h1]; exact q2, fun b x hx => ?_, ?_, by rw [hk]; exact q5⟩
  · by_cases hab : a = b
    · rw [← hab] at hx ⊢
      exact hc x hx
    · obtain ⟨p1, p2, p3, p4⟩ := q3 b x hx
      obtain ⟨e1, e2, e3⟩ := hb b (fun z => hab z.symm)
      exact ⟨by rw [hk]; exact p1, fun j => by rw [e1]; exact p2 j, fun j => by rw [e2]; exact p3 j, fun j => by rw [e3]; exact p4 j⟩
  · rw [(hb 14 (fun z => ha z.symm)).1]
    exact q4
theorem m_uE {α : Type} (f : Nat → α) (k : Nat) (v : α) : m_u f k v k = v := if_pos rfl
theorem m_uN {α : Type} (f : Nat → α) (k : Nat) (v : α) (j : Nat) (h : j ≠ k) : m_u f k v j = f j := if_neg h
theorem g_si {s : AI} {A : AH} {h : MH} {a : Nat} {o : AC} {k : Nat} {v : AI} {x : Int32} (hh : g_h s A h) (hc : b_cell A a = some o) (ha : a ≠ 14) (hv : g_i v x) : g_h s (b_si A a o k v) (h_si h a k x) := by
  obtain ⟨p1, p2, p3, p4⟩ := hh.2.2.1 a o hc
  have hrow : ∀ j, h_i (h_si h a k x) a j = if k = j then x else h_i h a j := by
    intro j
    show m_u (h_i h) a (m_u (h_i h a) k x) a j = _
    rw [m_uE]
    by_cases e : k = j
    · rw [if_pos e, ← e, m_uE]
    · rw [if_neg e, m_uN _ _ _ _ (fun z => e z.symm)]
  have hbb : ∀ b, b ≠ a → h_i (h_si h a k x) b = h_i h b ∧ h_l (h_si h a k x) b = h_l h b ∧ h_r (h_si h a k x) b = h_r h b := fun b hb => ⟨m_uN _ _ _ _ hb, rfl, rfl⟩
  unfold b_si
  split
  · next e =>
    refine g_same hh ha rfl (fun b => rfl) hbb (fun c hc2 => ?_)
    rw [hc] at hc2
    cases hc2
    refine ⟨p1, fun j => ?_, p3, p4⟩
    rw [hrow]
    by_cases e2 : k = j
    · rw [if_pos e2, ← e2, e]
      exact hv
    · rw [if_neg e2]
      exact p2 j
  · refine g_set hh ha rfl (fun b => rfl) hbb ⟨p1, fun j => ?_, p3, p4⟩
    dsimp only
    rw [hrow, b_rwst]
    by_cases e2 : k = j
    · rw [if_pos e2, if_pos e2]
      exact hv
    · rw [if_neg e2, if_neg e2]
      exact p2 j
theorem g_sl {s : AI} {A : AH} {h : MH} {a : Nat} {o : AC} {k : Nat} {v : AI} {x : Int64} (hh : g_h s A h) (hc : b_cell A a = some o) (ha : a ≠ 14) (hv : g_j v x) : g_h s (b_sl A a o k v) (h_sl h a k x) := by
  obtain ⟨p1, p2, p3, p4⟩ := hh.2.2.1 a o hc
  have hrow : ∀ j, h_l (h_sl h a k x) a j = if k = j then x else h_l h a j := by
    intro j
    show m_u (h_l h) a (m_u (h_l h a) k x) a j = _
    rw [m_uE]
    by_cases e : k = j
    · rw [if_pos e, ← e, m_uE]
    · rw [if_neg e, m_uN _ _ _ _ (fun z => e z.symm)]
  have hbb : ∀ b, b ≠ a → h_i (h_sl h a k x) b = h_i h b ∧ h_l (h_sl h a k x) b = h_l h b ∧ h_r (h_sl h a k x) b = h_r h b := fun b hb => ⟨rfl, m_uN _ _ _ _ hb, rfl⟩
  unfold b_sl
  split
  · next e =>
    refine g_same hh ha rfl (fun b => rfl) hbb (fun c hc2 => ?_)
    rw [hc] at hc2
    cases hc2
    refine ⟨p1, p2, fun j => ?_, p4⟩
    rw [hrow]
    by_cases e2 : k = j
    · rw [if_pos e2, ← e2, e]
      exact hv
    · rw [if_neg e2]
      exact p3 j
  · refine g_set hh ha rfl (fun b => rfl) hbb ⟨p1, p2, fun j => ?_, p4⟩
    dsimp only
    rw [hrow, b_rwst]
    by_cases e2 : k = j
    · rw [if_pos e2, if_pos e2]
      exact hv
    · rw [if_neg e2, if_neg e2]
      exact p3 j
theorem g_sr {s : AI} {A : AH} {h : MH} {a : Nat} {o : AC} {k x : Nat} (hh : g_h s A h) (hc : b_cell A a = some o) (ha : a ≠ 14) : g_h s (b_sr A a o k x) (h_sr h a k x) := by
  obtain ⟨p1, p2, p3, p4⟩ := hh.2.2.1 a o hc
  refine g_set hh ha rfl (fun b => rfl) (fun b hb => ⟨rfl, rfl, m_uN _ _ _ _ hb⟩) ⟨p1, p2, p3, fun j => ?_⟩
  show m_u (h_r h) a (m_u (h_r h a) k x) a j = _
  rw [m_uE, b_grau]
  by_cases e : k = j
  · rw [if_pos e, ← e, m_uE]
  · rw [if_neg e, m_uN _ _ _ _ (fun z => e z.symm)]
    exact p4 j
theorem g_new {s : AI} {A : AH} {h : MH} (k len sz : Nat) (hh : g_h s A h) : g_h s (b_new A k len sz) (h_new h k len sz) := by
  obtain ⟨q1, q2, q3, q4, q5⟩ := hh
  refine ⟨?_, ?_, fun b x hx => ?_, ?_, ?_⟩
  · show h_n h + 1 = A.1.1 + 1
    rw [q1]
  · show h_z h + sz = A.1.2 + sz
    rw [q2]
  · have hx2 : m_lk (b_au A.2 (16 + A.1.1) ((k, len), ((0, 0), []), ((0, 0), []), [])) b = some x := hx
    rw [m_lkau] at hx2
    have e16 : 16 + h.1.1 = 16 + A.1.1 := by unfold h_n at q1; omega
    by_cases hb : 16 + A.1.1 = b
    · rw [if_pos hb] at hx2
      cases hx2
      have eb : b = 16 + h.1.1 := by omega
      refine ⟨?_, fun j => ?_, fun j => ?_, fun j => ?_⟩
      · show m_u (h_k h) (16 + h.1.1) (k, len) b = _
        rw [eb, m_uE]
      · show g_i (0, 0) (m_u (h_i h) (16 + h.1.1) (fun _ => 0) b j)
        rw [eb, m_uE]
        exact ⟨by decide, by decide⟩
      · show g_j (0, 0) (m_u (h_l h) (16 + h.1.1) (fun _ => 0) b j)
        rw [eb, m_uE]
        exact ⟨by decide, by decide⟩
      · show m_u (h_r h) (16 + h.1.1) (fun _ => 0) b j = 0
        rw [eb, m_uE]
    · rw [if_neg hb] at hx2
      have nb : b ≠ 16 + h.1.1 := by omega
      obtain ⟨p1, p2, p3, p4⟩ := q3 b x hx2
      refine ⟨?_, fun j => ?_, fun j => ?_, fun j => ?_⟩
      · show m_u (h_k h) (16 + h.1.1) (k, len) b = _
        rw [m_uN _ _ _ _ nb]
        exact p1
      · show g_i _ (m_u (h_i h) (16 + h.1.1) (fun _ => 0) b j)
        rw [m_uN _ _ _ _ nb]
        exact p2 j
      · show g_j _ (m_u (h_l h) (16 + h.1.1) (fun _ => 0) b j)
        rw [m_uN _ _ _ _ nb]
        exact p3 j
      · show m_u (h_r h) (16 + h.1.1) (fun _ => 0) b j = _
        rw [m_uN _ _ _ _ nb]
        exact p4 j
  · show g_i s (m_u (h_i h) (16 + h.1.1) (fun _ => 0) 14 0 &&& 63)
    rw [m_uN _ _ _ _ (by omega)]
    exact q4
  · show (m_u (h_k h) (16 + h.1.1) (k, len) 14).1 = 20
    rw [m_uN _ _ _ _ (by omega)]
    exact q5
-- stacks and locals
theorem g_catE {s : AI} {a : AV} {v : Value} (h : g_v s a v) : v.category = b_cat a := by
  cases a with
  | inl p =>
    obtain ⟨x, rfl, -⟩ := h
    rfl
  | inr a => cases a with
    | inl u =>
      obtain ⟨x, rfl, -⟩ := h
      rfl
    | inr a => cases a with
      | inl p =>
        obtain ⟨x, rfl, -⟩ := h
        rfl
      | inr n =>
        cases (h : v = .ref n)
        rfl
theorem g_ct {s : AI} : ∀ {a : List AV} {v : List Value}, g_s s a v → m_cat v = b_ct a
  | [], [], _ => rfl
  | a :: r, v :: q, h => by
    have ih := g_ct h.2
    unfold m_cat b_ct at ih ⊢
    rw [List.map_cons, List.map_cons, List.sum_cons, List.sum_cons, ih, g_catE h.1]
  | [], _ :: _, h => h.elim
  | _ :: _, [], h => h.elim
theorem g_len {s : AI} : ∀ {a : List AV} {v : List Value}, g_s s a v → v.length = a.length
  | [], [], _ => rfl
  | a :: r, v :: q, h => by rw [List.length_cons, List.length_cons, g_len h.2]
  | [], _ :: _, h => h.elim
  | _ :: _, [], h => h.elim
theorem g_dr {s : AI} : ∀ (n : Nat) {a : List AV} {v : List Value}, g_s s a v → g_s s (a.drop n) (v.drop n)
  | 0, _, _, h => h
  | n + 1, [], [], h => h
  | n + 1, a :: r, v :: q, h => g_dr n h.2
  | _ + 1, [], _ :: _, h => h.elim
  | _ + 1, _ :: _, [], h => h.elim
theorem g_tk {s : AI} : ∀ (n : Nat) {a : List AV} {v : List Value}, g_s s a v → g_s s (a.take n) (v.take n)
  | 0, _, _, _ => trivial
  | n + 1, [], [], h => h
  | n + 1, a :: r, v :: q, h => ⟨h.1, g_tk n h.2⟩
  | _ + 1, [], _ :: _, h => h.elim
  | _ + 1, _ :: _, [], h => h.elim
theorem g_app {s : AI} : ∀ {a b : List AV} {v w : List Value}, g_s s a v → g_s s b w → g_s s (a ++ b) (v ++ w)
  | [], _, [], _, _, k => k
  | a :: r, _, v :: q, _, h, k => ⟨h.1, g_app h.2 k⟩
  | [], _, _ :: _, _, h, _ => h.elim
  | _ :: _, _, [], _, h, _ => h.elim
theorem g_rv {s : AI} : ∀ {a : List AV} {v : List Value}, g_s s a v → g_s s a.reverse v.reverse
  | [], [], h => h
  | a :: r, v :: q, h => by
    rw [List.reverse_cons, List.reverse_cons]
    exact g_app (g_rv h.2) ⟨h.1, trivial⟩
  | [], _ :: _, h => h.elim
  | _ :: _, [], h => h.elim
theorem g_args {s : AI} : ∀ (n : Nat) {a : List AV} {v : List Value}, g_s s a v → g_l s (b_args n a) (lv_args n v)
  | _, [], [], _ => trivial
  | n, a :: r, v :: q, h => by
    rw [b_args, lv_args, g_catE h.1]
    exact ⟨⟨rfl, h.1⟩, g_args _ h.2⟩
  | _, [], _ :: _, h => h.elim
  | _, _ :: _, [], h => h.elim
theorem g_lk {s : AI} {k : Nat} {a : AV} : ∀ {l : AL} {v : List (Nat × Value)}, g_l s l v → m_lk l k = some a → ∃ x, m_lk v k = some x ∧ g_v s a x
  | [], [], _, e => by cases e
  | p :: r, v :: q, h, e => by
    rw [m_lkc] at e
    rw [m_lkc, h.1.1]
    by_cases hk : p.1 = k
    · rw [if_pos hk] at e ⊢
      cases e
      exact ⟨_, rfl, h.1.2⟩
    · rw [if_neg hk] at e ⊢
      exact g_lk h.2 e
  | [], _ :: _, h, _ => h.elim
  | _ :: _, [], h, _ => h.elim
theorem g_fi {s : AI} {p : Nat × AV → Bool} {p' : Nat × Value → Bool} (hp : ∀ (a : Nat × AV) (v : Nat × Value), v.1 = a.1 → g_v s a.2 v.2 → p' v = p a) : ∀ {l : AL} {v : List (Nat × Value)}, g_l s l v → g_l s (l.filter p) (v.filter p')
  | [], [], _ => trivial
  | a :: r, v :: q, h => by
    have e := hp a v h.1.1 h.1.2
    rw [List.filter_cons, List.filter_cons, e]
    by_cases hk : p a = true
    · rw [if_pos hk, if_pos hk]
      exact ⟨h.1, g_fi hp h.2⟩
    · rw [if_neg hk, if_neg hk]
      exact g_fi hp h.2
  | [], _ :: _, h => h.elim
  | _ :: _, [], h => h.elim
theorem g_s1 {s : AI} {l : AL} {v : List (Nat × Value)} {k : Nat} {a : AV} {x : Value} (h : g_l s l v) (hv : g_v s a x) : g_l s (b_s1 l k a) (m_s1 v k x) :=
  ⟨⟨rfl, hv⟩, g_fi (fun a v e g => by rw [e, g_catE g]) h⟩
theorem g_s2 {s : AI} {l : AL} {v : List (Nat × Value)} {k : Nat} {a : AV} {x : Value} (h : g_l s l v) (hv : g_v s a x) : g_l s (b_s2 l k a) (m_s2 v k x) :=
  ⟨⟨rfl, hv⟩, g_fi (fun a v e g => by rw [e, g_catE g]) h⟩
end
section
-- one step with ranges is true of every step within them
def g_P (s : AI) (R : Option AA) (R' : Option MA) : Prop := ∀ r, R = some r → ∃ r', R' = some r' ∧ g_r s r r'
theorem p_no (s : AI) (R' : Option MA) : g_P s none R' := fun _ h => by cases h
theorem p_go {s : AI} {pc : Nat} {lv : AL} {st : List AV} {A : AH} {lv' : List (Nat × Value)} {st' : List Value} {h : MH} (hl : g_l s lv lv') (hs : g_s s st st') (hh : g_h s A h) : g_P s (b_go pc lv st A) (m_go pc lv' st' h) := fun r e => by
  cases (Option.some.inj e)
  exact ⟨_, rfl, rfl, hl, hs, hh⟩
theorem p_tg {s : AI} {pc : Nat} {off : Int} {lv : AL} {st : List AV} {A : AH} {lv' : List (Nat × Value)} {st' : List Value} {h : MH} (hl : g_l s lv lv') (hs : g_s s st st') (hh : g_h s A h) : g_P s (b_tg pc off lv st A) (m_tg pc off lv' st' h) := by
  unfold b_tg m_tg
  by_cases hc : 0 ≤ (pc : Int) + off
  · rw [if_pos hc, if_pos hc]
    intro r e
    cases e
    exact ⟨_, rfl, rfl, hl, hs, hh⟩
  · rw [if_neg hc]
    exact p_no _ _
theorem p_br {s : AI} {b : Option Bool} {b' : Bool} {pc : Nat} {off : Int} {lv : AL} {st : List AV} {A : AH} {lv' : List (Nat × Value)} {st' : List Value} {h : MH} (hb : ∀ r, b = some r → b' = r) (hl : g_l s lv lv') (hs : g_s s st st') (hh : g_h s A h) : g_P s (b_br b pc off lv st A) (m_br b' pc off lv' st' h) := by
  unfold b_br m_br
  by_cases hc : 0 ≤ (pc : Int) + off
  · rw [if_pos hc, if_pos hc]
    cases b with
    | none => exact p_no _ _
    | some r =>
      rw [hb r rfl]
      cases r with
      | true =>
        intro r e
        cases e
        exact ⟨_, rfl, rfl, hl, hs, hh⟩
      | false => exact p_go hl hs hh
  · rw [if_neg hc]
    exact p_no _ _
def e_sw (d lo hi : Int) (offs : Array Int) (pc : Nat) (lv : List (Nat × Value)) (st : List Value) (h : MH) : Option MA := match st with
  | .int x :: r => if x.toInt < lo ∨ hi < x.toInt then m_tg pc d lv r h else (match offs[(x.toInt - lo).toNat]? with
    | some o => m_tg pc o lv r h
    | none => none)
  | _ => none
section
variable {s : AI} {pc : Nat} {lv : AL} {st : List AV} {A : AH} {lv' : List (Nat × Value)} {st' : List Value} {h : MH}
theorem p_ii (f : Int32 → Int32 → Int32) (hl : g_l s lv lv') (hs : g_s s st st') (hh : g_h s A h) : g_P s (c_ii f pc lv st A) (e_ii f pc lv' st' h) := by
  unfold c_ii
  split
  · next y x r =>
    obtain ⟨v, q, rfl, ⟨y', rfl, hy⟩, hq1⟩ := g_sc hs
    obtain ⟨v, q, rfl, ⟨x', rfl, hx⟩, hq⟩ := g_sc hq1
    exact p_go hl ⟨⟨_, rfl, g_f2 hx hy⟩, hq⟩ hh
  · exact p_no _ _
theorem p_and (hl : g_l s lv lv') (hs : g_s s st st') (hh : g_h s A h) : g_P s (c_and s pc lv st A) (e_ii (fun x y => x &&& y) pc lv' st' h) := by
  unfold c_and
  split
  · next y x r =>
    obtain ⟨v, q, rfl, ⟨y', rfl, hy⟩, hq1⟩ := g_sc hs
    obtain ⟨v, q, rfl, ⟨x', rfl, hx⟩, hq⟩ := g_sc hq1
    exact p_go hl ⟨⟨_, rfl, g_f2 (f := fun x y => x &&& y) hx hy⟩, hq⟩ hh
  · next y u r =>
    obtain ⟨v, q, rfl, ⟨y', rfl, hy⟩, hq1⟩ := g_sc hs
    obtain ⟨v, q, rfl, ⟨x', rfl, hx⟩, hq⟩ := g_sc hq1
    split
    · next e =>
      have e2 : y' = 63 := by rw [g_iC hy (by rw [e]), e]; rfl
      rw [e2]
      exact p_go hl ⟨⟨_, rfl, hx⟩, hq⟩ hh
    · exact p_no _ _
  · exact p_no _ _
theorem p_ll (f : Int64 → Int64 → Int64) (hl : g_l s lv lv') (hs : g_s s st st') (hh : g_h s A h) : g_P s (c_ll f pc lv st A) (e_ll f pc lv' st' h) := by
  unfold c_ll
  split
  · next y x r =>
    obtain ⟨v, q, rfl, ⟨y', rfl, hy⟩, hq1⟩ := g_sc hs
    obtain ⟨v, q, rfl, ⟨x', rfl, hx⟩, hq⟩ := g_sc hq1
    exact p_go hl ⟨⟨_, rfl, g_g2 hx hy⟩, hq⟩ hh
  · exact p_no _ _
theorem p_li (f : Int64 → Int32 → Int64) (hl : g_l s lv lv') (hs : g_s s st st') (hh : g_h s A h) : g_P s (c_li f pc lv st A) (e_li f pc lv' st' h) := by
  unfold c_li
  split
  · next y x r =>
    obtain ⟨v, q, rfl, ⟨y', rfl, hy⟩, hq1⟩ := g_sc hs
    obtain ⟨v, q, rfl, ⟨x', rfl, hx⟩, hq⟩ := g_sc hq1
    exact p_go hl ⟨⟨_, rfl, g_gi hx hy⟩, hq⟩ hh
  · exact p_no _ _
theorem p_i1 (f : Int32 → Int32) (hl : g_l s lv lv') (hs : g_s s st st') (hh : g_h s A h) : g_P s (c_i1 f pc lv st A) (e_i (fun x => .int (f x)) pc lv' st' h) := by
  unfold c_i1
  split
  · next x r =>
    obtain ⟨v, q, rfl, ⟨x', rfl, hx⟩, hq⟩ := g_sc hs
    exact p_go hl ⟨⟨_, rfl, g_f1 hx⟩, hq⟩ hh
  · exact p_no _ _
theorem p_il (f : Int32 → Int64) (hl : g_l s lv lv') (hs : g_s s st st') (hh : g_h s A h) : g_P s (c_il f pc lv st A) (e_i (fun x => .long (f x)) pc lv' st' h) := by
  unfold c_il
  split
  · next x r =>
    obtain ⟨v, q, rfl, ⟨x', rfl, hx⟩, hq⟩ := g_sc hs
    exact p_go hl ⟨⟨_, rfl, g_il hx⟩, hq⟩ hh
  · exact p_no _ _
theorem p_l2i (f : Int64 → Int32) (hl : g_l s lv lv') (hs : g_s s st st') (hh : g_h s A h) : g_P s (c_l2i f pc lv st A) (e_l (fun x => .int (f x)) pc lv' st' h) := by
  unfold c_l2i
  split
  · next x r =>
    obtain ⟨v, q, rfl, ⟨x', rfl, hx⟩, hq⟩ := g_sc hs
    exact p_go hl ⟨⟨_, rfl, g_li hx⟩, hq⟩ hh
  · exact p_no _ _
theorem p_l1 (f : Int64 → Int64) (hl : g_l s lv lv') (hs : g_s s st st') (hh : g_h s A h) : g_P s (c_l1 f pc lv st A) (e_l (fun x => .long (f x)) pc lv' st' h) := by
  unfold c_l1
  split
  · next x r =>
    obtain ⟨v, q, rfl, ⟨x', rfl, hx⟩, hq⟩ := g_sc hs
    exact p_go hl ⟨⟨_, rfl, g_ll hx⟩, hq⟩ hh
  · exact p_no _ _
theorem p_dv (f : Int32 → Int32 → Int32) (hl : g_l s lv lv') (hs : g_s s st st') (hh : g_h s A h) : g_P s (c_dv f pc lv st A) (e_dv f pc lv' st' h) := by
  unfold c_dv
  split
  · next y x r =>
    obtain ⟨v, q, rfl, ⟨y', rfl, hy⟩, hq1⟩ := g_sc hs
    obtain ⟨v, q, rfl, ⟨x', rfl, hx⟩, hq⟩ := g_sc hq1
    split
    · next hn =>
      have hy0 : ¬ y' = 0 := fun e => by
        obtain ⟨k1, k2⟩ := hy
        rw [e] at k1 k2
        have : (0 : Int32).toInt = 0 := by decide
        omega
      show g_P s _ (if y' = 0 then none else _)
      rw [if_neg hy0]
      exact p_go hl ⟨⟨_, rfl, g_f2 hx hy⟩, hq⟩ hh
    · exact p_no _ _
  · exact p_no _ _
theorem p_ild (k : Nat) (hl : g_l s lv lv') (hs : g_s s st st') (hh : g_h s A h) : g_P s (c_ild k pc lv st A) (e_ild k pc lv' st' h) := by
  unfold c_ild e_ild
  split
  · next x e =>
    obtain ⟨v, e2, ⟨x', rfl, hx⟩⟩ := g_lk hl e
    rw [e2]
    exact p_go hl ⟨⟨_, rfl, hx⟩, hs⟩ hh
  · exact p_no _ _
theorem p_lld (k : Nat) (hl : g_l s lv lv') (hs : g_s s st st') (hh : g_h s A h) : g_P s (c_lld k pc lv st A) (e_lld k pc lv' st' h) := by
  unfold c_lld e_lld
  split
  · next x e =>
    obtain ⟨v, e2, ⟨x', rfl, hx⟩⟩ := g_lk hl e
    rw [e2]
    exact p_go hl ⟨⟨_, rfl, hx⟩, hs⟩ hh
  · exact p_no _ _
theorem p_ald (k : Nat) (hl : g_l s lv lv') (hs : g_s s st st') (hh : g_h s A h) : g_P s (c_ald k pc lv st A) (e_ald k pc lv' st' h) := by
  unfold c_ald e_ald
  split
  · next x e =>
    obtain ⟨v, e2, hx⟩ := g_lk hl e
    cases (hx : v = .ref x)
    rw [e2]
    exact p_go hl ⟨rfl, hs⟩ hh
  · exact p_no _ _
theorem p_ist (n k : Nat) (hl : g_l s lv lv') (hs : g_s s st st') (hh : g_h s A h) : g_P s (c_ist n k pc lv st A) (e_ist n k pc lv' st' h) := by
  unfold c_ist
  split
  · next x r =>
    obtain ⟨v, q, rfl, ⟨x', rfl, hx⟩, hq⟩ := g_sc hs
    show g_P s _ (if k < n then _ else none)
    split
    · exact p_go (g_s1 hl ⟨_, rfl, hx⟩) hq hh
    · exact p_no _ _
  · exact p_no _ _
theorem p_lst (n k : Nat) (hl : g_l s lv lv') (hs : g_s s st st') (hh : g_h s A h) : g_P s (c_lst n k pc lv st A) (e_lst n k pc lv' st' h) := by
  unfold c_lst
  split
  · next x r =>
    obtain ⟨v, q, rfl, ⟨x', rfl, hx⟩, hq⟩ := g_sc hs
    show g_P s _ (if k + 1 < n then _ else none)
    split
    · exact p_go (g_s2 hl ⟨_, rfl, hx⟩) hq hh
    · exact p_no _ _
  · exact p_no _ _
theorem p_ast (n k : Nat) (hl : g_l s lv lv') (hs : g_s s st st') (hh : g_h s A h) : g_P s (c_ast n k pc lv st A) (e_ast n k pc lv' st' h) := by
  unfold c_ast
  split
  · next x r =>
    obtain ⟨v, q, rfl, hx, hq⟩ := g_sc hs
    cases (hx : v = .ref x)
    show g_P s _ (if k < n then _ else none)
    split
    · exact p_go (g_s1 hl rfl) hq hh
    · exact p_no _ _
  · exact p_no _ _
theorem p_inc (n k : Nat) (z : Int) (hl : g_l s lv lv') (hs : g_s s st st') (hh : g_h s A h) : g_P s (c_inc n k z pc lv st A) (e_inc n k z pc lv' st' h) := by
  unfold c_inc e_inc
  split
  · next x e =>
    obtain ⟨v, e2, ⟨x', rfl, hx⟩⟩ := g_lk hl e
    rw [e2]
    dsimp only
    split
    · exact p_go (g_s1 hl ⟨_, rfl, g_f1 (f := fun x => x + Int32.ofInt z) hx⟩) hs hh
    · exact p_no _ _
  · exact p_no _ _
theorem p_get (i idx : Nat) (hl : g_l s lv lv') (hs : g_s s st st') (hh : g_h s A h) : g_P s (c_get i idx pc lv st A) (e_get i idx pc lv' st' h) := by
  unfold c_get
  split
  · next a r z c k ef =>
    obtain ⟨v, q, rfl, hx, hq⟩ := g_sc hs
    cases (hx : v = .ref a)
    unfold e_get
    rw [ef]
    dsimp only
    split
    · next o eo =>
      obtain ⟨p1, p2, p3, p4⟩ := hh.2.2.1 a o eo
      rw [p1]
      split
      · split
        · next e0 => rw [e0]; exact p_go hl ⟨⟨_, rfl, p2 k⟩, hq⟩ hh
        · next e0 => rw [e0]; exact p_go hl ⟨⟨_, rfl, p3 k⟩, hq⟩ hh
        · next n0 n1 =>
          split
          · next e0 => exact absurd e0 n0
          · next e0 => exact absurd e0 n1
          · exact p_go hl ⟨by rw [← p4 k]; rfl, hq⟩ hh
      · exact p_no _ _
    · exact p_no _ _
  · exact p_no _ _
theorem g_n14 {a : Nat} {o : AC} {c : Nat} (hh : g_h s A h) (eo : b_cell A a = some o) (hc : o.1.1 = c + 1) (h10 : c < 10) : a ≠ 14 := by
  intro e
  have h1 := (hh.2.2.1 a o eo).1
  have h2 := hh.2.2.2.2
  rw [e] at h1
  rw [h1] at h2
  omega
theorem p_put (i idx : Nat) (hl : g_l s lv lv') (hs : g_s s st st') (hh : g_h s A h) : g_P s (c_put i idx pc lv st A) (e_put i idx pc lv' st' h) := by
  unfold c_put
  split
  · next x a r z c k ef =>
    obtain ⟨v, q, rfl, ⟨x', rfl, hx⟩, hq1⟩ := g_sc hs
    obtain ⟨v, q, rfl, ha, hq⟩ := g_sc hq1
    cases (ha : v = .ref a)
    unfold e_put
    rw [ef]
    dsimp only
    split
    · next o eo =>
      rw [(hh.2.2.1 a o eo).1]
      split
      · next hc => exact p_go hl hq (g_si hh eo (g_n14 hh eo hc.1 hc.2.1) hx)
      · exact p_no _ _
    · exact p_no _ _
  · next x a r z c k ef =>
    obtain ⟨v, q, rfl, ⟨x', rfl, hx⟩, hq1⟩ := g_sc hs
    obtain ⟨v, q, rfl, ha, hq⟩ := g_sc hq1
    cases (ha : v = .ref a)
    unfold e_put
    rw [ef]
    dsimp only
    split
    · next o eo =>
      rw [(hh.2.2.1 a o eo).1]
      split
      · next hc => exact p_go hl hq (g_sl hh eo (g_n14 hh eo hc.1 hc.2.1) hx)
      · exact p_no _ _
    · exact p_no _ _
  · next x a r z c k ef =>
    obtain ⟨v, q, rfl, hx, hq1⟩ := g_sc hs
    cases (hx : v = .ref x)
    obtain ⟨v, q, rfl, ha, hq⟩ := g_sc hq1
    cases (ha : v = .ref a)
    unfold e_put
    rw [ef]
    dsimp only
    split
    · next o eo =>
      rw [(hh.2.2.1 a o eo).1]
      split
      · next hc => exact p_go hl hq (g_sr hh eo (g_n14 hh eo hc.1 hc.2.1))
      · exact p_no _ _
    · exact p_no _ _
  · exact p_no _ _
theorem g_at {j : AI} {x : Int32} {n : Nat} (hj : g_i j x) (e : b_at j n = true) : m_in x n = true := by
  obtain ⟨h1, h2⟩ := hj
  unfold b_at at e
  rw [Bool.and_eq_true] at e
  have e1 := of_decide_eq_true e.1
  have e2 := of_decide_eq_true e.2
  unfold m_in
  rw [Bool.and_eq_true]
  refine ⟨decide_eq_true (fun q => ?_), decide_eq_true ?_⟩
  · have := Int32.lt_iff_toInt_lt.mp q
    have : (0 : Int32).toInt = 0 := by decide
    omega
  · show x.toInt.toNat < n
    omega
theorem g_ix {j : AI} {x : Int32} (hj : g_i j x) (hc : j.1 = j.2) : x.toNatClampNeg = j.1.toNat := by
  obtain ⟨h1, h2⟩ := hj
  show x.toInt.toNat = _
  omega
theorem g_rdi {d : AR} {j : AI} {x : Int32} {f : Nat → Int32} (hj : g_i j x) (hf : ∀ k, g_i (b_rw d k) (f k)) : g_i (b_rd d j) (f x.toNatClampNeg) := by
  unfold b_rd
  split
  · next e =>
    rw [g_ix hj e]
    exact hf _
  · exact g_all d _ (hf _)
theorem g_rdj {d : AR} {j : AI} {x : Int32} {f : Nat → Int64} (hj : g_i j x) (hf : ∀ k, g_j (b_rw d k) (f k)) : g_j (b_rd d j) (f x.toNatClampNeg) := by
  unfold b_rd
  split
  · next e =>
    rw [g_ix hj e]
    exact hf _
  · exact g_all d _ (hf _)
theorem p_iald (k0 k1 : Nat) (hl : g_l s lv lv') (hs : g_s s st st') (hh : g_h s A h) : g_P s (c_iald k0 k1 pc s lv st A) (e_iald k0 k1 pc lv' st' h) := by
  unfold c_iald
  split
  · next j a r =>
    obtain ⟨v, q, rfl, ⟨j', rfl, hj⟩, hq1⟩ := g_sc hs
    obtain ⟨v, q, rfl, ha, hq⟩ := g_sc hq1
    cases (ha : v = .ref a)
    unfold e_iald
    dsimp only
    split
    · next o eo =>
      obtain ⟨p1, p2, p3, p4⟩ := hh.2.2.1 a o eo
      rw [p1]
      by_cases hc : (o.1.1 = k0 ∨ o.1.1 = k1) ∧ b_at j o.1.2 = true
      · have hc2 : (o.1.1 = k0 ∨ o.1.1 = k1) ∧ m_in j' o.1.2 = true := ⟨hc.1, g_at hj hc.2⟩
        rw [if_pos hc, if_pos hc2]
        by_cases e14 : a = 14
        · rw [if_pos e14]
          by_cases e0 : j = (0, 0)
          · rw [if_pos e0]
            have e1 : j'.toNatClampNeg = 0 := by rw [g_ix hj (by rw [e0]), e0]; rfl
            refine p_go hl ⟨⟨_, rfl, ?_⟩, hq⟩ hh
            rw [e1, e14]
            exact hh.2.2.2.1
          · rw [if_neg e0]
            by_cases e2 : j.1 = j.2
            · rw [if_pos e2]
              refine p_go hl ⟨⟨_, rfl, ?_⟩, hq⟩ hh
              rw [g_ix hj e2]
              exact p2 _
            · rw [if_neg e2]
              exact p_no _ _
        · rw [if_neg e14]
          exact p_go hl ⟨⟨_, rfl, g_rdi hj p2⟩, hq⟩ hh
      · rw [if_neg hc]
        exact p_no _ _
    · exact p_no _ _
  · exact p_no _ _
theorem p_lald (hl : g_l s lv lv') (hs : g_s s st st') (hh : g_h s A h) : g_P s (c_lald pc lv st A) (e_lald pc lv' st' h) := by
  unfold c_lald
  split
  · next j a r =>
    obtain ⟨v, q, rfl, ⟨j', rfl, hj⟩, hq1⟩ := g_sc hs
    obtain ⟨v, q, rfl, ha, hq⟩ := g_sc hq1
    cases (ha : v = .ref a)
    unfold e_lald
    dsimp only
    split
    · next o eo =>
      obtain ⟨p1, p2, p3, p4⟩ := hh.2.2.1 a o eo
      rw [p1]
      split
      · next hc =>
        rw [if_pos ⟨hc.1, g_at hj hc.2⟩]
        exact p_go hl ⟨⟨_, rfl, g_rdj hj p3⟩, hq⟩ hh
      · exact p_no _ _
    · exact p_no _ _
  · exact p_no _ _
theorem p_aald (hl : g_l s lv lv') (hs : g_s s st st') (hh : g_h s A h) : g_P s (c_aald pc lv st A) (e_aald pc lv' st' h) := by
  unfold c_aald
  split
  · next j a r =>
    obtain ⟨v, q, rfl, ⟨j', rfl, hj⟩, hq1⟩ := g_sc hs
    obtain ⟨v, q, rfl, ha, hq⟩ := g_sc hq1
    cases (ha : v = .ref a)
    unfold e_aald
    dsimp only
    split
    · next o eo =>
      obtain ⟨p1, p2, p3, p4⟩ := hh.2.2.1 a o eo
      rw [p1]
      split
      · next hc =>
        rw [if_pos ⟨hc.1, g_at hj hc.2.1⟩]
        refine p_go hl ⟨?_, hq⟩ hh
        rw [g_ix hj hc.2.2, p4]
        rfl
      · exact p_no _ _
    · exact p_no _ _
  · exact p_no _ _
theorem p_iast (hl : g_l s lv lv') (hs : g_s s st st') (hh : g_h s A h) : g_P s (c_iast pc lv st A) (e_iast pc lv' st' h) := by
  unfold c_iast
  split
  · next x j a r =>
    obtain ⟨v, q, rfl, ⟨x', rfl, hx⟩, hq1⟩ := g_sc hs
    obtain ⟨v, q, rfl, ⟨j', rfl, hj⟩, hq2⟩ := g_sc hq1
    obtain ⟨v, q, rfl, ha, hq⟩ := g_sc hq2
    cases (ha : v = .ref a)
    unfold e_iast
    dsimp only
    split
    · next o eo =>
      rw [(hh.2.2.1 a o eo).1]
      split
      · next hc =>
        rw [if_pos ⟨hc.1, hc.2.1, g_at hj hc.2.2.1⟩, g_ix hj hc.2.2.2]
        exact p_go hl hq (g_si hh eo (by omega) hx)
      · exact p_no _ _
    · exact p_no _ _
  · exact p_no _ _
theorem p_bast (hl : g_l s lv lv') (hs : g_s s st st') (hh : g_h s A h) : g_P s (c_bast pc lv st A) (e_bast pc lv' st' h) := by
  unfold c_bast
  split
  · next x j a r =>
    obtain ⟨v, q, rfl, ⟨x', rfl, hx⟩, hq1⟩ := g_sc hs
    obtain ⟨v, q, rfl, ⟨j', rfl, hj⟩, hq2⟩ := g_sc hq1
    obtain ⟨v, q, rfl, ha, hq⟩ := g_sc hq2
    cases (ha : v = .ref a)
    unfold e_bast
    dsimp only
    split
    · next o eo =>
      rw [(hh.2.2.1 a o eo).1]
      split
      · next hc =>
        rw [if_pos ⟨hc.1, hc.2.1, g_at hj hc.2.2.1⟩, g_ix hj hc.2.2.2]
        exact p_go hl hq (g_si hh eo (by omega) (g_f1 (f := fun x => x.toInt8.toInt32) hx))
      · split
        · next hc =>
          rw [if_neg (fun z => by have := hc.2.1; have := z.2.1; omega), if_pos ⟨hc.1, hc.2.1, g_at hj hc.2.2.1⟩, g_ix hj hc.2.2.2]
          exact p_go hl hq (g_si hh eo (by omega) (g_f1 (f := fun x => x &&& 1) hx))
        · exact p_no _ _
    · exact p_no _ _
  · exact p_no _ _
theorem p_last (hl : g_l s lv lv') (hs : g_s s st st') (hh : g_h s A h) : g_P s (c_last pc lv st A) (e_last pc lv' st' h) := by
  unfold c_last
  split
  · next x j a r =>
    obtain ⟨v, q, rfl, ⟨x', rfl, hx⟩, hq1⟩ := g_sc hs
    obtain ⟨v, q, rfl, ⟨j', rfl, hj⟩, hq2⟩ := g_sc hq1
    obtain ⟨v, q, rfl, ha, hq⟩ := g_sc hq2
    cases (ha : v = .ref a)
    unfold e_last
    dsimp only
    split
    · next o eo =>
      rw [(hh.2.2.1 a o eo).1]
      split
      · next hc =>
        rw [if_pos ⟨hc.1, hc.2.1, g_at hj hc.2.2.1⟩, g_ix hj hc.2.2.2]
        exact p_go hl hq (g_sl hh eo (by omega) hx)
      · exact p_no _ _
    · exact p_no _ _
  · exact p_no _ _
theorem p_aast (hl : g_l s lv lv') (hs : g_s s st st') (hh : g_h s A h) : g_P s (c_aast pc lv st A) (e_aast pc lv' st' h) := by
  unfold c_aast
  split
  · next x j a r =>
    obtain ⟨v, q, rfl, hx, hq1⟩ := g_sc hs
    cases (hx : v = .ref x)
    obtain ⟨v, q, rfl, ⟨j', rfl, hj⟩, hq2⟩ := g_sc hq1
    obtain ⟨v, q, rfl, ha, hq⟩ := g_sc hq2
    cases (ha : v = .ref a)
    unfold e_aast
    dsimp only
    split
    · next o w eo ew =>
      rw [(hh.2.2.1 a o eo).1, (hh.2.2.1 x w ew).1]
      split
      · next hc =>
        rw [if_pos ⟨hc.1, hc.2.1, g_at hj hc.2.2.1, hc.2.2.2.2.1, hc.2.2.2.2.2⟩, g_ix hj hc.2.2.2.1]
        exact p_go hl hq (g_sr hh eo (by omega))
      · exact p_no _ _
    · exact p_no _ _
  · exact p_no _ _
theorem p_alen (hl : g_l s lv lv') (hs : g_s s st st') (hh : g_h s A h) : g_P s (c_alen pc lv st A) (e_alen pc lv' st' h) := by
  unfold c_alen
  split
  · next a r =>
    obtain ⟨v, q, rfl, ha, hq⟩ := g_sc hs
    cases (ha : v = .ref a)
    unfold e_alen
    dsimp only
    split
    · next o eo =>
      rw [(hh.2.2.1 a o eo).1]
      split
      · exact p_go hl ⟨⟨_, rfl, g_iE _⟩, hq⟩ hh
      · exact p_no _ _
    · exact p_no _ _
  · exact p_no _ _
theorem p_nn {n : AI} {x : Int32} (hx : g_i n x) (h1 : n.1 = n.2) (h2 : 0 ≤ n.1) (h3 : n.1 ≤ 1000000) : ¬ x < 0 ∧ x.toNatClampNeg ≤ 1000000 ∧ x.toNatClampNeg = n.1.toNat := by
  have e := g_ix hx h1
  refine ⟨fun q => ?_, by omega, e⟩
  have := Int32.lt_iff_toInt_lt.mp q
  have : (0 : Int32).toInt = 0 := by decide
  obtain ⟨k1, k2⟩ := hx
  omega
theorem p_newa (t : ArrayType) (hl : g_l s lv lv') (hs : g_s s st st') (hh : g_h s A h) : g_P s (c_newa t pc lv st A) (e_newa t pc lv' st' h) := by
  unfold c_newa
  split
  · next n r =>
    obtain ⟨v, q, rfl, ⟨x', rfl, hx⟩, hq⟩ := g_sc hs
    unfold e_newa
    dsimp only
    split
    · next hc =>
      obtain ⟨k1, k2, k3⟩ := p_nn hx hc.2.1 hc.2.2.1 hc.2.2.2
      rw [if_pos ⟨hc.1, k1, k2⟩, k3]
      refine p_go hl ⟨?_, hq⟩ (g_new _ _ _ hh)
      show Value.ref (16 + h_n h) = Value.ref (16 + A.1.1)
      rw [hh.1]
    · exact p_no _ _
  · exact p_no _ _
theorem p_new (i idx : Nat) (hl : g_l s lv lv') (hs : g_s s st st') (hh : g_h s A h) : g_P s (c_new i idx pc lv st A) (e_new i idx pc lv' st' h) := by
  unfold c_new e_new
  generalize m_cc i idx = o
  match o with
  | none => exact p_no _ _
  | some c =>
    by_cases hc : c < 10
    · dsimp only
      rw [if_pos hc, if_pos hc]
      show g_P s (b_go (pc + 3) lv (b_r (16 + A.1.1) :: st) (b_new A (c + 1) (m_nf c) (m_nf c))) (m_go (pc + 3) lv' (.ref (16 + h_n h) :: st') (h_new h (c + 1) (m_nf c) (m_nf c)))
      refine p_go hl ⟨?_, hs⟩ (g_new _ _ _ hh)
      show Value.ref (16 + h_n h) = Value.ref (16 + A.1.1)
      rw [hh.1]
    · dsimp only
      rw [if_neg hc]
      exact p_no _ _
theorem p_anew (i idx : Nat) (hl : g_l s lv lv') (hs : g_s s st st') (hh : g_h s A h) : g_P s (c_anew i idx pc lv st A) (e_anew i idx pc lv' st' h) := by
  unfold c_anew
  split
  · next n r c ec =>
    obtain ⟨v, q, rfl, ⟨x', rfl, hx⟩, hq⟩ := g_sc hs
    unfold e_anew
    rw [ec]
    dsimp only
    split
    · next hc =>
      obtain ⟨k1, k2, k3⟩ := p_nn hx hc.2.1 hc.2.2.1 hc.2.2.2
      rw [if_pos ⟨hc.1, k1, k2⟩, k3]
      refine p_go hl ⟨?_, hq⟩ (g_new _ _ _ hh)
      show Value.ref (16 + h_n h) = Value.ref (16 + A.1.1)
      rw [hh.1]
    · exact p_no _ _
  · exact p_no _ _
theorem p_gets (i idx : Nat) (hl : g_l s lv lv') (hs : g_s s st st') (hh : g_h s A h) : g_P s (c_gets i idx pc lv st A) (e_gets i idx pc lv' st' h) := by
  unfold c_gets e_gets
  generalize m_sf i idx = o
  match o with
  | none => exact p_no _ _
  | some 0 => exact p_no _ _
  | some 1 =>
    show g_P s (b_go (pc + 3) lv (.inl (1, 1) :: st) A) (m_go (pc + 3) lv' (.int 1 :: st') h)
    exact p_go hl ⟨⟨_, rfl, by decide, by decide⟩, hs⟩ hh
  | some 2 =>
    show g_P s (b_go (pc + 3) lv (b_r 1 :: st) A) (m_go (pc + 3) lv' (.ref 1 :: st') h)
    exact p_go hl ⟨rfl, hs⟩ hh
  | some 3 =>
    show g_P s (b_go (pc + 3) lv (b_r 15 :: st) A) (m_go (pc + 3) lv' (.ref 15 :: st') h)
    exact p_go hl ⟨rfl, hs⟩ hh
  | some (n + 4) => exact p_no _ _
theorem p_ldc (w i idx : Nat) (hl : g_l s lv lv') (hs : g_s s st st') (hh : g_h s A h) : g_P s (c_ldc w i idx pc lv st A) (e_ldc w i idx pc lv' st' h) := by
  unfold c_ldc e_ldc
  generalize m_ic i idx = o
  generalize m_sc i idx = o2
  match o with
  | some x =>
    show g_P s (b_go (pc + w) lv (b_i x :: st) A) (m_go (pc + w) lv' (.int x :: st') h)
    exact p_go hl ⟨⟨_, rfl, g_iE _⟩, hs⟩ hh
  | none =>
    by_cases hw : w = 2
    · dsimp only
      rw [if_pos hw, if_pos hw]
      match o2 with
      | some a =>
        show g_P s (b_go (pc + w) lv (b_r a :: st) A) (m_go (pc + w) lv' (.ref a :: st') h)
        exact p_go hl ⟨rfl, hs⟩ hh
      | none => exact p_no _ _
    · dsimp only
      rw [if_neg hw]
      exact p_no _ _
theorem p_sw (d lo hi : Int) (offs : Array Int) (hl : g_l s lv lv') (hs : g_s s st st') (hh : g_h s A h) : g_P s (c_sw d lo hi offs pc lv st A) (e_sw d lo hi offs pc lv' st' h) := by
  unfold c_sw
  split
  · next x r =>
    obtain ⟨v, q, rfl, ⟨x', rfl, hx⟩, hq⟩ := g_sc hs
    obtain ⟨k1, k2⟩ := hx
    unfold e_sw
    dsimp only
    by_cases hc : x.2 < lo ∨ hi < x.1
    · rw [if_pos hc, if_pos (by omega)]
      exact p_tg hl hq hh
    · rw [if_neg hc]
      by_cases hc2 : x.1 = x.2 ∧ lo ≤ x.1 ∧ x.1 ≤ hi
      · rw [if_pos hc2, if_neg (by omega), show x'.toInt = x.1 by omega]
        generalize offs[(x.1 - lo).toNat]? = o
        match o with
        | some o =>
          show g_P s (b_tg pc o lv r A) (m_tg pc o lv' q h)
          exact p_tg hl hq hh
        | none => exact p_no _ _
      · rw [if_neg hc2]
        exact p_no _ _
  · exact p_no _ _
end
end
section
-- copies, calls, every step, every run
theorem g_cpi {s : AI} {A : AH} {h : MH} {a0 a1 : Nat} {o0 o1 : AC} (sp dp n : Nat) (hh : g_h s A h) (e0 : b_cell A a0 = some o0) (e1 : b_cell A a1 = some o1) (ha : a1 ≠ 14) : g_h s (b_set A a1 (o1.1, (b_jn (b_all o0.2.1) (b_all o1.2.1), []), o1.2.2)) (h_cpi h a0 a1 sp dp n) := by
  obtain ⟨p1, p2, p3, p4⟩ := hh.2.2.1 a1 o1 e1
  obtain ⟨r1, r2, r3, r4⟩ := hh.2.2.1 a0 o0 e0
  refine g_set hh ha rfl (fun b => rfl) (fun b hb => ⟨m_uN _ _ _ _ hb, rfl, rfl⟩) ⟨p1, fun j => ?_, p3, p4⟩
  show g_i (b_jn (b_all o0.2.1) (b_all o1.2.1)) (m_u (h_i h) a1 (fun j => if dp ≤ j ∧ j < dp + n then h_i h a0 (sp + (j - dp)) else h_i h a1 j) a1 j)
  rw [m_uE]
  by_cases hc : dp ≤ j ∧ j < dp + n
  · rw [if_pos hc]
    exact g_jn1 (g_all _ _ (r2 _))
  · rw [if_neg hc]
    exact g_jn2 (g_all _ _ (p2 _))
theorem g_cpl {s : AI} {A : AH} {h : MH} {a0 a1 : Nat} {o0 o1 : AC} (sp dp n : Nat) (hh : g_h s A h) (e0 : b_cell A a0 = some o0) (e1 : b_cell A a1 = some o1) (ha : a1 ≠ 14) : g_h s (b_set A a1 (o1.1, o1.2.1, (b_jn (b_all o0.2.2.1) (b_all o1.2.2.1), []), o1.2.2.2)) (h_cpl h a0 a1 sp dp n) := by
  obtain ⟨p1, p2, p3, p4⟩ := hh.2.2.1 a1 o1 e1
  obtain ⟨r1, r2, r3, r4⟩ := hh.2.2.1 a0 o0 e0
  refine g_set hh ha rfl (fun b => rfl) (fun b hb => ⟨rfl, m_uN _ _ _ _ hb, rfl⟩) ⟨p1, p2, fun j => ?_, p4⟩
  show g_j (b_jn (b_all o0.2.2.1) (b_all o1.2.2.1)) (m_u (h_l h) a1 (fun j => if dp ≤ j ∧ j < dp + n then h_l h a0 (sp + (j - dp)) else h_l h a1 j) a1 j)
  rw [m_uE]
  by_cases hc : dp ≤ j ∧ j < dp + n
  · rw [if_pos hc]
    exact g_jn1 (g_all _ _ (r3 _))
  · rw [if_neg hc]
    exact g_jn2 (g_all _ _ (p3 _))
section
variable {s : AI} {pc : Nat} {lv : AL} {st : List AV} {A : AH} {lv' : List (Nat × Value)} {st' : List Value} {h : MH}
theorem p_cp (i : Nat) (hl : g_l s lv lv') (hs : g_s s st st') (hh : g_h s A h) : g_P s (c_cp i pc lv st A) (e_cp i pc lv' st' h) := by
  unfold c_cp
  split
  · next n dp a1 sp a0 r =>
    obtain ⟨v, q, rfl, ⟨n', rfl, hn⟩, hq1⟩ := g_sc hs
    obtain ⟨v, q, rfl, ⟨dp', rfl, hdp⟩, hq2⟩ := g_sc hq1
    obtain ⟨v, q, rfl, ha1, hq3⟩ := g_sc hq2
    cases (ha1 : v = .ref a1)
    obtain ⟨v, q, rfl, ⟨sp', rfl, hsp⟩, hq4⟩ := g_sc hq3
    obtain ⟨v, q, rfl, ha0, hq⟩ := g_sc hq4
    cases (ha0 : v = .ref a0)
    split
    · next o0 o1 e0 e1 =>
      have k0 := (hh.2.2.1 a0 o0 e0).1
      have k1 := (hh.2.2.1 a1 o1 e1).1
      unfold e_cp
      dsimp only
      rw [k0, k1, g_ct hq]
      split
      · next hc =>
        obtain ⟨c1, c2, c3, c4, c5, c6, c7, c8, c9, c10⟩ := hc
        have hneg : ∀ {p : AI} {x : Int32}, g_i p x → 0 ≤ p.1 → ¬ x < 0 := fun {p x} hx h0 q => by
          have := Int32.lt_iff_toInt_lt.mp q
          have : (0 : Int32).toInt = 0 := by decide
          obtain ⟨z1, z2⟩ := hx
          omega
        have hle : ∀ {p : AI} {x : Int32}, g_i p x → 0 ≤ p.1 → (x.toNatClampNeg : Int) ≤ p.2 := fun {p x} hx h0 => by
          obtain ⟨z1, z2⟩ := hx
          show (x.toInt.toNat : Int) ≤ _
          omega
        have l1 := hle hn c5
        have l2 := hle hdp c4
        have l3 := hle hsp c3
        have hcc : 16 ≤ a0 ∧ 16 ≤ a1 ∧ ¬ sp' < 0 ∧ ¬ dp' < 0 ∧ ¬ n' < 0 ∧ sp'.toNatClampNeg + n'.toNatClampNeg ≤ o0.1.2 ∧ dp'.toNatClampNeg + n'.toNatClampNeg ≤ o1.1.2 ∧ 1 ≤ m_fr i ∧ b_ct r + 18 ≤ m_lo i ∧ b_ct r ≤ 8 := ⟨c1, c2, hneg hsp c3, hneg hdp c4, hneg hn c5, by omega, by omega, c8, c9, c10⟩
        rw [if_pos hcc]
        by_cases d1 : (o0.1.1 = 20 ∧ o1.1.1 = 20) ∨ (o0.1.1 = 21 ∧ o1.1.1 = 21)
        · rw [if_pos d1, if_pos d1]
          exact p_go hl hq (g_cpi _ _ _ hh e0 e1 (by omega))
        · rw [if_neg d1, if_neg d1]
          by_cases d2 : o0.1.1 = 25 ∧ o1.1.1 = 25
          · rw [if_pos d2, if_pos d2]
            exact p_go hl hq (g_cpl _ _ _ hh e0 e1 (by omega))
          · rw [if_neg d2]
            exact p_no _ _
      · exact p_no _ _
    · exact p_no _ _
  · exact p_no _ _
def k_ini (kd i pc : Nat) (lv : AL) (st : List AV) (h : AH) : Option AA := match st with
  | .inr (.inr (.inr a)) :: r => if kd = 2 ∧ 16 ≤ a ∧ 1 ≤ m_fr i ∧ b_ct r + 12 ≤ m_lo i ∧ b_ct r ≤ 8 then b_go (pc + 3) lv r h else none
  | _ => none
def f_ini (kd i pc : Nat) (lv : List (Nat × Value)) (st : List Value) (h : MH) : Option MA := match st with
  | .ref a :: r => if kd = 2 ∧ 16 ≤ a ∧ 1 ≤ m_fr i ∧ m_cat r + 12 ≤ m_lo i ∧ m_cat r ≤ 8 then m_go (pc + 3) lv r h else none
  | _ => none
theorem p_ini (kd i : Nat) (hl : g_l s lv lv') (hs : g_s s st st') (hh : g_h s A h) : g_P s (k_ini kd i pc lv st A) (f_ini kd i pc lv' st' h) := by
  unfold k_ini
  split
  · next a r =>
    obtain ⟨v, q, rfl, ha, hq⟩ := g_sc hs
    cases (ha : v = .ref a)
    unfold f_ini
    dsimp only
    rw [g_ct hq]
    split
    · exact p_go hl hq hh
    · exact p_no _ _
  · exact p_no _ _
def k_mi (j kd nest i pc : Nat) (lv : AL) (st : List AV) (h : AH) : Option AA := match st with
  | .inl y :: .inl x :: r => if kd = 0 ∧ nest = 0 ∧ 1 ≤ m_fr i ∧ b_ct r + 13 ≤ m_lo i then b_go (pc + 3) lv (.inl (b_f2 (fun x y => if j = m_jmin then (if y < x then y else x) else (if x < y then y else x)) x y) :: r) h else none
  | _ => none
def f_mi (j kd nest i pc : Nat) (lv : List (Nat × Value)) (st : List Value) (h : MH) : Option MA := match st with
  | .int y :: .int x :: r => if kd = 0 ∧ nest = 0 ∧ 1 ≤ m_fr i ∧ m_cat r + 13 ≤ m_lo i then m_go (pc + 3) lv (.int (if j = m_jmin then (if y < x then y else x) else (if x < y then y else x)) :: r) h else none
  | _ => none
theorem p_mi (j kd nest i : Nat) (hl : g_l s lv lv') (hs : g_s s st st') (hh : g_h s A h) : g_P s (k_mi j kd nest i pc lv st A) (f_mi j kd nest i pc lv' st' h) := by
  unfold k_mi
  split
  · next y x r =>
    obtain ⟨v, q, rfl, ⟨y', rfl, hy⟩, hq1⟩ := g_sc hs
    obtain ⟨v, q, rfl, ⟨x', rfl, hx⟩, hq⟩ := g_sc hq1
    unfold f_mi
    dsimp only
    rw [g_ct hq]
    split
    · exact p_go hl ⟨⟨_, rfl, g_f2 (f := fun x y => if j = m_jmin then (if y < x then y else x) else (if x < y then y else x)) hx hy⟩, hq⟩ hh
    · exact p_no _ _
  · exact p_no _ _
def k_ml (j kd nest i pc : Nat) (lv : AL) (st : List AV) (h : AH) : Option AA := match st with
  | .inr (.inr (.inl y)) :: .inr (.inr (.inl x)) :: r => if kd = 0 ∧ nest = 0 ∧ 1 ≤ m_fr i ∧ b_ct r + 15 ≤ m_lo i then b_go (pc + 3) lv (.inr (.inr (.inl (b_g2 (fun x y => if j = m_jminl then (if y < x then y else x) else (if y < x then x else y)) x y))) :: r) h else none
  | _ => none
def f_ml (j kd nest i pc : Nat) (lv : List (Nat × Value)) (st : List Value) (h : MH) : Option MA := match st with
  | .long y :: .long x :: r => if kd = 0 ∧ nest = 0 ∧ 1 ≤ m_fr i ∧ m_cat r + 15 ≤ m_lo i then m_go (pc + 3) lv (.long (if j = m_jminl then (if y < x then y else x) else (if y < x then x else y)) :: r) h else none
  | _ => none
theorem p_ml (j kd nest i : Nat) (hl : g_l s lv lv') (hs : g_s s st st') (hh : g_h s A h) : g_P s (k_ml j kd nest i pc lv st A) (f_ml j kd nest i pc lv' st' h) := by
  unfold k_ml
  split
  · next y x r =>
    obtain ⟨v, q, rfl, ⟨y', rfl, hy⟩, hq1⟩ := g_sc hs
    obtain ⟨v, q, rfl, ⟨x', rfl, hx⟩, hq⟩ := g_sc hq1
    unfold f_ml
    dsimp only
    rw [g_ct hq]
    split
    · exact p_go hl ⟨⟨_, rfl, g_g2 (f := fun x y => if j = m_jminl then (if y < x then y else x) else (if y < x then x else y)) hx hy⟩, hq⟩ hh
    · exact p_no _ _
  · exact p_no _ _
def k_vc (j pc : Nat) (st D : List AV) (h : AH) : Option AA := match D with
  | .inr (.inr (.inr a)) :: r => (match b_cell h a with
    | some o => if m_na j + 1 ≤ st.length ∧ b_ct r ≤ 8 ∧ (if (m_m j).2.1.cls = "java/lang/String" then o.1.1 = 40 else m_cnm (o.1.1 - 1) = (m_m j).2.1.cls ∧ 16 ≤ a ∧ 0 < o.1.1 ∧ o.1.1 < 11) then some (.inr (.inr (j, b_r a :: (st.take (m_na j)).reverse, r, pc + 3))) else none
    | none => none)
  | _ => none
def f_vc (j pc : Nat) (st D : List Value) (h : MH) : Option MA := match D with
  | .ref a :: r => if m_na j + 1 ≤ st.length ∧ m_cat r ≤ 8 ∧ (if (m_m j).2.1.cls = "java/lang/String" then (h_k h a).1 = 40 else m_cnm ((h_k h a).1 - 1) = (m_m j).2.1.cls ∧ 16 ≤ a ∧ 0 < (h_k h a).1 ∧ (h_k h a).1 < 11) then some (.inr (.inr (j, .ref a :: (st.take (m_na j)).reverse, r, pc + 3))) else none
  | _ => none
theorem p_vc (j : Nat) {D : List AV} {D' : List Value} (hs : g_s s st st') (hd : g_s s D D') (hh : g_h s A h) : g_P s (k_vc j pc st D A) (f_vc j pc st' D' h) := by
  unfold k_vc
  split
  · next a r =>
    obtain ⟨v, q, rfl, ha, hq⟩ := g_sc hd
    cases (ha : v = .ref a)
    split
    · next o eo =>
      unfold f_vc
      dsimp only
      rw [(hh.2.2.1 a o eo).1, g_ct hq, g_len hs]
      by_cases hc : m_na j + 1 ≤ st.length ∧ b_ct r ≤ 8 ∧ (if (m_m j).2.1.cls = "java/lang/String" then o.1.1 = 40 else m_cnm (o.1.1 - 1) = (m_m j).2.1.cls ∧ 16 ≤ a ∧ 0 < o.1.1 ∧ o.1.1 < 11)
      · rw [if_pos hc, if_pos hc]
        intro r9 e9
        cases e9
        exact ⟨_, rfl, rfl, ⟨rfl, g_rv (g_tk _ hs)⟩, hq, rfl⟩
      · rw [if_neg hc]
        exact p_no _ _
    · exact p_no _ _
  · exact p_no _ _
theorem p_call (kd i idx : Nat) (hl : g_l s lv lv') (hs : g_s s st st') (hh : g_h s A h) : g_P s (c_call kd i idx pc lv st A) (e_call kd i idx pc lv' st' h) := by
  unfold c_call e_call
  generalize m_ml i idx = o
  match o with
  | none => exact p_no _ _
  | some (nest, j) =>
    dsimp only
    by_cases h9 : j = 900
    · rw [if_pos h9, if_pos h9]
      exact p_ini kd i hl hs hh
    · rw [if_neg h9, if_neg h9]
      by_cases h1 : j = 901
      · rw [if_pos h1, if_pos h1]
        by_cases hk : kd = 0
        · rw [if_pos hk, if_pos hk]
          exact p_cp i hl hs hh
        · rw [if_neg hk]
          exact p_no _ _
      · rw [if_neg h1, if_neg h1]
        by_cases h2 : j = m_jmin ∨ j = m_jmax
        · rw [if_pos h2, if_pos h2]
          exact p_mi j kd nest i hl hs hh
        · rw [if_neg h2, if_neg h2]
          by_cases h3 : j = m_jminl ∨ j = m_jmaxl
          · rw [if_pos h3, if_pos h3]
            exact p_ml j kd nest i hl hs hh
          · rw [if_neg h3, if_neg h3]
            by_cases h4 : 0 < j ∧ j < 292 ∧ m_kind j = kd ∧ m_fr j + 1 ≤ m_fr i ∧ 8 + (m_lc j + 11) + m_lo j ≤ m_lo i
            · rw [if_pos h4, if_pos h4]
              by_cases hk : kd = 0
              · rw [if_pos hk, if_pos hk, g_len hs, g_ct (g_dr (m_na j) hs)]
                by_cases h5 : m_na j ≤ st.length ∧ b_ct (st.drop (m_na j)) ≤ 8
                · rw [if_pos h5, if_pos h5]
                  intro r9 e9
                  cases e9
                  exact ⟨_, rfl, rfl, g_rv (g_tk _ hs), g_dr _ hs, rfl⟩
                · rw [if_neg h5]
                  exact p_no _ _
              · rw [if_neg hk, if_neg hk]
                exact p_vc j hs (g_dr (m_na j) hs) hh
            · rw [if_neg h4]
              exact p_no _ _
theorem p_pu {a : AV} {v : Value} (hl : g_l s lv lv') (hs : g_s s st st') (hh : g_h s A h) (hv : g_v s a v) : g_P s (b_go pc lv (a :: st) A) (m_go pc lv' (v :: st') h) := p_go hl ⟨hv, hs⟩ hh
theorem g_bi (x : Int32) : g_v s (b_i x) (.int x) := ⟨_, rfl, g_iE _⟩
theorem g_bl (x : Int64) : g_v s (b_l x) (.long x) := ⟨_, rfl, g_jE _⟩
theorem g_br (a : Nat) : g_v s (b_r a) (.ref a) := rfl
theorem p_ldl (i idx : Nat) (hl : g_l s lv lv') (hs : g_s s st st') (hh : g_h s A h) : g_P s (c_ex s i pc (.ldc2_w idx) lv st A) (m_ex i pc (.ldc2_w idx) lv' st' h) := by
  show g_P s (match m_jc i idx with
      | some x => b_go (pc + 3) lv (b_l x :: st) A
      | none => none) (match m_jc i idx with
      | some x => m_go (pc + 3) lv' (.long x :: st') h
      | none => none)
  generalize m_jc i idx = o
  match o with
  | none => exact p_no _ _
  | some x => exact p_pu hl hs hh (g_bl x)
theorem p_lcmp (i : Nat) (hl : g_l s lv lv') (hs : g_s s st st') (hh : g_h s A h) : g_P s (c_ex s i pc .lcmp lv st A) (m_ex i pc .lcmp lv' st' h) := by
  unfold c_ex
  dsimp only
  split
  · next y x r =>
    obtain ⟨v, q, rfl, ⟨y', rfl, hy⟩, hq1⟩ := g_sc hs
    obtain ⟨v, q, rfl, ⟨x', rfl, hx⟩, hq⟩ := g_sc hq1
    exact p_pu hl hq hh ⟨_, rfl, g_lc hx hy⟩
  · exact p_no _ _
theorem p_dup (i : Nat) (hl : g_l s lv lv') (hs : g_s s st st') (hh : g_h s A h) : g_P s (c_ex s i pc .dup lv st A) (m_ex i pc .dup lv' st' h) := by
  unfold c_ex
  dsimp only
  split
  · next a r =>
    obtain ⟨v, q, rfl, hv, hq⟩ := g_sc hs
    show g_P s _ (if v.category = 1 then m_go (pc + 1) lv' (v :: v :: q) h else none)
    rw [g_catE hv]
    split
    · exact p_go hl ⟨hv, hv, hq⟩ hh
    · exact p_no _ _
  · exact p_no _ _
theorem p_pop (i : Nat) (hl : g_l s lv lv') (hs : g_s s st st') (hh : g_h s A h) : g_P s (c_ex s i pc .pop lv st A) (m_ex i pc .pop lv' st' h) := by
  unfold c_ex
  dsimp only
  split
  · next a r =>
    obtain ⟨v, q, rfl, hv, hq⟩ := g_sc hs
    show g_P s _ (if v.category = 1 then m_go (pc + 1) lv' q h else none)
    rw [g_catE hv]
    split
    · exact p_go hl hq hh
    · exact p_no _ _
  · exact p_no _ _
theorem p_dup2 (i : Nat) (hl : g_l s lv lv') (hs : g_s s st st') (hh : g_h s A h) : g_P s (c_ex s i pc .dup2 lv st A) (m_ex i pc .dup2 lv' st' h) := by
  unfold c_ex
  dsimp only
  split
  · next a b r =>
    obtain ⟨v, q, rfl, hv, hq1⟩ := g_sc hs
    obtain ⟨w, q, rfl, hw, hq⟩ := g_sc hq1
    show g_P s _ (if v.category = 1 ∧ w.category = 1 then m_go (pc + 1) lv' (v :: w :: v :: w :: q) h else none)
    rw [g_catE hv, g_catE hw]
    split
    · exact p_go hl ⟨hv, hw, hv, hw, hq⟩ hh
    · exact p_no _ _
  · exact p_no _ _
theorem p_if (i : Nat) (c : ClassFile.Cond) (off : Int) (hl : g_l s lv lv') (hs : g_s s st st') (hh : g_h s A h) : g_P s (c_ex s i pc (.ifCond c off) lv st A) (m_ex i pc (.ifCond c off) lv' st' h) := by
  unfold c_ex
  dsimp only
  split
  · next x r =>
    obtain ⟨v, q, rfl, ⟨x', rfl, hx⟩, hq⟩ := g_sc hs
    exact p_br (fun r e => g_cmp hx (show g_i (0, 0) (0 : Int32) from ⟨by decide, by decide⟩) e) hl hq hh
  · exact p_no _ _
theorem p_ic (i : Nat) (c : ClassFile.Cond) (off : Int) (hl : g_l s lv lv') (hs : g_s s st st') (hh : g_h s A h) : g_P s (c_ex s i pc (.if_icmp c off) lv st A) (m_ex i pc (.if_icmp c off) lv' st' h) := by
  unfold c_ex
  dsimp only
  split
  · next y x r =>
    obtain ⟨v, q, rfl, ⟨y', rfl, hy⟩, hq1⟩ := g_sc hs
    obtain ⟨v, q, rfl, ⟨x', rfl, hx⟩, hq⟩ := g_sc hq1
    exact p_br (fun r e => g_cmp hx hy e) hl hq hh
  · exact p_no _ _
theorem p_nul (i : Nat) (off : Int) (hl : g_l s lv lv') (hs : g_s s st st') (hh : g_h s A h) : g_P s (c_ex s i pc (.ifnull off) lv st A) (m_ex i pc (.ifnull off) lv' st' h) := by
  unfold c_ex
  dsimp only
  split
  · next a r =>
    obtain ⟨v, q, rfl, ha, hq⟩ := g_sc hs
    cases (ha : v = .ref a)
    show g_P s _ (if a = 0 then m_tg pc off lv' q h else if 16 ≤ a then m_go (pc + 3) lv' q h else none)
    by_cases h0 : a = 0
    · rw [if_pos h0, if_pos h0]
      exact p_tg hl hq hh
    · rw [if_neg h0, if_neg h0]
      by_cases h1 : 16 ≤ a
      · rw [if_pos h1, if_pos h1]
        exact p_go hl hq hh
      · rw [if_neg h1]
        exact p_no _ _
  · exact p_no _ _
theorem p_nnl (i : Nat) (off : Int) (hl : g_l s lv lv') (hs : g_s s st st') (hh : g_h s A h) : g_P s (c_ex s i pc (.ifnonnull off) lv st A) (m_ex i pc (.ifnonnull off) lv' st' h) := by
  unfold c_ex
  dsimp only
  split
  · next a r =>
    obtain ⟨v, q, rfl, ha, hq⟩ := g_sc hs
    cases (ha : v = .ref a)
    show g_P s _ (if a = 0 then m_go (pc + 3) lv' q h else if 16 ≤ a then m_tg pc off lv' q h else none)
    by_cases h0 : a = 0
    · rw [if_pos h0, if_pos h0]
      exact p_go hl hq hh
    · rw [if_neg h0, if_neg h0]
      by_cases h1 : 16 ≤ a
      · rw [if_pos h1, if_pos h1]
        exact p_tg hl hq hh
      · rw [if_neg h1]
        exact p_no _ _
  · exact p_no _ _
theorem g_rok {t : Option FieldType} {p : AI} {x : Int32} (hx : g_i p x) (e : b_rok t p = true) : m_rok t x = true := by
  unfold b_rok at e
  split at e
  · rfl
  · rw [Bool.and_eq_true] at e
    have e1 := of_decide_eq_true e.1
    rw [g_iC hx e1]
    exact e.2
theorem p_ir (i : Nat) (hl : g_l s lv lv') (hs : g_s s st st') (hh : g_h s A h) : g_P s (c_ex s i pc .ireturn lv st A) (m_ex i pc .ireturn lv' st' h) := by
  unfold c_ex
  dsimp only
  split
  · next x =>
    obtain ⟨v, q, rfl, ⟨x', rfl, hx⟩, hq⟩ := g_sc hs
    rw [g_sn hq]
    show g_P s _ (if m_rok (m_rt i) x' = true then some (.inr (.inl (some (.int x'), h))) else none)
    by_cases hc : b_rok (m_rt i) x = true
    · rw [if_pos hc, if_pos (g_rok hx hc)]
      intro r e
      cases e
      exact ⟨_, rfl, ⟨_, rfl, hx⟩, hh⟩
    · rw [if_neg hc]
      exact p_no _ _
  · exact p_no _ _
theorem p_lr (i : Nat) (hl : g_l s lv lv') (hs : g_s s st st') (hh : g_h s A h) : g_P s (c_ex s i pc .lreturn lv st A) (m_ex i pc .lreturn lv' st' h) := by
  unfold c_ex
  dsimp only
  split
  · next x =>
    obtain ⟨v, q, rfl, ⟨x', rfl, hx⟩, hq⟩ := g_sc hs
    rw [g_sn hq]
    show g_P s _ (if m_rt i = some .long then some (.inr (.inl (some (.long x'), h))) else none)
    by_cases hc : m_rt i = some .long
    · rw [if_pos hc, if_pos hc]
      intro r e
      cases e
      exact ⟨_, rfl, ⟨_, rfl, hx⟩, hh⟩
    · rw [if_neg hc]
      exact p_no _ _
  · exact p_no _ _
theorem p_ar (i : Nat) (hl : g_l s lv lv') (hs : g_s s st st') (hh : g_h s A h) : g_P s (c_ex s i pc .areturn lv st A) (m_ex i pc .areturn lv' st' h) := by
  unfold c_ex
  dsimp only
  split
  · next a =>
    obtain ⟨v, q, rfl, ha, hq⟩ := g_sc hs
    cases (ha : v = .ref a)
    rw [g_sn hq]
    show g_P s _ (if m_rr (m_rt i) = true then some (.inr (.inl (some (.ref a), h))) else none)
    by_cases hc : m_rr (m_rt i) = true
    · rw [if_pos hc, if_pos hc]
      intro r e
      cases e
      exact ⟨_, rfl, rfl, hh⟩
    · rw [if_neg hc]
      exact p_no _ _
  · exact p_no _ _
theorem p_vr (i : Nat) (hl : g_l s lv lv') (hs : g_s s st st') (hh : g_h s A h) : g_P s (c_ex s i pc .return_ lv st A) (m_ex i pc .return_ lv' st' h) := by
  unfold c_ex
  dsimp only
  split
  · rw [g_sn hs]
    show g_P s _ (if m_rt i = none then some (.inr (.inl (none, h))) else none)
    by_cases hc : m_rt i = none
    · rw [if_pos hc, if_pos hc]
      intro r e
      cases e
      exact ⟨_, rfl, trivial, hh⟩
    · rw [if_neg hc]
      exact p_no _ _
  · exact p_no _ _
theorem p_ex (i : Nat) (ins : Instr) (hl : g_l s lv lv') (hs : g_s s st st') (hh : g_h s A h) : g_P s (c_ex s i pc ins lv st A) (m_ex i pc ins lv' st' h) := by
  cases ins with
  | iconst n => exact p_pu hl hs hh (g_bi _)
  | bipush n => exact p_pu hl hs hh (g_bi _)
  | sipush n => exact p_pu hl hs hh (g_bi _)
  | lconst n => exact p_pu hl hs hh (g_bl _)
  | aconst_null => exact p_pu hl hs hh (g_br _)
  | ldc idx => exact p_ldc 2 i idx hl hs hh
  | ldc_w idx => exact p_ldc 3 i idx hl hs hh
  | ldc2_w idx => exact p_ldl i idx hl hs hh
  | iload_n k => exact p_ild k hl hs hh
  | iload k => exact p_ild k hl hs hh
  | lload_n k => exact p_lld k hl hs hh
  | lload k => exact p_lld k hl hs hh
  | aload_n k => exact p_ald k hl hs hh
  | aload k => exact p_ald k hl hs hh
  | istore_n k => exact p_ist _ k hl hs hh
  | istore k => exact p_ist _ k hl hs hh
  | lstore_n k => exact p_lst _ k hl hs hh
  | lstore k => exact p_lst _ k hl hs hh
  | astore_n k => exact p_ast _ k hl hs hh
  | astore k => exact p_ast _ k hl hs hh
  | iinc k z => exact p_inc _ k z hl hs hh
  | iadd => exact p_ii _ hl hs hh
  | isub => exact p_ii _ hl hs hh
  | imul => exact p_ii _ hl hs hh
  | iand => exact p_and hl hs hh
  | ior => exact p_ii _ hl hs hh
  | ixor => exact p_ii _ hl hs hh
  | idiv => exact p_dv _ hl hs hh
  | irem => exact p_dv _ hl hs hh
  | ineg => exact p_i1 _ hl hs hh
  | ishl => exact p_ii _ hl hs hh
  | ishr => exact p_ii _ hl hs hh
  | iushr => exact p_ii _ hl hs hh
  | ladd => exact p_ll _ hl hs hh
  | lsub => exact p_ll _ hl hs hh
  | land => exact p_ll _ hl hs hh
  | lor => exact p_ll _ hl hs hh
  | lxor => exact p_ll _ hl hs hh
  | lneg => exact p_l1 _ hl hs hh
  | lshl => exact p_li _ hl hs hh
  | lshr => exact p_li _ hl hs hh
  | lushr => exact p_li _ hl hs hh
  | lcmp => exact p_lcmp i hl hs hh
  | i2l => exact p_il _ hl hs hh
  | l2i => exact p_l2i _ hl hs hh
  | i2b => exact p_i1 _ hl hs hh
  | i2c => exact p_i1 _ hl hs hh
  | dup => exact p_dup i hl hs hh
  | pop => exact p_pop i hl hs hh
  | dup2 => exact p_dup2 i hl hs hh
  | goto off => exact p_tg hl hs hh
  | ifCond c off => exact p_if i c off hl hs hh
  | if_icmp c off => exact p_ic i c off hl hs hh
  | ifnull off => exact p_nul i off hl hs hh
  | ifnonnull off => exact p_nnl i off hl hs hh
  | tableswitch d lo hi offs => exact p_sw d lo hi offs hl hs hh
  | getfield idx => exact p_get i idx hl hs hh
  | putfield idx => exact p_put i idx hl hs hh
  | getstatic idx => exact p_gets i idx hl hs hh
  | iaload => exact p_iald 20 20 hl hs hh
  | baload => exact p_iald 21 22 hl hs hh
  | laload => exact p_lald hl hs hh
  | aaload => exact p_aald hl hs hh
  | iastore => exact p_iast hl hs hh
  | bastore => exact p_bast hl hs hh
  | lastore => exact p_last hl hs hh
  | aastore => exact p_aast hl hs hh
  | arraylength => exact p_alen hl hs hh
  | newarray t => exact p_newa t hl hs hh
  | new idx => exact p_new i idx hl hs hh
  | anewarray idx => exact p_anew i idx hl hs hh
  | invokestatic idx => exact p_call 0 i idx hl hs hh
  | invokevirtual idx => exact p_call 1 i idx hl hs hh
  | invokespecial idx => exact p_call 2 i idx hl hs hh
  | ireturn => exact p_ir i hl hs hh
  | lreturn => exact p_lr i hl hs hh
  | areturn => exact p_ar i hl hs hh
  | return_ => exact p_vr i hl hs hh
  | _ => exact p_no _ _
end
theorem b_ffE (l : List m_I) (pc : Nat) : b_ff l pc = l.find? (fun e => e.1 == pc) := by
  induction l with
  | nil => rfl
  | cons e r ih =>
    rw [List.find?_cons, ← ih]
    show Bool.rec (motive := fun _ => Option m_I) (b_ff r pc) (some e) (Nat.beq e.1 pc) = _
    by_cases h : e.1 = pc
    · rw [show Nat.beq e.1 pc = true from by rw [h]; exact Nat.beq_refl pc, show (e.1 == pc) = true from beq_iff_eq.mpr h]
    · rw [show (e.1 == pc) = false from beq_eq_false_iff_ne.mpr h]
      cases hb : Nat.beq e.1 pc with
      | true => exact absurd (Nat.eq_of_beq_eq_true hb) h
      | false => rfl
theorem p_st {s : AI} {lv : AL} {st : List AV} {A : AH} {lv' : List (Nat × Value)} {st' : List Value} {h : MH} (i pc : Nat) (hl : g_l s lv lv') (hs : g_s s st st') (hh : g_h s A h) : g_P s (c_st s i pc lv st A) (m_st i pc lv' st' h) := by
  unfold c_st m_st m_at m_lk
  rw [b_ffE]
  cases hf : (m_m i).1.find? (fun e => e.1 == pc) with
  | none => exact p_no _ _
  | some e =>
    have h1 : e.1 = pc := by
      have := List.find?_some hf
      exact beq_iff_eq.mp this
    dsimp only [Option.map]
    by_cases hc : m_ln e.2.1 = e.2.2 ∨ m_ln e.2.1 = 0
    · rw [if_pos hc, if_pos hc, h1]
      exact p_ex i e.2.1 hl hs hh
    · rw [if_neg hc]
      exact p_no _ _
theorem c_sim (s : AI) : ∀ (n i pc : Nat) (lv : AL) (st : List AV) (A : AH) (v : Option AV) (A2 : AH), c_rn s n i pc lv st A = some (v, A2) → ∀ (lv' : List (Nat × Value)) (st' : List Value) (h : MH), g_l s lv lv' → g_s s st st' → g_h s A h → ∃ v' h', m_rn n i pc lv' st' h = some (v', h') ∧ g_o s v v' ∧ g_h s A2 h'
  | 0, _, _, _, _, _, _, _, e => by cases e
  | n + 1, i, pc, lv, st, A, v, A2, e => fun lv' st' h hl hs hh => by
    have P := p_st i pc hl hs hh
    rw [c_rn] at e
    rw [m_rn]
    cases hR : c_st s i pc lv st A with
    | none => rw [hR] at e; cases e
    | some R =>
      obtain ⟨R', e2, g⟩ := P R hR
      rw [hR] at e
      rw [e2]
      match R, R', g with
      | .inl (pc1, lv1, st1, A1), .inl (pc1', lv1', st1', h1), g =>
        obtain ⟨g1, g2, g3, g4⟩ := g
        rw [g1]
        exact c_sim s n i pc1 lv1 st1 A1 v A2 e lv1' st1' h1 g2 g3 g4
      | .inr (.inl (v1, A1)), .inr (.inl (v1', h1)), g =>
        cases e
        exact ⟨_, _, rfl, g.1, g.2⟩
      | .inr (.inr (j, as, r, pc1)), .inr (.inr (j', as', r', pc1')), g =>
        obtain ⟨g1, g2, g3, g4⟩ := g
        rw [g1, g4]
        dsimp only at e ⊢
        rw [g_ct g2]
        by_cases hc : b_ct as ≤ m_lc j
        · rw [if_pos hc] at e ⊢
          cases hc1 : c_rn s n j 0 (b_args 0 as) [] A with
          | none => rw [hc1] at e; cases e
          | some q =>
            obtain ⟨v1, A1⟩ := q
            rw [hc1] at e
            obtain ⟨v1', h1, k1, k2, k3⟩ := c_sim s n j 0 _ [] A v1 A1 hc1 (lv_args 0 as') [] h (g_args 0 g2) trivial hh
            rw [k1]
            refine c_sim s n i pc1 lv _ A1 v A2 e lv' _ h1 hl (g_app ?_ g3) k3
            cases v1 with
            | none => cases v1' with
              | none => trivial
              | some x => exact k2.elim
            | some x => cases v1' with
              | none => exact k2.elim
              | some y => exact ⟨k2, trivial⟩
        · rw [if_neg hc] at e
          cases e
      | .inl _, .inr (.inl _), g => exact g.elim
      | .inl _, .inr (.inr _), g => exact g.elim
      | .inr (.inl _), .inl _, g => exact g.elim
      | .inr (.inl _), .inr (.inr _), g => exact g.elim
      | .inr (.inr _), .inl _, g => exact g.elim
      | .inr (.inr _), .inr (.inl _), g => exact g.elim
end
section
-- the law's own beginning, within its ranges
theorem g_i00 : g_i (0, 0) 0 := ⟨by decide, by decide⟩
theorem g_j00 : g_j (0, 0) 0 := ⟨by decide, by decide⟩
theorem g_row : ∀ (l : List Int32) (k j : Nat), g_i (match m_lk (b_row k l) (k + j) with
    | some v => v
    | none => (0, 0)) (l.getD j 0)
  | [], k, j => g_i00
  | x :: r, k, 0 => by
    rw [b_row, m_lkc, if_pos (by rfl)]
    exact g_iE x
  | x :: r, k, j + 1 => by
    rw [b_row, m_lkc, if_neg (by dsimp only; omega), show k + (j + 1) = k + 1 + j by omega]
    exact g_row r (k + 1) j
theorem g_xr (xs : Nat → Int32) : ∀ (xi : List AI) (k : Nat), (∀ j, j < xi.length → g_i (xi.getD j b_t) (xs (k + j))) → ∀ j, g_i (match m_lk (b_xr k xi) (k + j) with
    | some v => v
    | none => b_t) (xs (k + j))
  | [], k, _, j => g_iT _
  | p :: r, k, h, 0 => by
    rw [b_xr, m_lkc, if_pos (by rfl)]
    exact h 0 (Nat.succ_pos _)
  | p :: r, k, h, j + 1 => by
    rw [b_xr, m_lkc, if_neg (by dsimp only; omega), show k + (j + 1) = k + 1 + j by omega]
    refine g_xr xs r (k + 1) (fun j hj => ?_) j
    have := h (j + 1) (Nat.succ_lt_succ hj)
    rw [show k + (j + 1) = k + 1 + j by omega] at this
    exact this
theorem g_c0 (L : Nat) (xs : Nat → Int32) (a k len : Nat) (l : List Int32) (hk : m_kd0 L a = (k, len)) (hi : ∀ j, m_hi0 xs a j = l.getD j 0) (hr : ∀ j, m_hr0 a j = 0) : g_c (b_c0 k len l) (m_h0 L xs) a := by
  refine ⟨hk, fun j => ?_, fun j => g_j00, fun j => hr j⟩
  show g_i (b_rw ((0, 0), b_row 0 l) j) (m_hi0 xs a j)
  rw [hi]
  have := g_row l 0 j
  rw [Nat.zero_add] at this
  exact this
theorem g_cs (L : Nat) (xs : Nat → Int32) (a : Nat) (h1 : 2 ≤ a) (h2 : a < 8) : g_c (b_cs (a + 6)) (m_h0 L xs) a := by
  refine ⟨?_, fun j => ?_, fun j => g_j00, fun j => ?_⟩
  · show m_kd0 L a = (40, 0)
    unfold m_kd0
    rw [if_neg (by omega), if_pos ⟨h1, h2⟩]
  · show g_i (0, 0) (m_hi0 xs a j)
    unfold m_hi0
    rw [if_neg (by omega), if_neg (by omega), if_neg (by omega)]
    exact ⟨by decide, by decide⟩
  · show m_hr0 a j = _
    unfold m_hr0 b_gr b_cs
    dsimp only
    rw [m_lkc]
    by_cases hj : 0 = j
    · rw [if_pos hj, if_pos ⟨h1, h2, hj.symm⟩]
    · rw [if_neg hj, if_neg (fun z => hj z.2.2.symm)]
      rfl
theorem m_lkm {α : Type} {a : Nat} {c : α} : ∀ {l : List (Nat × α)}, m_lk l a = some c → (a, c) ∈ l
  | [], h => by cases h
  | q :: r, h => by
    rw [m_lkc] at h
    by_cases hq : q.1 = a
    · rw [if_pos hq] at h
      cases h
      rw [← hq]
      exact List.mem_cons_self
    · rw [if_neg hq] at h
      exact List.mem_cons_of_mem _ (m_lkm h)
theorem g_h0 (s : AI) (L : Nat) (xs : Nat → Int32) (xi : List AI) (hx : ∀ j, j < xi.length → g_i (xi.getD j b_t) (xs j)) (h0 : g_i s (xs 0 &&& 63)) : g_h s (b_h0 L xi) (m_h0 L xs) := by
  refine ⟨rfl, rfl, fun a c hc => ?_, h0, rfl⟩
  have hm := m_lkm (show m_lk (b_h0 L xi).2 a = some c from hc)
  unfold b_h0 at hm
  simp only [List.mem_cons, Prod.mk.injEq, List.not_mem_nil, or_false] at hm
  rcases hm with ⟨rfl, rfl⟩ | ⟨rfl, rfl⟩ | ⟨rfl, rfl⟩ | ⟨rfl, rfl⟩ | ⟨rfl, rfl⟩ | ⟨rfl, rfl⟩ | ⟨rfl, rfl⟩ | ⟨rfl, rfl⟩ | ⟨rfl, rfl⟩ | ⟨rfl, rfl⟩ | ⟨rfl, rfl⟩ | ⟨rfl, rfl⟩ | ⟨rfl, rfl⟩ | ⟨rfl, rfl⟩
  · exact g_c0 L xs 1 20 18 m_lim rfl (fun j => rfl) (fun j => rfl)
  · refine ⟨rfl, fun j => ?_, fun j => g_j00, fun j => rfl⟩
    have := g_xr xs xi 0 (fun j hj => by rw [Nat.zero_add]; exact hx j hj) j
    rw [Nat.zero_add] at this
    exact this
  · exact g_cs L xs 2 (by decide) (by decide)
  · exact g_cs L xs 3 (by decide) (by decide)
  · exact g_cs L xs 4 (by decide) (by decide)
  · exact g_cs L xs 5 (by decide) (by decide)
  · exact g_cs L xs 6 (by decide) (by decide)
  · exact g_cs L xs 7 (by decide) (by decide)
  · exact g_c0 L xs 8 21 3 _ rfl (fun j => rfl) (fun j => rfl)
  · exact g_c0 L xs 9 21 3 _ rfl (fun j => rfl) (fun j => rfl)
  · exact g_c0 L xs 10 21 4 _ rfl (fun j => rfl) (fun j => rfl)
  · exact g_c0 L xs 11 21 4 _ rfl (fun j => rfl) (fun j => rfl)
  · exact g_c0 L xs 12 21 5 _ rfl (fun j => rfl) (fun j => rfl)
  · exact g_c0 L xs 13 21 3 _ rfl (fun j => rfl) (fun j => rfl)
def b_goal (L : Nat) (xs : Nat → Int32) : Prop := ∃ (n : Nat) (h' : MH), m_rn n 0 0 [(0, .ref 14)] [] (m_h0 L xs) = some (some (.int 1), h') ∧ h_n h' ≤ 600000 ∧ h_z h' ≤ 7302250
theorem b_okS (s : AI) (fuel L : Nat) (xi : List AI) (e : b_ok s fuel L xi = true) (xs : Nat → Int32) (hx : ∀ j, j < xi.length → g_i (xi.getD j b_t) (xs j)) (h0 : g_i s (xs 0 &&& 63)) : b_goal L xs := by
  unfold b_ok at e
  split at e
  · next v A hA =>
    rw [Bool.and_eq_true, Bool.and_eq_true] at e
    have e1 := of_decide_eq_true e.1
    have e2 := of_decide_eq_true e.2.1
    have e3 := of_decide_eq_true e.2.2
    obtain ⟨v', h', k1, k2, k3⟩ := c_sim s fuel 0 0 _ [] _ _ _ hA [(0, .ref 14)] [] (m_h0 L xs) ⟨⟨rfl, rfl⟩, trivial⟩ trivial (g_h0 s L xs xi hx h0)
    cases v' with
    | none => exact k2.elim
    | some w =>
      obtain ⟨x, hw, hx1, hx2⟩ := k2
      rw [e1] at hx1 hx2
      have hx3 : x = 1 := Int32.toInt_inj.mp (show x.toInt = (1 : Int32).toInt by
        have : (1 : Int32).toInt = 1 := by decide
        have h1 : (1 : Int) ≤ x.toInt := hx1
        have h2 : x.toInt ≤ (1 : Int) := hx2
        omega)
      rw [hw, hx3] at k1
      exact ⟨fuel, h', k1, by rw [k3.1]; exact e2, by rw [k3.2.1]; exact e3⟩
  · cases e
theorem g_63 (x : Int32) : g_i (0, 63) (x &&& 63) := by
  have h : (x &&& 63).toBitVec.toNat ≤ 63 := by
    rw [Int32.toBitVec_and, BitVec.toNat_and]
    exact Nat.and_le_right
  have h2 : (x &&& 63).toInt = ((x &&& 63).toBitVec.toNat : Int) := BitVec.toInt_eq_toNat_of_lt (by omega)
  exact ⟨by rw [h2]; show (0 : Int) ≤ _; omega, by rw [h2]; show _ ≤ (63 : Int); omega⟩
def b_cov (l : List AI) : Prop := ∀ x : Int32, ∃ p ∈ l, g_i p x
def b_mk (p : AI) (k : Nat) (q : AI) : List AI := match k with
  | 2 => [b_t, p, q]
  | 3 => [b_t, p, b_t, q]
  | 4 => [b_t, p, b_t, b_t, q]
  | 6 => [b_t, p, b_t, b_t, b_t, b_t, q]
  | _ => [b_t, p]
theorem b_mkS (xs : Nat → Int32) (p : AI) (k : Nat) (q : AI) (hp : g_i p (xs 1)) (hq : g_i q (xs k)) : ∀ j, j < (b_mk p k q).length → g_i ((b_mk p k q).getD j b_t) (xs j) := by
  unfold b_mk
  split
  · exact fun j hj => match j, hj with
      | 0, _ => g_iT _
      | 1, _ => hp
      | 2, _ => hq
  · exact fun j hj => match j, hj with
      | 0, _ => g_iT _
      | 1, _ => hp
      | 2, _ => g_iT _
      | 3, _ => hq
  · exact fun j hj => match j, hj with
      | 0, _ => g_iT _
      | 1, _ => hp
      | 2, _ => g_iT _
      | 3, _ => g_iT _
      | 4, _ => hq
  · exact fun j hj => match j, hj with
      | 0, _ => g_iT _
      | 1, _ => hp
      | 2, _ => g_iT _
      | 3, _ => g_iT _
      | 4, _ => g_iT _
      | 5, _ => g_iT _
      | 6, _ => hq
  · exact fun j hj => match j, hj with
      | 0, _ => g_iT _
      | 1, _ => hp
def b_l1 : List AI := [(-2147483648, -1), (0, 2147483647)]
def b_l2 : List AI := [(-2147483648, -1), (0, 0), (1, 2147483647)]
def b_l3 : List AI := [(-2147483648, -2), (-1, -1), (0, 2147483647)]
def b_l4 : List AI := [(-2147483648, -1), (0, 0), (1, 1), (2, 2147483647)]
def b_l5 : List AI := [(-2147483648, -1), (0, 0), (1, 1), (2, 2), (3, 2147483647)]
theorem b_v0 : b_cov [b_t] := fun x => ⟨b_t, List.mem_cons_self, g_iT x⟩
theorem b_v1 : b_cov b_l1 := fun x => by
  obtain ⟨h1, h2⟩ := g_iT x
  have h1 : (-2147483648 : Int) ≤ x.toInt := h1
  have h2 : x.toInt ≤ (2147483647 : Int) := h2
  by_cases c : x.toInt ≤ -1
  · exact ⟨_, List.mem_cons_self, h1, c⟩
  · exact ⟨_, List.mem_cons_of_mem _ List.mem_cons_self, show (0 : Int) ≤ _ by omega, h2⟩
theorem b_v2 : b_cov b_l2 := fun x => by
  obtain ⟨h1, h2⟩ := g_iT x
  have h1 : (-2147483648 : Int) ≤ x.toInt := h1
  have h2 : x.toInt ≤ (2147483647 : Int) := h2
  by_cases c : x.toInt ≤ -1
  · exact ⟨_, List.mem_cons_self, h1, c⟩
  · by_cases d : x.toInt ≤ 0
    · exact ⟨_, List.mem_cons_of_mem _ List.mem_cons_self, show (0 : Int) ≤ _ by omega, d⟩
    · exact ⟨_, List.mem_cons_of_mem _ (List.mem_cons_of_mem _ List.mem_cons_self), show (1 : Int) ≤ _ by omega, h2⟩
theorem b_v3 : b_cov b_l3 := fun x => by
  obtain ⟨h1, h2⟩ := g_iT x
  have h1 : (-2147483648 : Int) ≤ x.toInt := h1
  have h2 : x.toInt ≤ (2147483647 : Int) := h2
  by_cases c : x.toInt ≤ -2
  · exact ⟨_, List.mem_cons_self, h1, c⟩
  · by_cases d : x.toInt ≤ -1
    · exact ⟨_, List.mem_cons_of_mem _ List.mem_cons_self, show (-1 : Int) ≤ _ by omega, d⟩
    · exact ⟨_, List.mem_cons_of_mem _ (List.mem_cons_of_mem _ List.mem_cons_self), show (0 : Int) ≤ _ by omega, h2⟩
theorem b_v4 : b_cov b_l4 := fun x => by
  obtain ⟨h1, h2⟩ := g_iT x
  have h1 : (-2147483648 : Int) ≤ x.toInt := h1
  have h2 : x.toInt ≤ (2147483647 : Int) := h2
  by_cases c : x.toInt ≤ -1
  · exact ⟨_, List.mem_cons_self, h1, c⟩
  · by_cases d : x.toInt ≤ 0
    · exact ⟨_, List.mem_cons_of_mem _ List.mem_cons_self, show (0 : Int) ≤ _ by omega, d⟩
    · by_cases d2 : x.toInt ≤ 1
      · exact ⟨_, List.mem_cons_of_mem _ (List.mem_cons_of_mem _ List.mem_cons_self), show (1 : Int) ≤ _ by omega, d2⟩
      · exact ⟨_, List.mem_cons_of_mem _ (List.mem_cons_of_mem _ (List.mem_cons_of_mem _ List.mem_cons_self)), show (2 : Int) ≤ _ by omega, h2⟩
theorem b_v5 : b_cov b_l5 := fun x => by
  obtain ⟨h1, h2⟩ := g_iT x
  have h1 : (-2147483648 : Int) ≤ x.toInt := h1
  have h2 : x.toInt ≤ (2147483647 : Int) := h2
  by_cases c : x.toInt ≤ -1
  · exact ⟨_, List.mem_cons_self, h1, c⟩
  · by_cases d : x.toInt ≤ 0
    · exact ⟨_, List.mem_cons_of_mem _ List.mem_cons_self, show (0 : Int) ≤ _ by omega, d⟩
    · by_cases d2 : x.toInt ≤ 1
      · exact ⟨_, List.mem_cons_of_mem _ (List.mem_cons_of_mem _ List.mem_cons_self), show (1 : Int) ≤ _ by omega, d2⟩
      · by_cases d3 : x.toInt ≤ 2
        · exact ⟨_, List.mem_cons_of_mem _ (List.mem_cons_of_mem _ (List.mem_cons_of_mem _ List.mem_cons_self)), show (2 : Int) ≤ _ by omega, d3⟩
        · exact ⟨_, List.mem_cons_of_mem _ (List.mem_cons_of_mem _ (List.mem_cons_of_mem _ (List.mem_cons_of_mem _ List.mem_cons_self))), show (3 : Int) ≤ _ by omega, h2⟩
noncomputable def b_two (s : AI) (fuel k : Nat) (l1 l2 : List AI) : Bool := l1.all (fun p => l2.all (fun q => b_ok s fuel 7 (b_mk p k q)))
theorem b_twoS {s : AI} {fuel k : Nat} {l1 l2 : List AI} (e : b_two s fuel k l1 l2 = true) (h1 : b_cov l1) (h2 : b_cov l2) (xs : Nat → Int32) (h0 : g_i s (xs 0 &&& 63)) : b_goal 7 xs := by
  obtain ⟨p, hp, gp⟩ := h1 (xs 1)
  obtain ⟨q, hq, gq⟩ := h2 (xs k)
  unfold b_two at e
  have e1 := List.all_eq_true.mp e p hp
  have e2 := List.all_eq_true.mp e1 q hq
  exact b_okS s fuel 7 _ e2 xs (b_mkS xs p k q gp gq) h0
end
section
-- LINEAR WORDS: a sum of symbols with whole coefficients and a constant; ranges of symbols; constraints 'a word is 0 at most'; what follows from them
abbrev LE : Type := List (Nat × Int) × Int
abbrev IV : Type := List (Nat × (Int × Int))
def l_ev (σ : Nat → Int) : List (Nat × Int) → Int
  | [] => 0
  | (k, a) :: r => a * σ k + l_ev σ r
def le_ev (σ : Nat → Int) (e : LE) : Int := l_ev σ e.1 + e.2
-- into a row of symbols, like ones together, none with coefficient 0
def l_in (k : Nat) (a : Int) : List (Nat × Int) → List (Nat × Int)
  | [] => if a = 0 then [] else [(k, a)]
  | (j, b) :: r => if j = k then (if b + a = 0 then r else (k, b + a) :: r) else (j, b) :: l_in k a r
theorem l_inE (σ : Nat → Int) (k : Nat) (a : Int) : ∀ l : List (Nat × Int), l_ev σ (l_in k a l) = a * σ k + l_ev σ l
  | [] => by
    rw [l_in]
    split
    · next h => rw [h, Int.zero_mul, Int.zero_add]
    · rfl
  | (j, b) :: r => by
    rw [l_in]
    split
    · next h =>
      subst h
      split
      · next h0 =>
        have : (b + a) * σ j = 0 := by rw [h0, Int.zero_mul]
        rw [Int.add_mul] at this
        rw [l_ev]
        omega
      · rw [l_ev, l_ev, Int.add_mul]
        omega
    · rw [l_ev, l_ev, l_inE σ k a r]
      omega
def l_add (c : Int) : List (Nat × Int) → List (Nat × Int) → List (Nat × Int)
  | [], l => l
  | (k, a) :: r, l => l_in k (c * a) (l_add c r l)
theorem l_addE (σ : Nat → Int) (c : Int) : ∀ r l : List (Nat × Int), l_ev σ (l_add c r l) = c * l_ev σ r + l_ev σ l
  | [], l => by rw [l_add, l_ev, Int.mul_zero, Int.zero_add]
  | (k, a) :: r, l => by
    rw [l_add, l_inE, l_addE σ c r l, l_ev, Int.mul_add, Int.mul_assoc]
    omega
def le_c (z : Int) : LE := ([], z)
def le_s (k : Nat) : LE := ([(k, 1)], 0)
def le_add (x y : LE) : LE := (l_add 1 y.1 x.1, x.2 + y.2)
def le_sub (x y : LE) : LE := (l_add (-1) y.1 x.1, x.2 - y.2)
def le_mul (c : Int) (x : LE) : LE := (l_add c x.1 [], c * x.2)
theorem le_cE (σ : Nat → Int) (z : Int) : le_ev σ (le_c z) = z := Int.zero_add z
theorem le_sE (σ : Nat → Int) (k : Nat) : le_ev σ (le_s k) = σ k := by
  show (1 * σ k + 0) + 0 = σ k
  omega
theorem le_addE (σ : Nat → Int) (x y : LE) : le_ev σ (le_add x y) = le_ev σ x + le_ev σ y := by
  unfold le_ev le_add
  rw [l_addE]
  omega
theorem le_subE (σ : Nat → Int) (x y : LE) : le_ev σ (le_sub x y) = le_ev σ x - le_ev σ y := by
  unfold le_ev le_sub
  rw [l_addE]
  omega
theorem le_mulE (σ : Nat → Int) (c : Int) (x : LE) : le_ev σ (le_mul c x) = c * le_ev σ x := by
  unfold le_ev le_mul
  rw [l_addE, Int.mul_add]
  show c * l_ev σ x.1 + 0 + c * x.2 = _
  omega
-- ranges
def iv_ok (σ : Nat → Int) (iv : IV) : Prop := ∀ q ∈ iv, q.2.1 ≤ σ q.1 ∧ σ q.1 ≤ q.2.2
theorem iv_lk {σ : Nat → Int} {iv : IV} (h : iv_ok σ iv) {k : Nat} {p : Int × Int} (e : m_lk iv k = some p) : p.1 ≤ σ k ∧ σ k ≤ p.2 := h _ (m_lkm e)
def l_ub (iv : IV) : List (Nat × Int) → Option Int
  | [] => some 0
  | (k, a) :: r => match m_lk iv k, l_ub iv r with
    | some p, some u => some ((if 0 ≤ a then a * p.2 else a * p.1) + u)
    | _, _ => none
theorem l_ubS {σ : Nat → Int} {iv : IV} (h : iv_ok σ iv) : ∀ (l : List (Nat × Int)) (u : Int), l_ub iv l = some u → l_ev σ l ≤ u
  | [], u, e => by
    cases e
    exact Int.le_refl _
  | (k, a) :: r, u, e => by
    rw [l_ub] at e
    split at e
    · next p u1 hp hu =>
      cases e
      have h1 := iv_lk h hp
      have h2 := l_ubS h r u1 hu
      rw [l_ev]
      split
      · next ha =>
        have := Int.mul_le_mul_of_nonneg_left h1.2 ha
        omega
      · next ha =>
        have := Int.mul_le_mul_of_nonpos_left (show a ≤ 0 by omega) h1.1
        omega
    · cases e
def le_le0 (iv : IV) (e : LE) : Bool := match l_ub iv e.1 with
  | some u => decide (u + e.2 ≤ 0)
  | none => false
theorem le_le0S {σ : Nat → Int} {iv : IV} (h : iv_ok σ iv) {e : LE} (k : le_le0 iv e = true) : le_ev σ e ≤ 0 := by
  unfold le_le0 at k
  split at k
  · next u hu =>
    have h1 := of_decide_eq_true k
    have h2 := l_ubS h e.1 u hu
    unfold le_ev
    omega
  · cases k
-- what follows: by ranges, by one constraint, by two
def cs_ok (σ : Nat → Int) (cs : List LE) : Prop := ∀ e ∈ cs, le_ev σ e ≤ 0
-- how often a constraint is taken: so that its first symbol goes
def l_cf (k : Nat) : List (Nat × Int) → Int
  | [] => 0
  | (j, b) :: r => if j = k then b else l_cf k r
def l_mt (e c : LE) : Int := match c.1 with
  | [] => 1
  | (k, b) :: _ => if 0 < l_cf k e.1 / b then l_cf k e.1 / b else 1
def le_ent2 (iv : IV) (cs : List LE) (e : LE) : Bool := cs.any (fun d => le_le0 iv (le_sub e d) || (!decide (l_mt e d = 1) && le_le0 iv (le_sub e (le_mul (l_mt e d) d))))
def le_ent (iv : IV) (cs : List LE) (e : LE) : Bool := le_le0 iv e || (le_ent2 iv cs e || cs.any (fun c => le_ent2 iv cs (le_sub e c) || (!decide (l_mt e c = 1) && le_ent2 iv cs (le_sub e (le_mul (l_mt e c) c)))))
theorem l_mtP (e c : LE) : 0 ≤ l_mt e c := by
  unfold l_mt
  split
  · decide
  · split <;> omega
theorem le_scale {σ : Nat → Int} {e c : LE} {m : Int} (hm : 0 ≤ m) (hc : le_ev σ c ≤ 0) (k : le_ev σ (le_sub e (le_mul m c)) ≤ 0) : le_ev σ e ≤ 0 := by
  rw [le_subE, le_mulE] at k
  have := Int.mul_nonpos_of_nonneg_of_nonpos hm hc
  omega
theorem le_ent2S {σ : Nat → Int} {iv : IV} {cs : List LE} (h : iv_ok σ iv) (hc : cs_ok σ cs) {e : LE} (k : le_ent2 iv cs e = true) : le_ev σ e ≤ 0 := by
  obtain ⟨d, m1, k1⟩ := List.any_eq_true.mp k
  have h1 := hc d m1
  rw [Bool.or_eq_true, Bool.and_eq_true] at k1
  rcases k1 with k1 | ⟨-, k1⟩
  · have h2 := le_le0S h k1
    rw [le_subE] at h2
    omega
  · exact le_scale (l_mtP e d) h1 (le_le0S h k1)
theorem le_entS {σ : Nat → Int} {iv : IV} {cs : List LE} (h : iv_ok σ iv) (hc : cs_ok σ cs) {e : LE} (k : le_ent iv cs e = true) : le_ev σ e ≤ 0 := by
  unfold le_ent at k
  rw [Bool.or_eq_true, Bool.or_eq_true] at k
  rcases k with k | k | k
  · exact le_le0S h k
  · exact le_ent2S h hc k
  · obtain ⟨c, m1, k1⟩ := List.any_eq_true.mp k
    have h1 := hc c m1
    rw [Bool.or_eq_true, Bool.and_eq_true] at k1
    rcases k1 with k1 | ⟨-, k1⟩
    · have h2 := le_ent2S h hc k1
      rw [le_subE] at h2
      omega
    · exact le_scale (l_mtP e c) h1 (le_ent2S h hc k1)
-- a symbol that a word doesn't have
def l_fr (n : Nat) (l : List (Nat × Int)) : Bool := l.all (fun q => !(q.1 == n))
def s_up (σ : Nat → Int) (n : Nat) (z : Int) : Nat → Int := fun k => if k = n then z else σ k
theorem l_frS (σ : Nat → Int) (n : Nat) (z : Int) : ∀ l : List (Nat × Int), l_fr n l = true → l_ev (s_up σ n z) l = l_ev σ l
  | [], _ => rfl
  | (k, a) :: r, h => by
    unfold l_fr at h
    rw [List.all_cons, Bool.and_eq_true] at h
    rw [l_ev, l_ev, l_frS σ n z r h.2]
    have hk : ¬ k = n := fun e => by
      rw [e] at h
      simp at h
    unfold s_up
    rw [if_neg hk]
theorem le_frS (σ : Nat → Int) (n : Nat) (z : Int) (e : LE) (h : l_fr n e.1 = true) : le_ev (s_up σ n z) e = le_ev σ e := by
  unfold le_ev
  rw [l_frS σ n z e.1 h]
end
section
-- TYPED HEAPS AND STATES OF THE CHECKER
-- a field's type: a range of ints, any long, a reference to a region (true: never null)
abbrev FT : Type := (Int × Int) ⊕ (Unit ⊕ (Nat × Bool))
-- a region: kind, length's range; made (address 16 and on) or not; an array's elements alike or an object's fields
abbrev RS : Type := (Nat × (Nat × Nat)) × (Bool × (Bool × List FT))
def r_ft (rs : RS) (k : Nat) : Option FT := match rs.2.2.1 with
  | true => rs.2.2.2[0]?
  | false => rs.2.2.2[k]?
def t_rf (ρ : Nat → Nat) (R : Nat) (nn : Bool) (a : Nat) : Prop := (a = 0 ∧ nn = false) ∨ (a ≠ 0 ∧ R ≠ 0 ∧ ρ a = R)
def t_ft (ρ : Nat → Nat) (ft : FT) (h : MH) (a k : Nat) : Prop := match ft with
  | .inl p => p.1 ≤ (h_i h a k).toInt ∧ (h_i h a k).toInt ≤ p.2
  | .inr (.inl _) => True
  | .inr (.inr q) => t_rf ρ q.1 q.2 (h_r h a k)
def t_cell (ρ : Nat → Nat) (rs : RS) (h : MH) (a : Nat) : Prop := (h_k h a).1 = rs.1.1 ∧ (rs.1.2.1 ≤ (h_k h a).2 ∧ (h_k h a).2 ≤ rs.1.2.2) ∧ (rs.2.1 = true → 16 ≤ a) ∧ ∀ k ft, r_ft rs k = some ft → (rs.2.2.1 = true → k < (h_k h a).2) → t_ft ρ ft h a k
def TH (sp : List RS) (ρ : Nat → Nat) (h : MH) : Prop := ρ 0 = 0 ∧ ∀ a, ρ a ≠ 0 → a < 16 + h_n h ∧ ∃ rs, sp[ρ a]? = some rs ∧ t_cell ρ rs h a
-- a value: a linear word, a long, a reference (its own symbol, region, never null or not)
abbrev AT : Type := LE ⊕ (Unit ⊕ (Nat × (Nat × Bool)))
-- what is known of fields: ((object's symbol, (region, field)), value); field 1000: an array's length
abbrev CA : Type := List ((Nat × (Nat × Nat)) × AT)
-- a state: ranges and constraints; known fields; words and objects that are kept; the next free number; locals, stack
abbrev AST : Type := (IV × List LE) × (CA × ((List LE × List Nat) × (Nat × (List (Nat × AT) × List AT))))
def a_iv (S : AST) : IV := S.1.1
def a_cs (S : AST) : List LE := S.1.2
def a_ca (S : AST) : CA := S.2.1
def a_kp (S : AST) : List LE := S.2.2.1.1
def a_ko (S : AST) : List Nat := S.2.2.1.2
def a_nx (S : AST) : Nat := S.2.2.2.1
def a_lv (S : AST) : List (Nat × AT) := S.2.2.2.2.1
def a_st (S : AST) : List AT := S.2.2.2.2.2
def t_at (σ : Nat → Int) (α ρ : Nat → Nat) (t : AT) (v : Value) : Prop := match t with
  | .inl e => ∃ x, v = .int x ∧ x.toInt = le_ev σ e
  | .inr (.inl _) => ∃ x, v = .long x
  | .inr (.inr q) => v = .ref (α q.1) ∧ t_rf ρ q.2.1 q.2.2 (α q.1)
-- a key's place: itself below 5000, else the worth of a symbol
def t_kx (σ : Nat → Int) (k : Nat) : Nat := if k < 5000 then k else (σ (k - 5000)).toNat
theorem t_kxl {σ : Nat → Int} {k : Nat} (h : k < 5000) : t_kx σ k = k := if_pos h
def t_fv (σ : Nat → Int) (α ρ : Nat → Nat) (h : MH) (a k : Nat) (t : AT) : Prop := match t with
  | .inl e => if k = 1000 then ((h_k h a).2 : Int) = le_ev σ e else (h_i h a (t_kx σ k)).toInt = le_ev σ e
  | .inr (.inl _) => True
  | .inr (.inr q) => h_r h a (t_kx σ k) = α q.1 ∧ t_rf ρ q.2.1 q.2.2 (α q.1)
def t_ca (σ : Nat → Int) (α ρ : Nat → Nat) (h : MH) (ca : CA) : Prop := ∀ q ∈ ca, (α q.1.1 ≠ 0 ∧ ρ (α q.1.1) = q.1.2.1) ∧ t_fv σ α ρ h (α q.1.1) q.1.2.2 q.2
def t_sk (σ : Nat → Int) (α ρ : Nat → Nat) : List AT → List Value → Prop
  | [], [] => True
  | a :: r, v :: q => t_at σ α ρ a v ∧ t_sk σ α ρ r q
  | _, _ => False
-- of locals: every one that is named is there
def t_lv (σ : Nat → Int) (α ρ : Nat → Nat) (l : List (Nat × AT)) (v : List (Nat × Value)) : Prop := ∀ q ∈ l, ∃ x, m_lk v q.1 = some x ∧ t_at σ α ρ q.2 x
-- what a state says of locals, stack and heap (K, KA: the worth of what is kept)
def TS (sp : List RS) (ρ : Nat → Nat) (K : List Int) (KA : List Nat) (S : AST) (lv : List (Nat × Value)) (st : List Value) (h : MH) : Prop :=
  TH sp ρ h ∧ ∃ (σ : Nat → Int) (α : Nat → Nat), iv_ok σ (a_iv S) ∧ cs_ok σ (a_cs S) ∧ t_ca σ α ρ h (a_ca S) ∧ (a_kp S).map (le_ev σ) = K ∧ (a_ko S).map α = KA ∧ t_lv σ α ρ (a_lv S) lv ∧ t_sk σ α ρ (a_st S) st
-- a number that a state doesn't have
def f_at (n : Nat) (t : AT) : Bool := match t with
  | .inl e => l_fr n e.1
  | .inr (.inl _) => true
  | .inr (.inr q) => !(q.1 == n)
def f_S (n : Nat) (S : AST) : Bool := (a_iv S).all (fun q => !(q.1 == n)) && ((a_cs S).all (fun e => l_fr n e.1) && ((a_ca S).all (fun q => (!(q.1.1 == n) && !(Nat.beq q.1.2.2 (5000 + n))) && f_at n q.2) && ((a_kp S).all (fun e => l_fr n e.1) && ((a_ko S).all (fun o => !(o == n)) && ((a_lv S).all (fun q => f_at n q.2) && (a_st S).all (fun t => f_at n t))))))
def o_up (α : Nat → Nat) (n a : Nat) : Nat → Nat := fun k => if k = n then a else α k
theorem f_atS {σ : Nat → Int} {α ρ : Nat → Nat} {n : Nat} {t : AT} {v : Value} (z : Int) (a : Nat) (hf : f_at n t = true) (h : t_at σ α ρ t v) : t_at (s_up σ n z) (o_up α n a) ρ t v := by
  cases t with
  | inl e =>
    obtain ⟨x, h1, h2⟩ := h
    exact ⟨x, h1, by rw [le_frS σ n z e hf]; exact h2⟩
  | inr t => cases t with
    | inl u => exact h
    | inr q =>
      have hq : ¬ q.1 = n := fun e => by
        have h9 : (!(q.1 == n)) = true := hf
        rw [e] at h9
        simp at h9
      have hu : o_up α n a q.1 = α q.1 := if_neg hq
      show v = .ref (o_up α n a q.1) ∧ t_rf ρ q.2.1 q.2.2 (o_up α n a q.1)
      rw [hu]
      exact h
theorem f_kx {σ : Nat → Int} {n k : Nat} (z : Int) (hk : ¬ k = 5000 + n) : t_kx (s_up σ n z) k = t_kx σ k := by
  unfold t_kx
  by_cases h : k < 5000
  · rw [if_pos h, if_pos h]
  · rw [if_neg h, if_neg h]
    unfold s_up
    rw [if_neg (by omega)]
theorem f_fvS {σ : Nat → Int} {α ρ : Nat → Nat} {h : MH} {b k : Nat} {n : Nat} {t : AT} (z : Int) (a : Nat) (hk : ¬ k = 5000 + n) (hf : f_at n t = true) (hv : t_fv σ α ρ h b k t) : t_fv (s_up σ n z) (o_up α n a) ρ h b k t := by
  cases t with
  | inl e =>
    show if k = 1000 then _ = le_ev (s_up σ n z) e else (h_i h b (t_kx (s_up σ n z) k)).toInt = le_ev (s_up σ n z) e
    rw [le_frS σ n z e hf, f_kx z hk]
    exact hv
  | inr t => cases t with
    | inl u => exact hv
    | inr q =>
      have hq : ¬ q.1 = n := fun e => by
        have h9 : (!(q.1 == n)) = true := hf
        rw [e] at h9
        simp at h9
      have hu : o_up α n a q.1 = α q.1 := if_neg hq
      show h_r h b (t_kx (s_up σ n z) k) = o_up α n a q.1 ∧ t_rf ρ q.2.1 q.2.2 (o_up α n a q.1)
      rw [hu, f_kx z hk]
      exact hv
theorem f_skS {σ : Nat → Int} {α ρ : Nat → Nat} {n : Nat} (z : Int) (a : Nat) : ∀ {t : List AT} {v : List Value}, t.all (fun t => f_at n t) = true → t_sk σ α ρ t v → t_sk (s_up σ n z) (o_up α n a) ρ t v
  | [], [], _, h => h
  | t :: r, v :: q, hf, h => by
    rw [List.all_cons, Bool.and_eq_true] at hf
    exact ⟨f_atS z a hf.1 h.1, f_skS z a hf.2 h.2⟩
  | [], _ :: _, _, h => h.elim
  | _ :: _, [], _, h => h.elim
theorem f_lvS {σ : Nat → Int} {α ρ : Nat → Nat} {n : Nat} (z : Int) (a : Nat) {t : List (Nat × AT)} {v : List (Nat × Value)} (hf : t.all (fun t => f_at n t.2) = true) (h : t_lv σ α ρ t v) : t_lv (s_up σ n z) (o_up α n a) ρ t v := fun q hq => by
  obtain ⟨x, h1, h2⟩ := h q hq
  exact ⟨x, h1, f_atS z a (List.all_eq_true.mp hf q hq) h2⟩
-- all of a state's words but locals and stack, at any symbols that give a new number another worth
def TW (ρ : Nat → Nat) (K : List Int) (KA : List Nat) (S : AST) (lv : List (Nat × Value)) (st : List Value) (h : MH) (σ : Nat → Int) (α : Nat → Nat) : Prop := iv_ok σ (a_iv S) ∧ cs_ok σ (a_cs S) ∧ t_ca σ α ρ h (a_ca S) ∧ (a_kp S).map (le_ev σ) = K ∧ (a_ko S).map α = KA ∧ t_lv σ α ρ (a_lv S) lv ∧ t_sk σ α ρ (a_st S) st
theorem f_SS {ρ : Nat → Nat} {K : List Int} {KA : List Nat} {S : AST} {lv : List (Nat × Value)} {st : List Value} {h : MH} {σ : Nat → Int} {α : Nat → Nat} {n : Nat} (z : Int) (a : Nat) (hf : f_S n S = true) (hw : TW ρ K KA S lv st h σ α) : TW ρ K KA S lv st h (s_up σ n z) (o_up α n a) := by
  unfold f_S at hf
  simp only [Bool.and_eq_true, List.all_eq_true] at hf
  obtain ⟨f1, f2, f3, f4, f5, f6, f7⟩ := hf
  obtain ⟨w1, w2, w3, w4, w5, w6, w7⟩ := hw
  have ne : ∀ {k : Nat}, (!(k == n)) = true → ¬ k = n := fun {k} hk e => by
    rw [e] at hk
    simp at hk
  refine ⟨fun q hq => ?_, fun e he => ?_, fun q hq => ?_, ?_, ?_, f_lvS z a (List.all_eq_true.mpr f6) w6, f_skS z a (List.all_eq_true.mpr f7) w7⟩
  · have : s_up σ n z q.1 = σ q.1 := if_neg (ne (f1 q hq))
    rw [this]
    exact w1 q hq
  · rw [le_frS σ n z e (f2 e he)]
    exact w2 e he
  · obtain ⟨g1, g2⟩ := w3 q hq
    have : o_up α n a q.1.1 = α q.1.1 := if_neg (ne (f3 q hq).1.1)
    rw [this]
    refine ⟨g1, f_fvS z a (fun e => ?_) (f3 q hq).2 g2⟩
    have h9 := (f3 q hq).1.2
    rw [e, Nat.beq_refl] at h9
    cases h9
  · rw [← w4]
    exact List.map_congr_left (fun e he => le_frS σ n z e (f4 e he))
  · rw [← w5]
    exact List.map_congr_left (fun o ho => if_neg (ne (f5 o ho)))
end
section
-- INT WORDS' OWN RULES
theorem i_bm (z : Int) (h1 : -2147483648 ≤ z) (h2 : z ≤ 2147483647) : z.bmod (2 ^ 32) = z := Int.bmod_eq_of_le (by show -((2 ^ 32 : Int) / 2) ≤ z; omega) (by show z < ((2 ^ 32 : Int) + 1) / 2; omega)
theorem i_add (x y : Int32) (h1 : -2147483648 ≤ x.toInt + y.toInt) (h2 : x.toInt + y.toInt ≤ 2147483647) : (x + y).toInt = x.toInt + y.toInt := by
  rw [Int32.toInt_add]
  exact i_bm _ h1 h2
theorem i_sub (x y : Int32) (h1 : -2147483648 ≤ x.toInt - y.toInt) (h2 : x.toInt - y.toInt ≤ 2147483647) : (x - y).toInt = x.toInt - y.toInt := by
  rw [Int32.toInt_sub]
  exact i_bm _ h1 h2
theorem i_mul (x y : Int32) (h1 : -2147483648 ≤ x.toInt * y.toInt) (h2 : x.toInt * y.toInt ≤ 2147483647) : (x * y).toInt = x.toInt * y.toInt := by
  rw [Int32.toInt_mul]
  exact i_bm _ h1 h2
theorem i_neg (x : Int32) (h1 : -2147483647 ≤ x.toInt) : (-x).toInt = -x.toInt := by
  have h2 := Int32.toInt_lt x
  rw [Int32.toInt_neg]
  exact i_bm _ (by omega) (by omega)
theorem i_ofInt (z : Int) (h1 : -2147483648 ≤ z) (h2 : z ≤ 2147483647) : (Int32.ofInt z).toInt = z := by
  rw [Int32.toInt_ofInt]
  exact i_bm _ h1 h2
theorem i_div (x y : Int32) (hx : 0 ≤ x.toInt) (hy : 0 < y.toInt) : (x / y).toInt = x.toInt / y.toInt := by
  have h1 := Int32.toInt_lt x
  rw [Int32.toInt_div, Int.tdiv_eq_ediv_of_nonneg hx]
  have h2 : 0 ≤ x.toInt / y.toInt := Int.ediv_nonneg hx (by omega)
  have h3 : x.toInt / y.toInt ≤ x.toInt := Int.ediv_le_self _ hx
  exact i_bm _ (by omega) (by omega)
abbrev AO : Type := Nat × AST
def w_fs (S : AST) (lv : List (Nat × AT)) (st : List AT) : AST := (S.1, S.2.1, S.2.2.1, S.2.2.2.1, lv, st)
def w_ca (S : AST) (ca : CA) : AST := (S.1, ca, S.2.2)
def w_cs (S : AST) (cs : List LE) : AST := ((S.1.1, cs), S.2)
def w_iv (S : AST) (iv : IV) : AST := ((iv, S.1.2), S.2)
def w_nx (S : AST) (n : Nat) : AST := (S.1, S.2.1, S.2.2.1, n, S.2.2.2.2)
-- a new symbol with a range, on top of a stack
def t_pi (pc : Nat) (S : AST) (st : List AT) (lo hi : Int) : Option (List AO) := if f_S (a_nx S) (w_fs S (a_lv S) st) = true then some [(pc, w_nx (w_fs (w_iv S ((a_nx S, (lo, hi)) :: a_iv S)) (a_lv S) (.inl (le_s (a_nx S)) :: st)) (a_nx S + 1))] else none
-- the same, nothing new needed
def t_pe (pc : Nat) (S : AST) (st : List AT) (e : LE) : Option (List AO) := some [(pc, w_fs S (a_lv S) (.inl e :: st))]
def t_go (pc : Nat) (S : AST) (st : List AT) : Option (List AO) := some [(pc, w_fs S (a_lv S) st)]
def t_in32 (S : AST) (e : LE) : Bool := le_ent (a_iv S) (a_cs S) (le_sub e (le_c 2147483647)) && le_ent (a_iv S) (a_cs S) (le_sub (le_c (-2147483648)) e)
-- a word that is right if it lies among the ints, else anything
def t_pw (pc : Nat) (S : AST) (st : List AT) (e : LE) : Option (List AO) := if t_in32 S e = true then t_pe pc S st e else t_pi pc S st (-2147483648) 2147483647
-- frames: what a run may write
def t_W (W : List (Nat × Nat)) (R k : Nat) : Prop := (R, k) ∈ W ∨ (R, 1001) ∈ W
def FR (ρ : Nat → Nat) (W : List (Nat × Nat)) (h h' : MH) : Prop := h'.1 = h.1 ∧ (∀ a, h_k h' a = h_k h a) ∧ ∀ a k, ¬ t_W W (ρ a) k → h_i h' a k = h_i h a k ∧ h_l h' a k = h_l h a k ∧ h_r h' a k = h_r h a k
theorem FR.refl (ρ : Nat → Nat) (W : List (Nat × Nat)) (h : MH) : FR ρ W h h := ⟨rfl, fun _ => rfl, fun _ _ _ => ⟨rfl, rfl, rfl⟩⟩
theorem FR.trans {ρ : Nat → Nat} {W : List (Nat × Nat)} {h h1 h2 : MH} (f : FR ρ W h h1) (g : FR ρ W h1 h2) : FR ρ W h h2 := by
  obtain ⟨f1, f2, f3⟩ := f
  obtain ⟨g1, g2, g3⟩ := g
  refine ⟨g1.trans f1, fun a => (g2 a).trans (f2 a), fun a k hk => ?_⟩
  obtain ⟨x1, x2, x3⟩ := f3 a k hk
  obtain ⟨y1, y2, y3⟩ := g3 a k hk
  exact ⟨y1.trans x1, y2.trans x2, y3.trans x3⟩
-- one step of the checker is true of the machine's
def T_P (sp : List RS) (ρ : Nat → Nat) (W : List (Nat × Nat)) (K : List Int) (KA : List Nat) (R : Option (List AO)) (h : MH) (R' : Option MA) : Prop := ∀ L, R = some L → ∃ pc' lv' st' h', R' = some (.inl (pc', lv', st', h')) ∧ FR ρ W h h' ∧ ∃ S', (pc', S') ∈ L ∧ TS sp ρ K KA S' lv' st' h'
section
variable {sp : List RS} {ρ : Nat → Nat} {W : List (Nat × Nat)} {K : List Int} {KA : List Nat} {S : AST} {lv' : List (Nat × Value)} {st' : List Value} {h : MH} {pc : Nat} {st : List AT} {σ : Nat → Int} {α : Nat → Nat}
theorem q_no {h : MH} {R' : Option MA} : T_P sp ρ W K KA none h R' := fun _ e => by cases e
theorem q_fs {lv0 : List (Nat × Value)} {st0 : List Value} {lv : List (Nat × AT)} (hw : TW ρ K KA S lv0 st0 h σ α) (hl : t_lv σ α ρ lv lv') (hs : t_sk σ α ρ st st') : TW ρ K KA (w_fs S lv st) lv' st' h σ α := ⟨hw.1, hw.2.1, hw.2.2.1, hw.2.2.2.1, hw.2.2.2.2.1, hl, hs⟩
theorem q_go {st0 : List Value} (ht : TH sp ρ h) (hw : TW ρ K KA S lv' st0 h σ α) (hs : t_sk σ α ρ st st') : T_P sp ρ W K KA (t_go pc S st) h (m_go pc lv' st' h) := fun L e => by
  cases (Option.some.inj e)
  exact ⟨pc, lv', st', h, rfl, FR.refl _ _ _, _, List.mem_singleton.mpr rfl, ht, σ, α, q_fs hw hw.2.2.2.2.2.1 hs⟩
theorem q_pe {st0 : List Value} {e : LE} {x : Int32} (ht : TH sp ρ h) (hw : TW ρ K KA S lv' st0 h σ α) (hs : t_sk σ α ρ st st') (hx : x.toInt = le_ev σ e) : T_P sp ρ W K KA (t_pe pc S st e) h (m_go pc lv' (.int x :: st') h) := fun L e9 => by
  cases (Option.some.inj e9)
  exact ⟨pc, lv', _, h, rfl, FR.refl _ _ _, _, List.mem_singleton.mpr rfl, ht, σ, α, q_fs hw hw.2.2.2.2.2.1 ⟨⟨x, rfl, hx⟩, hs⟩⟩
theorem q_pi {st0 : List Value} {lo hi : Int} {x : Int32} (ht : TH sp ρ h) (hw : TW ρ K KA S lv' st0 h σ α) (hs : t_sk σ α ρ st st') (h1 : lo ≤ x.toInt) (h2 : x.toInt ≤ hi) : T_P sp ρ W K KA (t_pi pc S st lo hi) h (m_go pc lv' (.int x :: st') h) := fun L e9 => by
  unfold t_pi at e9
  split at e9
  · next hf =>
    cases (Option.some.inj e9)
    have hw2 := f_SS x.toInt 0 hf (q_fs hw hw.2.2.2.2.2.1 hs)
    refine ⟨pc, lv', _, h, rfl, FR.refl _ _ _, _, List.mem_singleton.mpr rfl, ht, s_up σ (a_nx S) x.toInt, o_up α (a_nx S) 0, ?_⟩
    obtain ⟨w1, w2, w3, w4, w5, w6, w7⟩ := hw2
    have hn : s_up σ (a_nx S) x.toInt (a_nx S) = x.toInt := if_pos rfl
    refine ⟨fun q hq => ?_, w2, w3, w4, w5, w6, ⟨x, rfl, by rw [le_sE, hn]⟩, w7⟩
    rcases List.mem_cons.mp hq with e | hq
    · rw [e]
      show lo ≤ s_up σ (a_nx S) x.toInt (a_nx S) ∧ s_up σ (a_nx S) x.toInt (a_nx S) ≤ hi
      rw [hn]
      exact ⟨h1, h2⟩
    · exact w1 q hq
  · cases e9
theorem q_in32 {e : LE} {lv0 : List (Nat × Value)} {st0 : List Value} (hw : TW ρ K KA S lv0 st0 h σ α) (k : t_in32 S e = true) : -2147483648 ≤ le_ev σ e ∧ le_ev σ e ≤ 2147483647 := by
  unfold t_in32 at k
  rw [Bool.and_eq_true] at k
  have h1 := le_entS hw.1 hw.2.1 k.1
  have h2 := le_entS hw.1 hw.2.1 k.2
  rw [le_subE, le_cE] at h1 h2
  omega
theorem q_pw {st0 : List Value} {e : LE} {x : Int32} (ht : TH sp ρ h) (hw : TW ρ K KA S lv' st0 h σ α) (hs : t_sk σ α ρ st st') (hx : -2147483648 ≤ le_ev σ e → le_ev σ e ≤ 2147483647 → x.toInt = le_ev σ e) : T_P sp ρ W K KA (t_pw pc S st e) h (m_go pc lv' (.int x :: st') h) := by
  unfold t_pw
  split
  · next hk =>
    obtain ⟨k1, k2⟩ := q_in32 hw hk
    exact q_pe ht hw hs (hx k1 k2)
  · obtain ⟨k1, k2⟩ := g_iT x
    exact q_pi ht hw hs k1 k2
end
end
section
-- the checker's steps that leave the heap alone
def jx_add (pc : Nat) (S : AST) (st : List AT) : Option (List AO) := match st with
  | .inl y :: .inl x :: r => t_pw (pc + 1) S r (le_add x y)
  | _ => none
def jx_sub (pc : Nat) (S : AST) (st : List AT) : Option (List AO) := match st with
  | .inl y :: .inl x :: r => t_pw (pc + 1) S r (le_sub x y)
  | _ => none
def jx_mul (pc : Nat) (S : AST) (st : List AT) : Option (List AO) := match st with
  | .inl y :: .inl x :: r => if y.1 = [] then t_pw (pc + 1) S r (le_mul y.2 x) else if x.1 = [] then t_pw (pc + 1) S r (le_mul x.2 y) else t_pi (pc + 1) S r (-2147483648) 2147483647
  | _ => none
-- two numbers that are known, else a range that holds anyway
def jx_cc (f : Int32 → Int32 → Int32) (d : LE → LE → Int × Int) (pc : Nat) (S : AST) (st : List AT) : Option (List AO) := match st with
  | .inl y :: .inl x :: r => if x.1 = [] ∧ y.1 = [] then t_pe (pc + 1) S r (le_c (f (Int32.ofInt x.2) (Int32.ofInt y.2)).toInt) else t_pi (pc + 1) S r (d x y).1 (d x y).2
  | _ => none
def d_top : LE → LE → Int × Int := fun _ _ => (-2147483648, 2147483647)
def d_and : LE → LE → Int × Int := fun x y => if y.1 = [] ∧ 0 ≤ y.2 then (0, y.2) else if x.1 = [] ∧ 0 ≤ x.2 then (0, x.2) else (-2147483648, 2147483647)
-- division by a known number above 0
def jx_div (pc : Nat) (S : AST) (st : List AT) : Option (List AO) := match st with
  | .inl y :: .inl x :: r => if y.1 = [] ∧ 0 < y.2 then (match l_ub (a_iv S) x.1 with
      | some u => if le_ent (a_iv S) (a_cs S) (le_mul (-1) x) = true then t_pi (pc + 1) S r 0 ((u + x.2) / y.2) else t_pi (pc + 1) S r (-2147483648) 2147483647
      | none => none) else if le_ent (a_iv S) (a_cs S) (le_sub (le_c 1) y) = true then (match l_ub (a_iv S) x.1 with
      | some u => if le_ent (a_iv S) (a_cs S) (le_mul (-1) x) = true then t_pi (pc + 1) S r 0 (u + x.2) else t_pi (pc + 1) S r (-2147483648) 2147483647
      | none => none) else none
  | _ => none
-- a new symbol with a range and a constraint
def t_pic (pc : Nat) (S : AST) (st : List AT) (lo hi : Int) (y : LE) : Option (List AO) := if f_S (a_nx S) (w_fs S (a_lv S) st) = true ∧ l_fr (a_nx S) y.1 = true then some [(pc, w_cs (w_nx (w_fs (w_iv S ((a_nx S, (lo, hi)) :: a_iv S)) (a_lv S) (.inl (le_s (a_nx S)) :: st)) (a_nx S + 1)) (le_add (le_sub (le_s (a_nx S)) y) (le_c 1) :: a_cs S))] else none
def jx_rem (pc : Nat) (S : AST) (st : List AT) : Option (List AO) := match st with
  | .inl y :: .inl x :: r => if y.1 = [] ∧ 0 < y.2 then (if le_ent (a_iv S) (a_cs S) (le_mul (-1) x) = true then t_pi (pc + 1) S r 0 (y.2 - 1) else t_pi (pc + 1) S r (-2147483648) 2147483647) else if le_ent (a_iv S) (a_cs S) (le_sub (le_c 1) y) = true then (if le_ent (a_iv S) (a_cs S) (le_mul (-1) x) = true then t_pic (pc + 1) S r 0 2147483647 y else t_pi (pc + 1) S r (-2147483648) 2147483647) else none
  | _ => none
section
variable {sp : List RS} {ρ : Nat → Nat} {W : List (Nat × Nat)} {K : List Int} {KA : List Nat} {S : AST} {lv' : List (Nat × Value)} {st' : List Value} {h : MH} {pc : Nat} {st : List AT} {σ : Nat → Int} {α : Nat → Nat}
theorem t_sc {a : AT} {r : List AT} {v : List Value} (h : t_sk σ α ρ (a :: r) v) : ∃ x q, v = x :: q ∧ t_at σ α ρ a x ∧ t_sk σ α ρ r q := by
  cases v with
  | nil => exact h.elim
  | cons x q => exact ⟨x, q, rfl, h.1, h.2⟩
theorem le_const {e : LE} (h : e.1 = []) : le_ev σ e = e.2 := by
  unfold le_ev
  rw [h]
  exact Int.zero_add _
theorem q_add (ht : TH sp ρ h) (hw : TW ρ K KA S lv' st' h σ α) (hs : t_sk σ α ρ st st') : T_P sp ρ W K KA (jx_add pc S st) h (e_ii (fun x y => x + y) pc lv' st' h) := by
  unfold jx_add
  split
  · next y x r =>
    obtain ⟨v, q, e1, ⟨y', rfl, hy⟩, hq1⟩ := t_sc hs
    obtain ⟨v, q2, e2, ⟨x', rfl, hx⟩, hq⟩ := t_sc hq1
    subst e2
    subst e1
    refine q_pw ht hw hq (fun h1 h2 => ?_)
    rw [le_addE, ← hx, ← hy] at h1 h2 ⊢
    exact i_add _ _ h1 h2
  · exact q_no
theorem q_sub (ht : TH sp ρ h) (hw : TW ρ K KA S lv' st' h σ α) (hs : t_sk σ α ρ st st') : T_P sp ρ W K KA (jx_sub pc S st) h (e_ii (fun x y => x - y) pc lv' st' h) := by
  unfold jx_sub
  split
  · next y x r =>
    obtain ⟨v, q, e1, ⟨y', rfl, hy⟩, hq1⟩ := t_sc hs
    obtain ⟨v, q2, e2, ⟨x', rfl, hx⟩, hq⟩ := t_sc hq1
    subst e2
    subst e1
    refine q_pw ht hw hq (fun h1 h2 => ?_)
    rw [le_subE, ← hx, ← hy] at h1 h2 ⊢
    exact i_sub _ _ h1 h2
  · exact q_no
theorem q_mul (ht : TH sp ρ h) (hw : TW ρ K KA S lv' st' h σ α) (hs : t_sk σ α ρ st st') : T_P sp ρ W K KA (jx_mul pc S st) h (e_ii (fun x y => x * y) pc lv' st' h) := by
  unfold jx_mul
  split
  · next y x r =>
    obtain ⟨v, q, e1, ⟨y', rfl, hy⟩, hq1⟩ := t_sc hs
    obtain ⟨v, q2, e2, ⟨x', rfl, hx⟩, hq⟩ := t_sc hq1
    subst e2
    subst e1
    split
    · next hc =>
      refine q_pw ht hw hq (fun h1 h2 => ?_)
      have e3 : y'.toInt = y.2 := by rw [hy, le_const hc]
      rw [le_mulE, ← hx, ← e3, Int.mul_comm] at h1 h2 ⊢
      exact i_mul _ _ h1 h2
    · split
      · next hc =>
        refine q_pw ht hw hq (fun h1 h2 => ?_)
        have e3 : x'.toInt = x.2 := by rw [hx, le_const hc]
        rw [le_mulE, ← hy, ← e3] at h1 h2 ⊢
        exact i_mul _ _ h1 h2
      · obtain ⟨k1, k2⟩ := g_iT (x' * y')
        exact q_pi ht hw hq k1 k2
  · exact q_no
theorem q_cc (f : Int32 → Int32 → Int32) (d : LE → LE → Int × Int) (hd : ∀ (x y : LE) (x' y' : Int32), x'.toInt = le_ev σ x → y'.toInt = le_ev σ y → (d x y).1 ≤ (f x' y').toInt ∧ (f x' y').toInt ≤ (d x y).2) (ht : TH sp ρ h) (hw : TW ρ K KA S lv' st' h σ α) (hs : t_sk σ α ρ st st') : T_P sp ρ W K KA (jx_cc f d pc S st) h (e_ii f pc lv' st' h) := by
  unfold jx_cc
  split
  · next y x r =>
    obtain ⟨v, q, e1, ⟨y', rfl, hy⟩, hq1⟩ := t_sc hs
    obtain ⟨v, q2, e2, ⟨x', rfl, hx⟩, hq⟩ := t_sc hq1
    subst e2
    subst e1
    split
    · next hc =>
      have e3 : Int32.ofInt x.2 = x' := by rw [← le_const (σ := σ) hc.1, ← hx, Int32.ofInt_toInt]
      have e4 : Int32.ofInt y.2 = y' := by rw [← le_const (σ := σ) hc.2, ← hy, Int32.ofInt_toInt]
      rw [e3, e4]
      exact q_pe ht hw hq (by rw [le_cE])
    · obtain ⟨k1, k2⟩ := hd x y x' y' hx hy
      exact q_pi ht hw hq k1 k2
  · exact q_no
theorem d_topS (f : Int32 → Int32 → Int32) (x y : LE) (x' y' : Int32) (_ : x'.toInt = le_ev σ x) (_ : y'.toInt = le_ev σ y) : (d_top x y).1 ≤ (f x' y').toInt ∧ (f x' y').toInt ≤ (d_top x y).2 := g_iT _
theorem i_andR (x y : Int32) (hy : 0 ≤ y.toInt) : 0 ≤ (x &&& y).toInt ∧ (x &&& y).toInt ≤ y.toInt := by
  have hyb := Int32.toInt_lt y
  have e1 : y.toInt = y.toBitVec.toInt := rfl
  have hmy : 2 * y.toBitVec.toNat < 2 ^ 32 := by
    rcases Nat.lt_or_ge (2 * y.toBitVec.toNat) (2 ^ 32) with q | q
    · exact q
    · have := BitVec.toInt_eq_toNat_cond y.toBitVec
      rw [if_neg (by omega)] at this
      have h2 := y.toBitVec.isLt
      omega
  have e2 : y.toInt = (y.toBitVec.toNat : Int) := BitVec.toInt_eq_toNat_of_lt hmy
  have h3 : (x &&& y).toBitVec.toNat ≤ y.toBitVec.toNat := by
    rw [Int32.toBitVec_and, BitVec.toNat_and]
    exact Nat.and_le_right
  have e3 : (x &&& y).toInt = ((x &&& y).toBitVec.toNat : Int) := BitVec.toInt_eq_toNat_of_lt (by omega)
  rw [e3, e2]
  omega
theorem d_andS (x y : LE) (x' y' : Int32) (hx : x'.toInt = le_ev σ x) (hy : y'.toInt = le_ev σ y) : (d_and x y).1 ≤ (x' &&& y').toInt ∧ (x' &&& y').toInt ≤ (d_and x y).2 := by
  unfold d_and
  split
  · next hc =>
    have e := le_const (σ := σ) hc.1
    have := i_andR x' y' (by omega)
    dsimp only
    omega
  · split
    · next hc =>
      have e := le_const (σ := σ) hc.1
      have := i_andR y' x' (by omega)
      rw [Int32.and_comm] at this
      dsimp only
      omega
    · exact g_iT _
theorem q_div (ht : TH sp ρ h) (hw : TW ρ K KA S lv' st' h σ α) (hs : t_sk σ α ρ st st') : T_P sp ρ W K KA (jx_div pc S st) h (e_dv (fun x y => x / y) pc lv' st' h) := by
  unfold jx_div
  split
  · next y x r =>
    obtain ⟨v, q, e1, ⟨y', rfl, hy⟩, hq1⟩ := t_sc hs
    obtain ⟨v, q2, e2, ⟨x', rfl, hx⟩, hq⟩ := t_sc hq1
    subst e2
    subst e1
    have hz : 0 < y'.toInt → ¬ y' = 0 := fun z e => by
      rw [e] at z
      exact absurd z (by decide)
    show T_P sp ρ W K KA _ h (if y' = 0 then none else _)
    split
    · next hc =>
      have e := le_const (σ := σ) hc.1
      rw [if_neg (hz (by omega))]
      split
      · next u hu =>
        split
        · next hn =>
          have h1 := le_entS hw.1 hw.2.1 hn
          rw [le_mulE] at h1
          have h2 := l_ubS hw.1 x.1 u hu
          have hx0 : 0 ≤ x'.toInt := by omega
          have hd := i_div x' y' hx0 (by omega)
          have hxu : x'.toInt ≤ u + x.2 := by
            rw [hx]
            unfold le_ev
            omega
          have h4 : 0 ≤ x'.toInt / y'.toInt := Int.ediv_nonneg hx0 (by omega)
          have h5 : x'.toInt / y'.toInt ≤ (u + x.2) / y.2 := by
            rw [hy, e]
            exact Int.ediv_le_ediv hc.2 hxu
          exact q_pi ht hw hq (by rw [hd]; exact h4) (by rw [hd]; exact h5)
        · obtain ⟨k1, k2⟩ := g_iT (x' / y')
          exact q_pi ht hw hq k1 k2
      · exact q_no
    · split
      · next hc =>
        have hy1 := le_entS hw.1 hw.2.1 hc
        rw [le_subE, le_cE] at hy1
        rw [if_neg (hz (by omega))]
        split
        · next u hu =>
          split
          · next hn =>
            have h1 := le_entS hw.1 hw.2.1 hn
            rw [le_mulE] at h1
            have h2 := l_ubS hw.1 x.1 u hu
            have hx0 : 0 ≤ x'.toInt := by omega
            have hd := i_div x' y' hx0 (by omega)
            have hxu : x'.toInt ≤ u + x.2 := by
              rw [hx]
              unfold le_ev
              omega
            have h4 : 0 ≤ x'.toInt / y'.toInt := Int.ediv_nonneg hx0 (by omega)
            have h5 : x'.toInt / y'.toInt ≤ x'.toInt := Int.ediv_le_self _ hx0
            exact q_pi ht hw hq (by rw [hd]; exact h4) (by rw [hd]; omega)
          · obtain ⟨k1, k2⟩ := g_iT (x' / y')
            exact q_pi ht hw hq k1 k2
        · exact q_no
      · exact q_no
  · exact q_no
theorem q_pic {st0 : List Value} {lo hi : Int} {y : LE} {x : Int32} (ht : TH sp ρ h) (hw : TW ρ K KA S lv' st0 h σ α) (hs : t_sk σ α ρ st st') (h1 : lo ≤ x.toInt) (h2 : x.toInt ≤ hi) (h3 : x.toInt ≤ le_ev σ y - 1) : T_P sp ρ W K KA (t_pic pc S st lo hi y) h (m_go pc lv' (.int x :: st') h) := fun L e9 => by
  unfold t_pic at e9
  split at e9
  · next hf =>
    cases (Option.some.inj e9)
    have hw2 := f_SS x.toInt 0 hf.1 (q_fs hw hw.2.2.2.2.2.1 hs)
    refine ⟨pc, lv', _, h, rfl, FR.refl _ _ _, _, List.mem_singleton.mpr rfl, ht, s_up σ (a_nx S) x.toInt, o_up α (a_nx S) 0, ?_⟩
    obtain ⟨w1, w2, w3, w4, w5, w6, w7⟩ := hw2
    have hn : s_up σ (a_nx S) x.toInt (a_nx S) = x.toInt := if_pos rfl
    refine ⟨fun q hq => ?_, fun q hq => ?_, w3, w4, w5, w6, ⟨x, rfl, by rw [le_sE, hn]⟩, w7⟩
    · rcases List.mem_cons.mp hq with e | hq
      · rw [e]
        show lo ≤ s_up σ (a_nx S) x.toInt (a_nx S) ∧ s_up σ (a_nx S) x.toInt (a_nx S) ≤ hi
        rw [hn]
        exact ⟨h1, h2⟩
      · exact w1 q hq
    · rcases List.mem_cons.mp hq with e | hq
      · rw [e, le_addE, le_subE, le_sE, le_cE, hn, le_frS σ _ _ y hf.2]
        omega
      · exact w2 q hq
  · cases e9
theorem i_rem (x y : Int32) (hx : 0 ≤ x.toInt) (hy : 0 < y.toInt) : 0 ≤ (x - x / y * y).toInt ∧ (x - x / y * y).toInt ≤ y.toInt - 1 := by
  have hd := i_div x y hx hy
  have h1 := Int32.toInt_lt x
  have h4 : 0 ≤ x.toInt / y.toInt := Int.ediv_nonneg hx (by omega)
  have h5 : x.toInt / y.toInt * y.toInt ≤ x.toInt := Int.ediv_mul_le _ (by omega)
  have h6 : 0 ≤ x.toInt / y.toInt * y.toInt := Int.mul_nonneg h4 (by omega)
  have hm : (x / y * y).toInt = x.toInt / y.toInt * y.toInt := by
    rw [i_mul _ _ (by rw [hd]; omega) (by rw [hd]; omega), hd]
  have h7 := Int.emod_lt_of_pos x.toInt hy
  have h8 := Int.emod_nonneg x.toInt (show y.toInt ≠ 0 by omega)
  have h9 := Int.emod_add_mul_ediv x.toInt y.toInt
  rw [Int.mul_comm] at h9
  rw [i_sub _ _ (by rw [hm]; omega) (by rw [hm]; omega), hm]
  omega
theorem q_rem (ht : TH sp ρ h) (hw : TW ρ K KA S lv' st' h σ α) (hs : t_sk σ α ρ st st') : T_P sp ρ W K KA (jx_rem pc S st) h (e_dv (fun x y => x - x / y * y) pc lv' st' h) := by
  unfold jx_rem
  split
  · next y x r =>
    obtain ⟨v, q, e1, ⟨y', rfl, hy⟩, hq1⟩ := t_sc hs
    obtain ⟨v, q2, e2, ⟨x', rfl, hx⟩, hq⟩ := t_sc hq1
    subst e2
    subst e1
    have hz : ∀ z : 0 < y'.toInt, ¬ y' = 0 := fun z e => by
      rw [e] at z
      exact absurd z (by decide)
    show T_P sp ρ W K KA _ h (if y' = 0 then none else _)
    split
    · next hc =>
      have e := le_const (σ := σ) hc.1
      have hy1 : 0 < y'.toInt := by omega
      rw [if_neg (hz hy1)]
      split
      · next hn =>
        have h1 := le_entS hw.1 hw.2.1 hn
        rw [le_mulE] at h1
        obtain ⟨k1, k2⟩ := i_rem x' y' (by omega) hy1
        exact q_pi ht hw hq k1 (by show (x' - x' / y' * y').toInt ≤ y.2 - 1; omega)
      · obtain ⟨k1, k2⟩ := g_iT (x' - x' / y' * y')
        exact q_pi ht hw hq k1 k2
    · split
      · next hn =>
        have h1 := le_entS hw.1 hw.2.1 hn
        rw [le_subE, le_cE] at h1
        rw [if_neg (hz (by omega))]
        split
        · next hn2 =>
          have h2 := le_entS hw.1 hw.2.1 hn2
          rw [le_mulE] at h2
          obtain ⟨k1, k2⟩ := i_rem x' y' (by omega) (by omega)
          have k3 := (g_iT (x' - x' / y' * y')).2
          exact q_pic ht hw hq k1 k3 (by rw [← hy]; exact k2)
        · obtain ⟨k1, k2⟩ := g_iT (x' - x' / y' * y')
          exact q_pi ht hw hq k1 k2
      · exact q_no
  · exact q_no
-- one int
def jx_i1 (f : Int32 → Int32) (lo hi : Int) (pc : Nat) (S : AST) (st : List AT) : Option (List AO) := match st with
  | .inl x :: r => if x.1 = [] then t_pe (pc + 1) S r (le_c (f (Int32.ofInt x.2)).toInt) else t_pi (pc + 1) S r lo hi
  | _ => none
theorem q_i1 (f : Int32 → Int32) (lo hi : Int) (hd : ∀ x', lo ≤ (f x').toInt ∧ (f x').toInt ≤ hi) (ht : TH sp ρ h) (hw : TW ρ K KA S lv' st' h σ α) (hs : t_sk σ α ρ st st') : T_P sp ρ W K KA (jx_i1 f lo hi pc S st) h (e_i (fun x => .int (f x)) pc lv' st' h) := by
  unfold jx_i1
  split
  · next x r =>
    obtain ⟨v, q, e1, ⟨x', rfl, hx⟩, hq⟩ := t_sc hs
    subst e1
    split
    · next hc =>
      have e3 : Int32.ofInt x.2 = x' := by rw [← le_const (σ := σ) hc, ← hx, Int32.ofInt_toInt]
      rw [e3]
      exact q_pe ht hw hq (by rw [le_cE])
    · obtain ⟨k1, k2⟩ := hd x'
      exact q_pi ht hw hq k1 k2
  · exact q_no
def jx_neg (pc : Nat) (S : AST) (st : List AT) : Option (List AO) := match st with
  | .inl x :: r => t_pw (pc + 1) S r (le_mul (-1) x)
  | _ => none
theorem q_neg (ht : TH sp ρ h) (hw : TW ρ K KA S lv' st' h σ α) (hs : t_sk σ α ρ st st') : T_P sp ρ W K KA (jx_neg pc S st) h (e_i (fun x => .int (-x)) pc lv' st' h) := by
  unfold jx_neg
  split
  · next x r =>
    obtain ⟨v, q, e1, ⟨x', rfl, hx⟩, hq⟩ := t_sc hs
    subst e1
    refine q_pw ht hw hq (fun h1 h2 => ?_)
    rw [le_mulE] at h1 h2 ⊢
    rw [i_neg x' (by omega)]
    omega
  · exact q_no
-- longs: nothing is known of them
def t_pl (pc : Nat) (S : AST) (st : List AT) : Option (List AO) := t_go pc S (.inr (.inl ()) :: st)
theorem q_pl {st0 : List Value} {x : Int64} (ht : TH sp ρ h) (hw : TW ρ K KA S lv' st0 h σ α) (hs : t_sk σ α ρ st st') : T_P sp ρ W K KA (t_pl pc S st) h (m_go pc lv' (.long x :: st') h) := q_go (st' := .long x :: st') ht hw ⟨⟨x, rfl⟩, hs⟩
def jx_ll (pc : Nat) (S : AST) (st : List AT) : Option (List AO) := match st with
  | .inr (.inl _) :: .inr (.inl _) :: r => t_pl (pc + 1) S r
  | _ => none
theorem q_ll (f : Int64 → Int64 → Int64) (ht : TH sp ρ h) (hw : TW ρ K KA S lv' st' h σ α) (hs : t_sk σ α ρ st st') : T_P sp ρ W K KA (jx_ll pc S st) h (e_ll f pc lv' st' h) := by
  unfold jx_ll
  split
  · next u1 u2 r =>
    obtain ⟨v, q, e1, ⟨y', rfl⟩, hq1⟩ := t_sc hs
    obtain ⟨v, q2, e2, ⟨x', rfl⟩, hq⟩ := t_sc hq1
    subst e2
    subst e1
    exact q_pl (x := f x' y') ht hw hq
  · exact q_no
def jx_li (pc : Nat) (S : AST) (st : List AT) : Option (List AO) := match st with
  | .inl _ :: .inr (.inl _) :: r => t_pl (pc + 1) S r
  | _ => none
theorem q_li (f : Int64 → Int32 → Int64) (ht : TH sp ρ h) (hw : TW ρ K KA S lv' st' h σ α) (hs : t_sk σ α ρ st st') : T_P sp ρ W K KA (jx_li pc S st) h (e_li f pc lv' st' h) := by
  unfold jx_li
  split
  · next u1 u2 r =>
    obtain ⟨v, q, e1, ⟨y', rfl, _⟩, hq1⟩ := t_sc hs
    obtain ⟨v, q2, e2, ⟨x', rfl⟩, hq⟩ := t_sc hq1
    subst e2
    subst e1
    exact q_pl (x := f x' y') ht hw hq
  · exact q_no
def jx_il (pc : Nat) (S : AST) (st : List AT) : Option (List AO) := match st with
  | .inl _ :: r => t_pl (pc + 1) S r
  | _ => none
theorem q_il (f : Int32 → Int64) (ht : TH sp ρ h) (hw : TW ρ K KA S lv' st' h σ α) (hs : t_sk σ α ρ st st') : T_P sp ρ W K KA (jx_il pc S st) h (e_i (fun x => .long (f x)) pc lv' st' h) := by
  unfold jx_il
  split
  · next u1 r =>
    obtain ⟨v, q, e1, ⟨y', rfl, _⟩, hq⟩ := t_sc hs
    subst e1
    exact q_pl (x := f y') ht hw hq
  · exact q_no
def jx_l1 (pc : Nat) (S : AST) (st : List AT) : Option (List AO) := match st with
  | .inr (.inl _) :: r => t_pl (pc + 1) S r
  | _ => none
theorem q_l1 (f : Int64 → Int64) (ht : TH sp ρ h) (hw : TW ρ K KA S lv' st' h σ α) (hs : t_sk σ α ρ st st') : T_P sp ρ W K KA (jx_l1 pc S st) h (e_l (fun x => .long (f x)) pc lv' st' h) := by
  unfold jx_l1
  split
  · next u1 r =>
    obtain ⟨v, q, e1, ⟨y', rfl⟩, hq⟩ := t_sc hs
    subst e1
    exact q_pl (x := f y') ht hw hq
  · exact q_no
def jx_l2i (pc : Nat) (S : AST) (st : List AT) : Option (List AO) := match st with
  | .inr (.inl _) :: r => t_pi (pc + 1) S r (-2147483648) 2147483647
  | _ => none
theorem q_l2i (f : Int64 → Int32) (ht : TH sp ρ h) (hw : TW ρ K KA S lv' st' h σ α) (hs : t_sk σ α ρ st st') : T_P sp ρ W K KA (jx_l2i pc S st) h (e_l (fun x => .int (f x)) pc lv' st' h) := by
  unfold jx_l2i
  split
  · next u1 r =>
    obtain ⟨v, q, e1, ⟨y', rfl⟩, hq⟩ := t_sc hs
    subst e1
    obtain ⟨k1, k2⟩ := g_iT (f y')
    exact q_pi ht hw hq k1 k2
  · exact q_no
end
end
section
-- the checker's ways: locals, branches
def a_cat (t : AT) : Nat := match t with
  | .inr (.inl _) => 2
  | _ => 1
def a_s1 (lv : List (Nat × AT)) (i : Nat) (v : AT) : List (Nat × AT) := (i, v) :: lv.filter (fun q => !(q.1 == i) && !(q.1 + 1 == i && a_cat q.2 == 2))
def a_s2 (lv : List (Nat × AT)) (i : Nat) (v : AT) : List (Nat × AT) := (i, v) :: lv.filter (fun q => !(q.1 == i) && (!(q.1 == i + 1) && !(q.1 + 1 == i && a_cat q.2 == 2)))
section
variable {sp : List RS} {ρ : Nat → Nat} {W : List (Nat × Nat)} {K : List Int} {KA : List Nat} {S : AST} {lv' : List (Nat × Value)} {st' : List Value} {h : MH} {pc : Nat} {st : List AT} {σ : Nat → Int} {α : Nat → Nat}
theorem a_catE {t : AT} {v : Value} (h : t_at σ α ρ t v) : v.category = a_cat t := by
  cases t with
  | inl e =>
    obtain ⟨x, rfl, -⟩ := h
    rfl
  | inr t => cases t with
    | inl u =>
      obtain ⟨x, rfl⟩ := h
      rfl
    | inr q =>
      obtain ⟨rfl, -⟩ := h
      rfl
theorem t_lk {k : Nat} {a : AT} {l : List (Nat × AT)} {v : List (Nat × Value)} (h : t_lv σ α ρ l v) (e : m_lk l k = some a) : ∃ x, m_lk v k = some x ∧ t_at σ α ρ a x := h _ (m_lkm e)
theorem m_lkf {p : Nat × Value → Bool} {k : Nat} {x : Value} (hp : p (k, x) = true) : ∀ {v : List (Nat × Value)}, m_lk v k = some x → m_lk (v.filter p) k = some x
  | [], e => by cases e
  | q :: r, e => by
    rw [m_lkc] at e
    rw [List.filter_cons]
    by_cases hk : q.1 = k
    · rw [if_pos hk] at e
      have hq : q = (k, x) := by
        cases e
        rw [← hk]
      rw [hq, if_pos hp, m_lkc, if_pos rfl]
    · rw [if_neg hk] at e
      split
      · rw [m_lkc, if_neg hk]
        exact m_lkf hp e
      · exact m_lkf hp e
theorem t_s1 {l : List (Nat × AT)} {v : List (Nat × Value)} {k : Nat} {a : AT} {x : Value} (h : t_lv σ α ρ l v) (hv : t_at σ α ρ a x) : t_lv σ α ρ (a_s1 l k a) (m_s1 v k x) := fun q hq => by
  unfold m_s1
  rcases List.mem_cons.mp hq with e | hq
  · rw [e, m_lkc, if_pos rfl]
    exact ⟨x, rfl, hv⟩
  · obtain ⟨m1, m2⟩ := List.mem_filter.mp hq
    obtain ⟨y, h1, h2⟩ := h q m1
    have hne : ¬ k = q.1 := fun e => by
      rw [e] at m2
      simp at m2
    refine ⟨y, ?_, h2⟩
    rw [m_lkc, if_neg hne]
    refine m_lkf ?_ h1
    dsimp only
    rw [a_catE h2]
    exact m2
theorem t_s2 {l : List (Nat × AT)} {v : List (Nat × Value)} {k : Nat} {a : AT} {x : Value} (h : t_lv σ α ρ l v) (hv : t_at σ α ρ a x) : t_lv σ α ρ (a_s2 l k a) (m_s2 v k x) := fun q hq => by
  unfold m_s2
  rcases List.mem_cons.mp hq with e | hq
  · rw [e, m_lkc, if_pos rfl]
    exact ⟨x, rfl, hv⟩
  · obtain ⟨m1, m2⟩ := List.mem_filter.mp hq
    obtain ⟨y, h1, h2⟩ := h q m1
    have hne : ¬ k = q.1 := fun e => by
      rw [e] at m2
      simp at m2
    refine ⟨y, ?_, h2⟩
    rw [m_lkc, if_neg hne]
    refine m_lkf ?_ h1
    dsimp only
    rw [a_catE h2]
    exact m2
end
-- loads and stores
def j_ild (k pc : Nat) (S : AST) : Option (List AO) := match m_lk (a_lv S) k with
  | some (.inl e) => t_pe pc S (a_st S) e
  | _ => none
def j_lld (k pc : Nat) (S : AST) : Option (List AO) := match m_lk (a_lv S) k with
  | some (.inr (.inl _)) => t_pl pc S (a_st S)
  | _ => none
def j_ald (k pc : Nat) (S : AST) : Option (List AO) := match m_lk (a_lv S) k with
  | some (.inr (.inr q)) => t_go pc S (.inr (.inr q) :: a_st S)
  | _ => none
def t_gl (pc : Nat) (S : AST) (lv : List (Nat × AT)) (st : List AT) : Option (List AO) := some [(pc, w_fs S lv st)]
def j_ist (n k pc : Nat) (S : AST) : Option (List AO) := match a_st S with
  | .inl e :: r => if k < n then t_gl pc S (a_s1 (a_lv S) k (.inl e)) r else none
  | _ => none
def j_lst (n k pc : Nat) (S : AST) : Option (List AO) := match a_st S with
  | .inr (.inl u) :: r => if k + 1 < n then t_gl pc S (a_s2 (a_lv S) k (.inr (.inl u))) r else none
  | _ => none
def j_ast (n k pc : Nat) (S : AST) : Option (List AO) := match a_st S with
  | .inr (.inr q) :: r => if k < n then t_gl pc S (a_s1 (a_lv S) k (.inr (.inr q))) r else none
  | _ => none
-- what a branch teaches: none, if it can't be
def t_rg (S : AST) (k : Nat) (lo hi : Int) : Option AST := if hi < lo then none else some (w_iv S ((k, (lo, hi)) :: a_iv S))
-- what a constraint says of each of its symbols by the others' ranges
def t_tg1 (k : Nat) (a : Int) (e : LE) (iv : IV) : IV := match m_lk iv k, l_ub iv (l_add (-1) e.1 [(k, a)]) with
  | some p, some u => if a = 1 then (if u - e.2 < p.2 then (k, (p.1, u - e.2)) :: iv else iv) else if a = -1 then (if p.1 < e.2 - u then (k, (e.2 - u, p.2)) :: iv else iv) else iv
  | _, _ => iv
def t_tg : List (Nat × Int) → LE → IV → IV
  | [], _, iv => iv
  | (k, a) :: r, e, iv => t_tg r e (t_tg1 k a e iv)
def t_tgS (e : LE) (S : AST) : AST := w_iv (w_cs S (e :: a_cs S)) (t_tg e.1 e (a_iv S))
def t_asm (e : LE) (S : AST) : Option AST := match e.1 with
  | [] => if 0 < e.2 then none else some S
  | [(k, a)] => (match m_lk (a_iv S) k with
    | some p => if a = 1 then t_rg S k p.1 (if -e.2 < p.2 then -e.2 else p.2) else if a = -1 then t_rg S k (if p.1 < e.2 then e.2 else p.1) p.2 else some (w_cs S (e :: a_cs S))
    | none => some (w_cs S (e :: a_cs S)))
  | _ => if le_ent (a_iv S) (a_cs S) (le_sub (le_c 1) e) = true then none else some (t_tgS e S)
def t_nq (e : LE) (S : AST) : Option AST := match e.1 with
  | [] => if e.2 = 0 then none else some S
  | [(k, a)] => (match m_lk (a_iv S) k with
    | some p => if a = 1 ∨ a = -1 then (if p.1 = -(a * e.2) then t_rg S k (p.1 + 1) p.2 else if p.2 = -(a * e.2) then t_rg S k p.1 (p.2 - 1) else some S) else some S
    | none => some S)
  | _ => some S
def t_cnd (c : ClassFile.Cond) (x y : LE) (S : AST) : Option AST := match c with
  | .lt => t_asm (le_add (le_sub x y) (le_c 1)) S
  | .ge => t_asm (le_sub y x) S
  | .gt => t_asm (le_add (le_sub y x) (le_c 1)) S
  | .le => t_asm (le_sub x y) S
  | .eq => (t_asm (le_sub x y) S).bind (t_asm (le_sub y x))
  | .ne => t_nq (le_sub x y) S
def t_neg (c : ClassFile.Cond) : ClassFile.Cond := match c with
  | .lt => .ge
  | .ge => .lt
  | .gt => .le
  | .le => .gt
  | .eq => .ne
  | .ne => .eq
def t_br (c : ClassFile.Cond) (x y : LE) (pc : Nat) (off : Int) (S : AST) (st : List AT) : Option (List AO) := if 0 ≤ (pc : Int) + off then some (((t_cnd c x y (w_fs S (a_lv S) st)).map (fun S => (((pc : Int) + off).toNat, S))).toList ++ ((t_cnd (t_neg c) x y (w_fs S (a_lv S) st)).map (fun S => (pc + 3, S))).toList) else none
section
variable {sp : List RS} {ρ : Nat → Nat} {W : List (Nat × Nat)} {K : List Int} {KA : List Nat} {S : AST} {lv' : List (Nat × Value)} {st' : List Value} {h : MH} {pc : Nat} {st : List AT} {σ : Nat → Int} {α : Nat → Nat}
theorem r_rg {k : Nat} {lo hi : Int} (hw : TW ρ K KA S lv' st' h σ α) (h1 : lo ≤ σ k) (h2 : σ k ≤ hi) : ∃ S', t_rg S k lo hi = some S' ∧ TW ρ K KA S' lv' st' h σ α := by
  unfold t_rg
  rw [if_neg (by omega)]
  obtain ⟨w1, w2, w3, w4, w5, w6, w7⟩ := hw
  refine ⟨_, rfl, fun q hq => ?_, w2, w3, w4, w5, w6, w7⟩
  rcases List.mem_cons.mp hq with e | hq
  · rw [e]
    exact ⟨h1, h2⟩
  · exact w1 q hq
theorem r_cs {e : LE} (hw : TW ρ K KA S lv' st' h σ α) (he : le_ev σ e ≤ 0) : ∃ S', some (w_cs S (e :: a_cs S)) = some S' ∧ TW ρ K KA S' lv' st' h σ α := by
  obtain ⟨w1, w2, w3, w4, w5, w6, w7⟩ := hw
  refine ⟨_, rfl, w1, fun q hq => ?_, w3, w4, w5, w6, w7⟩
  rcases List.mem_cons.mp hq with e9 | hq
  · rw [e9]
    exact he
  · exact w2 q hq
theorem r_tg1 {k : Nat} {a : Int} {e : LE} {iv : IV} (hi : iv_ok σ iv) (he : le_ev σ e ≤ 0) : iv_ok σ (t_tg1 k a e iv) := by
  unfold t_tg1
  split
  · next p u hp hu =>
    have h1 := l_ubS hi _ u hu
    have h2 := iv_lk hi hp
    rw [l_addE] at h1
    have e1 : l_ev σ [(k, a)] = a * σ k := by
      show a * σ k + 0 = _
      omega
    rw [e1] at h1
    have e2 : le_ev σ e = l_ev σ e.1 + e.2 := rfl
    split
    · next ha =>
      rw [ha] at h1
      split
      · intro q hq
        rcases List.mem_cons.mp hq with e9 | hq
        · rw [e9]
          dsimp only
          omega
        · exact hi q hq
      · exact hi
    · split
      · next ha =>
        rw [ha] at h1
        split
        · intro q hq
          rcases List.mem_cons.mp hq with e9 | hq
          · rw [e9]
            dsimp only
            omega
          · exact hi q hq
        · exact hi
      · exact hi
  · exact hi
theorem r_tg {e : LE} (he : le_ev σ e ≤ 0) : ∀ (l : List (Nat × Int)) (iv : IV), iv_ok σ iv → iv_ok σ (t_tg l e iv)
  | [], _, hi => hi
  | (k, a) :: r, iv, hi => r_tg he r _ (r_tg1 hi he)
theorem r_tgS {e : LE} (hw : TW ρ K KA S lv' st' h σ α) (he : le_ev σ e ≤ 0) : ∃ S', some (t_tgS e S) = some S' ∧ TW ρ K KA S' lv' st' h σ α := by
  obtain ⟨w1, w2, w3, w4, w5, w6, w7⟩ := hw
  refine ⟨_, rfl, r_tg he e.1 _ w1, fun q hq => ?_, w3, w4, w5, w6, w7⟩
  rcases List.mem_cons.mp hq with e9 | hq
  · rw [e9]
    exact he
  · exact w2 q hq
theorem r_asm {e : LE} (hw : TW ρ K KA S lv' st' h σ α) (he : le_ev σ e ≤ 0) : ∃ S', t_asm e S = some S' ∧ TW ρ K KA S' lv' st' h σ α := by
  obtain ⟨l, c⟩ := e
  unfold t_asm
  dsimp only
  split
  · have : le_ev σ ([], c) = c := Int.zero_add c
    rw [if_neg (by omega)]
    exact ⟨S, rfl, hw⟩
  · next k a =>
    have e1 : le_ev σ ([(k, a)], c) = a * σ k + 0 + c := rfl
    split
    · next p hp =>
      have hr := iv_lk hw.1 hp
      split
      · next h1 =>
        rw [e1, h1] at he
        refine r_rg hw hr.1 ?_
        split <;> omega
      · split
        · next h1 =>
          rw [e1, h1] at he
          refine r_rg hw ?_ hr.2
          split <;> omega
        · exact r_cs hw he
    · exact r_cs hw he
  · split
    · next hn =>
      have := le_entS hw.1 hw.2.1 hn
      rw [le_subE, le_cE] at this
      omega
    · exact r_tgS hw he
theorem r_ne {e : LE} (hw : TW ρ K KA S lv' st' h σ α) (he : le_ev σ e ≠ 0) : ∃ S', t_nq e S = some S' ∧ TW ρ K KA S' lv' st' h σ α := by
  obtain ⟨l, c⟩ := e
  unfold t_nq
  dsimp only
  split
  · have : le_ev σ ([], c) = c := Int.zero_add c
    rw [if_neg (by omega)]
    exact ⟨S, rfl, hw⟩
  · next k a =>
    have e1 : le_ev σ ([(k, a)], c) = a * σ k + 0 + c := rfl
    split
    · next p hp =>
      have hr := iv_lk hw.1 hp
      split
      · next h1 =>
        have hne : σ k ≠ -(a * c) := fun z => by
          rcases h1 with h1 | h1
          · rw [e1, h1] at he
            rw [h1] at z
            omega
          · rw [e1, h1] at he
            rw [h1] at z
            omega
        split
        · next h2 => exact r_rg hw (by omega) hr.2
        · split
          · next h2 => exact r_rg hw hr.1 (by omega)
          · exact ⟨S, rfl, hw⟩
      · exact ⟨S, rfl, hw⟩
    · exact ⟨S, rfl, hw⟩
  · exact ⟨S, rfl, hw⟩
theorem r_cnd {c : ClassFile.Cond} {x y : LE} {x' y' : Int32} (hx : x'.toInt = le_ev σ x) (hy : y'.toInt = le_ev σ y) (hw : TW ρ K KA S lv' st' h σ α) (hb : m_cmp c x' y' = true) : ∃ S', t_cnd c x y S = some S' ∧ TW ρ K KA S' lv' st' h σ α := by
  cases c with
  | lt =>
    have h1 := Int32.lt_iff_toInt_lt.mp (of_decide_eq_true hb)
    exact r_asm hw (by rw [le_addE, le_subE, le_cE]; omega)
  | ge =>
    have h1 := Int32.le_iff_toInt_le.mp (of_decide_eq_true hb)
    exact r_asm hw (by rw [le_subE]; omega)
  | gt =>
    have h1 := Int32.lt_iff_toInt_lt.mp (of_decide_eq_true hb)
    exact r_asm hw (by rw [le_addE, le_subE, le_cE]; omega)
  | le =>
    have h1 := Int32.le_iff_toInt_le.mp (of_decide_eq_true hb)
    exact r_asm hw (by rw [le_subE]; omega)
  | eq =>
    have h1 : x' = y' := of_decide_eq_true hb
    obtain ⟨S1, e1, w1⟩ := r_asm (e := le_sub x y) hw (by rw [le_subE]; rw [h1] at hx; omega)
    obtain ⟨S2, e2, w2⟩ := r_asm (e := le_sub y x) w1 (by rw [le_subE]; rw [h1] at hx; omega)
    refine ⟨S2, ?_, w2⟩
    show (t_asm (le_sub x y) S).bind (t_asm (le_sub y x)) = some S2
    rw [e1]
    exact e2
  | ne =>
    have h1 : (!decide (x' = y')) = true := hb
    rw [Bool.not_eq_true'] at h1
    have h2 : ¬ x' = y' := of_decide_eq_false h1
    exact r_ne hw (by rw [le_subE]; intro z; exact h2 (Int32.toInt_inj.mp (by omega)))
theorem m_neg (c : ClassFile.Cond) (x y : Int32) : m_cmp (t_neg c) x y = !m_cmp c x y := by
  cases c with
  | lt => exact g_ge x y
  | ge =>
    show decide (x < y) = !decide (y ≤ x)
    rw [g_ge]
    cases decide (x < y) <;> rfl
  | gt => exact g_ge y x
  | le =>
    show decide (y < x) = !decide (x ≤ y)
    rw [g_ge]
    cases decide (y < x) <;> rfl
  | eq => rfl
  | ne =>
    show decide (x = y) = !(!decide (x = y))
    cases decide (x = y) <;> rfl
theorem q_br {c : ClassFile.Cond} {x y : LE} {x' y' : Int32} {off : Int} {st0 : List Value} (hx : x'.toInt = le_ev σ x) (hy : y'.toInt = le_ev σ y) (ht : TH sp ρ h) (hw : TW ρ K KA S lv' st0 h σ α) (hs : t_sk σ α ρ st st') : T_P sp ρ W K KA (t_br c x y pc off S st) h (m_br (m_cmp c x' y') pc off lv' st' h) := by
  have hw2 := q_fs (st := st) (st' := st') hw hw.2.2.2.2.2.1 hs
  unfold t_br m_br
  by_cases h0 : 0 ≤ (pc : Int) + off
  · rw [if_pos h0, if_pos h0]
    intro L e
    cases e
    cases hb : m_cmp c x' y' with
    | true =>
      obtain ⟨S', e1, w⟩ := r_cnd hx hy hw2 hb
      refine ⟨_, lv', st', h, rfl, FR.refl _ _ _, S', List.mem_append_left _ ?_, ht, σ, α, w⟩
      rw [e1]
      exact List.mem_singleton.mpr rfl
    | false =>
      obtain ⟨S', e1, w⟩ := r_cnd hx hy hw2 (c := t_neg c) (by rw [m_neg, hb]; rfl)
      refine ⟨_, lv', st', h, rfl, FR.refl _ _ _, S', List.mem_append_right _ ?_, ht, σ, α, w⟩
      rw [e1]
      exact List.mem_singleton.mpr rfl
  · rw [if_neg h0]
    exact q_no
theorem q_ild (k : Nat) (ht : TH sp ρ h) (hw : TW ρ K KA S lv' st' h σ α) : T_P sp ρ W K KA (j_ild k pc S) h (e_ild k pc lv' st' h) := by
  unfold j_ild e_ild
  split
  · next e he =>
    obtain ⟨v, e2, ⟨x, rfl, hx⟩⟩ := t_lk hw.2.2.2.2.2.1 he
    rw [e2]
    exact q_pe ht hw hw.2.2.2.2.2.2 hx
  · exact q_no
theorem q_lld (k : Nat) (ht : TH sp ρ h) (hw : TW ρ K KA S lv' st' h σ α) : T_P sp ρ W K KA (j_lld k pc S) h (e_lld k pc lv' st' h) := by
  unfold j_lld e_lld
  split
  · next u he =>
    obtain ⟨v, e2, ⟨x, rfl⟩⟩ := t_lk hw.2.2.2.2.2.1 he
    rw [e2]
    exact q_pl ht hw hw.2.2.2.2.2.2
  · exact q_no
theorem q_ald (k : Nat) (ht : TH sp ρ h) (hw : TW ρ K KA S lv' st' h σ α) : T_P sp ρ W K KA (j_ald k pc S) h (e_ald k pc lv' st' h) := by
  unfold j_ald e_ald
  split
  · next q he =>
    obtain ⟨v, e2, hv⟩ := t_lk hw.2.2.2.2.2.1 he
    have hv2 := hv
    obtain ⟨rfl, -⟩ := hv2
    rw [e2]
    exact q_go (st := .inr (.inr q) :: a_st S) ht hw ⟨hv, hw.2.2.2.2.2.2⟩
  · exact q_no
theorem q_gl {lv : List (Nat × AT)} {lv0 : List (Nat × Value)} {st0 : List Value} (ht : TH sp ρ h) (hw : TW ρ K KA S lv0 st0 h σ α) (hl : t_lv σ α ρ lv lv') (hs : t_sk σ α ρ st st') : T_P sp ρ W K KA (t_gl pc S lv st) h (m_go pc lv' st' h) := fun L e => by
  cases (Option.some.inj e)
  exact ⟨pc, lv', st', h, rfl, FR.refl _ _ _, _, List.mem_singleton.mpr rfl, ht, σ, α, q_fs hw hl hs⟩
theorem q_ist (n k : Nat) (ht : TH sp ρ h) (hw : TW ρ K KA S lv' st' h σ α) : T_P sp ρ W K KA (j_ist n k pc S) h (e_ist n k pc lv' st' h) := by
  have hs := hw.2.2.2.2.2.2
  unfold j_ist
  split
  · next e r hst =>
    rw [hst] at hs
    obtain ⟨v, q, rfl, ⟨x, rfl, hx⟩, hq⟩ := t_sc hs
    show T_P sp ρ W K KA _ h (if k < n then _ else none)
    split
    · exact q_gl ht hw (t_s1 hw.2.2.2.2.2.1 ⟨x, rfl, hx⟩) hq
    · exact q_no
  · exact q_no
theorem q_lst (n k : Nat) (ht : TH sp ρ h) (hw : TW ρ K KA S lv' st' h σ α) : T_P sp ρ W K KA (j_lst n k pc S) h (e_lst n k pc lv' st' h) := by
  have hs := hw.2.2.2.2.2.2
  unfold j_lst
  split
  · next u r hst =>
    rw [hst] at hs
    obtain ⟨v, q, rfl, ⟨x, rfl⟩, hq⟩ := t_sc hs
    show T_P sp ρ W K KA _ h (if k + 1 < n then _ else none)
    split
    · exact q_gl ht hw (t_s2 hw.2.2.2.2.2.1 ⟨x, rfl⟩) hq
    · exact q_no
  · exact q_no
theorem q_ast (n k : Nat) (ht : TH sp ρ h) (hw : TW ρ K KA S lv' st' h σ α) : T_P sp ρ W K KA (j_ast n k pc S) h (e_ast n k pc lv' st' h) := by
  have hs := hw.2.2.2.2.2.2
  unfold j_ast
  split
  · next q0 r hst =>
    rw [hst] at hs
    obtain ⟨v, q, rfl, hv, hq⟩ := t_sc hs
    have hv2 := hv
    obtain ⟨rfl, -⟩ := hv2
    show T_P sp ρ W K KA _ h (if k < n then _ else none)
    split
    · exact q_gl ht hw (t_s1 hw.2.2.2.2.2.1 hv) hq
    · exact q_no
  · exact q_no
end
end
section
-- the checker's readings of the heap
def c_lk : CA → (Nat × (Nat × Nat)) → Option AT
  | [], _ => none
  | q :: r, k => if q.1 = k then some q.2 else c_lk r k
theorem c_lkm : ∀ {ca : CA} {k : Nat × (Nat × Nat)} {t : AT}, c_lk ca k = some t → (k, t) ∈ ca
  | [], _, _, h => by cases h
  | q :: r, k, t, h => by
    rw [c_lk] at h
    by_cases hq : q.1 = k
    · rw [if_pos hq] at h
      cases h
      rw [← hq]
      exact List.mem_cons_self
    · rw [if_neg hq] at h
      exact List.mem_cons_of_mem _ (c_lkm h)
-- a new int from a field, with its range, and the field known by it (if it is to be: kn)
def t_ri (pc : Nat) (S : AST) (st : List AT) (kn : Bool) (o R k : Nat) (lo hi : Int) : Option (List AO) := if f_S (a_nx S) (w_fs S (a_lv S) st) = true ∧ o ≠ a_nx S ∧ k < 5000 then some [(pc, w_nx (w_fs (w_ca (w_iv S ((a_nx S, (lo, hi)) :: a_iv S)) (if kn then ((o, (R, k)), .inl (le_s (a_nx S))) :: a_ca S else a_ca S)) (a_lv S) (.inl (le_s (a_nx S)) :: st)) (a_nx S + 1))] else none
def t_rr (pc : Nat) (S : AST) (st : List AT) (kn : Bool) (o R k R2 : Nat) (nn : Bool) : Option (List AO) := if f_S (a_nx S) (w_fs S (a_lv S) st) = true ∧ o ≠ a_nx S ∧ k < 5000 then some [(pc, w_nx (w_fs (w_ca S (if kn then ((o, (R, k)), .inr (.inr (a_nx S, (R2, nn)))) :: a_ca S else a_ca S)) (a_lv S) (.inr (.inr (a_nx S, (R2, nn))) :: st)) (a_nx S + 1))] else none
section
variable {sp : List RS} {ρ : Nat → Nat} {W : List (Nat × Nat)} {K : List Int} {KA : List Nat} {S : AST} {lv' : List (Nat × Value)} {st' : List Value} {h : MH} {pc : Nat} {st : List AT} {σ : Nat → Int} {α : Nat → Nat}
theorem q_ri {st0 : List Value} {kn : Bool} {o R k : Nat} {lo hi : Int} {x : Int32} (ht : TH sp ρ h) (hw : TW ρ K KA S lv' st0 h σ α) (hs : t_sk σ α ρ st st') (h1 : lo ≤ x.toInt) (h2 : x.toInt ≤ hi) (hk : kn = true → (α o ≠ 0 ∧ ρ (α o) = R) ∧ (if k = 1000 then ((h_k h (α o)).2 : Int) = x.toInt else (h_i h (α o) k).toInt = x.toInt)) : T_P sp ρ W K KA (t_ri pc S st kn o R k lo hi) h (m_go pc lv' (.int x :: st') h) := fun L e9 => by
  unfold t_ri at e9
  split at e9
  · next hf =>
    cases (Option.some.inj e9)
    have hw2 := f_SS x.toInt 0 hf.1 (q_fs hw hw.2.2.2.2.2.1 hs)
    refine ⟨pc, lv', _, h, rfl, FR.refl _ _ _, _, List.mem_singleton.mpr rfl, ht, s_up σ (a_nx S) x.toInt, o_up α (a_nx S) 0, ?_⟩
    obtain ⟨w1, w2, w3, w4, w5, w6, w7⟩ := hw2
    have hn : s_up σ (a_nx S) x.toInt (a_nx S) = x.toInt := if_pos rfl
    have ho : o_up α (a_nx S) 0 o = α o := if_neg hf.2.1
    refine ⟨fun q hq => ?_, w2, ?_, w4, w5, w6, ⟨x, rfl, by rw [le_sE, hn]⟩, w7⟩
    · rcases List.mem_cons.mp hq with e | hq
      · rw [e]
        show lo ≤ s_up σ (a_nx S) x.toInt (a_nx S) ∧ s_up σ (a_nx S) x.toInt (a_nx S) ≤ hi
        rw [hn]
        exact ⟨h1, h2⟩
      · exact w1 q hq
    · cases kn with
      | false => exact w3
      | true =>
        obtain ⟨g1, g2⟩ := hk rfl
        intro q hq
        rcases List.mem_cons.mp hq with e | hq
        · rw [e]
          refine ⟨?_, ?_⟩
          · show o_up α (a_nx S) 0 o ≠ 0 ∧ ρ (o_up α (a_nx S) 0 o) = R
            rw [ho]
            exact g1
          · show if k = 1000 then ((h_k h (o_up α (a_nx S) 0 o)).2 : Int) = le_ev (s_up σ (a_nx S) x.toInt) (le_s (a_nx S)) else (h_i h (o_up α (a_nx S) 0 o) (t_kx (s_up σ (a_nx S) x.toInt) k)).toInt = le_ev (s_up σ (a_nx S) x.toInt) (le_s (a_nx S))
            rw [ho, le_sE, hn, t_kxl hf.2.2]
            exact g2
        · exact w3 q hq
  · cases e9
theorem q_rr {st0 : List Value} {kn : Bool} {o R k R2 a : Nat} {nn : Bool} (ht : TH sp ρ h) (hw : TW ρ K KA S lv' st0 h σ α) (hs : t_sk σ α ρ st st') (hr : t_rf ρ R2 nn a) (hk : kn = true → (α o ≠ 0 ∧ ρ (α o) = R) ∧ h_r h (α o) k = a) : T_P sp ρ W K KA (t_rr pc S st kn o R k R2 nn) h (m_go pc lv' (.ref a :: st') h) := fun L e9 => by
  unfold t_rr at e9
  split at e9
  · next hf =>
    cases (Option.some.inj e9)
    have hw2 := f_SS 0 a hf.1 (q_fs hw hw.2.2.2.2.2.1 hs)
    refine ⟨pc, lv', _, h, rfl, FR.refl _ _ _, _, List.mem_singleton.mpr rfl, ht, s_up σ (a_nx S) 0, o_up α (a_nx S) a, ?_⟩
    obtain ⟨w1, w2, w3, w4, w5, w6, w7⟩ := hw2
    have hn : o_up α (a_nx S) a (a_nx S) = a := if_pos rfl
    have ho : o_up α (a_nx S) a o = α o := if_neg hf.2.1
    refine ⟨w1, w2, ?_, w4, w5, w6, ⟨?_, ?_⟩, w7⟩
    · cases kn with
      | false => exact w3
      | true =>
        obtain ⟨g1, g2⟩ := hk rfl
        intro q hq
        rcases List.mem_cons.mp hq with e | hq
        · rw [e]
          refine ⟨?_, ?_, ?_⟩
          · show o_up α (a_nx S) a o ≠ 0 ∧ ρ (o_up α (a_nx S) a o) = R
            rw [ho]
            exact g1
          · show h_r h (o_up α (a_nx S) a o) (t_kx (s_up σ (a_nx S) 0) k) = o_up α (a_nx S) a (a_nx S)
            rw [ho, hn, t_kxl hf.2.2]
            exact g2
          · show t_rf ρ R2 nn (o_up α (a_nx S) a (a_nx S))
            rw [hn]
            exact hr
        · exact w3 q hq
    · show Value.ref a = Value.ref (o_up α (a_nx S) a (a_nx S))
      rw [hn]
    · show t_rf ρ R2 nn (o_up α (a_nx S) a (a_nx S))
      rw [hn]
      exact hr
  · cases e9
theorem t_nn {R a : Nat} (h : t_rf ρ R true a) : a ≠ 0 ∧ ρ a = R := by
  rcases h with ⟨-, h⟩ | h
  · cases h
  · exact ⟨h.1, h.2.2⟩
theorem t_spec {R a : Nat} {rs : RS} (ht : TH sp ρ h) (hR : R ≠ 0) (hsp : sp[R]? = some rs) (ha : ρ a = R) : t_cell ρ rs h a := by
  obtain ⟨-, rs2, h1, h2⟩ := ht.2 a (by rw [ha]; exact hR)
  rw [ha, hsp] at h1
  cases h1
  exact h2
end
end
section
-- getfield, an array's length, an array's elements
def j_get (sp : List RS) (i idx pc : Nat) (S : AST) : Option (List AO) := match a_st S, m_fl i idx with
  | .inr (.inr (o, (R, true))) :: r, some (_, c, k) => if R = 0 ∨ 1000 ≤ k then none else (match sp[R]? with
    | some rs => if rs.1.1 = c + 1 ∧ rs.2.2.1 = false then (match c_lk (a_ca S) (o, (R, k)) with
      | some (.inl e) => if (m_ty c k).1 = 0 then t_pe (pc + 3) S r e else none
      | some (.inr (.inl _)) => none
      | some (.inr (.inr q)) => if (m_ty c k).1 = 2 then t_go (pc + 3) S (.inr (.inr q) :: r) else none
      | none => (match r_ft rs k with
        | some (.inl p) => if (m_ty c k).1 = 0 then t_ri (pc + 3) S r true o R k p.1 p.2 else none
        | some (.inr (.inl _)) => if (m_ty c k).1 = 1 then t_pl (pc + 3) S r else none
        | some (.inr (.inr q)) => if (m_ty c k).1 = 2 then t_rr (pc + 3) S r true o R k q.1 q.2 else none
        | none => none)) else none
    | none => none)
  | _, _ => none
section
variable {sp : List RS} {ρ : Nat → Nat} {W : List (Nat × Nat)} {K : List Int} {KA : List Nat} {S : AST} {lv' : List (Nat × Value)} {st' : List Value} {h : MH} {pc : Nat} {st : List AT} {σ : Nat → Int} {α : Nat → Nat}
theorem q_get (i idx : Nat) (ht : TH sp ρ h) (hw : TW ρ K KA S lv' st' h σ α) : T_P sp ρ W K KA (j_get sp i idx pc S) h (e_get i idx pc lv' st' h) := by
  have hs := hw.2.2.2.2.2.2
  unfold j_get
  split
  · next o R r z c k hst ef =>
    rw [hst] at hs
    obtain ⟨v, q, rfl, ⟨rfl, hrf⟩, hq⟩ := t_sc hs
    obtain ⟨ha0, haR⟩ := t_nn hrf
    dsimp only at ha0 haR
    split
    · exact q_no
    · next hR =>
      split
      · next rs hsp =>
        have hcell := t_spec ht (fun z => hR (Or.inl z)) hsp haR
        by_cases hk : rs.1.1 = c + 1 ∧ rs.2.2.1 = false
        · rw [if_pos hk]
          have hk2 : (h_k h (α o)).1 = c + 1 := hcell.1.trans hk.1
          unfold e_get
          rw [ef]
          dsimp only
          rw [if_pos hk2]
          split
          · next e he =>
            have hc := hw.2.2.1 _ (c_lkm he)
            have hv : (h_i h (α o) k).toInt = le_ev σ e := by
              have := hc.2
              unfold t_fv at this
              dsimp only at this
              rw [if_neg (fun z => hR (Or.inr (by omega))), t_kxl (by omega)] at this
              exact this
            split
            · next htag =>
              rw [htag]
              exact q_pe ht hw hq hv
            · exact q_no
          · exact q_no
          · next q2 he =>
            have hc := hw.2.2.1 _ (c_lkm he)
            obtain ⟨e1, e2⟩ := hc.2
            have e3 : h_r h (α o) k = α q2.1 := by
              dsimp only at e1
              rw [t_kxl (show k < 5000 by omega)] at e1
              exact e1
            split
            · next htag =>
              rw [htag]
              rw [e3]
              exact q_go (st := .inr (.inr q2) :: r) ht hw ⟨⟨rfl, e2⟩, hq⟩
            · exact q_no
          · split
            · next p hft =>
              have hf := hcell.2.2.2 k _ hft (fun z => by rw [hk.2] at z; cases z)
              split
              · next htag =>
                rw [htag]
                refine q_ri ht hw hq hf.1 hf.2 (fun _ => ⟨⟨ha0, haR⟩, ?_⟩)
                rw [if_neg (fun z => hR (Or.inr (by omega)))]
              · exact q_no
            · next u hft =>
              split
              · next htag =>
                rw [htag]
                exact q_pl ht hw hq
              · exact q_no
            · next q2 hft =>
              have hf := hcell.2.2.2 k _ hft (fun z => by rw [hk.2] at z; cases z)
              split
              · next htag =>
                rw [htag]
                exact q_rr ht hw hq hf (fun _ => ⟨⟨ha0, haR⟩, rfl⟩)
              · exact q_no
            · exact q_no
        · rw [if_neg hk]
          exact q_no
      · exact q_no
  · exact q_no
end
end
section
-- more of the checker's steps: known numbers, what stands still, turns of the stack
def j_psh (pc : Nat) (S : AST) (x : Int32) : Option (List AO) := t_pe pc S (a_st S) (le_c x.toInt)
section
variable {sp : List RS} {ρ : Nat → Nat} {W : List (Nat × Nat)} {K : List Int} {KA : List Nat} {S : AST} {lv' : List (Nat × Value)} {st' : List Value} {h : MH} {pc : Nat} {st : List AT} {σ : Nat → Int} {α : Nat → Nat}
theorem q_psh (x : Int32) (ht : TH sp ρ h) (hw : TW ρ K KA S lv' st' h σ α) : T_P sp ρ W K KA (j_psh pc S x) h (m_go pc lv' (.int x :: st') h) := q_pe ht hw hw.2.2.2.2.2.2 (le_cE σ _).symm
end
def j_inc (n k : Nat) (z : Int) (pc : Nat) (S : AST) : Option (List AO) := match m_lk (a_lv S) k with
  | some (.inl e) => if k < n ∧ t_in32 S (le_add e (le_c z)) = true ∧ -128 ≤ z ∧ z ≤ 32767 then t_gl (pc + 3) S (a_s1 (a_lv S) k (.inl (le_add e (le_c z)))) (a_st S) else none
  | _ => none
def j_dup (pc : Nat) (S : AST) : Option (List AO) := match a_st S with
  | v :: r => if a_cat v = 1 then t_go (pc + 1) S (v :: v :: r) else none
  | _ => none
def j_pop (pc : Nat) (S : AST) : Option (List AO) := match a_st S with
  | v :: r => if a_cat v = 1 then t_go (pc + 1) S r else none
  | _ => none
def j_pop2 (pc : Nat) (S : AST) : Option (List AO) := match a_st S with
  | v :: r => if a_cat v = 2 then t_go (pc + 1) S r else none
  | _ => none
def j_dup2 (pc : Nat) (S : AST) : Option (List AO) := match a_st S with
  | v :: w :: r => if a_cat v = 1 ∧ a_cat w = 1 then t_go (pc + 1) S (v :: w :: v :: w :: r) else none
  | _ => none
def t_to (pc : Nat) (off : Int) (S : AST) (st : List AT) : Option (List AO) := if 0 ≤ (pc : Int) + off then t_go ((pc : Int) + off).toNat S st else none
def j_if (c : ClassFile.Cond) (off : Int) (pc : Nat) (S : AST) : Option (List AO) := match a_st S with
  | .inl x :: r => t_br c x (le_c 0) pc off S r
  | _ => none
def j_ic (c : ClassFile.Cond) (off : Int) (pc : Nat) (S : AST) : Option (List AO) := match a_st S with
  | .inl y :: .inl x :: r => t_br c x y pc off S r
  | _ => none
section
variable {sp : List RS} {ρ : Nat → Nat} {W : List (Nat × Nat)} {K : List Int} {KA : List Nat} {S : AST} {lv' : List (Nat × Value)} {st' : List Value} {h : MH} {pc : Nat} {st : List AT} {σ : Nat → Int} {α : Nat → Nat}
theorem q_inc (n k : Nat) (z : Int) (ht : TH sp ρ h) (hw : TW ρ K KA S lv' st' h σ α) : T_P sp ρ W K KA (j_inc n k z pc S) h (e_inc n k z pc lv' st' h) := by
  unfold j_inc e_inc
  split
  · next e he =>
    obtain ⟨v, e2, ⟨x, rfl, hx⟩⟩ := t_lk hw.2.2.2.2.2.1 he
    rw [e2]
    dsimp only
    split
    · next hc =>
      obtain ⟨c1, c2, c3, c4⟩ := hc
      rw [if_pos c1]
      obtain ⟨k1, k2⟩ := q_in32 hw c2
      rw [le_addE, le_cE, ← hx] at k1 k2
      have hz : (Int32.ofInt z).toInt = z := i_ofInt z (by omega) (by omega)
      refine q_gl ht hw (t_s1 hw.2.2.2.2.2.1 ⟨_, rfl, ?_⟩) hw.2.2.2.2.2.2
      rw [i_add _ _ (by rw [hz]; exact k1) (by rw [hz]; exact k2), hz, le_addE, le_cE, hx]
    · exact q_no
  · exact q_no
theorem q_dup (ht : TH sp ρ h) (hw : TW ρ K KA S lv' st' h σ α) (i : Nat) : T_P sp ρ W K KA (j_dup pc S) h (m_ex i pc .dup lv' st' h) := by
  have hs := hw.2.2.2.2.2.2
  unfold j_dup
  split
  · next a r hst =>
    rw [hst] at hs
    obtain ⟨v, q, rfl, hv, hq⟩ := t_sc hs
    show T_P sp ρ W K KA _ h (if v.category = 1 then m_go (pc + 1) lv' (v :: v :: q) h else none)
    rw [a_catE hv]
    split
    · exact q_go (st := a :: a :: r) ht hw ⟨hv, hv, hq⟩
    · exact q_no
  · exact q_no
theorem q_pop (ht : TH sp ρ h) (hw : TW ρ K KA S lv' st' h σ α) (i : Nat) : T_P sp ρ W K KA (j_pop pc S) h (m_ex i pc .pop lv' st' h) := by
  have hs := hw.2.2.2.2.2.2
  unfold j_pop
  split
  · next a r hst =>
    rw [hst] at hs
    obtain ⟨v, q, rfl, hv, hq⟩ := t_sc hs
    show T_P sp ρ W K KA _ h (if v.category = 1 then m_go (pc + 1) lv' q h else none)
    rw [a_catE hv]
    split
    · exact q_go ht hw hq
    · exact q_no
  · exact q_no
theorem q_pop2 (ht : TH sp ρ h) (hw : TW ρ K KA S lv' st' h σ α) (i : Nat) : T_P sp ρ W K KA (j_pop2 pc S) h (m_ex i pc .pop2 lv' st' h) := by
  have hs := hw.2.2.2.2.2.2
  unfold j_pop2
  split
  · next a r hst =>
    rw [hst] at hs
    obtain ⟨v, q, rfl, hv, hq⟩ := t_sc hs
    show T_P sp ρ W K KA _ h (if v.category = 2 then m_go (pc + 1) lv' q h else none)
    rw [a_catE hv]
    split
    · exact q_go ht hw hq
    · exact q_no
  · exact q_no
theorem q_to (off : Int) {st0 : List Value} (ht : TH sp ρ h) (hw : TW ρ K KA S lv' st0 h σ α) (hs : t_sk σ α ρ st st') : T_P sp ρ W K KA (t_to pc off S st) h (m_tg pc off lv' st' h) := by
  unfold t_to m_tg
  split
  · exact q_go ht hw hs
  · exact q_no
theorem q_if (c : ClassFile.Cond) (off : Int) (ht : TH sp ρ h) (hw : TW ρ K KA S lv' st' h σ α) (i : Nat) : T_P sp ρ W K KA (j_if c off pc S) h (m_ex i pc (.ifCond c off) lv' st' h) := by
  have hs := hw.2.2.2.2.2.2
  unfold j_if
  split
  · next x r hst =>
    rw [hst] at hs
    obtain ⟨v, q, rfl, ⟨x', rfl, hx⟩, hq⟩ := t_sc hs
    exact q_br hx (show (0 : Int32).toInt = le_ev σ (le_c 0) by rw [le_cE]; decide) ht hw hq
  · exact q_no
theorem q_ic (c : ClassFile.Cond) (off : Int) (ht : TH sp ρ h) (hw : TW ρ K KA S lv' st' h σ α) (i : Nat) : T_P sp ρ W K KA (j_ic c off pc S) h (m_ex i pc (.if_icmp c off) lv' st' h) := by
  have hs := hw.2.2.2.2.2.2
  unfold j_ic
  split
  · next y x r hst =>
    rw [hst] at hs
    obtain ⟨v, q, rfl, ⟨y', rfl, hy⟩, hq1⟩ := t_sc hs
    obtain ⟨v, q, rfl, ⟨x', rfl, hx⟩, hq⟩ := t_sc hq1
    exact q_br hx hy ht hw hq
  · exact q_no
end
end
section
-- an array's length, its elements
def j_alen (sp : List RS) (pc : Nat) (S : AST) : Option (List AO) := match a_st S with
  | .inr (.inr (o, (R, true))) :: r => if R = 0 then none else (match sp[R]? with
    | some rs => if 20 ≤ rs.1.1 ∧ rs.1.1 < 34 ∧ rs.1.2.2 ≤ 2147483647 then (match c_lk (a_ca S) (o, (R, 1000)) with
      | some (.inl e) => t_pe (pc + 1) S r e
      | some _ => none
      | none => t_ri (pc + 1) S r true o R 1000 rs.1.2.1 rs.1.2.2) else none
    | none => none)
  | _ => none
-- a place that surely lies within
def t_ix (sp : List RS) (S : AST) (o R : Nat) (j : LE) (len : Nat) : Bool := le_ent (a_iv S) (a_cs S) (le_mul (-1) j) && (le_ent (a_iv S) (a_cs S) (le_sub j (le_c ((len : Int) - 1))) || (match c_lk (a_ca S) (o, (R, 1000)) with
  | some (.inl e) => le_ent (a_iv S) (a_cs S) (le_add (le_sub j e) (le_c 1))
  | _ => false))
def j_iald (sp : List RS) (k0 k1 pc : Nat) (S : AST) : Option (List AO) := match a_st S with
  | .inl j :: .inr (.inr (o, (R, true))) :: r => if R = 0 then none else (match sp[R]? with
    | some rs => if (rs.1.1 = k0 ∨ rs.1.1 = k1) ∧ rs.2.2.1 = true ∧ t_ix sp S o R j rs.1.2.1 = true then (match r_ft rs 0 with
      | some (.inl p) => if j.1 = [] ∧ j.2 < 1000 then (match c_lk (a_ca S) (o, (R, j.2.toNat)) with
          | some (.inl e) => t_pe (pc + 1) S r e
          | some _ => none
          | none => t_ri (pc + 1) S r true o R j.2.toNat p.1 p.2) else t_ri (pc + 1) S r false o R 0 p.1 p.2
      | _ => none) else none
    | none => none)
  | _ => none
section
variable {sp : List RS} {ρ : Nat → Nat} {W : List (Nat × Nat)} {K : List Int} {KA : List Nat} {S : AST} {lv' : List (Nat × Value)} {st' : List Value} {h : MH} {pc : Nat} {st : List AT} {σ : Nat → Int} {α : Nat → Nat}
theorem q_alen (ht : TH sp ρ h) (hw : TW ρ K KA S lv' st' h σ α) : T_P sp ρ W K KA (j_alen sp pc S) h (e_alen pc lv' st' h) := by
  have hs := hw.2.2.2.2.2.2
  unfold j_alen
  split
  · next o R r hst =>
    rw [hst] at hs
    obtain ⟨v, q, rfl, ⟨rfl, hrf⟩, hq⟩ := t_sc hs
    obtain ⟨ha0, haR⟩ := t_nn hrf
    dsimp only at ha0 haR
    split
    · exact q_no
    · next hR =>
      split
      · next rs hsp =>
        have hcell := t_spec ht hR hsp haR
        split
        · next hk =>
          unfold e_alen
          dsimp only
          rw [if_pos (show 20 ≤ (h_k h (α o)).1 ∧ (h_k h (α o)).1 < 34 by rw [hcell.1]; exact ⟨hk.1, hk.2.1⟩)]
          have hlen := hcell.2.1
          have hz : (Int32.ofNat (h_k h (α o)).2).toInt = ((h_k h (α o)).2 : Int) := Int32.toInt_ofNat_of_lt (by omega)
          split
          · next e he =>
            have hc := (hw.2.2.1 _ (c_lkm he)).2
            have hv : ((h_k h (α o)).2 : Int) = le_ev σ e := by
              unfold t_fv at hc
              dsimp only at hc
              rw [if_pos rfl] at hc
              exact hc
            exact q_pe ht hw hq (hz.trans hv)
          · exact q_no
          · refine q_ri ht hw hq (by rw [hz]; omega) (by rw [hz]; omega) (fun _ => ⟨⟨ha0, haR⟩, ?_⟩)
            rw [if_pos rfl]
            exact hz.symm
        · exact q_no
      · exact q_no
  · exact q_no
theorem m_inL {j : Int32} {n : Nat} (h : m_in j n = true) : j.toNatClampNeg < n := by
  unfold m_in at h
  rw [Bool.and_eq_true] at h
  exact of_decide_eq_true h.2
theorem t_ixZ {o R : Nat} {j : LE} {len : Nat} (hw : TW ρ K KA S lv' st' h σ α) (hl : len ≤ (h_k h (α o)).2) (k : t_ix sp S o R j len = true) : 0 ≤ le_ev σ j ∧ le_ev σ j < ((h_k h (α o)).2 : Int) := by
  unfold t_ix at k
  rw [Bool.and_eq_true, Bool.or_eq_true] at k
  have h1 := le_entS hw.1 hw.2.1 k.1
  rw [le_mulE] at h1
  refine ⟨by omega, ?_⟩
  rcases k.2 with k2 | k2
  · have h3 := le_entS hw.1 hw.2.1 k2
    rw [le_subE, le_cE] at h3
    omega
  · split at k2
    · next e he =>
      have h3 := le_entS hw.1 hw.2.1 k2
      rw [le_addE, le_subE, le_cE] at h3
      have hc := (hw.2.2.1 _ (c_lkm he)).2
      unfold t_fv at hc
      dsimp only at hc
      rw [if_pos rfl] at hc
      omega
    · cases k2
theorem t_ixS {o R : Nat} {j : LE} {x : Int32} {len n : Nat} (hw : TW ρ K KA S lv' st' h σ α) (hx : x.toInt = le_ev σ j) (hl : len ≤ (h_k h (α o)).2) (k : t_ix sp S o R j len = true) : m_in x (h_k h (α o)).2 = true := by
  unfold t_ix at k
  rw [Bool.and_eq_true, Bool.or_eq_true] at k
  have h1 := le_entS hw.1 hw.2.1 k.1
  rw [le_mulE] at h1
  have h2 : x.toInt < ((h_k h (α o)).2 : Int) := by
    rcases k.2 with k2 | k2
    · have h3 := le_entS hw.1 hw.2.1 k2
      rw [le_subE, le_cE] at h3
      omega
    · split at k2
      · next e he =>
        have h3 := le_entS hw.1 hw.2.1 k2
        rw [le_addE, le_subE, le_cE] at h3
        have hc := (hw.2.2.1 _ (c_lkm he)).2
        unfold t_fv at hc
        dsimp only at hc
        rw [if_pos rfl] at hc
        omega
      · cases k2
  unfold m_in
  rw [Bool.and_eq_true]
  refine ⟨decide_eq_true (fun q => ?_), decide_eq_true ?_⟩
  · have := Int32.lt_iff_toInt_lt.mp q
    have : (0 : Int32).toInt = 0 := by decide
    omega
  · show x.toInt.toNat < _
    omega
theorem q_iald (k0 k1 : Nat) (ht : TH sp ρ h) (hw : TW ρ K KA S lv' st' h σ α) : T_P sp ρ W K KA (j_iald sp k0 k1 pc S) h (e_iald k0 k1 pc lv' st' h) := by
  have hs := hw.2.2.2.2.2.2
  unfold j_iald
  split
  · next j o R r hst =>
    rw [hst] at hs
    obtain ⟨v, q, rfl, ⟨x, rfl, hx⟩, hq1⟩ := t_sc hs
    obtain ⟨v, q, rfl, ⟨rfl, hrf⟩, hq⟩ := t_sc hq1
    obtain ⟨ha0, haR⟩ := t_nn hrf
    dsimp only at ha0 haR
    split
    · exact q_no
    · next hR =>
      split
      · next rs hsp =>
        have hcell := t_spec ht hR hsp haR
        split
        · next hk =>
          unfold e_iald
          dsimp only
          have hin := t_ixS (n := 0) hw hx hcell.2.1.1 hk.2.2
          rw [if_pos (show ((h_k h (α o)).1 = k0 ∨ (h_k h (α o)).1 = k1) ∧ m_in x (h_k h (α o)).2 = true from ⟨by rw [hcell.1]; exact hk.1, hin⟩)]
          split
          · next p hp =>
            have e0 : r_ft rs x.toNatClampNeg = some (.inl p) := by
              unfold r_ft at hp ⊢
              rw [hk.2.1] at hp ⊢
              exact hp
            have hf := hcell.2.2.2 _ _ e0 (fun _ => m_inL hin)
            split
            · next hj =>
              have ej : x.toNatClampNeg = j.2.toNat := by
                show x.toInt.toNat = j.2.toNat
                rw [hx, le_const hj.1]
              have hne : ¬ j.2.toNat = 1000 := by omega
              split
              · next e he =>
                have hc := (hw.2.2.1 _ (c_lkm he)).2
                unfold t_fv at hc
                dsimp only at hc
                rw [if_neg hne, t_kxl (by omega)] at hc
                rw [ej]
                exact q_pe ht hw hq hc
              · exact q_no
              · refine q_ri ht hw hq hf.1 hf.2 (fun _ => ⟨⟨ha0, haR⟩, ?_⟩)
                rw [if_neg hne, ej]
            · exact q_ri ht hw hq hf.1 hf.2 (fun z => by cases z)
          · exact q_no
        · exact q_no
      · exact q_no
  · exact q_no
end
end
section
-- rows of longs and of references; null; lcmp
def j_lald (sp : List RS) (pc : Nat) (S : AST) : Option (List AO) := match a_st S with
  | .inl j :: .inr (.inr (o, (R, true))) :: r => if R = 0 then none else (match sp[R]? with
    | some rs => if rs.1.1 = 25 ∧ t_ix sp S o R j rs.1.2.1 = true then t_pl (pc + 1) S r else none
    | none => none)
  | _ => none
def j_aald (sp : List RS) (pc : Nat) (S : AST) : Option (List AO) := match a_st S with
  | .inl j :: .inr (.inr (o, (R, true))) :: r => if R = 0 then none else (match sp[R]? with
    | some rs => if (30 ≤ rs.1.1 ∧ rs.1.1 < 34) ∧ rs.2.2.1 = true ∧ t_ix sp S o R j rs.1.2.1 = true then (match r_ft rs 0 with
      | some (.inr (.inr q)) => t_rr (pc + 1) S r false o R 0 q.1 q.2
      | _ => none) else none
    | none => none)
  | _ => none
def j_lcmp (pc : Nat) (S : AST) : Option (List AO) := match a_st S with
  | .inr (.inl _) :: .inr (.inl _) :: r => t_pi (pc + 1) S r (-2147483648) 2147483647
  | _ => none
section
variable {sp : List RS} {ρ : Nat → Nat} {W : List (Nat × Nat)} {K : List Int} {KA : List Nat} {S : AST} {lv' : List (Nat × Value)} {st' : List Value} {h : MH} {pc : Nat} {st : List AT} {σ : Nat → Int} {α : Nat → Nat}
theorem q_lald (ht : TH sp ρ h) (hw : TW ρ K KA S lv' st' h σ α) : T_P sp ρ W K KA (j_lald sp pc S) h (e_lald pc lv' st' h) := by
  have hs := hw.2.2.2.2.2.2
  unfold j_lald
  split
  · next j o R r hst =>
    rw [hst] at hs
    obtain ⟨v, q, rfl, ⟨x, rfl, hx⟩, hq1⟩ := t_sc hs
    obtain ⟨v, q, rfl, ⟨rfl, hrf⟩, hq⟩ := t_sc hq1
    obtain ⟨ha0, haR⟩ := t_nn hrf
    dsimp only at ha0 haR
    split
    · exact q_no
    · next hR =>
      split
      · next rs hsp =>
        have hcell := t_spec ht hR hsp haR
        split
        · next hk =>
          unfold e_lald
          dsimp only
          have hin := t_ixS (n := 0) hw hx hcell.2.1.1 hk.2
          rw [if_pos (show (h_k h (α o)).1 = 25 ∧ m_in x (h_k h (α o)).2 = true from ⟨by rw [hcell.1]; exact hk.1, hin⟩)]
          exact q_pl ht hw hq
        · exact q_no
      · exact q_no
  · exact q_no
theorem q_aald (ht : TH sp ρ h) (hw : TW ρ K KA S lv' st' h σ α) : T_P sp ρ W K KA (j_aald sp pc S) h (e_aald pc lv' st' h) := by
  have hs := hw.2.2.2.2.2.2
  unfold j_aald
  split
  · next j o R r hst =>
    rw [hst] at hs
    obtain ⟨v, q, rfl, ⟨x, rfl, hx⟩, hq1⟩ := t_sc hs
    obtain ⟨v, q, rfl, ⟨rfl, hrf⟩, hq⟩ := t_sc hq1
    obtain ⟨ha0, haR⟩ := t_nn hrf
    dsimp only at ha0 haR
    split
    · exact q_no
    · next hR =>
      split
      · next rs hsp =>
        have hcell := t_spec ht hR hsp haR
        split
        · next hk =>
          unfold e_aald
          dsimp only
          have hin := t_ixS (n := 0) hw hx hcell.2.1.1 hk.2.2
          rw [if_pos (show (30 ≤ (h_k h (α o)).1 ∧ (h_k h (α o)).1 < 34) ∧ m_in x (h_k h (α o)).2 = true from ⟨by rw [hcell.1]; exact hk.1, hin⟩)]
          split
          · next q2 hp =>
            have e0 : r_ft rs x.toNatClampNeg = some (.inr (.inr q2)) := by
              unfold r_ft at hp ⊢
              rw [hk.2.1] at hp ⊢
              exact hp
            have hf := hcell.2.2.2 _ _ e0 (fun _ => m_inL hin)
            exact q_rr ht hw hq hf (fun z => by cases z)
          · exact q_no
        · exact q_no
      · exact q_no
  · exact q_no
theorem q_lcmp (i : Nat) (ht : TH sp ρ h) (hw : TW ρ K KA S lv' st' h σ α) : T_P sp ρ W K KA (j_lcmp pc S) h (m_ex i pc .lcmp lv' st' h) := by
  have hs := hw.2.2.2.2.2.2
  unfold j_lcmp
  split
  · next u1 u2 r hst =>
    rw [hst] at hs
    obtain ⟨v, q, rfl, ⟨y', rfl⟩, hq1⟩ := t_sc hs
    obtain ⟨v, q, rfl, ⟨x', rfl⟩, hq⟩ := t_sc hq1
    obtain ⟨k1, k2⟩ := g_iT (lg_cmp x' y')
    exact q_pi (x := lg_cmp x' y') ht hw hq k1 k2
  · exact q_no
theorem q_dup2 (ht : TH sp ρ h) (hw : TW ρ K KA S lv' st' h σ α) (i : Nat) : T_P sp ρ W K KA (j_dup2 pc S) h (m_ex i pc .dup2 lv' st' h) := by
  have hs := hw.2.2.2.2.2.2
  unfold j_dup2
  split
  · next a b r hst =>
    rw [hst] at hs
    obtain ⟨v, q, rfl, hv, hq1⟩ := t_sc hs
    obtain ⟨w, q, rfl, hw2, hq⟩ := t_sc hq1
    show T_P sp ρ W K KA _ h (if v.category = 1 ∧ w.category = 1 then m_go (pc + 1) lv' (v :: w :: v :: w :: q) h else none)
    rw [a_catE hv, a_catE hw2]
    split
    · exact q_go (st := a :: b :: a :: b :: r) ht hw ⟨hv, hw2, hv, hw2, hq⟩
    · exact q_no
  · exact q_no
end
end
section
-- null, and what isn't
def a_nn (o : Nat) (t : AT) : AT := match t with
  | .inr (.inr q) => if q.1 = o then .inr (.inr (q.1, (q.2.1, true))) else t
  | _ => t
def w_nn (o : Nat) (S : AST) : AST := w_fs (w_ca S ((a_ca S).map (fun q => (q.1, a_nn o q.2)))) ((a_lv S).map (fun q => (q.1, a_nn o q.2))) ((a_st S).map (a_nn o))
def j_null (pc : Nat) (S : AST) : Option (List AO) := t_rr pc S (a_st S) false 0 0 0 0 false
-- by a null test: one way or both (nul: pc of null, non: pc of the other)
def t_nul (sp : List RS) (nul non : Int) (S : AST) (o R : Nat) (nn : Bool) (st : List AT) : Option (List AO) := if 0 ≤ nul ∧ 0 ≤ non then (if R = 0 then (if nn = true then some [] else some [(nul.toNat, w_fs S (a_lv S) st)]) else match sp[R]? with
    | some rs => if rs.2.1 = true then some ((if nn = true then [] else [(nul.toNat, w_fs S (a_lv S) st)]) ++ [(non.toNat, w_nn o (w_fs S (a_lv S) st))]) else none
    | none => none) else none
section
variable {sp : List RS} {ρ : Nat → Nat} {W : List (Nat × Nat)} {K : List Int} {KA : List Nat} {S : AST} {lv' : List (Nat × Value)} {st' : List Value} {h : MH} {pc : Nat} {st : List AT} {σ : Nat → Int} {α : Nat → Nat}
theorem q_null (ht : TH sp ρ h) (hw : TW ρ K KA S lv' st' h σ α) : T_P sp ρ W K KA (j_null pc S) h (m_go pc lv' (.ref 0 :: st') h) := q_rr ht hw hw.2.2.2.2.2.2 (Or.inl ⟨rfl, rfl⟩) (fun z => by cases z)
theorem n_rf {o R : Nat} {nn : Bool} (ho : α o ≠ 0) (h : t_rf ρ R nn (α o)) : t_rf ρ R true (α o) := by
  rcases h with h | h
  · exact absurd h.1 ho
  · exact Or.inr h
theorem n_at {o : Nat} {t : AT} {v : Value} (ho : α o ≠ 0) (h : t_at σ α ρ t v) : t_at σ α ρ (a_nn o t) v := by
  unfold a_nn
  split
  · next q =>
    split
    · next e =>
      obtain ⟨h1, h2⟩ := h
      refine ⟨h1, ?_⟩
      dsimp only
      rw [e] at h2 ⊢
      exact n_rf ho h2
    · exact h
  · exact h
theorem n_fv {o a k : Nat} {t : AT} (ho : α o ≠ 0) (hv : t_fv σ α ρ h a k t) : t_fv σ α ρ h a k (a_nn o t) := by
  unfold a_nn
  split
  · next q =>
    split
    · next e =>
      obtain ⟨h1, h2⟩ := hv
      refine ⟨h1, ?_⟩
      dsimp only
      rw [e] at h2 ⊢
      exact n_rf ho h2
    · exact hv
  · exact hv
theorem n_sk {o : Nat} (ho : α o ≠ 0) : ∀ {t : List AT} {v : List Value}, t_sk σ α ρ t v → t_sk σ α ρ (t.map (a_nn o)) v
  | [], [], h => h
  | t :: r, v :: q, h => ⟨n_at ho h.1, n_sk ho h.2⟩
  | [], _ :: _, h => h.elim
  | _ :: _, [], h => h.elim
theorem n_lv {o : Nat} (ho : α o ≠ 0) {t : List (Nat × AT)} {v : List (Nat × Value)} (h : t_lv σ α ρ t v) : t_lv σ α ρ (t.map (fun q => (q.1, a_nn o q.2))) v := fun q hq => by
  obtain ⟨q0, h0, rfl⟩ := List.mem_map.mp hq
  obtain ⟨x, h1, h2⟩ := h q0 h0
  exact ⟨x, h1, n_at ho h2⟩
theorem n_S {o : Nat} (ho : α o ≠ 0) (hw : TW ρ K KA S lv' st' h σ α) : TW ρ K KA (w_nn o S) lv' st' h σ α := by
  obtain ⟨w1, w2, w3, w4, w5, w6, w7⟩ := hw
  refine ⟨w1, w2, fun q hq => ?_, w4, w5, n_lv ho w6, n_sk ho w7⟩
  obtain ⟨q0, h0, rfl⟩ := List.mem_map.mp hq
  obtain ⟨g1, g2⟩ := w3 q0 h0
  exact ⟨g1, n_fv ho g2⟩
theorem q_nul {nul non : Int} {o R : Nat} {nn : Bool} {st0 : List Value} {R' : Option MA} (ht : TH sp ρ h) (hw : TW ρ K KA S lv' st0 h σ α) (hs : t_sk σ α ρ st st') (hr : t_rf ρ R nn (α o)) (h0 : 0 ≤ nul → α o = 0 → R' = some (.inl (nul.toNat, lv', st', h))) (h1 : 0 ≤ non → 16 ≤ α o → R' = some (.inl (non.toNat, lv', st', h))) : T_P sp ρ W K KA (t_nul sp nul non S o R nn st) h R' := by
  have hw2 := q_fs (st := st) (st' := st') hw hw.2.2.2.2.2.1 hs
  unfold t_nul
  split
  · next hp =>
    split
    · next hR =>
      rcases hr with ⟨z1, z2⟩ | ⟨z1, z3, z2⟩
      · rw [z2]
        intro L e
        cases e
        exact ⟨_, lv', st', h, h0 hp.1 z1, FR.refl _ _ _, _, List.mem_singleton.mpr rfl, ht, σ, α, hw2⟩
      · exact absurd hR z3
    · next hR =>
      split
      · next rs hsp =>
        split
        · next hk =>
          intro L e
          cases e
          rcases hr with ⟨z1, z2⟩ | ⟨z1, z3, z2⟩
          · rw [z2]
            exact ⟨_, lv', st', h, h0 hp.1 z1, FR.refl _ _ _, _, List.mem_append_left _ (List.mem_singleton.mpr rfl), ht, σ, α, hw2⟩
          · have hcell := t_spec ht hR hsp z2
            exact ⟨_, lv', st', h, h1 hp.2 (hcell.2.2.1 hk), FR.refl _ _ _, _, List.mem_append_right _ (List.mem_singleton.mpr rfl), ht, σ, α, n_S z1 hw2⟩
        · exact q_no
      · exact q_no
  · exact q_no
end
end
section
-- an int into a field or a row
def c_out (R k : Nat) (ca : CA) : CA := ca.filter (fun q => !(q.1.2.1 == R && (q.1.2.2 == k || Nat.ble 5000 q.1.2.2)))
section
variable {sp : List RS} {ρ : Nat → Nat} {W : List (Nat × Nat)} {K : List Int} {KA : List Nat} {S : AST} {lv' : List (Nat × Value)} {st' : List Value} {h : MH} {pc : Nat} {st : List AT} {σ : Nat → Int} {α : Nat → Nat}
theorem s_siI (h : MH) (a k : Nat) (x : Int32) (b j : Nat) : h_i (h_si h a k x) b j = if b = a ∧ j = k then x else h_i h b j := by
  show m_u (h_i h) a (m_u (h_i h a) k x) b j = _
  by_cases e : b = a
  · rw [e, m_uE]
    by_cases e2 : j = k
    · rw [if_pos ⟨rfl, e2⟩, e2, m_uE]
    · rw [if_neg (fun z => e2 z.2), m_uN _ _ _ _ e2]
  · rw [m_uN _ _ _ _ e, if_neg (fun z => e z.1)]
theorem s_siT {a k R : Nat} {rs : RS} {x : Int32} {p : Int × Int} (ht : TH sp ρ h) (hR : R ≠ 0) (hsp : sp[R]? = some rs) (ha : ρ a = R) (hft : r_ft rs k = some (.inl p)) (h1 : p.1 ≤ x.toInt) (h2 : x.toInt ≤ p.2) : TH sp ρ (h_si h a k x) := by
  refine ⟨ht.1, fun b hb => ?_⟩
  obtain ⟨q1, rs2, q2, q3, q4, q5, q6⟩ := ht.2 b hb
  refine ⟨q1, rs2, q2, q3, q4, q5, fun j ft hj hjl => ?_⟩
  have q7 := q6 j ft hj hjl
  cases ft with
  | inl p2 =>
    show p2.1 ≤ (h_i (h_si h a k x) b j).toInt ∧ (h_i (h_si h a k x) b j).toInt ≤ p2.2
    rw [s_siI]
    by_cases e : b = a ∧ j = k
    · rw [if_pos e]
      rw [e.1, ha, hsp] at q2
      cases q2
      rw [e.2, hft] at hj
      cases hj
      exact ⟨h1, h2⟩
    · rw [if_neg e]
      exact q7
  | inr ft => cases ft with
    | inl u => trivial
    | inr q => exact q7
theorem s_siF {a k R : Nat} {x : Int32} (ha : ρ a = R) (hW : t_W W R k) : FR ρ W h (h_si h a k x) := by
  refine ⟨rfl, fun _ => rfl, fun b j hj => ⟨?_, rfl, rfl⟩⟩
  rw [s_siI]
  by_cases e : b = a ∧ j = k
  · rw [e.1, e.2, ha] at hj
    exact absurd hW hj
  · rw [if_neg e]
theorem s_siC {a k R : Nat} {x : Int32} {ca : CA} (hk : k ≠ 1000) (ha : ρ a = R) (hc : t_ca σ α ρ h ca) : t_ca σ α ρ (h_si h a k x) (c_out R k ca) := by
  intro q hq
  obtain ⟨m1, m2⟩ := List.mem_filter.mp hq
  obtain ⟨g1, g2⟩ := hc q m1
  refine ⟨g1, ?_⟩
  obtain ⟨⟨o, R2, k2⟩, t⟩ := q
  dsimp only at g1 g2 m2 ⊢
  have hne : ¬ (α o = a ∧ t_kx σ k2 = k) := fun e => by
    rw [e.1, ha] at g1
    rw [← g1.2] at m2
    by_cases h5 : k2 < 5000
    · rw [t_kxl h5] at e
      rw [e.2] at m2
      simp at m2
    · have : Nat.ble 5000 k2 = true := Nat.ble_eq_true_of_le (by omega)
      rw [this] at m2
      simp at m2
  cases t with
  | inl e =>
    show if k2 = 1000 then ((h_k h (α o)).2 : Int) = le_ev σ e else (h_i (h_si h a k x) (α o) (t_kx σ k2)).toInt = le_ev σ e
    rw [s_siI, if_neg hne]
    exact g2
  | inr t => cases t with
    | inl u => trivial
    | inr q => exact g2
end
end
section
-- putfield of an int, an int into a row
def t_inr (S : AST) (e : LE) (p : Int × Int) : Bool := le_ent (a_iv S) (a_cs S) (le_sub (le_c p.1) e) && le_ent (a_iv S) (a_cs S) (le_sub e (le_c p.2))
def t_Wb (W : List (Nat × Nat)) (R k : Nat) : Bool := W.any (fun q => q.1 == R && (q.2 == k || q.2 == 1001))
-- what is known of a region's elements, less what a store at j may change
def c_oE (R : Nat) (ca : CA) : CA := ca.filter (fun q => !(q.1.2.1 == R) || q.1.2.2 == 1000)
def c_oJ (S : AST) (R : Nat) (j : LE) (ca : CA) : CA := ca.filter (fun q => !(q.1.2.1 == R) || (q.1.2.2 == 1000 || (Nat.blt q.1.2.2 5000 && (le_ent (a_iv S) (a_cs S) (le_sub (le_c ((q.1.2.2 : Int) + 1)) j) || le_ent (a_iv S) (a_cs S) (le_sub (le_add j (le_c 1)) (le_c (q.1.2.2 : Int)))))))
def c_ip (S : AST) (o R : Nat) (j x : LE) : CA := if j.1 = [] ∧ j.2 < 1000 then ((o, (R, j.2.toNat)), .inl x) :: c_oJ S R j (a_ca S) else c_oJ S R j (a_ca S)
def j_iast (sp : List RS) (W : List (Nat × Nat)) (pc : Nat) (S : AST) : Option (List AO) := match a_st S with
  | .inl x :: .inl j :: .inr (.inr (o, (R, true))) :: r => if R = 0 then none else (match sp[R]? with
    | some rs => if rs.1.1 = 20 ∧ rs.2.1 = true ∧ rs.2.2.1 = true ∧ t_ix sp S o R j rs.1.2.1 = true ∧ W.contains (R, 1001) = true then (match r_ft rs 0 with
      | some (.inl p) => if t_inr S x p = true then some [(pc + 1, w_fs (w_ca S (c_ip S o R j x)) (a_lv S) r)] else none
      | _ => none) else none
    | none => none)
  | _ => none
section
variable {sp : List RS} {ρ : Nat → Nat} {W : List (Nat × Nat)} {K : List Int} {KA : List Nat} {S : AST} {lv' : List (Nat × Value)} {st' : List Value} {h : MH} {pc : Nat} {st : List AT} {σ : Nat → Int} {α : Nat → Nat}
theorem t_inrS {e : LE} {p : Int × Int} (hw : TW ρ K KA S lv' st' h σ α) (k : t_inr S e p = true) : p.1 ≤ le_ev σ e ∧ le_ev σ e ≤ p.2 := by
  unfold t_inr at k
  rw [Bool.and_eq_true] at k
  have h1 := le_entS hw.1 hw.2.1 k.1
  have h2 := le_entS hw.1 hw.2.1 k.2
  rw [le_subE, le_cE] at h1 h2
  omega
theorem s_siC2 {a k R : Nat} {x : Int32} {ca : CA} (hR : ρ a = R) (hc : t_ca σ α ρ h ca) (hn : ∀ q ∈ ca, q.1.2.1 = R → q.1.2.2 = 1000 ∨ t_kx σ q.1.2.2 ≠ k) : t_ca σ α ρ (h_si h a k x) ca := by
  intro q hq
  obtain ⟨g1, g2⟩ := hc q hq
  refine ⟨g1, ?_⟩
  have hn2 := hn q hq
  obtain ⟨⟨o, R2, k2⟩, t⟩ := q
  dsimp only at g1 g2 hn2 ⊢
  cases t with
  | inl e =>
    show if k2 = 1000 then ((h_k h (α o)).2 : Int) = le_ev σ e else (h_i (h_si h a k x) (α o) (t_kx σ k2)).toInt = le_ev σ e
    by_cases hk : k2 = 1000
    · rw [if_pos hk]
      have g3 : if k2 = 1000 then ((h_k h (α o)).2 : Int) = le_ev σ e else (h_i h (α o) (t_kx σ k2)).toInt = le_ev σ e := g2
      rw [if_pos hk] at g3
      exact g3
    · have hne : ¬ (α o = a ∧ t_kx σ k2 = k) := fun z => by
        rw [z.1, hR] at g1
        rcases hn2 g1.2.symm with z2 | z2
        · exact hk z2
        · exact z2 z.2
      rw [s_siI, if_neg hne]
      exact g2
  | inr t => cases t with
    | inl u => trivial
    | inr q => exact g2
theorem t_caF {p : ((Nat × (Nat × Nat)) × AT) → Bool} {ca : CA} (hc : t_ca σ α ρ h ca) : t_ca σ α ρ h (ca.filter p) := fun q hq => hc q (List.mem_filter.mp hq).1
theorem s_siE {a k R : Nat} {x : Int32} {ca : CA} (hR : ρ a = R) (hc : t_ca σ α ρ h ca) : t_ca σ α ρ (h_si h a k x) (c_oE R ca) := s_siC2 hR (t_caF hc) (fun q hq e => by
  obtain ⟨-, m⟩ := List.mem_filter.mp hq
  rw [e] at m
  simp at m
  exact Or.inl m)
theorem s_siP {o R : Nat} {j e : LE} {x' j' : Int32} (hw : TW ρ K KA S lv' st' h σ α) (ha : α o ≠ 0) (hR : ρ (α o) = R) (hj : j'.toInt = le_ev σ j) (hx : x'.toInt = le_ev σ e) (h0 : 0 ≤ j'.toInt) : t_ca σ α ρ (h_si h (α o) j'.toNatClampNeg x') (c_ip S o R j e) := by
  have ej : j'.toNatClampNeg = j'.toInt.toNat := rfl
  have key : t_ca σ α ρ (h_si h (α o) j'.toNatClampNeg x') (c_oJ S R j (a_ca S)) := s_siC2 hR (t_caF hw.2.2.1) (fun q hq eR => by
    obtain ⟨-, m⟩ := List.mem_filter.mp hq
    rw [eR, beq_self_eq_true, Bool.not_true, Bool.false_or, Bool.or_eq_true, Bool.and_eq_true, Bool.or_eq_true] at m
    rcases m with m | ⟨m5, m | m⟩
    · exact Or.inl (beq_iff_eq.mp m)
    · have := le_entS hw.1 hw.2.1 m
      rw [le_subE, le_cE] at this
      exact Or.inr (by rw [ej, t_kxl (Nat.le_of_ble_eq_true m5)]; omega)
    · have := le_entS hw.1 hw.2.1 m
      rw [le_subE, le_addE, le_cE, le_cE] at this
      exact Or.inr (by rw [ej, t_kxl (Nat.le_of_ble_eq_true m5)]; omega))
  unfold c_ip
  split
  · next hc =>
    intro q hq
    rcases List.mem_cons.mp hq with e9 | hq
    · rw [e9]
      refine ⟨⟨ha, hR⟩, ?_⟩
      have e2 : j.2.toNat = j'.toNatClampNeg := by
        rw [ej, hj, le_const hc.1]
      show if j.2.toNat = 1000 then _ else (h_i (h_si h (α o) j'.toNatClampNeg x') (α o) (t_kx σ j.2.toNat)).toInt = le_ev σ e
      rw [if_neg (by omega), t_kxl (by omega), s_siI, if_pos ⟨rfl, e2⟩]
      exact hx
    · exact key q hq
  · exact key
theorem q_iast (ht : TH sp ρ h) (hw : TW ρ K KA S lv' st' h σ α) : T_P sp ρ W K KA (j_iast sp W pc S) h (e_iast pc lv' st' h) := by
  have hs := hw.2.2.2.2.2.2
  unfold j_iast
  split
  · next x j o R r hst =>
    rw [hst] at hs
    obtain ⟨v, q, rfl, ⟨x', rfl, hx⟩, hq1⟩ := t_sc hs
    obtain ⟨v, q, rfl, ⟨j', rfl, hj⟩, hq2⟩ := t_sc hq1
    obtain ⟨v, q, rfl, ⟨rfl, hrf⟩, hq⟩ := t_sc hq2
    obtain ⟨ha0, haR⟩ := t_nn hrf
    dsimp only at ha0 haR
    split
    · exact q_no
    · next hR =>
      split
      · next rs hsp =>
        have hcell := t_spec ht hR hsp haR
        split
        · next hk =>
          obtain ⟨k1, k2, k3, k4, k5⟩ := hk
          unfold e_iast
          dsimp only
          have hin := t_ixS (n := 0) hw hj hcell.2.1.1 k4
          rw [if_pos (show 16 ≤ α o ∧ (h_k h (α o)).1 = 20 ∧ m_in j' (h_k h (α o)).2 = true from ⟨hcell.2.2.1 k2, by rw [hcell.1]; exact k1, hin⟩)]
          split
          · next p hp =>
            split
            · next hr =>
              obtain ⟨r1, r2⟩ := t_inrS hw hr
              have e0 : r_ft rs j'.toNatClampNeg = some (.inl p) := by
                unfold r_ft at hp ⊢
                rw [k3] at hp ⊢
                exact hp
              have ht2 := s_siT (x := x') ht hR hsp haR e0 (by omega) (by omega)
              intro L e9
              cases (Option.some.inj e9)
              have h0 : 0 ≤ j'.toInt := by
                unfold m_in at hin
                rw [Bool.and_eq_true] at hin
                have h8 := of_decide_eq_true hin.1
                rw [Int32.lt_iff_toInt_lt] at h8
                have : (0 : Int32).toInt = 0 := by decide
                omega
              have hp9 := s_siP hw ha0 haR hj hx h0
              obtain ⟨w1, w2, w3, w4, w5, w6, w7⟩ := hw
              exact ⟨_, lv', q, _, rfl, s_siF haR (Or.inr (List.contains_iff_mem.mp k5)), _, List.mem_singleton.mpr rfl, ht2, σ, α, w1, w2, hp9, w4, w5, w6, hq⟩
            · exact q_no
          · exact q_no
        · exact q_no
      · exact q_no
  · exact q_no
end
end
section
-- putfield: ints, longs, references
def t_asg (q : Nat × (Nat × Bool)) (f : Nat × Bool) : Bool := (q.2.2 || !f.2) && (q.2.1 == 0 || q.2.1 == f.1)
def j_put (sp : List RS) (W : List (Nat × Nat)) (i idx pc : Nat) (S : AST) : Option (List AO) := match a_st S, m_fl i idx with
  | .inl x :: .inr (.inr (o, (R, true))) :: r, some (_, c, k) => if R = 0 ∨ 1000 ≤ k then none else (match sp[R]? with
    | some rs => if rs.1.1 = c + 1 ∧ c < 10 ∧ k < m_nf c ∧ m_ty c k = (0, false) ∧ W.contains (R, k) = true then (match r_ft rs k with
      | some (.inl p) => if t_inr S x p = true then some [(pc + 3, w_fs (w_ca S (((o, (R, k)), .inl x) :: c_out R k (a_ca S))) (a_lv S) r)] else none
      | _ => none) else none
    | none => none)
  | .inr (.inl _) :: .inr (.inr (_, (R, true))) :: r, some (_, c, k) => if R = 0 then none else (match sp[R]? with
    | some rs => if rs.1.1 = c + 1 ∧ c < 10 ∧ k < m_nf c ∧ m_ty c k = (1, false) ∧ W.contains (R, k) = true then t_go (pc + 3) S r else none
    | none => none)
  | .inr (.inr q) :: .inr (.inr (o, (R, true))) :: r, some (nest, c, k) => if R = 0 ∨ 1000 ≤ k then none else (match sp[R]? with
    | some rs => if rs.1.1 = c + 1 ∧ c < 10 ∧ k < m_nf c ∧ (m_ty c k).1 = 2 ∧ ((m_ty c k).2 = true → nest = 0 ∧ m_kind i = 2 ∧ m_ownL.getD i 0 = m_ow i ∧ m_cnm c = (m_m i).2.1.cls) ∧ W.contains (R, k) = true then (match r_ft rs k with
      | some (.inr (.inr f)) => if t_asg q f = true then some [(pc + 3, w_fs (w_ca S (((o, (R, k)), .inr (.inr q)) :: c_out R k (a_ca S))) (a_lv S) r)] else none
      | some (.inr (.inl _)) => some [(pc + 3, w_fs (w_ca S (((o, (R, k)), .inr (.inr q)) :: c_out R k (a_ca S))) (a_lv S) r)]
      | _ => none) else none
    | none => none)
  | _, _ => none
section
variable {sp : List RS} {ρ : Nat → Nat} {W : List (Nat × Nat)} {K : List Int} {KA : List Nat} {S : AST} {lv' : List (Nat × Value)} {st' : List Value} {h : MH} {pc : Nat} {st : List AT} {σ : Nat → Int} {α : Nat → Nat}
theorem t_asgS {q : Nat × (Nat × Bool)} {f : Nat × Bool} (e : t_asg q f = true) (hq : t_rf ρ q.2.1 q.2.2 (α q.1)) : t_rf ρ f.1 f.2 (α q.1) := by
  unfold t_asg at e
  rw [Bool.and_eq_true, Bool.or_eq_true, Bool.or_eq_true] at e
  rcases hq with ⟨z1, z2⟩ | ⟨z1, z2, z3⟩
  · refine Or.inl ⟨z1, ?_⟩
    rcases e.1 with e1 | e1
    · rw [z2] at e1
      cases e1
    · cases hf : f.2 with
      | false => rfl
      | true => rw [hf] at e1; cases e1
  · rcases e.2 with e1 | e1
    · exact absurd (beq_iff_eq.mp e1) z2
    · have := beq_iff_eq.mp e1
      rw [this] at z2 z3
      exact Or.inr ⟨z1, z2, z3⟩
theorem s_srR (h : MH) (a k x b j : Nat) : h_r (h_sr h a k x) b j = if b = a ∧ j = k then x else h_r h b j := by
  show m_u (h_r h) a (m_u (h_r h a) k x) b j = _
  by_cases e : b = a
  · rw [e, m_uE]
    by_cases e2 : j = k
    · rw [if_pos ⟨rfl, e2⟩, e2, m_uE]
    · rw [if_neg (fun z => e2 z.2), m_uN _ _ _ _ e2]
  · rw [m_uN _ _ _ _ e, if_neg (fun z => e z.1)]
theorem s_srT {a k R x : Nat} {rs : RS} {f : Nat × Bool} (ht : TH sp ρ h) (hsp : sp[R]? = some rs) (ha : ρ a = R) (hft : r_ft rs k = some (.inr (.inr f))) (h1 : t_rf ρ f.1 f.2 x) : TH sp ρ (h_sr h a k x) := by
  refine ⟨ht.1, fun b hb => ?_⟩
  obtain ⟨q1, rs2, q2, q3, q4, q5, q6⟩ := ht.2 b hb
  refine ⟨q1, rs2, q2, q3, q4, q5, fun j ft hj hjl => ?_⟩
  have q7 := q6 j ft hj hjl
  cases ft with
  | inl p2 => exact q7
  | inr ft => cases ft with
    | inl u => trivial
    | inr q =>
      show t_rf ρ q.1 q.2 (h_r (h_sr h a k x) b j)
      rw [s_srR]
      by_cases e : b = a ∧ j = k
      · rw [if_pos e]
        rw [e.1, ha, hsp] at q2
        cases q2
        rw [e.2, hft] at hj
        cases hj
        exact h1
      · rw [if_neg e]
        exact q7
theorem s_srU {a k R x : Nat} {rs : RS} {u : Unit} (ht : TH sp ρ h) (hsp : sp[R]? = some rs) (ha : ρ a = R) (hft : r_ft rs k = some (.inr (.inl u))) : TH sp ρ (h_sr h a k x) := by
  refine ⟨ht.1, fun b hb => ?_⟩
  obtain ⟨q1, rs2, q2, q3, q4, q5, q6⟩ := ht.2 b hb
  refine ⟨q1, rs2, q2, q3, q4, q5, fun j ft hj hjl => ?_⟩
  have q7 := q6 j ft hj hjl
  cases ft with
  | inl p2 => exact q7
  | inr ft => cases ft with
    | inl u => trivial
    | inr q =>
      show t_rf ρ q.1 q.2 (h_r (h_sr h a k x) b j)
      rw [s_srR]
      by_cases e : b = a ∧ j = k
      · rw [e.1, ha, hsp] at q2
        cases q2
        rw [e.2, hft] at hj
        cases hj
      · rw [if_neg e]
        exact q7
theorem s_srF {a k R x : Nat} (ha : ρ a = R) (hW : t_W W R k) : FR ρ W h (h_sr h a k x) := by
  refine ⟨rfl, fun _ => rfl, fun b j hj => ⟨rfl, rfl, ?_⟩⟩
  rw [s_srR]
  by_cases e : b = a ∧ j = k
  · rw [e.1, e.2, ha] at hj
    exact absurd hW hj
  · rw [if_neg e]
theorem s_srC {a k R x : Nat} {ca : CA} (ha : ρ a = R) (hc : t_ca σ α ρ h ca) : t_ca σ α ρ (h_sr h a k x) (c_out R k ca) := by
  intro q hq
  obtain ⟨m1, m2⟩ := List.mem_filter.mp hq
  obtain ⟨g1, g2⟩ := hc q m1
  refine ⟨g1, ?_⟩
  obtain ⟨⟨o, R2, k2⟩, t⟩ := q
  dsimp only at g1 g2 m2 ⊢
  have hne : ¬ (α o = a ∧ t_kx σ k2 = k) := fun e => by
    rw [e.1, ha] at g1
    rw [← g1.2] at m2
    by_cases h5 : k2 < 5000
    · rw [t_kxl h5] at e
      rw [e.2] at m2
      simp at m2
    · have : Nat.ble 5000 k2 = true := Nat.ble_eq_true_of_le (by omega)
      rw [this] at m2
      simp at m2
  cases t with
  | inl e => exact g2
  | inr t => cases t with
    | inl u => trivial
    | inr q =>
      show h_r (h_sr h a k x) (α o) (t_kx σ k2) = α q.1 ∧ _
      rw [s_srR, if_neg hne]
      exact g2
theorem s_slT {a k : Nat} {x : Int64} (ht : TH sp ρ h) : TH sp ρ (h_sl h a k x) := by
  refine ⟨ht.1, fun b hb => ?_⟩
  obtain ⟨q1, rs2, q2, q3, q4, q5, q6⟩ := ht.2 b hb
  refine ⟨q1, rs2, q2, q3, q4, q5, fun j ft hj hjl => ?_⟩
  have q7 := q6 j ft hj hjl
  cases ft with
  | inl p2 => exact q7
  | inr ft => cases ft with
    | inl u => trivial
    | inr q => exact q7
theorem s_slF {a k R : Nat} {x : Int64} (ha : ρ a = R) (hW : t_W W R k) : FR ρ W h (h_sl h a k x) := by
  refine ⟨rfl, fun _ => rfl, fun b j hj => ⟨rfl, ?_, rfl⟩⟩
  show m_u (h_l h) a (m_u (h_l h a) k x) b j = _
  by_cases e : b = a
  · rw [e, m_uE]
    by_cases e2 : j = k
    · rw [e, ha, e2] at hj
      exact absurd hW hj
    · rw [m_uN _ _ _ _ e2]
  · rw [m_uN _ _ _ _ e]
theorem q_put (i idx : Nat) (ht : TH sp ρ h) (hw : TW ρ K KA S lv' st' h σ α) : T_P sp ρ W K KA (j_put sp W i idx pc S) h (e_put i idx pc lv' st' h) := by
  have hs := hw.2.2.2.2.2.2
  unfold j_put
  split
  · next x o R r z c k hst ef =>
    rw [hst] at hs
    obtain ⟨v, q, rfl, ⟨x', rfl, hx⟩, hq1⟩ := t_sc hs
    obtain ⟨v, q, rfl, ⟨rfl, hrf⟩, hq⟩ := t_sc hq1
    obtain ⟨ha0, haR⟩ := t_nn hrf
    dsimp only at ha0 haR
    split
    · exact q_no
    · next hR =>
      split
      · next rs hsp =>
        have hR0 : R ≠ 0 := fun z => hR (Or.inl z)
        have hcell := t_spec ht hR0 hsp haR
        split
        · next hk =>
          obtain ⟨k1, k2, k3, k4, k5⟩ := hk
          unfold e_put
          rw [ef]
          dsimp only
          rw [if_pos (show (h_k h (α o)).1 = c + 1 ∧ c < 10 ∧ k < m_nf c ∧ m_ty c k = (0, false) from ⟨hcell.1.trans k1, k2, k3, k4⟩)]
          split
          · next p hp =>
            split
            · next hr =>
              obtain ⟨r1, r2⟩ := t_inrS hw hr
              have ht2 := s_siT (x := x') ht hR0 hsp haR hp (by omega) (by omega)
              intro L e9
              cases (Option.some.inj e9)
              obtain ⟨w1, w2, w3, w4, w5, w6, w7⟩ := hw
              refine ⟨_, lv', q, _, rfl, s_siF haR (Or.inl (List.contains_iff_mem.mp k5)), _, List.mem_singleton.mpr rfl, ht2, σ, α, w1, w2, fun q9 hq9 => ?_, w4, w5, w6, hq⟩
              rcases List.mem_cons.mp hq9 with e | hq9
              · rw [e]
                refine ⟨⟨ha0, haR⟩, ?_⟩
                show if k = 1000 then ((h_k h (α o)).2 : Int) = le_ev σ x else (h_i (h_si h (α o) k x') (α o) (t_kx σ k)).toInt = le_ev σ x
                rw [if_neg (fun z => hR (Or.inr (by omega))), t_kxl (by omega), s_siI, if_pos ⟨rfl, rfl⟩]
                exact hx
              · exact s_siC (fun z => hR (Or.inr (by omega))) haR w3 q9 hq9
            · exact q_no
          · exact q_no
        · exact q_no
      · exact q_no
  · next u o R r z c k hst ef =>
    rw [hst] at hs
    obtain ⟨v, q, rfl, ⟨x', rfl⟩, hq1⟩ := t_sc hs
    obtain ⟨v, q, rfl, ⟨rfl, hrf⟩, hq⟩ := t_sc hq1
    obtain ⟨ha0, haR⟩ := t_nn hrf
    dsimp only at ha0 haR
    split
    · exact q_no
    · next hR =>
      split
      · next rs hsp =>
        have hcell := t_spec ht hR hsp haR
        split
        · next hk =>
          obtain ⟨k1, k2, k3, k4, k5⟩ := hk
          unfold e_put
          rw [ef]
          dsimp only
          rw [if_pos (show (h_k h (α o)).1 = c + 1 ∧ c < 10 ∧ k < m_nf c ∧ m_ty c k = (1, false) from ⟨hcell.1.trans k1, k2, k3, k4⟩)]
          intro L e9
          cases (Option.some.inj e9)
          obtain ⟨w1, w2, w3, w4, w5, w6, w7⟩ := hw
          exact ⟨_, lv', q, _, rfl, s_slF haR (Or.inl (List.contains_iff_mem.mp k5)), _, List.mem_singleton.mpr rfl, s_slT ht, σ, α, w1, w2, w3, w4, w5, w6, hq⟩
        · exact q_no
      · exact q_no
  · next q0 o R r z c k hst ef =>
    rw [hst] at hs
    obtain ⟨v, q, rfl, ⟨rfl, hv⟩, hq1⟩ := t_sc hs
    obtain ⟨v, q, rfl, ⟨rfl, hrf⟩, hq⟩ := t_sc hq1
    obtain ⟨ha0, haR⟩ := t_nn hrf
    dsimp only at ha0 haR
    split
    · exact q_no
    · next hR =>
      split
      · next rs hsp =>
        have hR0 : R ≠ 0 := fun z => hR (Or.inl z)
        have hcell := t_spec ht hR0 hsp haR
        split
        · next hk =>
          obtain ⟨k1, k2, k3, k4, k6, k5⟩ := hk
          unfold e_put
          rw [ef]
          dsimp only
          rw [if_pos ⟨hcell.1.trans k1, k2, k3, k4, k6⟩]
          split
          · next f hf =>
            split
            · next hr =>
              have ht2 := s_srT ht hsp haR hf (t_asgS hr hv)
              intro L e9
              cases (Option.some.inj e9)
              obtain ⟨w1, w2, w3, w4, w5, w6, w7⟩ := hw
              refine ⟨_, lv', q, _, rfl, s_srF haR (Or.inl (List.contains_iff_mem.mp k5)), _, List.mem_singleton.mpr rfl, ht2, σ, α, w1, w2, fun q9 hq9 => ?_, w4, w5, w6, hq⟩
              rcases List.mem_cons.mp hq9 with e | hq9
              · rw [e]
                refine ⟨⟨ha0, haR⟩, ?_, hv⟩
                show h_r (h_sr h (α o) k (α q0.1)) (α o) (t_kx σ k) = α q0.1
                rw [t_kxl (by omega), s_srR, if_pos ⟨rfl, rfl⟩]
              · exact s_srC haR w3 q9 hq9
            · exact q_no
          · next u9 hf =>
            have ht2 := s_srU (x := α q0.1) ht hsp haR hf
            intro L e9
            cases (Option.some.inj e9)
            obtain ⟨w1, w2, w3, w4, w5, w6, w7⟩ := hw
            refine ⟨_, lv', q, _, rfl, s_srF haR (Or.inl (List.contains_iff_mem.mp k5)), _, List.mem_singleton.mpr rfl, ht2, σ, α, w1, w2, fun q9 hq9 => ?_, w4, w5, w6, hq⟩
            rcases List.mem_cons.mp hq9 with e | hq9
            · rw [e]
              refine ⟨⟨ha0, haR⟩, ?_, hv⟩
              show h_r (h_sr h (α o) k (α q0.1)) (α o) (t_kx σ k) = α q0.1
              rw [t_kxl (by omega), s_srR, if_pos ⟨rfl, rfl⟩]
            · exact s_srC haR w3 q9 hq9
          · exact q_no
        · exact q_no
      · exact q_no
  · exact q_no
end
end
section
-- rows of bytes, longs, references written; what stands still; the switch
def j_bast (sp : List RS) (W : List (Nat × Nat)) (pc : Nat) (S : AST) : Option (List AO) := match a_st S with
  | .inl _ :: .inl j :: .inr (.inr (o, (R, true))) :: r => if R = 0 then none else (match sp[R]? with
    | some rs => if (rs.1.1 = 21 ∨ rs.1.1 = 22) ∧ rs.2.1 = true ∧ rs.2.2.1 = true ∧ t_ix sp S o R j rs.1.2.1 = true ∧ W.contains (R, 1001) = true then (match r_ft rs 0 with
      | some (.inl p) => if p.1 ≤ -128 ∧ 127 ≤ p.2 then some [(pc + 1, w_fs (w_ca S (c_oE R (a_ca S))) (a_lv S) r)] else none
      | _ => none) else none
    | none => none)
  | _ => none
def j_last (sp : List RS) (W : List (Nat × Nat)) (pc : Nat) (S : AST) : Option (List AO) := match a_st S with
  | .inr (.inl _) :: .inl j :: .inr (.inr (o, (R, true))) :: r => if R = 0 then none else (match sp[R]? with
    | some rs => if rs.1.1 = 25 ∧ rs.2.1 = true ∧ t_ix sp S o R j rs.1.2.1 = true ∧ W.contains (R, 1001) = true then t_go (pc + 1) S r else none
    | none => none)
  | _ => none
def j_gets (i idx pc : Nat) (S : AST) (RL RF : Nat) : Option (List AO) := match m_sf i idx with
  | some 1 => t_pe (pc + 3) S (a_st S) (le_c 1)
  | some 2 => t_rr (pc + 3) S (a_st S) false 0 0 0 RL true
  | some 3 => t_rr (pc + 3) S (a_st S) false 0 0 0 RF true
  | _ => none
def j_sw (d lo hi : Int) (offs : Array Int) (pc : Nat) (S : AST) : Option (List AO) := match a_st S with
  | .inl x :: r => if 0 ≤ (pc : Int) + d ∧ (hi - lo + 1).toNat = offs.size ∧ offs.all (fun o => decide (0 ≤ (pc : Int) + o)) = true then
      some (((t_cnd .lt x (le_c lo) (w_fs S (a_lv S) r)).map (fun S => (((pc : Int) + d).toNat, S))).toList ++ (((t_cnd .gt x (le_c hi) (w_fs S (a_lv S) r)).map (fun S => (((pc : Int) + d).toNat, S))).toList ++ (List.range offs.size).flatMap (fun (i : Nat) => ((t_cnd .eq x (le_c (lo + (i : Int))) (w_fs S (a_lv S) r)).map (fun S => (((pc : Int) + offs.getD i 0).toNat, S))).toList))) else none
  | _ => none
section
variable {sp : List RS} {ρ : Nat → Nat} {W : List (Nat × Nat)} {K : List Int} {KA : List Nat} {S : AST} {lv' : List (Nat × Value)} {st' : List Value} {h : MH} {pc : Nat} {st : List AT} {σ : Nat → Int} {α : Nat → Nat}
theorem i_b0 (x : Int32) : (-128 : Int) ≤ (x.toInt8.toInt32).toInt ∧ (x.toInt8.toInt32).toInt ≤ (127 : Int) := by
  rw [Int8.toInt_toInt32]
  have h1 := Int8.le_toInt x.toInt8
  have h2 := Int8.toInt_lt x.toInt8
  omega
theorem i_z0 (x : Int32) : (0 : Int) ≤ (x &&& 1).toInt ∧ (x &&& 1).toInt ≤ (1 : Int) := by
  have h1 : (x &&& 1).toBitVec.toNat ≤ 1 := by
    show (x.toBitVec &&& (1 : Int32).toBitVec).toNat ≤ 1
    rw [BitVec.toNat_and]
    exact Nat.and_le_right
  have h2 : (x &&& 1).toInt = (x &&& 1).toBitVec.toInt := rfl
  have h4 := BitVec.toInt_eq_toNat_cond (x &&& 1).toBitVec
  split at h4 <;> omega
theorem q_bast (ht : TH sp ρ h) (hw : TW ρ K KA S lv' st' h σ α) : T_P sp ρ W K KA (j_bast sp W pc S) h (e_bast pc lv' st' h) := by
  have hs := hw.2.2.2.2.2.2
  unfold j_bast
  split
  · next x j o R r hst =>
    rw [hst] at hs
    obtain ⟨v, q, rfl, ⟨x', rfl, hx⟩, hq1⟩ := t_sc hs
    obtain ⟨v, q, rfl, ⟨j', rfl, hj⟩, hq2⟩ := t_sc hq1
    obtain ⟨v, q, rfl, ⟨rfl, hrf⟩, hq⟩ := t_sc hq2
    obtain ⟨ha0, haR⟩ := t_nn hrf
    dsimp only at ha0 haR
    split
    · exact q_no
    · next hR =>
      split
      · next rs hsp =>
        have hcell := t_spec ht hR hsp haR
        split
        · next hk =>
          obtain ⟨k1, k2, k3, k4, k5⟩ := hk
          have hin := t_ixS (n := 0) hw hj hcell.2.1.1 k4
          split
          · next p hp =>
            split
            · next hr =>
              have e0 : r_ft rs j'.toNatClampNeg = some (.inl p) := by
                unfold r_ft at hp ⊢
                rw [k3] at hp ⊢
                exact hp
              have key : ∀ z : Int32, (-128 : Int) ≤ z.toInt → z.toInt ≤ (127 : Int) → T_P sp ρ W K KA (some [(pc + 1, w_fs (w_ca S (c_oE R (a_ca S))) (a_lv S) r)]) h (m_go (pc + 1) lv' q (h_si h (α o) j'.toNatClampNeg z)) := by
                intro z z1 z2
                have ht2 := s_siT (x := z) ht hR hsp haR e0 (by omega) (by omega)
                intro L e9
                cases (Option.some.inj e9)
                obtain ⟨w1, w2, w3, w4, w5, w6, w7⟩ := hw
                exact ⟨_, lv', q, _, rfl, s_siF haR (Or.inr (List.contains_iff_mem.mp k5)), _, List.mem_singleton.mpr rfl, ht2, σ, α, w1, w2, s_siE haR w3, w4, w5, w6, hq⟩
              unfold e_bast
              dsimp only
              by_cases k21 : (h_k h (α o)).1 = 21
              · rw [if_pos (show 16 ≤ α o ∧ (h_k h (α o)).1 = 21 ∧ m_in j' (h_k h (α o)).2 = true from ⟨hcell.2.2.1 k2, k21, hin⟩)]
                exact key _ (i_b0 x').1 (i_b0 x').2
              · have k22 : (h_k h (α o)).1 = 22 := by
                  have := hcell.1
                  omega
                rw [if_neg (fun z => k21 z.2.1), if_pos (show 16 ≤ α o ∧ (h_k h (α o)).1 = 22 ∧ m_in j' (h_k h (α o)).2 = true from ⟨hcell.2.2.1 k2, k22, hin⟩)]
                exact key _ (by have := (i_z0 x').1; omega) (by have := (i_z0 x').2; omega)
            · exact q_no
          · exact q_no
        · exact q_no
      · exact q_no
  · exact q_no
theorem q_last (ht : TH sp ρ h) (hw : TW ρ K KA S lv' st' h σ α) : T_P sp ρ W K KA (j_last sp W pc S) h (e_last pc lv' st' h) := by
  have hs := hw.2.2.2.2.2.2
  unfold j_last
  split
  · next x j o R r hst =>
    rw [hst] at hs
    obtain ⟨v, q, rfl, ⟨x', rfl⟩, hq1⟩ := t_sc hs
    obtain ⟨v, q, rfl, ⟨j', rfl, hj⟩, hq2⟩ := t_sc hq1
    obtain ⟨v, q, rfl, ⟨rfl, hrf⟩, hq⟩ := t_sc hq2
    obtain ⟨ha0, haR⟩ := t_nn hrf
    dsimp only at ha0 haR
    split
    · exact q_no
    · next hR =>
      split
      · next rs hsp =>
        have hcell := t_spec ht hR hsp haR
        split
        · next hk =>
          obtain ⟨k1, k2, k4, k5⟩ := hk
          have hin := t_ixS (n := 0) hw hj hcell.2.1.1 k4
          unfold e_last
          dsimp only
          rw [if_pos (show 16 ≤ α o ∧ (h_k h (α o)).1 = 25 ∧ m_in j' (h_k h (α o)).2 = true from ⟨hcell.2.2.1 k2, by rw [hcell.1]; exact k1, hin⟩)]
          intro L e9
          cases (Option.some.inj e9)
          obtain ⟨w1, w2, w3, w4, w5, w6, w7⟩ := hw
          exact ⟨_, lv', q, _, rfl, s_slF haR (Or.inr (List.contains_iff_mem.mp k5)), _, List.mem_singleton.mpr rfl, s_slT ht, σ, α, w1, w2, w3, w4, w5, w6, hq⟩
        · exact q_no
      · exact q_no
  · exact q_no
theorem q_gets (i idx RL RF : Nat) (h1 : t_rf ρ RL true 1) (h3 : t_rf ρ RF true 15) (ht : TH sp ρ h) (hw : TW ρ K KA S lv' st' h σ α) : T_P sp ρ W K KA (j_gets i idx pc S RL RF) h (e_gets i idx pc lv' st' h) := by
  unfold j_gets e_gets
  generalize m_sf i idx = o
  match o with
  | none => exact q_no
  | some 0 => exact q_no
  | some 1 => exact q_pe (x := 1) ht hw hw.2.2.2.2.2.2 (by rw [le_cE]; decide)
  | some 2 => exact q_rr ht hw hw.2.2.2.2.2.2 h1 (fun z => by cases z)
  | some 3 => exact q_rr ht hw hw.2.2.2.2.2.2 h3 (fun z => by cases z)
  | some (n + 4) => exact q_no
theorem q_sw (i : Nat) (d lo hi : Int) (offs : Array Int) (ht : TH sp ρ h) (hw : TW ρ K KA S lv' st' h σ α) : T_P sp ρ W K KA (j_sw d lo hi offs pc S) h (e_sw d lo hi offs pc lv' st' h) := by
  have hs := hw.2.2.2.2.2.2
  unfold j_sw
  split
  · next x r hst =>
    rw [hst] at hs
    obtain ⟨v, q, rfl, ⟨x', rfl, hx⟩, hq⟩ := t_sc hs
    have hw2 := q_fs (st := r) (st' := q) hw hw.2.2.2.2.2.1 hq
    split
    · next hc =>
      obtain ⟨c1, c2, c3⟩ := hc
      intro L e9
      cases e9
      unfold e_sw
      dsimp only
      by_cases h1 : x'.toInt < lo
      · rw [if_pos (Or.inl h1)]
        obtain ⟨S', e1, w⟩ := r_asm (e := le_add (le_sub x (le_c lo)) (le_c 1)) hw2 (by rw [le_addE, le_subE, le_cE, le_cE]; omega)
        refine ⟨_, lv', q, h, if_pos c1, FR.refl _ _ _, S', List.mem_append_left _ ?_, ht, σ, α, w⟩
        show _ ∈ (Option.map _ (t_asm _ _)).toList
        rw [e1]
        exact List.mem_singleton.mpr rfl
      · by_cases h2 : hi < x'.toInt
        · rw [if_pos (Or.inr h2)]
          obtain ⟨S', e1, w⟩ := r_asm (e := le_add (le_sub (le_c hi) x) (le_c 1)) hw2 (by rw [le_addE, le_subE, le_cE, le_cE]; omega)
          refine ⟨_, lv', q, h, if_pos c1, FR.refl _ _ _, S', List.mem_append_right _ (List.mem_append_left _ ?_), ht, σ, α, w⟩
          show _ ∈ (Option.map _ (t_asm _ _)).toList
          rw [e1]
          exact List.mem_singleton.mpr rfl
        · rw [if_neg (by omega)]
          have hlt : (x'.toInt - lo).toNat < offs.size := by omega
          rw [Array.getElem?_eq_getElem hlt]
          dsimp only
          have hoff : 0 ≤ (pc : Int) + offs[(x'.toInt - lo).toNat] := by
            have := (Array.all_eq_true.mp c3) _ hlt
            exact of_decide_eq_true this
          obtain ⟨S1, e1, w1⟩ := r_asm (e := le_sub x (le_c (lo + (((x'.toInt - lo).toNat : Nat) : Int)))) hw2 (by rw [le_subE, le_cE]; omega)
          obtain ⟨S2, e2, w2⟩ := r_asm (e := le_sub (le_c (lo + (((x'.toInt - lo).toNat : Nat) : Int))) x) w1 (by rw [le_subE, le_cE]; omega)
          refine ⟨_, lv', q, h, if_pos hoff, FR.refl _ _ _, S2, List.mem_append_right _ (List.mem_append_right _ (List.mem_flatMap.mpr ⟨(x'.toInt - lo).toNat, List.mem_range.mpr hlt, ?_⟩)), ht, σ, α, w2⟩
          show _ ∈ (Option.map _ ((t_asm _ _).bind (t_asm _))).toList
          rw [e1, Option.bind_some, e2]
          refine List.mem_singleton.mpr ?_
          rw [Array.getD_eq_getD_getElem?, Array.getElem?_eq_getElem hlt]
          rfl
    · exact q_no
  · exact q_no
end
end
section
-- references into a row, known numbers and words, copies
def j_aast (sp : List RS) (W : List (Nat × Nat)) (pc : Nat) (S : AST) : Option (List AO) := match a_st S with
  | .inr (.inr (o2, (R2, true))) :: .inl j :: .inr (.inr (o, (R, true))) :: r => if R = 0 ∨ R2 = 0 then none else (match sp[R]?, sp[R2]? with
    | some rs, some rs2 => if (30 ≤ rs.1.1 ∧ rs.1.1 < 33) ∧ rs.2.1 = true ∧ rs.2.2.1 = true ∧ t_ix sp S o R j rs.1.2.1 = true ∧ W.contains (R, 1001) = true ∧ rs2.2.1 = true ∧ rs2.1.1 = m_el rs.1.1 then (match r_ft rs 0 with
      | some (.inr (.inr f)) => if t_asg (o2, (R2, true)) f = true then some [(pc + 1, w_fs (w_ca S (c_oE R (a_ca S))) (a_lv S) r)] else none
      | _ => none) else none
    | _, _ => none)
  | _ => none
def j_ldc (w : Nat) (i idx pc : Nat) (S : AST) (RT : Nat) : Option (List AO) := match m_ic i idx with
  | some x => t_pe (pc + w) S (a_st S) (le_c x.toInt)
  | none => if w = 2 then (match m_sc i idx with
      | some a => if 2 ≤ a ∧ a < 8 then t_rr (pc + w) S (a_st S) false 0 0 0 RT true else none
      | none => none) else none
section
variable {sp : List RS} {ρ : Nat → Nat} {W : List (Nat × Nat)} {K : List Int} {KA : List Nat} {S : AST} {lv' : List (Nat × Value)} {st' : List Value} {h : MH} {pc : Nat} {st : List AT} {σ : Nat → Int} {α : Nat → Nat}
theorem c_oEa (R : Nat) (ca : CA) : (c_oE R ca).all (fun q => !(q.1.2.1 == R) || q.1.2.2 == 1000) = true := List.all_eq_true.mpr (fun q hq => (List.mem_filter.mp hq).2)
theorem s_srC2 {a k R x : Nat} {ca : CA} (hk : k < 1000) (hR : ρ a = R) (hc : t_ca σ α ρ h ca) (hn : ca.all (fun q => !(q.1.2.1 == R) || q.1.2.2 == 1000) = true) : t_ca σ α ρ (h_sr h a k x) ca := by
  intro q hq
  obtain ⟨g1, g2⟩ := hc q hq
  refine ⟨g1, ?_⟩
  have hn2 := List.all_eq_true.mp hn q hq
  obtain ⟨⟨o, R2, k2⟩, t⟩ := q
  dsimp only at g1 g2 hn2 ⊢
  have hne : ¬ (α o = a ∧ t_kx σ k2 = k) := fun z => by
    rw [z.1, hR] at g1
    rw [← g1.2] at hn2
    have : ¬ k2 = 1000 := fun e => by
      rw [e, t_kxl (by omega)] at z
      omega
    simp [this] at hn2
  cases t with
  | inl e => exact g2
  | inr t => cases t with
    | inl u => trivial
    | inr q =>
      show h_r (h_sr h a k x) (α o) (t_kx σ k2) = α q.1 ∧ _
      rw [s_srR, if_neg hne]
      exact g2
theorem q_ldc (w i idx RT : Nat) (h1 : ∀ a, 2 ≤ a → a < 8 → t_rf ρ RT true a) (ht : TH sp ρ h) (hw : TW ρ K KA S lv' st' h σ α) : T_P sp ρ W K KA (j_ldc w i idx pc S RT) h (e_ldc w i idx pc lv' st' h) := by
  unfold j_ldc e_ldc
  generalize m_ic i idx = o
  generalize m_sc i idx = o2
  match o with
  | some x => exact q_pe (x := x) ht hw hw.2.2.2.2.2.2 (by rw [le_cE])
  | none =>
    dsimp only
    by_cases hw2 : w = 2
    · rw [if_pos hw2, if_pos hw2]
      match o2 with
      | some a =>
        dsimp only
        split
        · next ha => exact q_rr ht hw hw.2.2.2.2.2.2 (h1 a ha.1 ha.2) (fun z => by cases z)
        · exact q_no
      | none => exact q_no
    · rw [if_neg hw2]
      exact q_no
theorem q_aast (hlen : ∀ (R : Nat) (rs : RS), sp[R]? = some rs → rs.1.2.2 < 1000 ∨ ¬ (30 ≤ rs.1.1 ∧ rs.1.1 < 33)) (ht : TH sp ρ h) (hw : TW ρ K KA S lv' st' h σ α) : T_P sp ρ W K KA (j_aast sp W pc S) h (e_aast pc lv' st' h) := by
  have hs := hw.2.2.2.2.2.2
  unfold j_aast
  split
  · next o2 R2 j o R r hst =>
    rw [hst] at hs
    obtain ⟨v, q, rfl, ⟨rfl, hv⟩, hq1⟩ := t_sc hs
    obtain ⟨v, q, rfl, ⟨j', rfl, hj⟩, hq2⟩ := t_sc hq1
    obtain ⟨v, q, rfl, ⟨rfl, hrf⟩, hq⟩ := t_sc hq2
    obtain ⟨ha0, haR⟩ := t_nn hrf
    obtain ⟨hb0, hbR⟩ := t_nn hv
    dsimp only at ha0 haR hb0 hbR
    split
    · exact q_no
    · next hR =>
      split
      · next rs rs2 hsp hsp2 =>
        have hcell := t_spec ht (fun z => hR (Or.inl z)) hsp haR
        have hcel2 := t_spec ht (fun z => hR (Or.inr z)) hsp2 hbR
        split
        · next hk =>
          obtain ⟨k1, k2, k3, k4, k5, k6, k7⟩ := hk
          have hin := t_ixS (n := 0) hw hj hcell.2.1.1 k4
          have hlt : j'.toNatClampNeg < 1000 := by
            have h9 := hin
            unfold m_in at h9
            rw [Bool.and_eq_true] at h9
            have h10 := of_decide_eq_true h9.2
            rcases hlen R rs hsp with q9 | q9
            · have := hcell.2.1.2
              omega
            · exact absurd k1 q9
          split
          · next f hf =>
            split
            · next hr =>
              have e0 : r_ft rs j'.toNatClampNeg = some (.inr (.inr f)) := by
                unfold r_ft at hf ⊢
                rw [k3] at hf ⊢
                exact hf
              unfold e_aast
              dsimp only
              rw [if_pos (show 16 ≤ α o ∧ (30 ≤ (h_k h (α o)).1 ∧ (h_k h (α o)).1 < 33) ∧ m_in j' (h_k h (α o)).2 = true ∧ 16 ≤ α o2 ∧ (h_k h (α o2)).1 = m_el (h_k h (α o)).1 from ⟨hcell.2.2.1 k2, by rw [hcell.1]; exact k1, hin, hcel2.2.2.1 k6, by rw [hcel2.1, hcell.1]; exact k7⟩)]
              have ht2 := s_srT (x := α o2) ht hsp haR e0 (t_asgS hr hv)
              intro L e9
              cases (Option.some.inj e9)
              obtain ⟨w1, w2, w3, w4, w5, w6, w7⟩ := hw
              exact ⟨_, lv', q, _, rfl, s_srF haR (Or.inr (List.contains_iff_mem.mp k5)), _, List.mem_singleton.mpr rfl, ht2, σ, α, w1, w2, s_srC2 hlt haR (t_caF w3) (c_oEa R _), w4, w5, w6, hq⟩
            · exact q_no
          · exact q_no
        · exact q_no
      · exact q_no
  · exact q_no
end
end
section
-- a copy of rows; every plain step
def j_cp (sp : List RS) (W : List (Nat × Nat)) (i pc : Nat) (S : AST) : Option (List AO) := match a_st S with
  | .inl n :: .inl dp :: .inr (.inr (o1, (R1, true))) :: .inl sq :: .inr (.inr (o0, (R0, true))) :: r => if R0 = 0 ∨ R1 = 0 then none else (match sp[R0]?, sp[R1]? with
    | some s0, some s1 => if s0.2.1 = true ∧ s1.2.1 = true ∧ s0.2.2.1 = true ∧ s1.2.2.1 = true ∧ s0.1.1 = s1.1.1 ∧ (s0.1.1 = 20 ∨ s0.1.1 = 21) ∧ W.contains (R1, 1001) = true ∧ 1 ≤ m_fr i ∧ ((r.map a_cat).sum) + 18 ≤ m_lo i ∧ (r.map a_cat).sum ≤ 8 ∧
        le_ent (a_iv S) (a_cs S) (le_mul (-1) sq) = true ∧ le_ent (a_iv S) (a_cs S) (le_mul (-1) dp) = true ∧ le_ent (a_iv S) (a_cs S) (le_mul (-1) n) = true ∧ le_ent (a_iv S) (a_cs S) (le_sub (le_add sq n) (le_c s0.1.2.1)) = true ∧ le_ent (a_iv S) (a_cs S) (le_sub (le_add dp n) (le_c s1.1.2.1)) = true then (match r_ft s0 0, r_ft s1 0 with
      | some (.inl p), some (.inl p2) => if p2.1 ≤ p.1 ∧ p.2 ≤ p2.2 then some [(pc + 3, w_fs (w_ca S (c_oE R1 (a_ca S))) (a_lv S) r)] else none
      | _, _ => none) else none
    | _, _ => none)
  | _ => none
section
variable {sp : List RS} {ρ : Nat → Nat} {W : List (Nat × Nat)} {K : List Int} {KA : List Nat} {S : AST} {lv' : List (Nat × Value)} {st' : List Value} {h : MH} {pc : Nat} {st : List AT} {σ : Nat → Int} {α : Nat → Nat}
theorem t_ct : ∀ {a : List AT} {v : List Value}, t_sk σ α ρ a v → m_cat v = (a.map a_cat).sum
  | [], [], _ => rfl
  | a :: r, v :: q, h => by
    have ih := t_ct h.2
    unfold m_cat at ih ⊢
    rw [List.map_cons, List.map_cons, List.sum_cons, List.sum_cons, ih, a_catE h.1]
  | [], _ :: _, h => h.elim
  | _ :: _, [], h => h.elim
theorem s_cpI (h : MH) (a0 a1 s d n b j : Nat) : h_i (h_cpi h a0 a1 s d n) b j = if b = a1 ∧ (d ≤ j ∧ j < d + n) then h_i h a0 (s + (j - d)) else h_i h b j := by
  show m_u (h_i h) a1 (fun j => if d ≤ j ∧ j < d + n then h_i h a0 (s + (j - d)) else h_i h a1 j) b j = _
  by_cases e : b = a1
  · rw [e, m_uE]
    by_cases e2 : d ≤ j ∧ j < d + n
    · rw [if_pos e2, if_pos ⟨rfl, e2⟩]
    · rw [if_neg e2, if_neg (fun z => e2 z.2)]
  · rw [m_uN _ _ _ _ e, if_neg (fun z => e z.1)]
theorem s_cpT {a0 a1 sx d n R0 R1 : Nat} {s0 s1 : RS} {p p2 : Int × Int} (ht : TH sp ρ h) (h0 : R0 ≠ 0) (hs0 : sp[R0]? = some s0) (hs1 : sp[R1]? = some s1) (ha0 : ρ a0 = R0) (ha1 : ρ a1 = R1) (hr0 : s0.2.2.1 = true) (hr1 : s1.2.2.1 = true) (hf0 : r_ft s0 0 = some (.inl p)) (hf1 : r_ft s1 0 = some (.inl p2)) (hp : p2.1 ≤ p.1 ∧ p.2 ≤ p2.2) (hsz : sx + n ≤ (h_k h a0).2) : TH sp ρ (h_cpi h a0 a1 sx d n) := by
  have hc0 := t_spec ht h0 hs0 ha0
  refine ⟨ht.1, fun b hb => ?_⟩
  obtain ⟨q1, rs2, q2, q3, q4, q5, q6⟩ := ht.2 b hb
  refine ⟨q1, rs2, q2, q3, q4, q5, fun j ft hj hjl => ?_⟩
  have q7 := q6 j ft hj hjl
  cases ft with
  | inl p3 =>
    show p3.1 ≤ (h_i (h_cpi h a0 a1 sx d n) b j).toInt ∧ (h_i (h_cpi h a0 a1 sx d n) b j).toInt ≤ p3.2
    rw [s_cpI]
    by_cases e : b = a1 ∧ (d ≤ j ∧ j < d + n)
    · rw [if_pos e]
      rw [e.1, ha1, hs1] at q2
      cases q2
      have e1 : r_ft s1 j = r_ft s1 0 := by
        unfold r_ft
        rw [hr1]
      rw [e1, hf1] at hj
      cases hj
      have e2 : r_ft s0 (sx + (j - d)) = some (.inl p) := by
        rw [← hf0]
        unfold r_ft
        rw [hr0]
      have q8 := hc0.2.2.2 _ _ e2 (fun _ => by omega)
      have q9 : p.1 ≤ (h_i h a0 (sx + (j - d))).toInt ∧ (h_i h a0 (sx + (j - d))).toInt ≤ p.2 := q8
      omega
    · rw [if_neg e]
      exact q7
  | inr ft => cases ft with
    | inl u => trivial
    | inr q => exact q7
theorem s_cpF {a0 a1 sx d n R1 : Nat} (ha : ρ a1 = R1) (hW : (R1, 1001) ∈ W) : FR ρ W h (h_cpi h a0 a1 sx d n) := by
  refine ⟨rfl, fun _ => rfl, fun b j hj => ⟨?_, rfl, rfl⟩⟩
  rw [s_cpI]
  by_cases e : b = a1 ∧ (d ≤ j ∧ j < d + n)
  · rw [e.1, ha] at hj
    exact absurd (Or.inr hW) hj
  · rw [if_neg e]
theorem s_cpC {a0 a1 sx d n R : Nat} {ca : CA} (hR : ρ a1 = R) (hc : t_ca σ α ρ h ca) (hn : ca.all (fun q => !(q.1.2.1 == R) || q.1.2.2 == 1000) = true) : t_ca σ α ρ (h_cpi h a0 a1 sx d n) ca := by
  intro q hq
  obtain ⟨g1, g2⟩ := hc q hq
  refine ⟨g1, ?_⟩
  have hn2 := List.all_eq_true.mp hn q hq
  obtain ⟨⟨o, R2, k2⟩, t⟩ := q
  dsimp only at g1 g2 hn2 ⊢
  cases t with
  | inl e =>
    show if k2 = 1000 then ((h_k h (α o)).2 : Int) = le_ev σ e else (h_i (h_cpi h a0 a1 sx d n) (α o) (t_kx σ k2)).toInt = le_ev σ e
    have g3 : if k2 = 1000 then ((h_k h (α o)).2 : Int) = le_ev σ e else (h_i h (α o) (t_kx σ k2)).toInt = le_ev σ e := g2
    by_cases hk : k2 = 1000
    · rw [if_pos hk] at g3 ⊢
      exact g3
    · have hne : ¬ α o = a1 := fun z => by
        rw [z, hR] at g1
        rw [← g1.2] at hn2
        simp [hk] at hn2
      have hne2 : ¬ (α o = a1 ∧ (d ≤ t_kx σ k2 ∧ t_kx σ k2 < d + n)) := fun z => hne z.1
      rw [s_cpI, if_neg hne2]
      exact g3
  | inr t => cases t with
    | inl u => trivial
    | inr q => exact g2
theorem q_cp (i : Nat) (ht : TH sp ρ h) (hw : TW ρ K KA S lv' st' h σ α) : T_P sp ρ W K KA (j_cp sp W i pc S) h (e_cp i pc lv' st' h) := by
  have hs := hw.2.2.2.2.2.2
  unfold j_cp
  split
  · next n dp o1 R1 sq o0 R0 r hst =>
    rw [hst] at hs
    obtain ⟨v, q, rfl, ⟨n', rfl, hn⟩, hq1⟩ := t_sc hs
    obtain ⟨v, q, rfl, ⟨dp', rfl, hdp⟩, hq2⟩ := t_sc hq1
    obtain ⟨v, q, rfl, ⟨rfl, hrf1⟩, hq3⟩ := t_sc hq2
    obtain ⟨v, q, rfl, ⟨sq', rfl, hsq⟩, hq4⟩ := t_sc hq3
    obtain ⟨v, q, rfl, ⟨rfl, hrf0⟩, hq⟩ := t_sc hq4
    obtain ⟨a10, a1R⟩ := t_nn hrf1
    obtain ⟨a00, a0R⟩ := t_nn hrf0
    dsimp only at a10 a1R a00 a0R
    split
    · exact q_no
    · next hR =>
      split
      · next s0 s1 hs0 hs1 =>
        have hc0 := t_spec ht (fun z => hR (Or.inl z)) hs0 a0R
        have hc1 := t_spec ht (fun z => hR (Or.inr z)) hs1 a1R
        split
        · next hk =>
          obtain ⟨k1, k2, k3, k4, k5, k6, k7, k9, k10, k11, k12, k13, k14, k15, k16⟩ := hk
          split
          · next p p2 hp hp2 =>
            split
            · next hpp =>
              have l1 := le_entS hw.1 hw.2.1 k12
              have l2 := le_entS hw.1 hw.2.1 k13
              have l3 := le_entS hw.1 hw.2.1 k14
              have l4 := le_entS hw.1 hw.2.1 k15
              have l5 := le_entS hw.1 hw.2.1 k16
              rw [le_mulE] at l1 l2 l3
              rw [le_subE, le_addE, le_cE] at l4 l5
              have e1 : ∀ {x : Int32}, 0 ≤ x.toInt → ¬ x < 0 := fun {x} hx z => by
                have := Int32.lt_iff_toInt_lt.mp z
                have : (0 : Int32).toInt = 0 := by decide
                omega
              have c0 := hc0.2.1.1
              have c1 := hc1.2.1.1
              have f1 : sq'.toNatClampNeg + n'.toNatClampNeg ≤ (h_k h (α o0)).2 := by
                show sq'.toInt.toNat + n'.toInt.toNat ≤ _
                omega
              have f2 : dp'.toNatClampNeg + n'.toNatClampNeg ≤ (h_k h (α o1)).2 := by
                show dp'.toInt.toNat + n'.toInt.toNat ≤ _
                omega
              have hct := t_ct hq
              unfold e_cp
              dsimp only
              have hcc : 16 ≤ α o0 ∧ 16 ≤ α o1 ∧ ¬ sq' < 0 ∧ ¬ dp' < 0 ∧ ¬ n' < 0 ∧ sq'.toNatClampNeg + n'.toNatClampNeg ≤ (h_k h (α o0)).2 ∧ dp'.toNatClampNeg + n'.toNatClampNeg ≤ (h_k h (α o1)).2 ∧ 1 ≤ m_fr i ∧ m_cat q + 18 ≤ m_lo i ∧ m_cat q ≤ 8 := ⟨hc0.2.2.1 k1, hc1.2.2.1 k2, e1 (by omega), e1 (by omega), e1 (by omega), f1, f2, k9, by omega, by omega⟩
              rw [if_pos hcc]
              have hkk : ((h_k h (α o0)).1 = 20 ∧ (h_k h (α o1)).1 = 20) ∨ ((h_k h (α o0)).1 = 21 ∧ (h_k h (α o1)).1 = 21) := by
                rw [hc0.1, hc1.1]
                omega
              rw [if_pos hkk]
              have ht2 := s_cpT (sx := sq'.toNatClampNeg) (d := dp'.toNatClampNeg) (n := n'.toNatClampNeg) ht (fun z => hR (Or.inl z)) hs0 hs1 a0R a1R k3 k4 hp hp2 hpp f1
              intro L e9
              cases (Option.some.inj e9)
              obtain ⟨w1, w2, w3, w4, w5, w6, w7⟩ := hw
              exact ⟨_, lv', q, _, rfl, s_cpF a1R (List.contains_iff_mem.mp k7), _, List.mem_singleton.mpr rfl, ht2, σ, α, w1, w2, s_cpC a1R (t_caF w3) (c_oEa R1 _), w4, w5, w6, hq⟩
            · exact q_no
          · exact q_no
        · exact q_no
      · exact q_no
  · exact q_no
end
end
section
-- the lesser and the greater of two; every plain step in one
-- the lesser or the greater of two: two ways
def j_mm (mn : Bool) (i pc : Nat) (S : AST) : Option (List AO) := match a_st S with
  | .inl y :: .inl x :: r => if 1 ≤ m_fr i ∧ (r.map a_cat).sum + 13 ≤ m_lo i then some (((t_cnd .le x y (w_fs S (a_lv S) r)).map (fun S1 => (pc + 3, w_fs S1 (a_lv S1) (.inl (if mn then x else y) :: r)))).toList ++ ((t_cnd .le y x (w_fs S (a_lv S) r)).map (fun S1 => (pc + 3, w_fs S1 (a_lv S1) (.inl (if mn then y else x) :: r)))).toList) else none
  | _ => none
def j_ml (i pc : Nat) (S : AST) : Option (List AO) := match a_st S with
  | .inr (.inl _) :: .inr (.inl _) :: r => if 1 ≤ m_fr i ∧ (r.map a_cat).sum + 15 ≤ m_lo i then t_pl (pc + 3) S r else none
  | _ => none
def j_nat (sp : List RS) (W : List (Nat × Nat)) (kd i idx pc : Nat) (S : AST) : Option (List AO) := match m_ml i idx with
  | some (nest, j) => if j = 900 then none else if j = 901 then (if kd = 0 then j_cp sp W i pc S else none) else if j = m_jmin ∨ j = m_jmax then (if kd = 0 ∧ nest = 0 then j_mm (j == m_jmin) i pc S else none) else if j = m_jminl ∨ j = m_jmaxl then (if kd = 0 ∧ nest = 0 then j_ml i pc S else none) else none
  | none => none
def j_inl (sp : List RS) (nul non : Int) (S : AST) : Option (List AO) := match a_st S with
  | .inr (.inr (o, (R, nn))) :: r => t_nul sp nul non S o R nn r
  | _ => none
def d_shr : LE → LE → Int × Int := fun _ y => if y.1 = [] ∧ 16 ≤ y.2 ∧ y.2 ≤ 31 then (0, 65535) else (-2147483648, 2147483647)
section
variable {sp : List RS} {ρ : Nat → Nat} {W : List (Nat × Nat)} {K : List Int} {KA : List Nat} {S : AST} {lv' : List (Nat × Value)} {st' : List Value} {h : MH} {pc : Nat} {st : List AT} {σ : Nat → Int} {α : Nat → Nat}
theorem q_mm {mn : Bool} (i : Nat) {R' : Option MA} (hR : ∀ x0 y0 q0, st' = .int y0 :: .int x0 :: q0 → 1 ≤ m_fr i → m_cat q0 + 13 ≤ m_lo i → R' = m_go (pc + 3) lv' (.int (if mn = true then (if y0 < x0 then y0 else x0) else (if x0 < y0 then y0 else x0)) :: q0) h) (ht : TH sp ρ h) (hw : TW ρ K KA S lv' st' h σ α) : T_P sp ρ W K KA (j_mm mn i pc S) h R' := by
  have hs := hw.2.2.2.2.2.2
  unfold j_mm
  split
  · next y x r hst =>
    rw [hst] at hs
    obtain ⟨v, q, rfl, ⟨y', rfl, hy⟩, hq1⟩ := t_sc hs
    obtain ⟨v, q2, rfl, ⟨x', rfl, hx⟩, hq⟩ := t_sc hq1
    split
    · next hc =>
      rw [hR x' y' q2 rfl hc.1 (by rw [t_ct hq]; exact hc.2)]
      have hw2 := q_fs (st := r) (st' := q2) hw hw.2.2.2.2.2.1 hq
      intro L e
      cases (Option.some.inj e)
      by_cases hxy : x' ≤ y'
      · have h1 : (if mn = true then (if y' < x' then y' else x') else (if x' < y' then y' else x')) = (if mn = true then x' else y') := by
          have h2 := Int32.le_iff_toInt_le.mp hxy
          cases mn with
          | true =>
            rw [if_pos rfl, if_pos rfl, if_neg (fun z => by have := Int32.lt_iff_toInt_lt.mp z; omega)]
          | false =>
            have hf : ¬ (false = true) := by decide
            rw [if_neg hf, if_neg hf]
            by_cases h3 : x' < y'
            · rw [if_pos h3]
            · rw [if_neg h3]
              exact Int32.toInt_inj.mp (by rw [Int32.lt_iff_toInt_lt] at h3; omega)
        rw [h1]
        obtain ⟨S', e1, w1⟩ := r_cnd (c := .le) hx hy hw2 (decide_eq_true hxy)
        refine ⟨_, lv', _, h, rfl, FR.refl _ _ _, _, List.mem_append_left _ (by rw [e1]; exact List.mem_singleton.mpr rfl), ht, σ, α, ?_⟩
        refine q_fs w1 w1.2.2.2.2.2.1 ⟨?_, hq⟩
        cases mn with
        | true => exact ⟨x', rfl, hx⟩
        | false => exact ⟨y', rfl, hy⟩
      · have hyx : y' < x' := by
          rw [Int32.le_iff_toInt_le] at hxy
          exact Int32.lt_iff_toInt_lt.mpr (by omega)
        have h2 := Int32.lt_iff_toInt_lt.mp hyx
        have h1 : (if mn = true then (if y' < x' then y' else x') else (if x' < y' then y' else x')) = (if mn = true then y' else x') := by
          cases mn with
          | true => rw [if_pos rfl, if_pos rfl, if_pos hyx]
          | false =>
            have hf : ¬ (false = true) := by decide
            have h3 : ¬ x' < y' := fun z => by have := Int32.lt_iff_toInt_lt.mp z; omega
            rw [if_neg hf, if_neg hf, if_neg h3]
        rw [h1]
        obtain ⟨S', e1, w1⟩ := r_cnd (c := .le) hy hx hw2 (decide_eq_true (Int32.le_iff_toInt_le.mpr (by omega)))
        refine ⟨_, lv', _, h, rfl, FR.refl _ _ _, _, List.mem_append_right _ (by rw [e1]; exact List.mem_singleton.mpr rfl), ht, σ, α, ?_⟩
        refine q_fs w1 w1.2.2.2.2.2.1 ⟨?_, hq⟩
        cases mn with
        | true => exact ⟨y', rfl, hy⟩
        | false => exact ⟨x', rfl, hx⟩
    · exact q_no
  · exact q_no
theorem q_ml (i : Nat) {R' : Option MA} (hR : ∀ x0 y0 q0, st' = .long y0 :: .long x0 :: q0 → 1 ≤ m_fr i → m_cat q0 + 15 ≤ m_lo i → ∃ z, R' = m_go (pc + 3) lv' (.long z :: q0) h) (ht : TH sp ρ h) (hw : TW ρ K KA S lv' st' h σ α) : T_P sp ρ W K KA (j_ml i pc S) h R' := by
  have hs := hw.2.2.2.2.2.2
  unfold j_ml
  split
  · next u1 u2 r hst =>
    rw [hst] at hs
    obtain ⟨v, q, rfl, ⟨y', rfl⟩, hq1⟩ := t_sc hs
    obtain ⟨v, q2, rfl, ⟨x', rfl⟩, hq⟩ := t_sc hq1
    split
    · next hc =>
      obtain ⟨z, hz⟩ := hR x' y' q2 rfl hc.1 (by rw [t_ct hq]; exact hc.2)
      rw [hz]
      exact q_pl ht hw hq
    · exact q_no
  · exact q_no
theorem q_nat (kd i idx : Nat) (ht : TH sp ρ h) (hw : TW ρ K KA S lv' st' h σ α) : T_P sp ρ W K KA (j_nat sp W kd i idx pc S) h (e_call kd i idx pc lv' st' h) := by
  unfold j_nat e_call
  generalize m_ml i idx = o
  match o with
  | none => exact q_no
  | some (nest, j) =>
    dsimp only
    by_cases c0 : j = 900
    · rw [if_pos c0]
      exact q_no
    rw [if_neg c0, if_neg c0]
    by_cases c1 : j = 901
    · rw [if_pos c1, if_pos c1]
      by_cases c2 : kd = 0
      · rw [if_pos c2, if_pos c2]
        exact q_cp i ht hw
      · rw [if_neg c2]
        exact q_no
    rw [if_neg c1, if_neg c1]
    by_cases c3 : j = m_jmin ∨ j = m_jmax
    · rw [if_pos c3, if_pos c3]
      by_cases c2 : kd = 0 ∧ nest = 0
      · rw [if_pos c2]
        refine q_mm i (fun x0 y0 q0 e e1 e2 => ?_) ht hw
        rw [e]
        dsimp only
        rw [if_pos ⟨c2.1, c2.2, e1, e2⟩]
        by_cases c4 : j = m_jmin
        · have hb : (j == m_jmin) = true := by rw [c4]; exact beq_self_eq_true _
          rw [if_pos c4, if_pos hb]
        · have hb : ¬ (j == m_jmin) = true := fun z => c4 (beq_iff_eq.mp z)
          rw [if_neg c4, if_neg hb]
      · rw [if_neg c2]
        exact q_no
    rw [if_neg c3, if_neg c3]
    by_cases c5 : j = m_jminl ∨ j = m_jmaxl
    · rw [if_pos c5, if_pos c5]
      by_cases c2 : kd = 0 ∧ nest = 0
      · rw [if_pos c2]
        refine q_ml i (fun x0 y0 q0 e e1 e2 => ?_) ht hw
        rw [e]
        dsimp only
        rw [if_pos ⟨c2.1, c2.2, e1, e2⟩]
        exact ⟨_, rfl⟩
      · rw [if_neg c2]
        exact q_no
    rw [if_neg c5]
    exact q_no
theorem d_shrS (x y : LE) (x' y' : Int32) (_ : x'.toInt = le_ev σ x) (hy : y'.toInt = le_ev σ y) : (d_shr x y).1 ≤ ((x'.toUInt32 >>> (y'.toUInt32 &&& Int32.toUInt32 31)).toInt32).toInt ∧ ((x'.toUInt32 >>> (y'.toUInt32 &&& Int32.toUInt32 31)).toInt32).toInt ≤ (d_shr x y).2 := by
  unfold d_shr
  split
  · next hc =>
    have e := le_const (σ := σ) hc.1
    have e3 : y' = Int32.ofInt y.2 := by rw [← e, ← hy, Int32.ofInt_toInt]
    obtain ⟨n, hn, hn1, hn2⟩ : ∃ n : Nat, y.2 = (n : Int) ∧ 16 ≤ n ∧ n ≤ 31 := ⟨y.2.toNat, by omega, by omega, by omega⟩
    rw [e3, hn]
    have hx := (x'.toUInt32).toNat_lt
    have key : ∀ n : Nat, n < 32 → ((Int32.ofInt (n : Int)).toUInt32 &&& Int32.toUInt32 31).toNat % 32 = n := by decide
    have hk := key n (by omega)
    generalize ((Int32.ofInt (n : Int)).toUInt32 &&& Int32.toUInt32 31) = w at hk
    have h1 : (x'.toUInt32 >>> w).toNat = x'.toUInt32.toNat >>> n := by
      rw [UInt32.toNat_shiftRight, hk]
    have h2 : x'.toUInt32.toNat >>> n ≤ 65535 := by
      rw [Nat.shiftRight_eq_div_pow]
      have h3 : 2 ^ 16 ≤ 2 ^ n := Nat.pow_le_pow_right (by decide) hn1
      have h4 : x'.toUInt32.toNat / 2 ^ n ≤ x'.toUInt32.toNat / 2 ^ 16 := Nat.div_le_div_left h3 (by decide)
      have h5 : x'.toUInt32.toNat / 2 ^ 16 ≤ 65535 := by omega
      omega
    have h6 : ((x'.toUInt32 >>> w).toInt32).toInt = ((x'.toUInt32 >>> w).toNat : Int) := by
      have h7 : ((x'.toUInt32 >>> w).toInt32).toBitVec = (x'.toUInt32 >>> w).toBitVec := rfl
      show ((x'.toUInt32 >>> w).toInt32).toBitVec.toInt = _
      rw [h7, BitVec.toInt_eq_toNat_of_lt (by show 2 * (x'.toUInt32 >>> w).toNat < 2 ^ 32; omega)]
      rfl
    rw [h6, h1]
    dsimp only
    omega
  · exact g_iT _
end
end
section
-- a shift by 0 leaves a number as it is
def jx_shr (pc : Nat) (S : AST) (st : List AT) : Option (List AO) := match st with
  | .inl y :: .inl x :: r => if le_ent (a_iv S) (a_cs S) y = true ∧ le_ent (a_iv S) (a_cs S) (le_mul (-1) y) = true then t_pe (pc + 1) S r x else jx_cc (fun x y => x >>> (y &&& 31)) d_top pc S st
  | _ => none
theorem q_shr {sp : List RS} {ρ : Nat → Nat} {W : List (Nat × Nat)} {K : List Int} {KA : List Nat} {S : AST} {lv' : List (Nat × Value)} {st' : List Value} {h : MH} {pc : Nat} {st : List AT} {σ : Nat → Int} {α : Nat → Nat} (ht : TH sp ρ h) (hw : TW ρ K KA S lv' st' h σ α) (hs : t_sk σ α ρ st st') : T_P sp ρ W K KA (jx_shr pc S st) h (e_ii (fun x y => x >>> (y &&& 31)) pc lv' st' h) := by
  unfold jx_shr
  split
  · next y x r =>
    split
    · next hc =>
      obtain ⟨v, q, e1, ⟨y', rfl, hy⟩, hq1⟩ := t_sc hs
      obtain ⟨v, q2, e2, ⟨x', rfl, hx⟩, hq⟩ := t_sc hq1
      subst e2
      subst e1
      have h1 := le_entS hw.1 hw.2.1 hc.1
      have h2 := le_entS hw.1 hw.2.1 hc.2
      rw [le_mulE] at h2
      have hy0 : y' = 0 := Int32.toInt_inj.mp (by rw [hy]; show le_ev σ y = 0; omega)
      refine q_pe ht hw hq ?_
      rw [hy0, ← hx]
      have : x' >>> ((0 : Int32) &&& 31) = x' := by
        have e0 : ((0 : Int32) &&& 31) = 0 := by decide
        rw [e0]
        exact Int32.shiftRight_zero
      exact congrArg Int32.toInt this
    · exact q_cc (fun x y => x >>> (y &&& 31)) d_top (d_topS (fun x y => x >>> (y &&& 31))) ht hw hs
  · exact q_no
-- every plain step
def j_ex (sp : List RS) (W : List (Nat × Nat)) (CC : Nat × (Nat × Nat)) (i pc : Nat) (ins : Instr) (S : AST) : Option (List AO) := match ins with
  | .iconst n => j_psh (pc + 1) S (Int32.ofInt n)
  | .bipush n => j_psh (pc + 2) S (Int8.ofInt n).toInt32
  | .sipush n => j_psh (pc + 3) S (Int16.ofInt n).toInt32
  | .lconst _ => t_pl (pc + 1) S (a_st S)
  | .aconst_null => j_null (pc + 1) S
  | .ldc idx => j_ldc 2 i idx pc S CC.2.1
  | .ldc_w idx => j_ldc 3 i idx pc S CC.2.1
  | .ldc2_w idx => (match m_jc i idx with
      | some _ => t_pl (pc + 3) S (a_st S)
      | none => none)
  | .iload_n k => j_ild k (pc + 1) S
  | .iload k => j_ild k (pc + 2) S
  | .lload_n k => j_lld k (pc + 1) S
  | .lload k => j_lld k (pc + 2) S
  | .aload_n k => j_ald k (pc + 1) S
  | .aload k => j_ald k (pc + 2) S
  | .istore_n k => j_ist (m_lc i) k (pc + 1) S
  | .istore k => j_ist (m_lc i) k (pc + 2) S
  | .lstore_n k => j_lst (m_lc i) k (pc + 1) S
  | .lstore k => j_lst (m_lc i) k (pc + 2) S
  | .astore_n k => j_ast (m_lc i) k (pc + 1) S
  | .astore k => j_ast (m_lc i) k (pc + 2) S
  | .iinc k z => j_inc (m_lc i) k z pc S
  | .iadd => jx_add pc S (a_st S)
  | .isub => jx_sub pc S (a_st S)
  | .imul => jx_mul pc S (a_st S)
  | .iand => jx_cc (fun x y => x &&& y) d_and pc S (a_st S)
  | .ior => jx_cc (fun x y => x ||| y) d_top pc S (a_st S)
  | .ixor => jx_cc (fun x y => x ^^^ y) d_top pc S (a_st S)
  | .idiv => jx_div pc S (a_st S)
  | .irem => jx_rem pc S (a_st S)
  | .ineg => jx_neg pc S (a_st S)
  | .ishl => jx_cc (fun x y => x <<< (y &&& 31)) d_top pc S (a_st S)
  | .ishr => jx_shr pc S (a_st S)
  | .iushr => jx_cc (fun x y => (x.toUInt32 >>> (y.toUInt32 &&& Int32.toUInt32 31)).toInt32) d_shr pc S (a_st S)
  | .ladd => jx_ll pc S (a_st S)
  | .lsub => jx_ll pc S (a_st S)
  | .land => jx_ll pc S (a_st S)
  | .lor => jx_ll pc S (a_st S)
  | .lxor => jx_ll pc S (a_st S)
  | .lneg => jx_l1 pc S (a_st S)
  | .lshl => jx_li pc S (a_st S)
  | .lshr => jx_li pc S (a_st S)
  | .lushr => jx_li pc S (a_st S)
  | .lcmp => j_lcmp pc S
  | .i2l => jx_il pc S (a_st S)
  | .l2i => jx_l2i pc S (a_st S)
  | .i2b => jx_i1 (fun x => x.toInt8.toInt32) (-128) 127 pc S (a_st S)
  | .i2c => jx_i1 (fun x => (x.toUInt32 % 65536).toInt32) 0 65535 pc S (a_st S)
  | .dup => j_dup pc S
  | .pop => j_pop pc S
  | .pop2 => j_pop2 pc S
  | .dup2 => j_dup2 pc S
  | .goto off => t_to pc off S (a_st S)
  | .ifCond c off => j_if c off pc S
  | .if_icmp c off => j_ic c off pc S
  | .ifnull off => j_inl sp ((pc : Int) + off) ((pc : Int) + 3) S
  | .ifnonnull off => j_inl sp ((pc : Int) + 3) ((pc : Int) + off) S
  | .tableswitch d lo hi offs => j_sw d lo hi offs pc S
  | .getfield idx => j_get sp i idx pc S
  | .putfield idx => j_put sp W i idx pc S
  | .getstatic idx => j_gets i idx pc S CC.1 CC.2.2
  | .iaload => j_iald sp 20 20 pc S
  | .baload => j_iald sp 21 22 pc S
  | .laload => j_lald sp pc S
  | .aaload => j_aald sp pc S
  | .iastore => j_iast sp W pc S
  | .bastore => j_bast sp W pc S
  | .lastore => j_last sp W pc S
  | .aastore => j_aast sp W pc S
  | .arraylength => j_alen sp pc S
  | .invokestatic idx => j_nat sp W 0 i idx pc S
  | _ => none
section
variable {sp : List RS} {ρ : Nat → Nat} {W : List (Nat × Nat)} {K : List Int} {KA : List Nat} {S : AST} {lv' : List (Nat × Value)} {st' : List Value} {h : MH} {pc : Nat} {st : List AT} {σ : Nat → Int} {α : Nat → Nat}
theorem i_b (x : Int32) : -128 ≤ (x.toInt8.toInt32).toInt ∧ (x.toInt8.toInt32).toInt ≤ 127 := by
  rw [Int8.toInt_toInt32]
  have h1 := Int8.le_toInt x.toInt8
  have h2 := Int8.toInt_lt x.toInt8
  omega
theorem i_ch (x : Int32) : 0 ≤ ((x.toUInt32 % 65536).toInt32).toInt ∧ ((x.toUInt32 % 65536).toInt32).toInt ≤ 65535 := by
  have h1 : (x.toUInt32 % 65536).toNat < 65536 := by
    rw [UInt32.toNat_mod]
    exact Nat.mod_lt _ (by decide)
  have h2 : ((x.toUInt32 % 65536).toInt32).toInt = ((x.toUInt32 % 65536).toNat : Int) := by
    have h7 : ((x.toUInt32 % 65536).toInt32).toBitVec = (x.toUInt32 % 65536).toBitVec := rfl
    show ((x.toUInt32 % 65536).toInt32).toBitVec.toInt = _
    rw [h7, BitVec.toInt_eq_toNat_of_lt (by show 2 * (x.toUInt32 % 65536).toNat < 2 ^ 32; omega)]
    rfl
  rw [h2]
  omega
theorem q_inl (i : Nat) (off : Int) (ht : TH sp ρ h) (hw : TW ρ K KA S lv' st' h σ α) : T_P sp ρ W K KA (j_inl sp ((pc : Int) + off) ((pc : Int) + 3) S) h (m_ex i pc (.ifnull off) lv' st' h) := by
  have hs := hw.2.2.2.2.2.2
  unfold j_inl
  split
  · next o R nn r hst =>
    rw [hst] at hs
    obtain ⟨v, q, rfl, ⟨rfl, hrf⟩, hq⟩ := t_sc hs
    refine q_nul ht hw hq hrf (fun h0 e => ?_) (fun h0 e => ?_)
    · show (if α o = 0 then m_tg pc off lv' q h else if 16 ≤ α o then m_go (pc + 3) lv' q h else none) = _
      rw [if_pos e]
      unfold m_tg
      rw [if_pos h0]
    · show (if α o = 0 then m_tg pc off lv' q h else if 16 ≤ α o then m_go (pc + 3) lv' q h else none) = _
      rw [if_neg (by omega), if_pos e]
      unfold m_go
      have : ((pc : Int) + 3).toNat = pc + 3 := by omega
      rw [this]
  · exact q_no
theorem q_inn (i : Nat) (off : Int) (ht : TH sp ρ h) (hw : TW ρ K KA S lv' st' h σ α) : T_P sp ρ W K KA (j_inl sp ((pc : Int) + 3) ((pc : Int) + off) S) h (m_ex i pc (.ifnonnull off) lv' st' h) := by
  have hs := hw.2.2.2.2.2.2
  unfold j_inl
  split
  · next o R nn r hst =>
    rw [hst] at hs
    obtain ⟨v, q, rfl, ⟨rfl, hrf⟩, hq⟩ := t_sc hs
    refine q_nul ht hw hq hrf (fun h0 e => ?_) (fun h0 e => ?_)
    · show (if α o = 0 then m_go (pc + 3) lv' q h else if 16 ≤ α o then m_tg pc off lv' q h else none) = _
      rw [if_pos e]
      unfold m_go
      have : ((pc : Int) + 3).toNat = pc + 3 := by omega
      rw [this]
    · show (if α o = 0 then m_go (pc + 3) lv' q h else if 16 ≤ α o then m_tg pc off lv' q h else none) = _
      rw [if_neg (by omega), if_pos e]
      unfold m_tg
      rw [if_pos h0]
  · exact q_no
set_option maxHeartbeats 4000000 in
theorem q_ex (CC : Nat × (Nat × Nat)) (i : Nat) (ins : Instr) (hc1 : t_rf ρ CC.1 true 1) (hc2 : ∀ a, 2 ≤ a → a < 8 → t_rf ρ CC.2.1 true a) (hc3 : t_rf ρ CC.2.2 true 15) (hlen : ∀ (R : Nat) (rs : RS), sp[R]? = some rs → rs.1.2.2 < 1000 ∨ ¬ (30 ≤ rs.1.1 ∧ rs.1.1 < 33)) (ht : TH sp ρ h) (hw : TW ρ K KA S lv' st' h σ α) : T_P sp ρ W K KA (j_ex sp W CC i pc ins S) h (m_ex i pc ins lv' st' h) := by
  have hs := hw.2.2.2.2.2.2
  cases ins with
  | iconst n => exact q_psh _ ht hw
  | bipush n => exact q_psh _ ht hw
  | sipush n => exact q_psh _ ht hw
  | lconst n => exact q_pl ht hw hs
  | aconst_null => exact q_null ht hw
  | ldc idx => exact q_ldc 2 i idx _ hc2 ht hw
  | ldc_w idx => exact q_ldc 3 i idx _ hc2 ht hw
  | ldc2_w idx =>
    show T_P sp ρ W K KA (match m_jc i idx with
      | some _ => t_pl (pc + 3) S (a_st S)
      | none => none) h (match m_jc i idx with
      | some x => m_go (pc + 3) lv' (.long x :: st') h
      | none => none)
    generalize m_jc i idx = o
    match o with
    | none => exact q_no
    | some x => exact q_pl ht hw hs
  | iload_n k => exact q_ild k ht hw
  | iload k => exact q_ild k ht hw
  | lload_n k => exact q_lld k ht hw
  | lload k => exact q_lld k ht hw
  | aload_n k => exact q_ald k ht hw
  | aload k => exact q_ald k ht hw
  | istore_n k => exact q_ist _ k ht hw
  | istore k => exact q_ist _ k ht hw
  | lstore_n k => exact q_lst _ k ht hw
  | lstore k => exact q_lst _ k ht hw
  | astore_n k => exact q_ast _ k ht hw
  | astore k => exact q_ast _ k ht hw
  | iinc k z => exact q_inc _ k z ht hw
  | iadd => exact q_add ht hw hs
  | isub => exact q_sub ht hw hs
  | imul => exact q_mul ht hw hs
  | iand => exact q_cc (fun x y => x &&& y) d_and d_andS ht hw hs
  | ior => exact q_cc (fun x y => x ||| y) d_top (d_topS (fun x y => x ||| y)) ht hw hs
  | ixor => exact q_cc (fun x y => x ^^^ y) d_top (d_topS (fun x y => x ^^^ y)) ht hw hs
  | idiv => exact q_div ht hw hs
  | irem => exact q_rem ht hw hs
  | ineg => exact q_neg ht hw hs
  | ishl => exact q_cc (fun x y => x <<< (y &&& 31)) d_top (d_topS (fun x y => x <<< (y &&& 31))) ht hw hs
  | ishr => exact q_shr ht hw hs
  | iushr => exact q_cc (fun x y => (x.toUInt32 >>> (y.toUInt32 &&& Int32.toUInt32 31)).toInt32) d_shr d_shrS ht hw hs
  | ladd => exact q_ll _ ht hw hs
  | lsub => exact q_ll _ ht hw hs
  | land => exact q_ll _ ht hw hs
  | lor => exact q_ll _ ht hw hs
  | lxor => exact q_ll _ ht hw hs
  | lneg => exact q_l1 _ ht hw hs
  | lshl => exact q_li _ ht hw hs
  | lshr => exact q_li _ ht hw hs
  | lushr => exact q_li _ ht hw hs
  | lcmp => exact q_lcmp i ht hw
  | i2l => exact q_il _ ht hw hs
  | l2i => exact q_l2i _ ht hw hs
  | i2b => exact q_i1 (fun x => x.toInt8.toInt32) (-128) 127 i_b ht hw hs
  | i2c => exact q_i1 (fun x => (x.toUInt32 % 65536).toInt32) 0 65535 i_ch ht hw hs
  | dup => exact q_dup ht hw i
  | pop => exact q_pop ht hw i
  | pop2 => exact q_pop2 ht hw i
  | dup2 => exact q_dup2 ht hw i
  | goto off => exact q_to off ht hw hs
  | ifCond c off => exact q_if c off ht hw i
  | if_icmp c off => exact q_ic c off ht hw i
  | ifnull off => exact q_inl i off ht hw
  | ifnonnull off => exact q_inn i off ht hw
  | tableswitch d lo hi offs => exact q_sw i d lo hi offs ht hw
  | getfield idx => exact q_get i idx ht hw
  | putfield idx => exact q_put i idx ht hw
  | getstatic idx => exact q_gets i idx _ _ hc1 hc3 ht hw
  | iaload => exact q_iald 20 20 ht hw
  | baload => exact q_iald 21 22 ht hw
  | laload => exact q_lald ht hw
  | aaload => exact q_aald ht hw
  | iastore => exact q_iast ht hw
  | bastore => exact q_bast ht hw
  | lastore => exact q_last ht hw
  | aastore => exact q_aast hlen ht hw
  | arraylength => exact q_alen ht hw
  | invokestatic idx => exact q_nat 0 i idx ht hw
  | _ => exact q_no
end
end
section
-- LARGER FRAMES: a run that may make things; what is known of the heap by name (tokens)
-- (1000, 1002) in W: it may make things
def FQ (ρ ρ' : Nat → Nat) (W : List (Nat × Nat)) (h h' : MH) : Prop := (h_n h ≤ h_n h' ∧ ((1000, 1002) ∉ W → h'.1 = h.1)) ∧ (∀ a, ρ a ≠ 0 → ρ' a = ρ a) ∧ (∀ a, ρ a = 0 → ρ' a ≠ 0 → 16 + h_n h ≤ a ∧ (ρ' a, 1002) ∈ W) ∧ ∀ a, a < 16 + h_n h → h_k h' a = h_k h a ∧ ∀ k, ¬ t_W W (ρ a) k → h_i h' a k = h_i h a k ∧ h_l h' a k = h_l h a k ∧ h_r h' a k = h_r h a k
theorem FQ.refl (ρ : Nat → Nat) (W : List (Nat × Nat)) (h : MH) : FQ ρ ρ W h h := ⟨⟨Nat.le_refl _, fun _ => rfl⟩, fun _ _ => rfl, fun _ h1 h2 => absurd h1 h2, fun _ _ => ⟨rfl, fun _ _ => ⟨rfl, rfl, rfl⟩⟩⟩
theorem FQ.same {ρ ρ' : Nat → Nat} {W : List (Nat × Nat)} {h h' : MH} (f : FQ ρ ρ' W h h') {a : Nat} (ha : a < 16 + h_n h) : ρ' a = ρ a := by
  by_cases h0 : ρ a = 0
  · by_cases h1 : ρ' a = 0
    · rw [h0, h1]
    · have := (f.2.2.1 a h0 h1).1
      omega
  · exact f.2.1 a h0
theorem FQ.trans {ρ ρ1 ρ2 : Nat → Nat} {W : List (Nat × Nat)} {h h1 h2 : MH} (f : FQ ρ ρ1 W h h1) (g : FQ ρ1 ρ2 W h1 h2) : FQ ρ ρ2 W h h2 := by
  have fs := @FQ.same _ _ _ _ _ f
  obtain ⟨⟨f1, f0⟩, f2, f3, f4⟩ := f
  obtain ⟨⟨g1, g0⟩, g2, g3, g4⟩ := g
  refine ⟨⟨Nat.le_trans f1 g1, fun z => (g0 z).trans (f0 z)⟩, fun a ha => ?_, fun a ha hb => ?_, fun a ha => ?_⟩
  · have e := f2 a ha
    rw [g2 a (by rw [e]; exact ha), e]
  · by_cases hc : ρ1 a = 0
    · have := g3 a hc hb
      exact ⟨by omega, this.2⟩
    · rw [g2 a hc]
      exact f3 a ha hc
  · have e := fs ha
    obtain ⟨x1, x2⟩ := f4 a ha
    obtain ⟨y1, y2⟩ := g4 a (by omega)
    refine ⟨y1.trans x1, fun k hk => ?_⟩
    obtain ⟨x3, x4, x5⟩ := x2 k hk
    obtain ⟨y3, y4, y5⟩ := y2 k (by rw [e]; exact hk)
    exact ⟨y3.trans x3, y4.trans x4, y5.trans x5⟩
theorem FQ.ofFR {ρ : Nat → Nat} {W : List (Nat × Nat)} {h h' : MH} (f : FR ρ W h h') : FQ ρ ρ W h h' := by
  obtain ⟨f1, f2, f3⟩ := f
  refine ⟨⟨?_, fun _ => f1⟩, fun _ _ => rfl, fun _ h1 h2 => absurd h1 h2, fun a _ => ⟨f2 a, fun k hk => f3 a k hk⟩⟩
  unfold h_n
  rw [f1]
  exact Nat.le_refl _
def d_sub (W1 W2 : List (Nat × Nat)) : Bool := W1.all (fun q => W2.contains q || (!(q.2 == 1002) && W2.contains (q.1, 1001)))
theorem FQ.mono {ρ ρ' : Nat → Nat} {W1 W2 : List (Nat × Nat)} {h h' : MH} (hs : d_sub W1 W2 = true) (f : FQ ρ ρ' W1 h h') : FQ ρ ρ' W2 h h' := by
  obtain ⟨f1, f2, f3, f4⟩ := f
  have key : ∀ q ∈ W1, q ∈ W2 ∨ (q.2 ≠ 1002 ∧ (q.1, 1001) ∈ W2) := by
    intro q hq
    have := List.all_eq_true.mp hs q hq
    rw [Bool.or_eq_true, Bool.and_eq_true] at this
    rcases this with t | ⟨t1, t2⟩
    · exact Or.inl (List.contains_iff_mem.mp t)
    · refine Or.inr ⟨fun e => ?_, List.contains_iff_mem.mp t2⟩
      rw [e] at t1
      simp at t1
  refine ⟨⟨f1.1, fun z => f1.2 (fun z2 => ?_)⟩, f2, fun a h1 h2 => ?_, fun a ha => ?_⟩
  · rcases key _ z2 with t | t
    · exact z t
    · exact absurd rfl t.1
  · obtain ⟨f5, f6⟩ := f3 a h1 h2
    rcases key _ f6 with t | t
    · exact ⟨f5, t⟩
    · exact absurd rfl t.1
  · obtain ⟨x1, x2⟩ := f4 a ha
    refine ⟨x1, fun k hk => x2 k (fun z => hk ?_)⟩
    rcases z with z | z
    · rcases key _ z with t | t
      · exact Or.inl t
      · exact Or.inr t.2
    · rcases key _ z with t | t
      · exact Or.inr t
      · exact Or.inr t.2
-- two places that may be one: (region, field), 1001: all elements, 1002: new ones
def d_cf (d q : Nat × Nat) : Bool := d.1 == q.1 && (d.2 == q.2 || ((d.2 == 1001 || q.2 == 1001) && !(d.2 == 1002) && !(q.2 == 1002)))
def d_no (D W : List (Nat × Nat)) : Bool := D.all (fun d => W.all (fun q => !d_cf d q))
theorem d_noW {D W : List (Nat × Nat)} {R k : Nat} (hn : d_no D W = true) (hd : (R, k) ∈ D) (hk : k ≠ 1002) : ¬ t_W W R k := by
  intro z
  rcases z with z | z
  · have := List.all_eq_true.mp (List.all_eq_true.mp hn _ hd) _ z
    simp [d_cf] at this
  · have := List.all_eq_true.mp (List.all_eq_true.mp hn _ hd) _ z
    simp [d_cf, hk] at this
theorem d_noE {D W : List (Nat × Nat)} {R k : Nat} (hn : d_no D W = true) (hd : (R, 1001) ∈ D) : ¬ t_W W R k ∨ k = 1002 := by
  by_cases hk : k = 1002
  · exact Or.inr hk
  refine Or.inl (fun z => ?_)
  rcases z with z | z
  · have := List.all_eq_true.mp (List.all_eq_true.mp hn _ hd) _ z
    simp [d_cf, hk] at this
  · have := List.all_eq_true.mp (List.all_eq_true.mp hn _ hd) _ z
    simp [d_cf] at this
theorem d_noN {D W : List (Nat × Nat)} {R : Nat} (hn : d_no D W = true) (hd : (R, 1002) ∈ D) : ¬ (R, 1002) ∈ W := by
  intro z
  have := List.all_eq_true.mp (List.all_eq_true.mp hn _ hd) _ z
  simp [d_cf] at this
-- symbols below a number
def xg_l (n : Nat) (l : List (Nat × Int)) : Bool := l.all (fun q => Nat.blt q.1 n)
def xg_at (n : Nat) (t : AT) : Bool := match t with
  | .inl e => xg_l n e.1
  | .inr (.inl _) => true
  | .inr (.inr q) => Nat.blt q.1 n
def xg_S (n : Nat) (S : AST) : Bool := (a_iv S).all (fun q => Nat.blt q.1 n) && ((a_cs S).all (fun e => xg_l n e.1) && ((a_ca S).all (fun q => (Nat.blt q.1.1 n && Nat.blt q.1.2.2 (5000 + n)) && xg_at n q.2) && ((a_kp S).all (fun e => xg_l n e.1) && ((a_ko S).all (fun o => Nat.blt o n) && ((a_lv S).all (fun q => xg_at n q.2) && (a_st S).all (fun t => xg_at n t))))))
theorem xg_lt {k n : Nat} (h : Nat.blt k n = true) : k < n := Nat.le_of_ble_eq_true h
theorem xg_lS {σ σ' : Nat → Int} {n : Nat} (hs : ∀ k, k < n → σ' k = σ k) : ∀ l : List (Nat × Int), xg_l n l = true → l_ev σ' l = l_ev σ l
  | [], _ => rfl
  | (k, a) :: r, h => by
    unfold xg_l at h
    rw [List.all_cons, Bool.and_eq_true] at h
    rw [l_ev, l_ev, hs k (xg_lt h.1), xg_lS hs r h.2]
theorem xg_eS {σ σ' : Nat → Int} {n : Nat} (hs : ∀ k, k < n → σ' k = σ k) (e : LE) (h : xg_l n e.1 = true) : le_ev σ' e = le_ev σ e := by
  unfold le_ev
  rw [xg_lS hs e.1 h]
section
variable {ρ : Nat → Nat} {K : List Int} {KA : List Nat} {S : AST} {lv : List (Nat × Value)} {st : List Value} {h : MH} {σ σ' : Nat → Int} {α α' : Nat → Nat} {n : Nat}
theorem xg_atS {t : AT} {v : Value} (hs : ∀ k, k < n → σ' k = σ k) (ha : ∀ k, k < n → α' k = α k) (hf : xg_at n t = true) (hv : t_at σ α ρ t v) : t_at σ' α' ρ t v := by
  cases t with
  | inl e =>
    obtain ⟨x, h1, h2⟩ := hv
    exact ⟨x, h1, by rw [xg_eS hs e hf]; exact h2⟩
  | inr t => cases t with
    | inl u => exact hv
    | inr q =>
      have e := ha q.1 (xg_lt hf)
      show v = .ref (α' q.1) ∧ t_rf ρ q.2.1 q.2.2 (α' q.1)
      rw [e]
      exact hv
theorem xg_kx {k : Nat} (hs : ∀ k, k < n → σ' k = σ k) (hk : k < 5000 + n) : t_kx σ' k = t_kx σ k := by
  unfold t_kx
  by_cases h : k < 5000
  · rw [if_pos h, if_pos h]
  · rw [if_neg h, if_neg h, hs _ (by omega)]
theorem xg_fvS {b k : Nat} {t : AT} (hs : ∀ k, k < n → σ' k = σ k) (ha : ∀ k, k < n → α' k = α k) (hk : k < 5000 + n) (hf : xg_at n t = true) (hv : t_fv σ α ρ h b k t) : t_fv σ' α' ρ h b k t := by
  cases t with
  | inl e =>
    show if k = 1000 then _ = le_ev σ' e else (h_i h b (t_kx σ' k)).toInt = le_ev σ' e
    rw [xg_eS hs e hf, xg_kx hs hk]
    exact hv
  | inr t => cases t with
    | inl u => exact hv
    | inr q =>
      have e := ha q.1 (xg_lt hf)
      show h_r h b (t_kx σ' k) = α' q.1 ∧ t_rf ρ q.2.1 q.2.2 (α' q.1)
      rw [e, xg_kx hs hk]
      exact hv
theorem xg_skS (hs : ∀ k, k < n → σ' k = σ k) (ha : ∀ k, k < n → α' k = α k) : ∀ {t : List AT} {v : List Value}, t.all (fun t => xg_at n t) = true → t_sk σ α ρ t v → t_sk σ' α' ρ t v
  | [], [], _, h => h
  | t :: r, v :: q, hf, h => by
    rw [List.all_cons, Bool.and_eq_true] at hf
    exact ⟨xg_atS hs ha hf.1 h.1, xg_skS hs ha hf.2 h.2⟩
  | [], _ :: _, _, h => h.elim
  | _ :: _, [], _, h => h.elim
theorem xg_SS (hs : ∀ k, k < n → σ' k = σ k) (ha : ∀ k, k < n → α' k = α k) (hf : xg_S n S = true) (hw : TW ρ K KA S lv st h σ α) : TW ρ K KA S lv st h σ' α' := by
  unfold xg_S at hf
  simp only [Bool.and_eq_true, List.all_eq_true] at hf
  obtain ⟨f1, f2, f3, f4, f5, f6, f7⟩ := hf
  obtain ⟨w1, w2, w3, w4, w5, w6, w7⟩ := hw
  refine ⟨fun q hq => ?_, fun e he => ?_, fun q hq => ?_, ?_, ?_, fun q hq => ?_, xg_skS hs ha (List.all_eq_true.mpr f7) w7⟩
  · rw [hs _ (xg_lt (f1 q hq))]
    exact w1 q hq
  · rw [xg_eS hs e (f2 e he)]
    exact w2 e he
  · obtain ⟨g1, g2⟩ := w3 q hq
    rw [ha _ (xg_lt (f3 q hq).1.1)]
    exact ⟨g1, xg_fvS hs ha (xg_lt (f3 q hq).1.2) (f3 q hq).2 g2⟩
  · rw [← w4]
    exact List.map_congr_left (fun e he => xg_eS hs e (f4 e he))
  · rw [← w5]
    exact List.map_congr_left (fun o ho => ha _ (xg_lt (f5 o ho)))
  · obtain ⟨x, h1, h2⟩ := w6 q hq
    exact ⟨x, h1, xg_atS hs ha (f6 q hq) h2⟩
end
-- heaps that a larger frame joins: what a state says stays
section
variable {ρ ρ' : Nat → Nat} {W : List (Nat × Nat)} {h h' : MH} {σ : Nat → Int} {α : Nat → Nat}
theorem x_rf {R : Nat} {nn : Bool} {a : Nat} (f : FQ ρ ρ' W h h') (hr : t_rf ρ R nn a) : t_rf ρ' R nn a := by
  rcases hr with hr | ⟨h1, h2, h3⟩
  · exact Or.inl hr
  · exact Or.inr ⟨h1, h2, by rw [f.2.1 a (by rw [h3]; exact h2), h3]⟩
theorem x_at {t : AT} {v : Value} (f : FQ ρ ρ' W h h') (hv : t_at σ α ρ t v) : t_at σ α ρ' t v := by
  cases t with
  | inl e => exact hv
  | inr t => cases t with
    | inl u => exact hv
    | inr q => exact ⟨hv.1, x_rf f hv.2⟩
theorem x_sk (f : FQ ρ ρ' W h h') : ∀ {t : List AT} {v : List Value}, t_sk σ α ρ t v → t_sk σ α ρ' t v
  | [], [], h => h
  | t :: r, v :: q, h => ⟨x_at f h.1, x_sk f h.2⟩
  | [], _ :: _, h => h.elim
  | _ :: _, [], h => h.elim
theorem x_lv {t : List (Nat × AT)} {v : List (Nat × Value)} (f : FQ ρ ρ' W h h') (hl : t_lv σ α ρ t v) : t_lv σ α ρ' t v := fun q hq => by
  obtain ⟨x, h1, h2⟩ := hl q hq
  exact ⟨x, h1, x_at f h2⟩
def a_in (t : AT) : Bool := match t with
  | .inl _ => true
  | _ => false
-- no write that may reach a key's place
def x_wn (W : List (Nat × Nat)) (R k : Nat) : Bool := if k < 5000 then !(t_Wb W R k) else W.all (fun q => !(Nat.beq q.1 R))
def x_kf (W : List (Nat × Nat)) (ca : CA) : CA := ca.filter (fun q => !(q.1.2.1 == 0) && ((q.1.2.2 == 1000 && a_in q.2) || x_wn W q.1.2.1 q.1.2.2))
theorem x_Wb {R k : Nat} (e : t_Wb W R k = false) : ¬ t_W W R k := by
  intro z
  have : t_Wb W R k = true := by
    unfold t_Wb
    rcases z with z | z
    · exact List.any_eq_true.mpr ⟨_, z, by simp⟩
    · exact List.any_eq_true.mpr ⟨_, z, by simp⟩
  rw [e] at this
  cases this
theorem x_wnS {R k : Nat} (e : x_wn W R k = true) : ¬ t_W W R (t_kx σ k) := by
  unfold x_wn at e
  by_cases h : k < 5000
  · rw [if_pos h] at e
    rw [t_kxl h]
    exact x_Wb (by simpa using e)
  · rw [if_neg h] at e
    intro z
    rcases z with z | z
    · have := List.all_eq_true.mp e _ z
      simp at this
    · have := List.all_eq_true.mp e _ z
      simp at this
theorem x_ca {sp : List RS} {ca : CA} (ht : TH sp ρ h) (f : FQ ρ ρ' W h h') (hc : t_ca σ α ρ h ca) : t_ca σ α ρ' h' (x_kf W ca) := by
  intro q hq
  obtain ⟨m1, m2⟩ := List.mem_filter.mp hq
  obtain ⟨⟨g1, g3⟩, g2⟩ := hc q m1
  rw [Bool.and_eq_true, Bool.or_eq_true] at m2
  obtain ⟨⟨o, R, k⟩, t⟩ := q
  dsimp only at g1 g2 g3 m2 ⊢
  have hR : R ≠ 0 := fun e => by
    rw [e] at m2
    simp at m2
  have hne : ρ (α o) ≠ 0 := by rw [g3]; exact hR
  have e1 := f.2.1 _ hne
  obtain ⟨x1, x2⟩ := f.2.2.2 _ (ht.2 _ hne).1
  refine ⟨⟨g1, by rw [e1]; exact g3⟩, ?_⟩
  cases t with
  | inl e =>
    have g2 : if k = 1000 then ((h_k h (α o)).2 : Int) = le_ev σ e else (h_i h (α o) (t_kx σ k)).toInt = le_ev σ e := g2
    show if k = 1000 then ((h_k h' (α o)).2 : Int) = le_ev σ e else (h_i h' (α o) (t_kx σ k)).toInt = le_ev σ e
    by_cases hk : k = 1000
    · rw [if_pos hk] at g2 ⊢
      rw [x1]
      exact g2
    · rw [if_neg hk] at g2 ⊢
      have hw : x_wn W R k = true := by
        rcases m2.2 with m | m
        · rw [Bool.and_eq_true] at m
          exact absurd (beq_iff_eq.mp m.1) hk
        · exact m
      rw [(x2 (t_kx σ k) (by rw [g3]; exact x_wnS hw)).1]
      exact g2
  | inr t => cases t with
    | inl u => trivial
    | inr q =>
      obtain ⟨g4, g5⟩ := g2
      refine ⟨?_, x_rf f g5⟩
      have hw : x_wn W R k = true := by
        rcases m2.2 with m | m
        · rw [Bool.and_eq_true] at m
          cases m.2
        · exact m
      rw [(x2 (t_kx σ k) (by rw [g3]; exact x_wnS hw)).2.2]
      exact g4
end
end
section
-- words for symbols; a state that another one joins
def s_i (θ : Nat → LE) : List (Nat × Int) → LE
  | [] => ([], 0)
  | (k, a) :: r => le_add (le_mul a (θ k)) (s_i θ r)
def s_e (θ : Nat → LE) (e : LE) : LE := le_add (s_i θ e.1) (le_c e.2)
theorem s_iE (σ : Nat → Int) (θ : Nat → LE) : ∀ l : List (Nat × Int), le_ev σ (s_i θ l) = l_ev (fun k => le_ev σ (θ k)) l
  | [] => rfl
  | (k, a) :: r => by
    rw [s_i, le_addE, le_mulE, s_iE σ θ r]
    rfl
theorem s_eE (σ : Nat → Int) (θ : Nat → LE) (e : LE) : le_ev σ (s_e θ e) = le_ev (fun k => le_ev σ (θ k)) e := by
  unfold s_e
  rw [le_addE, s_iE, le_cE]
  rfl
def s_at (θ : Nat → LE) (φ : Nat → Nat) (t : AT) : AT := match t with
  | .inl e => .inl (s_e θ e)
  | .inr (.inl u) => .inr (.inl u)
  | .inr (.inr q) => .inr (.inr (φ q.1, q.2))
def u_en (S : AST) (e : LE) : Bool := le_ent (a_iv S) (a_cs S) e
def u_eq (S : AST) (e e' : LE) : Bool := decide (e = e') || (u_en S (le_sub e e') && u_en S (le_sub e' e))
def c_sk (S : AST) (o R : Nat) (j : LE) : CA → Option AT
  | [] => none
  | q :: r => if Nat.beq q.1.1 o && (Nat.beq q.1.2.1 R && (Nat.ble 5000 q.1.2.2 && u_eq S (le_s (q.1.2.2 - 5000)) j)) then some q.2 else c_sk S o R j r
theorem c_skm {S : AST} {o R : Nat} {j : LE} {t : AT} : ∀ {ca : CA}, c_sk S o R j ca = some t → ∃ n, ((o, (R, 5000 + n)), t) ∈ ca ∧ u_eq S (le_s n) j = true
  | [], h => by cases h
  | q :: r, h => by
    rw [c_sk] at h
    split at h
    · next hc =>
      rw [Bool.and_eq_true, Bool.and_eq_true, Bool.and_eq_true] at hc
      obtain ⟨c1, c2, c3, c4⟩ := hc
      have e1 := Nat.eq_of_beq_eq_true c1
      have e2 := Nat.eq_of_beq_eq_true c2
      have e3 := Nat.le_of_ble_eq_true c3
      cases h
      refine ⟨q.1.2.2 - 5000, ?_, c4⟩
      have : ((o, (R, 5000 + (q.1.2.2 - 5000))), q.2) = q := by
        obtain ⟨⟨a, b, c⟩, t⟩ := q
        dsimp only at e1 e2 e3 ⊢
        rw [e1, e2, Nat.add_sub_cancel' e3]
      rw [this]
      exact List.mem_cons_self
    · obtain ⟨n, m1, m2⟩ := c_skm h
      exact ⟨n, List.mem_cons_of_mem _ m1, m2⟩
-- an element at a word's place: in a state's cache
def u_ca (θ : Nat → LE) (φ : Nat → Nat) (S : AST) (k : Nat × (Nat × Nat)) : Option AT := if k.2.2 < 5000 then c_lk (a_ca S) (φ k.1, k.2) else c_sk S (φ k.1) k.2.1 (θ (k.2.2 - 5000)) (a_ca S)
def u_at (θ : Nat → LE) (φ : Nat → Nat) (S : AST) (t t' : AT) : Bool := match t, t' with
  | .inl e, .inl e' => u_eq S (s_e θ e) e'
  | .inr (.inl _), .inr (.inl _) => true
  | .inr (.inr q), .inr (.inr q') => Nat.beq (φ q.1) q'.1 && t_asg q' q.2
  | _, _ => false
def u_sk (θ : Nat → LE) (φ : Nat → Nat) (S : AST) : List AT → List AT → Bool
  | [], [] => true
  | t :: r, t' :: r' => u_at θ φ S t t' && u_sk θ φ S r r'
  | _, _ => false
def u_ok (θ : Nat → LE) (φ : Nat → Nat) (C S : AST) : Bool := (a_iv C).all (fun q => u_en S (le_sub (le_c q.2.1) (θ q.1)) && u_en S (le_sub (θ q.1) (le_c q.2.2))) && ((a_cs C).all (fun e => u_en S (s_e θ e)) && ((a_ca C).all (fun q => match u_ca θ φ S q.1 with
    | some t' => u_at θ φ S q.2 t'
    | none => false) && ((a_lv C).all (fun q => match m_lk (a_lv S) q.1 with
    | some t' => u_at θ φ S q.2 t'
    | none => false) && u_sk θ φ S (a_st C) (a_st S))))
section
variable {ρ : Nat → Nat} {K : List Int} {KA : List Nat} {C S : AST} {lv : List (Nat × Value)} {st : List Value} {h : MH} {σ : Nat → Int} {α : Nat → Nat} {θ : Nat → LE} {φ : Nat → Nat}
theorem u_enS {e : LE} (hw : TW ρ K KA S lv st h σ α) (k : u_en S e = true) : le_ev σ e ≤ 0 := le_entS hw.1 hw.2.1 k
theorem u_eqS {e e' : LE} (hw : TW ρ K KA S lv st h σ α) (k : u_eq S e e' = true) : le_ev σ e = le_ev σ e' := by
  unfold u_eq at k
  rw [Bool.or_eq_true, Bool.and_eq_true] at k
  rcases k with k | ⟨k1, k2⟩
  · rw [of_decide_eq_true k]
  · have h1 := u_enS hw k1
    have h2 := u_enS hw k2
    rw [le_subE] at h1 h2
    omega
theorem u_atS {t t' : AT} {v : Value} (hw : TW ρ K KA S lv st h σ α) (k : u_at θ φ S t t' = true) (hv : t_at σ α ρ t' v) : t_at (fun k => le_ev σ (θ k)) (fun o => α (φ o)) ρ t v := by
  unfold u_at at k
  split at k
  · next e e' =>
    obtain ⟨x, h1, h2⟩ := hv
    refine ⟨x, h1, ?_⟩
    rw [h2, ← u_eqS hw k, s_eE]
  · exact hv
  · next q q' =>
    rw [Bool.and_eq_true] at k
    have e := Nat.eq_of_beq_eq_true k.1
    obtain ⟨h1, h2⟩ := hv
    show v = .ref (α (φ q.1)) ∧ t_rf ρ q.2.1 q.2.2 (α (φ q.1))
    rw [e]
    exact ⟨h1, t_asgS k.2 h2⟩
  · cases k
theorem u_fvS {t t' : AT} {a f f' : Nat} (hf : f < 1000 ∧ f' = f ∨ f = 1000 ∧ f' = 1000 ∨ (1000 < f ∧ 1000 < f')) (hx : t_kx (fun k => le_ev σ (θ k)) f = t_kx σ f') (hw : TW ρ K KA S lv st h σ α) (k : u_at θ φ S t t' = true) (hv : t_fv σ α ρ h a f' t') : t_fv (fun k => le_ev σ (θ k)) (fun o => α (φ o)) ρ h a f t := by
  unfold u_at at k
  split at k
  · next e e' =>
    have hv : if f' = 1000 then ((h_k h a).2 : Int) = le_ev σ e' else (h_i h a (t_kx σ f')).toInt = le_ev σ e' := hv
    show if f = 1000 then ((h_k h a).2 : Int) = le_ev (fun k => le_ev σ (θ k)) e else (h_i h a (t_kx _ f)).toInt = le_ev (fun k => le_ev σ (θ k)) e
    rw [← s_eE, u_eqS hw k, hx]
    by_cases h1 : f = 1000
    · rw [if_pos h1]
      rw [if_pos (by omega)] at hv
      exact hv
    · rw [if_neg h1]
      rw [if_neg (by omega)] at hv
      exact hv
  · trivial
  · next q q' =>
    rw [Bool.and_eq_true] at k
    have e := Nat.eq_of_beq_eq_true k.1
    obtain ⟨h1, h2⟩ := hv
    show h_r h a (t_kx _ f) = α (φ q.1) ∧ t_rf ρ q.2.1 q.2.2 (α (φ q.1))
    rw [e, hx]
    exact ⟨h1, t_asgS k.2 h2⟩
  · cases k
theorem u_skS (hw : TW ρ K KA S lv st h σ α) : ∀ {t t' : List AT} {v : List Value}, u_sk θ φ S t t' = true → t_sk σ α ρ t' v → t_sk (fun k => le_ev σ (θ k)) (fun o => α (φ o)) ρ t v
  | [], [], [], _, _ => trivial
  | [], [], _ :: _, _, hv => hv.elim
  | t :: r, t' :: r', [], _, hv => hv.elim
  | t :: r, t' :: r', x :: q, k, hv => by
    rw [u_sk, Bool.and_eq_true] at k
    exact ⟨u_atS hw k.1 hv.1, u_skS hw k.2 hv.2⟩
  | [], _ :: _, _, k, _ => by cases k
  | _ :: _, [], _, k, _ => by cases k
theorem u_okS (hw : TW ρ K KA S lv st h σ α) (k : u_ok θ φ C S = true) : TW ρ ((a_kp C).map (le_ev (fun k => le_ev σ (θ k)))) ((a_ko C).map (fun o => α (φ o))) C lv st h (fun k => le_ev σ (θ k)) (fun o => α (φ o)) := by
  unfold u_ok at k
  rw [Bool.and_eq_true, Bool.and_eq_true, Bool.and_eq_true, Bool.and_eq_true] at k
  obtain ⟨k1, k2, k3, k4, k5⟩ := k
  refine ⟨fun q hq => ?_, fun e he => ?_, fun q hq => ?_, rfl, rfl, fun q hq => ?_, u_skS hw k5 hw.2.2.2.2.2.2⟩
  · have := List.all_eq_true.mp k1 q hq
    rw [Bool.and_eq_true] at this
    have h1 := u_enS hw this.1
    have h2 := u_enS hw this.2
    rw [le_subE, le_cE] at h1 h2
    show q.2.1 ≤ le_ev σ (θ q.1) ∧ le_ev σ (θ q.1) ≤ q.2.2
    omega
  · rw [← s_eE]
    exact u_enS hw (List.all_eq_true.mp k2 e he)
  · have := List.all_eq_true.mp k3 q hq
    split at this
    · next t' ht' =>
      unfold u_ca at ht'
      split at ht'
      · next hf =>
        obtain ⟨g1, g2⟩ := hw.2.2.1 _ (c_lkm ht')
        exact ⟨g1, u_fvS (f' := q.1.2.2) (by omega) (by rw [t_kxl hf, t_kxl hf]) hw this g2⟩
      · next hf =>
        obtain ⟨n, m1, m2⟩ := c_skm ht'
        obtain ⟨g1, g2⟩ := hw.2.2.1 _ m1
        have hn := u_eqS hw m2
        rw [le_sE] at hn
        refine ⟨g1, u_fvS (f' := 5000 + n) (Or.inr (Or.inr ⟨by omega, by omega⟩)) ?_ hw this g2⟩
        unfold t_kx
        rw [if_neg hf, if_neg (by omega), Nat.add_sub_cancel_left, hn]
    · cases this
  · have := List.all_eq_true.mp k4 q hq
    split at this
    · next t' ht' =>
      obtain ⟨x, g1, g2⟩ := hw.2.2.2.2.2.1 _ (m_lkm ht')
      exact ⟨x, g1, u_atS hw this g2⟩
    · cases this
end
-- which word stands for which symbol
abbrev BS : Type := List (Nat × LE) × List (Nat × Nat)
def b_th (b : BS) : Nat → LE := fun k => match m_lk b.1 k with
  | some e => e
  | none => le_s k
def b_ph (b : BS) : Nat → Nat := fun k => match m_lk b.2 k with
  | some o => o
  | none => k
def b_bi (m0 : Nat) (t t' : AT) (b : BS) : BS := match t, t' with
  | .inl ([(k, 1)], 0), .inl e' => if Nat.ble m0 k && (m_lk b.1 k).isNone then ((k, e') :: b.1, b.2) else b
  | .inr (.inr q), .inr (.inr q') => if Nat.ble m0 q.1 && (m_lk b.2 q.1).isNone then (b.1, (q.1, q'.1) :: b.2) else b
  | _, _ => b
def b_lv (m0 : Nat) (S : AST) : List (Nat × AT) → BS → BS
  | [], b => b
  | q :: r, b => b_lv m0 S r (match m_lk (a_lv S) q.1 with
    | some t' => b_bi m0 q.2 t' b
    | none => b)
-- (a place's symbol that stands for nothing yet: the first place known in that row)
def b_fs (o R : Nat) : CA → Option Nat
  | [] => none
  | q :: r => if Nat.beq q.1.1 o && (Nat.beq q.1.2.1 R && Nat.ble 5000 q.1.2.2) then some (q.1.2.2 - 5000) else b_fs o R r
def b_ky (m0 : Nat) (S : AST) (k : Nat × (Nat × Nat)) (b : BS) : BS := if k.2.2 < 5000 then b else if Nat.ble m0 (k.2.2 - 5000) && (m_lk b.1 (k.2.2 - 5000)).isNone then (match b_fs (b_ph b k.1) k.2.1 (a_ca S) with
  | some n => ((k.2.2 - 5000, le_s n) :: b.1, b.2)
  | none => b) else b
def b_ca (m0 : Nat) (S : AST) : CA → BS → BS
  | [], b => b
  | q :: r, b => b_ca m0 S r (match u_ca (b_th (b_ky m0 S q.1 b)) (b_ph b) S q.1 with
    | some t' => b_bi m0 q.2 t' (b_ky m0 S q.1 b)
    | none => b)
def b_sk (m0 : Nat) : List AT → List AT → BS → BS
  | t :: r, t' :: r', b => b_sk m0 r r' (b_bi m0 t t' b)
  | _, _, b => b
def b_al (m0 : Nat) (C S : AST) : BS := b_ca m0 S (a_ca C) (b_sk m0 (a_st C) (a_st S) (b_lv m0 S (a_lv C) ([], [])))
end
section
-- a field's worth, known ahead of a call
def a_isr (o R : Nat) (t : AT) : Bool := match t with
  | .inr (.inr q) => Nat.beq q.1 o && (Nat.beq q.2.1 R && q.2.2)
  | _ => false
def r_ev (S : AST) (o R : Nat) : Bool := !(Nat.beq R 0) && ((a_st S).any (fun t => a_isr o R t) || ((a_ca S).any (fun q => a_isr o R q.2) || (a_lv S).any (fun q => a_isr o R q.2)))
def r_in (sp : List RS) (S : AST) (o R f : Nat) : Option AST := match c_lk (a_ca S) (o, (R, f)) with
  | some _ => some S
  | none => if r_ev S o R = true ∧ f_S (a_nx S) S = true ∧ o ≠ a_nx S ∧ f < 5000 then (match sp[R]? with
    | some rs => if f = 1000 then some (w_nx (w_ca (w_iv S ((a_nx S, ((rs.1.2.1 : Int), (rs.1.2.2 : Int))) :: a_iv S)) (((o, (R, 1000)), .inl (le_s (a_nx S))) :: a_ca S)) (a_nx S + 1))
      else if rs.2.2.1 = false ∨ f < rs.1.2.1 then (match r_ft rs f with
        | some (.inl p) => some (w_nx (w_ca (w_iv S ((a_nx S, p) :: a_iv S)) (((o, (R, f)), .inl (le_s (a_nx S))) :: a_ca S)) (a_nx S + 1))
        | some (.inr (.inr q)) => some (w_nx (w_ca S (((o, (R, f)), .inr (.inr (a_nx S, q))) :: a_ca S)) (a_nx S + 1))
        | _ => none) else none
    | none => none) else none
section
variable {sp : List RS} {ρ : Nat → Nat} {K : List Int} {KA : List Nat} {S S' : AST} {lv : List (Nat × Value)} {st : List Value} {h : MH} {σ : Nat → Int} {α : Nat → Nat}
theorem a_isrS {o R : Nat} {t : AT} (k : a_isr o R t = true) : ∃ q : Nat × (Nat × Bool), t = .inr (.inr q) ∧ q.1 = o ∧ q.2.1 = R ∧ q.2.2 = true := by
  unfold a_isr at k
  split at k
  · next q =>
    rw [Bool.and_eq_true, Bool.and_eq_true] at k
    exact ⟨q, rfl, Nat.eq_of_beq_eq_true k.1, Nat.eq_of_beq_eq_true k.2.1, k.2.2⟩
  · cases k
theorem t_skm : ∀ {l : List AT} {v : List Value} {t : AT}, t_sk σ α ρ l v → t ∈ l → ∃ x, t_at σ α ρ t x
  | t :: r, x :: q, t0, hs, hm => by
    rcases List.mem_cons.mp hm with e | hm
    · rw [e]
      exact ⟨x, hs.1⟩
    · exact t_skm hs.2 hm
  | [], _, _, _, hm => by cases hm
  | _ :: _, [], _, hs, _ => hs.elim
theorem r_evS {o R : Nat} (hw : TW ρ K KA S lv st h σ α) (k : r_ev S o R = true) : R ≠ 0 ∧ α o ≠ 0 ∧ ρ (α o) = R := by
  unfold r_ev at k
  rw [Bool.and_eq_true, Bool.or_eq_true, Bool.or_eq_true] at k
  obtain ⟨k0, k⟩ := k
  have hR : R ≠ 0 := fun e => by
    rw [e] at k0
    cases k0
  refine ⟨hR, ?_⟩
  rcases k with k | k | k
  · obtain ⟨t, m, k⟩ := List.any_eq_true.mp k
    obtain ⟨q, rfl, e1, e2, e3⟩ := a_isrS k
    obtain ⟨x, -, hx⟩ := t_skm hw.2.2.2.2.2.2 m
    rw [e3, e2, e1] at hx
    exact t_nn hx
  · obtain ⟨⟨kk, t⟩, m, k⟩ := List.any_eq_true.mp k
    obtain ⟨q, e0, e1, e2, e3⟩ := a_isrS k
    dsimp only at e0
    rw [e0] at m
    obtain ⟨-, -, hx⟩ := hw.2.2.1 _ m
    rw [e3, e2, e1] at hx
    exact t_nn hx
  · obtain ⟨⟨kk, t⟩, m, k⟩ := List.any_eq_true.mp k
    obtain ⟨q, e0, e1, e2, e3⟩ := a_isrS k
    dsimp only at e0
    rw [e0] at m
    obtain ⟨x, -, -, hx⟩ := hw.2.2.2.2.2.1 _ m
    rw [e3, e2, e1] at hx
    exact t_nn hx
theorem r_inS {o R f : Nat} (ht : TH sp ρ h) (hw : TW ρ K KA S lv st h σ α) (e : r_in sp S o R f = some S') : (∃ σ' α', TW ρ K KA S' lv st h σ' α') ∧ a_st S' = a_st S ∧ a_lv S' = a_lv S ∧ a_kp S' = a_kp S ∧ a_ko S' = a_ko S := by
  unfold r_in at e
  split at e
  · cases e
    exact ⟨⟨σ, α, hw⟩, rfl, rfl, rfl, rfl⟩
  · split at e
    · next hc =>
      obtain ⟨c1, c2, c3, c4⟩ := hc
      obtain ⟨hR, ha, hρ⟩ := r_evS hw c1
      split at e
      · next rs hsp =>
        have hcell := t_spec ht hR hsp hρ
        split at e
        · next hf =>
          cases e
          refine ⟨⟨s_up σ (a_nx S) ((h_k h (α o)).2 : Int), o_up α (a_nx S) 0, ?_⟩, rfl, rfl, rfl, rfl⟩
          obtain ⟨w1, w2, w3, w4, w5, w6, w7⟩ := f_SS ((h_k h (α o)).2 : Int) 0 c2 hw
          have hn : s_up σ (a_nx S) ((h_k h (α o)).2 : Int) (a_nx S) = ((h_k h (α o)).2 : Int) := if_pos rfl
          have ho : o_up α (a_nx S) 0 o = α o := if_neg c3
          refine ⟨fun q hq => ?_, w2, fun q hq => ?_, w4, w5, w6, w7⟩
          · rcases List.mem_cons.mp hq with e | hq
            · rw [e]
              dsimp only
              rw [hn]
              have := hcell.2.1
              omega
            · exact w1 q hq
          · rcases List.mem_cons.mp hq with e | hq
            · rw [e]
              dsimp only
              rw [ho]
              refine ⟨⟨ha, hρ⟩, ?_⟩
              unfold t_fv
              dsimp only
              rw [if_pos rfl, le_sE, hn]
            · exact w3 q hq
        · next hf =>
         split at e
         · next hz =>
          have hz2 : rs.2.2.1 = true → f < (h_k h (α o)).2 := fun z => by
            rcases hz with z2 | z2
            · rw [z2] at z
              cases z
            · exact Nat.lt_of_lt_of_le z2 hcell.2.1.1
          split at e
          · next p hp =>
            cases e
            have hv : p.1 ≤ (h_i h (α o) f).toInt ∧ (h_i h (α o) f).toInt ≤ p.2 := hcell.2.2.2 f _ hp hz2
            refine ⟨⟨s_up σ (a_nx S) (h_i h (α o) f).toInt, o_up α (a_nx S) 0, ?_⟩, rfl, rfl, rfl, rfl⟩
            obtain ⟨w1, w2, w3, w4, w5, w6, w7⟩ := f_SS (h_i h (α o) f).toInt 0 c2 hw
            have hn : s_up σ (a_nx S) (h_i h (α o) f).toInt (a_nx S) = (h_i h (α o) f).toInt := if_pos rfl
            have ho : o_up α (a_nx S) 0 o = α o := if_neg c3
            refine ⟨fun q hq => ?_, w2, fun q hq => ?_, w4, w5, w6, w7⟩
            · rcases List.mem_cons.mp hq with e | hq
              · rw [e]
                dsimp only
                rw [hn]
                exact hv
              · exact w1 q hq
            · rcases List.mem_cons.mp hq with e | hq
              · rw [e]
                dsimp only
                rw [ho]
                refine ⟨⟨ha, hρ⟩, ?_⟩
                unfold t_fv
                dsimp only
                rw [if_neg hf, t_kxl c4, le_sE, hn]
              · exact w3 q hq
          · next q0 hp =>
            cases e
            have hv : t_rf ρ q0.1 q0.2 (h_r h (α o) f) := hcell.2.2.2 f _ hp hz2
            refine ⟨⟨s_up σ (a_nx S) 0, o_up α (a_nx S) (h_r h (α o) f), ?_⟩, rfl, rfl, rfl, rfl⟩
            obtain ⟨w1, w2, w3, w4, w5, w6, w7⟩ := f_SS 0 (h_r h (α o) f) c2 hw
            have hn : o_up α (a_nx S) (h_r h (α o) f) (a_nx S) = h_r h (α o) f := if_pos rfl
            have ho : o_up α (a_nx S) (h_r h (α o) f) o = α o := if_neg c3
            refine ⟨w1, w2, fun q hq => ?_, w4, w5, w6, w7⟩
            rcases List.mem_cons.mp hq with e | hq
            · rw [e]
              dsimp only
              rw [ho]
              refine ⟨⟨ha, hρ⟩, ?_⟩
              show h_r h (α o) (t_kx _ f) = o_up α (a_nx S) (h_r h (α o) f) (a_nx S) ∧ t_rf ρ q0.1 q0.2 (o_up α (a_nx S) (h_r h (α o) f) (a_nx S))
              rw [hn, t_kxl c4]
              exact ⟨rfl, hv⟩
            · exact w3 q hq
          · cases e
         · cases e
      · cases e
    · cases e
end
-- all that a callee wants to know, read in; its symbols' words
def r_al (sp : List RS) (m0 : Nat) : CA → AST → BS → Option (AST × BS)
  | [], S, b => some (S, b)
  | q :: r, S, b => if q.1.2.2 < 5000 then (match r_in sp S (b_ph b q.1.1) q.1.2.1 q.1.2.2 with
    | some S' => (match c_lk (a_ca S') (b_ph b q.1.1, q.1.2) with
      | some t' => r_al sp m0 r S' (b_bi m0 q.2 t' b)
      | none => none)
    | none => none) else (match u_ca (b_th (b_ky m0 S q.1 b)) (b_ph b) S q.1 with
      | some t' => r_al sp m0 r S (b_bi m0 q.2 t' (b_ky m0 S q.1 b))
      | none => none)
theorem r_alS {sp : List RS} {ρ : Nat → Nat} {K : List Int} {KA : List Nat} {lv : List (Nat × Value)} {st : List Value} {h : MH} (m0 : Nat) (ht : TH sp ρ h) : ∀ (ca : CA) (S : AST) (b : BS) (S' : AST) (b' : BS), (∃ σ α, TW ρ K KA S lv st h σ α) → r_al sp m0 ca S b = some (S', b') → (∃ σ' α', TW ρ K KA S' lv st h σ' α') ∧ a_st S' = a_st S ∧ a_lv S' = a_lv S ∧ a_kp S' = a_kp S ∧ a_ko S' = a_ko S
  | [], S, b, S', b', hw, e => by
    cases e
    exact ⟨hw, rfl, rfl, rfl, rfl⟩
  | q :: r, S, b, S', b', hw, e => by
    rw [r_al] at e
    split at e
    · split at e
      · next S1 h1 =>
        split at e
        · next t' ht' =>
          obtain ⟨σ, α, hw⟩ := hw
          obtain ⟨g0, g1, g2, g3, g4⟩ := r_inS ht hw h1
          obtain ⟨k0, k1, k2, k3, k4⟩ := r_alS m0 ht r S1 _ S' b' g0 e
          exact ⟨k0, k1.trans g1, k2.trans g2, k3.trans g3, k4.trans g4⟩
        · cases e
      · cases e
    · split at e
      · exact r_alS m0 ht r S _ S' b' hw e
      · cases e
end
section
-- ELEMENTS AT A PLACE THAT IS ONLY A WORD: read twice, the same
def y_ix (S : AST) (j : LE) : Option (AST × Nat) := match j with
  | ([(n, 1)], 0) => some (S, n)
  | j => if f_S (a_nx S) S = true ∧ l_fr (a_nx S) j.1 = true then some (w_nx (w_cs (w_iv S ((a_nx S, (-2147483648, 2147483647)) :: a_iv S)) (le_sub (le_s (a_nx S)) j :: le_sub j (le_s (a_nx S)) :: a_cs S)) (a_nx S + 1), a_nx S) else none
def y_rd (sp : List RS) (S : AST) (o R n : Nat) : Option AST := if r_ev S o R = true ∧ f_S (a_nx S) S = true ∧ o ≠ a_nx S ∧ n ≠ a_nx S then (match sp[R]? with
  | some rs => if rs.2.2.1 = true ∧ t_ix sp S o R (le_s n) rs.1.2.1 = true then (match r_ft rs 0 with
    | some (.inl p) => some (w_nx (w_ca (w_iv S ((a_nx S, p) :: a_iv S)) (((o, (R, 5000 + n)), .inl (le_s (a_nx S))) :: a_ca S)) (a_nx S + 1))
    | some (.inr (.inr q)) => some (w_nx (w_ca S (((o, (R, 5000 + n)), .inr (.inr (a_nx S, q))) :: a_ca S)) (a_nx S + 1))
    | _ => none) else none
  | none => none) else none
section
variable {sp : List RS} {ρ : Nat → Nat} {W : List (Nat × Nat)} {K : List Int} {KA : List Nat} {S S' : AST} {lv' : List (Nat × Value)} {st' : List Value} {h : MH} {pc : Nat} {σ : Nat → Int} {α : Nat → Nat}
theorem y_ixS {j : LE} {x : Int32} {n : Nat} (hw : TW ρ K KA S lv' st' h σ α) (hx : x.toInt = le_ev σ j) (e : y_ix S j = some (S', n)) : (∃ σ' α', TW ρ K KA S' lv' st' h σ' α') ∧ a_st S' = a_st S := by
  unfold y_ix at e
  split at e
  · cases e
    exact ⟨⟨σ, α, hw⟩, rfl⟩
  · split at e
    · next hc =>
      cases e
      refine ⟨⟨s_up σ (a_nx S) x.toInt, o_up α (a_nx S) 0, ?_⟩, rfl⟩
      obtain ⟨w1, w2, w3, w4, w5, w6, w7⟩ := f_SS x.toInt 0 hc.1 hw
      have hn : s_up σ (a_nx S) x.toInt (a_nx S) = x.toInt := if_pos rfl
      have hj : le_ev (s_up σ (a_nx S) x.toInt) j = x.toInt := by rw [le_frS σ _ _ j hc.2, hx]
      refine ⟨fun q hq => ?_, fun q hq => ?_, w3, w4, w5, w6, w7⟩
      · rcases List.mem_cons.mp hq with e | hq
        · rw [e]
          dsimp only
          rw [hn]
          exact g_iT x
        · exact w1 q hq
      · rcases List.mem_cons.mp hq with e | hq
        · rw [e, le_subE, le_sE, hn, hj]
          omega
        · rcases List.mem_cons.mp hq with e | hq
          · rw [e, le_subE, le_sE, hn, hj]
            omega
          · exact w2 q hq
    · cases e
theorem y_rdS {o R n : Nat} (ht : TH sp ρ h) (hw : TW ρ K KA S lv' st' h σ α) (e : y_rd sp S o R n = some S') : (∃ σ' α', TW ρ K KA S' lv' st' h σ' α') ∧ a_st S' = a_st S := by
  unfold y_rd at e
  split at e
  · next hc =>
    obtain ⟨c1, c2, c3, c4⟩ := hc
    obtain ⟨hR, ha, hρ⟩ := r_evS hw c1
    split at e
    · next rs hsp =>
      have hcell := t_spec ht hR hsp hρ
      split at e
      · next har2 =>
        obtain ⟨har, hti⟩ := har2
        have hzn := t_ixZ hw hcell.2.1.1 hti
        rw [le_sE] at hzn
        have hzl : rs.2.2.1 = true → (σ n).toNat < (h_k h (α o)).2 := fun _ => by omega
        have hft : ∀ i, r_ft rs i = r_ft rs 0 := fun i => by
          unfold r_ft
          rw [har]
        have hkx : ∀ σ : Nat → Int, t_kx σ (5000 + n) = (σ n).toNat := fun σ => by
          unfold t_kx
          rw [if_neg (by omega), Nat.add_sub_cancel_left]
        split at e
        · next p hp =>
          cases e
          have hv : p.1 ≤ (h_i h (α o) (σ n).toNat).toInt ∧ (h_i h (α o) (σ n).toNat).toInt ≤ p.2 := hcell.2.2.2 (σ n).toNat _ ((hft _).trans hp) hzl
          refine ⟨⟨s_up σ (a_nx S) (h_i h (α o) (σ n).toNat).toInt, o_up α (a_nx S) 0, ?_⟩, rfl⟩
          obtain ⟨w1, w2, w3, w4, w5, w6, w7⟩ := f_SS (h_i h (α o) (σ n).toNat).toInt 0 c2 hw
          have hn : s_up σ (a_nx S) (h_i h (α o) (σ n).toNat).toInt (a_nx S) = (h_i h (α o) (σ n).toNat).toInt := if_pos rfl
          have hnn : s_up σ (a_nx S) (h_i h (α o) (σ n).toNat).toInt n = σ n := if_neg c4
          have ho : o_up α (a_nx S) 0 o = α o := if_neg c3
          refine ⟨fun q hq => ?_, w2, fun q hq => ?_, w4, w5, w6, w7⟩
          · rcases List.mem_cons.mp hq with e | hq
            · rw [e]
              dsimp only
              rw [hn]
              exact hv
            · exact w1 q hq
          · rcases List.mem_cons.mp hq with e | hq
            · rw [e]
              dsimp only
              rw [ho]
              refine ⟨⟨ha, hρ⟩, ?_⟩
              unfold t_fv
              dsimp only
              rw [if_neg (by omega), hkx, hnn, le_sE, hn]
            · exact w3 q hq
        · next q0 hp =>
          cases e
          have hv : t_rf ρ q0.1 q0.2 (h_r h (α o) (σ n).toNat) := hcell.2.2.2 (σ n).toNat _ ((hft _).trans hp) hzl
          refine ⟨⟨s_up σ (a_nx S) 0, o_up α (a_nx S) (h_r h (α o) (σ n).toNat), ?_⟩, rfl⟩
          obtain ⟨w1, w2, w3, w4, w5, w6, w7⟩ := f_SS 0 (h_r h (α o) (σ n).toNat) c2 hw
          have hn : o_up α (a_nx S) (h_r h (α o) (σ n).toNat) (a_nx S) = h_r h (α o) (σ n).toNat := if_pos rfl
          have hnn : s_up σ (a_nx S) 0 n = σ n := if_neg c4
          have ho : o_up α (a_nx S) (h_r h (α o) (σ n).toNat) o = α o := if_neg c3
          refine ⟨w1, w2, fun q hq => ?_, w4, w5, w6, w7⟩
          rcases List.mem_cons.mp hq with e | hq
          · rw [e]
            dsimp only
            rw [ho]
            refine ⟨⟨ha, hρ⟩, ?_⟩
            show h_r h (α o) (t_kx (s_up σ (a_nx S) 0) (5000 + n)) = o_up α (a_nx S) (h_r h (α o) (σ n).toNat) (a_nx S) ∧ t_rf ρ q0.1 q0.2 (o_up α (a_nx S) (h_r h (α o) (σ n).toNat) (a_nx S))
            rw [hkx, hnn, hn]
            exact ⟨rfl, hv⟩
          · exact w3 q hq
        · cases e
      · cases e
    · cases e
  · cases e
end
-- the reading itself: known now
def y_st (sp : List RS) (S : AST) (o R : Nat) (j : LE) : Option AST := match c_sk S o R j (a_ca S) with
  | some _ => some S
  | none => (match y_ix S j with
    | some (S1, n) => y_rd sp S1 o R n
    | none => none)
def y_gi (pc : Nat) (S : AST) (o R : Nat) (j : LE) (r : List AT) : Option (List AO) := match c_sk S o R j (a_ca S) with
  | some (.inl e) => t_pe (pc + 1) S r e
  | _ => none
def y_gr (pc : Nat) (S : AST) (o R : Nat) (j : LE) (r : List AT) : Option (List AO) := match c_sk S o R j (a_ca S) with
  | some (.inr (.inr q)) => t_go (pc + 1) S (.inr (.inr q) :: r)
  | _ => none
def j_sali (sp : List RS) (k0 k1 pc : Nat) (S : AST) : Option (List AO) := match a_st S with
  | .inl j :: .inr (.inr (o, (R, true))) :: r => if R = 0 then none else (match sp[R]? with
    | some rs => if (rs.1.1 = k0 ∨ rs.1.1 = k1) ∧ t_ix sp S o R j rs.1.2.1 = true then (match y_st sp S o R j with
      | some S2 => y_gi pc S2 o R j r
      | none => none) else none
    | none => none)
  | _ => none
def j_sala (sp : List RS) (pc : Nat) (S : AST) : Option (List AO) := match a_st S with
  | .inl j :: .inr (.inr (o, (R, true))) :: r => if R = 0 then none else (match sp[R]? with
    | some rs => if (30 ≤ rs.1.1 ∧ rs.1.1 < 34) ∧ t_ix sp S o R j rs.1.2.1 = true then (match y_st sp S o R j with
      | some S2 => y_gr pc S2 o R j r
      | none => none) else none
    | none => none)
  | _ => none
section
variable {sp : List RS} {ρ : Nat → Nat} {W : List (Nat × Nat)} {K : List Int} {KA : List Nat} {S S' : AST} {lv' : List (Nat × Value)} {st' : List Value} {h : MH} {pc : Nat} {σ : Nat → Int} {α : Nat → Nat}
theorem y_stS {o R : Nat} {j : LE} {x : Int32} (ht : TH sp ρ h) (hw : TW ρ K KA S lv' st' h σ α) (hx : x.toInt = le_ev σ j) (e : y_st sp S o R j = some S') : (∃ σ' α', TW ρ K KA S' lv' st' h σ' α') ∧ a_st S' = a_st S := by
  unfold y_st at e
  split at e
  · cases e
    exact ⟨⟨σ, α, hw⟩, rfl⟩
  · split at e
    · next S1 n h1 =>
      obtain ⟨⟨σ1, α1, w1⟩, e1⟩ := y_ixS hw hx h1
      obtain ⟨g, e2⟩ := y_rdS ht w1 e
      exact ⟨g, e2.trans e1⟩
    · cases e
theorem q_sali (k0 k1 : Nat) (ht : TH sp ρ h) (hw : TW ρ K KA S lv' st' h σ α) : T_P sp ρ W K KA (j_sali sp k0 k1 pc S) h (e_iald k0 k1 pc lv' st' h) := by
  have hs := hw.2.2.2.2.2.2
  unfold j_sali
  split
  · next j o R r hst =>
    have hst0 := hst
    rw [hst] at hs
    obtain ⟨v, q, rfl, ⟨x, rfl, hx⟩, hq1⟩ := t_sc hs
    obtain ⟨v, q, rfl, ⟨rfl, hrf⟩, hq⟩ := t_sc hq1
    obtain ⟨ha0, haR⟩ := t_nn hrf
    dsimp only at ha0 haR
    split
    · exact q_no
    · next hR =>
      split
      · next rs hsp =>
        have hcell := t_spec ht hR hsp haR
        split
        · next hk =>
          have hin := t_ixS (n := 0) hw hx hcell.2.1.1 hk.2
          unfold e_iald
          dsimp only
          rw [if_pos (show ((h_k h (α o)).1 = k0 ∨ (h_k h (α o)).1 = k1) ∧ m_in x (h_k h (α o)).2 = true from ⟨by rw [hcell.1]; exact hk.1, hin⟩)]
          split
          · next S2 h2 =>
            obtain ⟨⟨σ2, α2, w2⟩, e2⟩ := y_stS ht hw hx h2
            have hs2 := w2.2.2.2.2.2.2
            rw [e2, hst0] at hs2
            obtain ⟨⟨x2, ex, hx2⟩, ⟨er, hrf2⟩, hq2⟩ := hs2
            cases ex
            unfold y_gi
            split
            · next e he =>
              obtain ⟨n, m1, m2⟩ := c_skm he
              have hc := (w2.2.2.1 _ m1).2
              have hn := u_eqS w2 m2
              rw [le_sE] at hn
              unfold t_fv at hc
              dsimp only at hc
              have hkx : t_kx σ2 (5000 + n) = x.toNatClampNeg := by
                unfold t_kx
                rw [if_neg (by omega), Nat.add_sub_cancel_left, hn, ← hx2]
                rfl
              rw [if_neg (by omega), hkx] at hc
              have ea : α o = α2 o := Value.ref.inj er
              rw [← ea] at hc
              exact q_pe ht w2 hq2 hc
            · exact q_no
          · exact q_no
        · exact q_no
      · exact q_no
  · exact q_no
theorem q_sala (ht : TH sp ρ h) (hw : TW ρ K KA S lv' st' h σ α) : T_P sp ρ W K KA (j_sala sp pc S) h (e_aald pc lv' st' h) := by
  have hs := hw.2.2.2.2.2.2
  unfold j_sala
  split
  · next j o R r hst =>
    have hst0 := hst
    rw [hst] at hs
    obtain ⟨v, q, rfl, ⟨x, rfl, hx⟩, hq1⟩ := t_sc hs
    obtain ⟨v, q, rfl, ⟨rfl, hrf⟩, hq⟩ := t_sc hq1
    obtain ⟨ha0, haR⟩ := t_nn hrf
    dsimp only at ha0 haR
    split
    · exact q_no
    · next hR =>
      split
      · next rs hsp =>
        have hcell := t_spec ht hR hsp haR
        split
        · next hk =>
          have hin := t_ixS (n := 0) hw hx hcell.2.1.1 hk.2
          unfold e_aald
          dsimp only
          rw [if_pos (show (30 ≤ (h_k h (α o)).1 ∧ (h_k h (α o)).1 < 34) ∧ m_in x (h_k h (α o)).2 = true from ⟨by rw [hcell.1]; exact hk.1, hin⟩)]
          split
          · next S2 h2 =>
            obtain ⟨⟨σ2, α2, w2⟩, e2⟩ := y_stS ht hw hx h2
            have hs2 := w2.2.2.2.2.2.2
            rw [e2, hst0] at hs2
            obtain ⟨⟨x2, ex, hx2⟩, ⟨er, hrf2⟩, hq2⟩ := hs2
            cases ex
            unfold y_gr
            split
            · next q0 he =>
              obtain ⟨n, m1, m2⟩ := c_skm he
              obtain ⟨hc, hc2⟩ := (w2.2.2.1 _ m1).2
              have hn := u_eqS w2 m2
              rw [le_sE] at hn
              have hkx : t_kx σ2 (5000 + n) = x.toNatClampNeg := by
                unfold t_kx
                rw [if_neg (by omega), Nat.add_sub_cancel_left, hn, ← hx2]
                rfl
              have ea : α o = α2 o := Value.ref.inj er
              dsimp only at hc
              rw [hkx, ← ea] at hc
              rw [hc]
              exact q_go (st := .inr (.inr q0) :: r) ht w2 ⟨⟨rfl, hc2⟩, hq2⟩
            · exact q_no
          · exact q_no
        · exact q_no
      · exact q_no
  · exact q_no
end
end
section
-- A CALL BY ITS SUMMARY: what a method wants (a state, tokens), what it writes, what it leaves (states, tokens)
abbrev SM : Type := (AST × List Nat) × (List (Nat × Nat) × List (AST × List Nat))
def CCok (CC : Nat × (Nat × Nat)) (ρ : Nat → Nat) : Prop := t_rf ρ CC.1 true 1 ∧ (∀ a, 2 ≤ a → a < 8 → t_rf ρ CC.2.1 true a) ∧ t_rf ρ CC.2.2 true 15
def V_ok (sp : List RS) (CC : Nat × (Nat × Nat)) (PT : Nat → (Nat → Nat) → MH → Prop) (j : Nat) (m : SM) : Prop := ∀ (ρ : Nat → Nat) (K : List Int) (KA : List Nat) (lv : List (Nat × Value)) (h : MH), CCok CC ρ → TS sp ρ K KA m.1.1 lv [] h → (∀ t ∈ m.1.2, PT t ρ h) → ∃ (n : Nat) (v : Option Value) (h' : MH) (ρ' : Nat → Nat), m_rn n j 0 lv [] h = some (v, h') ∧ FQ ρ ρ' m.2.1 h h' ∧ ∃ P ∈ m.2.2, TS sp ρ' K KA P.1 [] v.toList h' ∧ ∀ t ∈ P.2, PT t ρ' h'
theorem CCok.x {CC : Nat × (Nat × Nat)} {ρ ρ' : Nat → Nat} {W : List (Nat × Nat)} {h h' : MH} (c : CCok CC ρ) (f : FQ ρ ρ' W h h') : CCok CC ρ' := ⟨x_rf f c.1, fun a h1 h2 => x_rf f (c.2.1 a h1 h2), x_rf f c.2.2⟩
def a_args : Nat → List AT → List (Nat × AT)
  | _, [] => []
  | i, v :: vs => (i, v) :: a_args (if a_cat v = 2 then i + 2 else i + 1) vs
section
variable {ρ : Nat → Nat} {σ : Nat → Int} {α : Nat → Nat}
theorem a_argsN : ∀ (n : Nat) (l : List AT) (q : Nat × AT), q ∈ a_args n l → n ≤ q.1
  | _, [], _, h => by cases h
  | n, v :: vs, q, h => by
    rw [a_args] at h
    rcases List.mem_cons.mp h with e | h
    · rw [e]
      exact Nat.le_refl _
    · have := a_argsN _ vs q h
      split at this <;> omega
theorem a_argsS : ∀ (n : Nat) {l : List AT} {v : List Value}, t_sk σ α ρ l v → t_lv σ α ρ (a_args n l) (lv_args n v)
  | _, [], [], _ => fun q hq => by cases hq
  | n, t :: r, x :: q, h => fun p hp => by
    rw [lv_args]
    rw [a_args] at hp
    rw [a_catE h.1]
    rcases List.mem_cons.mp hp with e | hp
    · rw [e, m_lkc, if_pos rfl]
      exact ⟨x, rfl, h.1⟩
    · have hn := a_argsN _ r p hp
      obtain ⟨y, h1, h2⟩ := a_argsS (if a_cat t = 2 then n + 2 else n + 1) h.2 p hp
      refine ⟨y, ?_, h2⟩
      rw [m_lkc, if_neg (show ¬ n = p.1 by split at hn <;> omega)]
      exact h1
  | _, [], _ :: _, h => h.elim
  | _, _ :: _, [], h => h.elim
theorem t_skt : ∀ (n : Nat) {l : List AT} {v : List Value}, t_sk σ α ρ l v → t_sk σ α ρ (l.take n) (v.take n)
  | 0, _, _, _ => trivial
  | _ + 1, [], [], _ => trivial
  | n + 1, _ :: _, _ :: _, h => ⟨h.1, t_skt n h.2⟩
  | _, [], _ :: _, h => h.elim
  | _, _ :: _, [], h => h.elim
theorem t_skd : ∀ (n : Nat) {l : List AT} {v : List Value}, t_sk σ α ρ l v → t_sk σ α ρ (l.drop n) (v.drop n)
  | 0, _, _, h => h
  | _ + 1, [], [], _ => trivial
  | n + 1, _ :: _, _ :: _, h => t_skd n h.2
  | _, [], _ :: _, h => h.elim
  | _, _ :: _, [], h => h.elim
theorem t_ska : ∀ {l : List AT} {v : List Value} {l2 : List AT} {v2 : List Value}, t_sk σ α ρ l v → t_sk σ α ρ l2 v2 → t_sk σ α ρ (l ++ l2) (v ++ v2)
  | [], [], _, _, _, h => h
  | _ :: _, _ :: _, _, _, h, h2 => ⟨h.1, t_ska h.2 h2⟩
  | [], _ :: _, _, _, h, _ => h.elim
  | _ :: _, [], _, _, h, _ => h.elim
theorem t_skr : ∀ {l : List AT} {v : List Value}, t_sk σ α ρ l v → t_sk σ α ρ l.reverse v.reverse
  | [], [], _ => trivial
  | t :: r, x :: q, h => by
    rw [List.reverse_cons, List.reverse_cons]
    exact t_ska (t_skr h.2) ⟨h.1, trivial⟩
  | [], _ :: _, h => h.elim
  | _ :: _, [], h => h.elim
theorem t_skl : ∀ {l : List AT} {v : List Value}, t_sk σ α ρ l v → v.length = l.length
  | [], [], _ => rfl
  | _ :: _, _ :: _, h => by rw [List.length_cons, List.length_cons, t_skl h.2]
  | [], _ :: _, h => h.elim
  | _ :: _, [], h => h.elim
end
def k_ok (kd i j : Nat) : Bool := decide ((j ≠ 900 ∧ j ≠ 901 ∧ ¬ (j = m_jmin ∨ j = m_jmax) ∧ ¬ (j = m_jminl ∨ j = m_jmaxl)) ∧ (0 < j ∧ j < 292 ∧ m_kind j = kd ∧ m_fr j + 1 ≤ m_fr i ∧ 8 + (m_lc j + 11) + m_lo j ≤ m_lo i))
def k_rc (rs : RS) (j : Nat) : Bool := if (m_m j).2.1.cls = "java/lang/String" then decide (rs.1.1 = 40) else decide (m_cnm (rs.1.1 - 1) = (m_m j).2.1.cls ∧ rs.2.1 = true ∧ 0 < rs.1.1 ∧ rs.1.1 < 11)
-- the stack, cut into what is handed over and the rest
def k_sp (sp : List RS) (kd j : Nat) (st : List AT) : Option (List AT × List AT) := if kd = 0 then (if m_na j ≤ st.length ∧ ((st.drop (m_na j)).map a_cat).sum ≤ 8 then some ((st.take (m_na j)).reverse, st.drop (m_na j)) else none) else match st.drop (m_na j) with
  | .inr (.inr (o, (R, true))) :: r => if R = 0 then none else (match sp[R]? with
    | some rs => if m_na j + 1 ≤ st.length ∧ (r.map a_cat).sum ≤ 8 ∧ k_rc rs j = true then some (.inr (.inr (o, (R, true))) :: (st.take (m_na j)).reverse, r) else none
    | none => none)
  | _ => none
section
variable {sp : List RS} {ρ : Nat → Nat} {K : List Int} {KA : List Nat} {S : AST} {lv' : List (Nat × Value)} {st' : List Value} {h : MH} {pc : Nat} {σ : Nat → Int} {α : Nat → Nat}
theorem k_spS {kd i idx nest j : Nat} {as r : List AT} (hm : m_ml i idx = some (nest, j)) (hk : k_ok kd i j = true) (ht : TH sp ρ h) (hw : TW ρ K KA S lv' st' h σ α) (e : k_sp sp kd j (a_st S) = some (as, r)) : ∃ as' r', e_call kd i idx pc lv' st' h = some (.inr (.inr (j, as', r', pc + 3))) ∧ t_sk σ α ρ as as' ∧ t_sk σ α ρ r r' := by
  have hs := hw.2.2.2.2.2.2
  obtain ⟨⟨k1, k2, k3, k4⟩, k5⟩ := of_decide_eq_true hk
  unfold e_call
  rw [hm]
  dsimp only
  rw [if_neg k1, if_neg k2, if_neg k3, if_neg k4, if_pos k5]
  unfold k_sp at e
  have hlen := t_skl hs
  by_cases h0 : kd = 0
  · rw [if_pos h0] at e ⊢
    split at e
    · next hc =>
      cases e
      have h2 := t_skd (m_na j) hs
      rw [if_pos ⟨by omega, by rw [t_ct h2]; exact hc.2⟩]
      exact ⟨_, _, rfl, t_skr (t_skt (m_na j) hs), h2⟩
    · cases e
  · rw [if_neg h0] at e ⊢
    have h2 := t_skd (m_na j) hs
    split at e
    · next o R r0 hd =>
      rw [hd] at h2
      obtain ⟨v, q, hq, ⟨rfl, hrf⟩, hr⟩ := t_sc h2
      obtain ⟨ha0, haR⟩ := t_nn hrf
      dsimp only at ha0 haR
      split at e
      · cases e
      · next hR =>
        split at e
        · next rs hsp =>
          have hcell := t_spec ht hR hsp haR
          split at e
          · next hc =>
            cases e
            rw [hq]
            dsimp only
            have hcc : m_na j + 1 ≤ st'.length ∧ m_cat q ≤ 8 ∧ (if (m_m j).2.1.cls = "java/lang/String" then (h_k h (α o)).1 = 40 else m_cnm ((h_k h (α o)).1 - 1) = (m_m j).2.1.cls ∧ 16 ≤ α o ∧ 0 < (h_k h (α o)).1 ∧ (h_k h (α o)).1 < 11) := by
              refine ⟨by omega, by rw [t_ct hr]; exact hc.2.1, ?_⟩
              have hc3 := hc.2.2
              unfold k_rc at hc3
              rw [hcell.1]
              by_cases hS : (m_m j).2.1.cls = "java/lang/String"
              · rw [if_pos hS] at hc3 ⊢
                exact of_decide_eq_true hc3
              · rw [if_neg hS] at hc3 ⊢
                have hc4 := of_decide_eq_true hc3
                exact ⟨hc4.1, hcell.2.2.1 hc4.2.1, hc4.2.2⟩
            rw [if_pos hcc]
            exact ⟨_, _, rfl, ⟨⟨rfl, hrf⟩, t_skr (t_skt (m_na j) hs)⟩, hr⟩
          · cases e
        · cases e
    · cases e
end
-- what a callee leaves, as the caller has it
def b_tz (b : BS) : Nat → LE := fun k => match m_lk b.1 k with
  | some e => e
  | none => le_c 0
def b_pz (b : BS) : Nat → Nat := fun k => match m_lk b.2 k with
  | some o => o
  | none => 0
def k_pins (m : Nat) : List LE := (List.range m).map le_s
def k_th (n m0 : Nat) (b : BS) : Nat → LE := fun k => if k < m0 then b_tz b k else le_s (n + (k - m0))
def k_ph (n m0 : Nat) (b : BS) : Nat → Nat := fun k => if k < m0 then b_pz b k else n + (k - m0)
def k_asm : List LE → AST → Option AST
  | [], S => some S
  | e :: r, S => match t_asm e S with
    | some S' => k_asm r S'
    | none => none
def k_pb (S1 : AST) (r : List AT) (W : List (Nat × Nat)) (m0 : Nat) (b : BS) (P : AST) : AST := (((a_iv P).map (fun q => (a_nx S1 + (q.1 - m0), q.2)) ++ a_iv S1, a_cs S1), ((a_ca P).map (fun q => ((k_ph (a_nx S1) m0 b q.1.1, q.1.2), s_at (k_th (a_nx S1) m0 b) (k_ph (a_nx S1) m0 b) q.2)) ++ x_kf W (a_ca S1), ((a_kp S1, a_ko S1), (a_nx S1 + (a_nx P - m0), (a_lv S1, (a_st P).map (s_at (k_th (a_nx S1) m0 b) (k_ph (a_nx S1) m0 b)) ++ r)))))
def k_ps (S1 : AST) (r : List AT) (W : List (Nat × Nat)) (m0 : Nat) (b : BS) (P : AST) : Option AST := k_asm ((a_cs P).map (s_e (k_th (a_nx S1) m0 b))) (k_pb S1 r W m0 b P)
def k_pk (m0 : Nat) (P : AST) : Bool := decide (a_kp P = k_pins m0) && (decide (a_ko P = List.range m0) && ((a_iv P).all (fun q => Nat.ble m0 q.1) && (a_ca P).all (fun q => Nat.blt q.1.2.2 5000)))
section
variable {sp : List RS} {ρ ρ' : Nat → Nat} {W : List (Nat × Nat)} {K : List Int} {KA : List Nat} {S : AST} {lv' : List (Nat × Value)} {st' : List Value} {h h' : MH} {σ : Nat → Int} {α : Nat → Nat}
theorem k_asmS : ∀ (l : List LE) (S : AST), (∀ e ∈ l, le_ev σ e ≤ 0) → TW ρ K KA S lv' st' h σ α → ∃ S', k_asm l S = some S' ∧ TW ρ K KA S' lv' st' h σ α
  | [], S, _, hw => ⟨S, rfl, hw⟩
  | e :: r, S, hl, hw => by
    obtain ⟨S1, e1, w1⟩ := r_asm hw (hl e List.mem_cons_self)
    rw [k_asm, e1]
    exact k_asmS r S1 (fun e he => hl e (List.mem_cons_of_mem _ he)) w1
theorem s_atS {θ : Nat → LE} {φ : Nat → Nat} {t : AT} {v : Value} (hv : t_at (fun k => le_ev σ (θ k)) (fun o => α (φ o)) ρ t v) : t_at σ α ρ (s_at θ φ t) v := by
  cases t with
  | inl e =>
    obtain ⟨x, h1, h2⟩ := hv
    exact ⟨x, h1, by rw [s_eE]; exact h2⟩
  | inr t => cases t with
    | inl u => exact hv
    | inr q => exact hv
theorem s_skS {θ : Nat → LE} {φ : Nat → Nat} : ∀ {t : List AT} {v : List Value}, t_sk (fun k => le_ev σ (θ k)) (fun o => α (φ o)) ρ t v → t_sk σ α ρ (t.map (s_at θ φ)) v
  | [], [], _ => trivial
  | _ :: _, _ :: _, h => ⟨s_atS h.1, s_skS h.2⟩
  | [], _ :: _, h => h.elim
  | _ :: _, [], h => h.elim
theorem s_fvS {θ : Nat → LE} {φ : Nat → Nat} {t : AT} {a f : Nat} (hf : f < 5000) (hv : t_fv (fun k => le_ev σ (θ k)) (fun o => α (φ o)) ρ h a f t) : t_fv σ α ρ h a f (s_at θ φ t) := by
  cases t with
  | inl e =>
    have hv : if f = 1000 then ((h_k h a).2 : Int) = le_ev (fun k => le_ev σ (θ k)) e else (h_i h a (t_kx _ f)).toInt = le_ev (fun k => le_ev σ (θ k)) e := hv
    show if f = 1000 then ((h_k h a).2 : Int) = le_ev σ (s_e θ e) else (h_i h a (t_kx σ f)).toInt = le_ev σ (s_e θ e)
    rw [t_kxl hf] at hv ⊢
    rw [s_eE]
    exact hv
  | inr t => cases t with
    | inl u => exact hv
    | inr q =>
      obtain ⟨h1, h2⟩ := hv
      rw [t_kxl hf] at h1
      refine ⟨?_, h2⟩
      rw [t_kxl hf]
      exact h1
theorem k_psS {S1 : AST} {r : List AT} {r' : List Value} {m0 : Nat} {b : BS} {P : AST} {v : Option Value} (ht : TH sp ρ h) (f : FQ ρ ρ' W h h') (ht' : TH sp ρ' h') (hw : TW ρ K KA (w_fs S1 (a_lv S1) r) lv' r' h σ α) (hg : xg_S (a_nx S1) (w_fs S1 (a_lv S1) r) = true) (hb : (List.range m0).all (fun k => xg_l (a_nx S1) (b_tz b k).1 && Nat.blt (b_pz b k) (a_nx S1)) = true) (hp : k_pk m0 P = true) (hP : TS sp ρ' ((k_pins m0).map (le_ev (fun k => le_ev σ (b_tz b k)))) ((List.range m0).map (fun o => α (b_pz b o))) P [] v.toList h') : ∃ S', k_ps S1 r W m0 b P = some S' ∧ TS sp ρ' K KA S' lv' (v.toList ++ r') h' := by
  obtain ⟨-, σ', α', p1, p2, p3, p4, p5, p6, p7⟩ := hP
  unfold k_pk at hp
  rw [Bool.and_eq_true, Bool.and_eq_true] at hp
  rw [Bool.and_eq_true] at hp
  obtain ⟨q1, q2, q3, q4⟩ := hp
  rw [of_decide_eq_true q1] at p4
  rw [of_decide_eq_true q2] at p5
  have e4 : ∀ k, k < m0 → σ' k = le_ev σ (b_tz b k) := by
    intro k hk
    have := List.map_inj_left.mp p4 (le_s k) (List.mem_map.mpr ⟨k, List.mem_range.mpr hk, rfl⟩)
    rw [le_sE, le_sE] at this
    exact this
  have e5 : ∀ k, k < m0 → α' k = α (b_pz b k) := fun k hk => List.map_inj_left.mp p5 k (List.mem_range.mpr hk)
  obtain ⟨σ2, hσ2⟩ : ∃ s : Nat → Int, s = fun k => if k < a_nx S1 then σ k else σ' (m0 + (k - a_nx S1)) := ⟨_, rfl⟩
  obtain ⟨α2, hα2⟩ : ∃ s : Nat → Nat, s = fun k => if k < a_nx S1 then α k else α' (m0 + (k - a_nx S1)) := ⟨_, rfl⟩
  have a1 : ∀ k, k < a_nx S1 → σ2 k = σ k := fun k hk => by rw [hσ2]; exact if_pos hk
  have a2 : ∀ k, k < a_nx S1 → α2 k = α k := fun k hk => by rw [hα2]; exact if_pos hk
  have a3 : ∀ k, m0 ≤ k → σ2 (a_nx S1 + (k - m0)) = σ' k := fun k hk => by
    rw [hσ2]
    dsimp only
    rw [if_neg (by omega), show m0 + (a_nx S1 + (k - m0) - a_nx S1) = k by omega]
  have a4 : ∀ k, m0 ≤ k → α2 (a_nx S1 + (k - m0)) = α' k := fun k hk => by
    rw [hα2]
    dsimp only
    rw [if_neg (by omega), show m0 + (a_nx S1 + (k - m0) - a_nx S1) = k by omega]
  have hb2 : ∀ k, k < m0 → xg_l (a_nx S1) (b_tz b k).1 = true ∧ b_pz b k < a_nx S1 := fun k hk => by
    have := List.all_eq_true.mp hb k (List.mem_range.mpr hk)
    rw [Bool.and_eq_true] at this
    exact ⟨this.1, xg_lt this.2⟩
  have eθ : (fun k => le_ev σ2 (k_th (a_nx S1) m0 b k)) = σ' := by
    funext k
    unfold k_th
    split
    · next hk => rw [xg_eS a1 _ (hb2 k hk).1, e4 k hk]
    · next hk => rw [le_sE, a3 k (by omega)]
  have eφ : (fun k => α2 (k_ph (a_nx S1) m0 b k)) = α' := by
    funext k
    unfold k_ph
    split
    · next hk => rw [a2 _ (hb2 k hk).2, e5 k hk]
    · next hk => rw [a4 k (by omega)]
  obtain ⟨w1, w2, w3, w4, w5, w6, w7⟩ := xg_SS a1 a2 hg hw
  have hbase : TW ρ' K KA (k_pb S1 r W m0 b P) lv' (v.toList ++ r') h' σ2 α2 := by
    refine ⟨fun q hq => ?_, w2, fun q hq => ?_, w4, w5, x_lv f w6, t_ska (s_skS (by rw [eθ, eφ]; exact p7)) (x_sk f w7)⟩
    · rcases List.mem_append.mp hq with hq | hq
      · obtain ⟨q0, h0, rfl⟩ := List.mem_map.mp hq
        dsimp only
        rw [a3 q0.1 (Nat.le_of_ble_eq_true (List.all_eq_true.mp q3 q0 h0))]
        exact p1 q0 h0
      · exact w1 q hq
    · rcases List.mem_append.mp hq with hq | hq
      · obtain ⟨q0, h0, rfl⟩ := List.mem_map.mp hq
        obtain ⟨g1, g2⟩ := p3 q0 h0
        have e0 : α2 (k_ph (a_nx S1) m0 b q0.1.1) = α' q0.1.1 := congrFun eφ q0.1.1
        dsimp only
        rw [e0]
        refine ⟨g1, s_fvS (Nat.le_of_ble_eq_true (List.all_eq_true.mp q4 q0 h0)) ?_⟩
        rw [eθ, eφ]
        exact g2
      · exact x_ca ht f w3 q hq
  obtain ⟨S', e1, hw'⟩ := k_asmS ((a_cs P).map (s_e (k_th (a_nx S1) m0 b))) _ (fun e he => by
    obtain ⟨e0, h0, rfl⟩ := List.mem_map.mp he
    rw [s_eE, eθ]
    exact p2 e0 h0) hbase
  exact ⟨S', e1, ht', σ2, α2, hw'⟩
end
end
section
-- more fuel, the same end
theorem m_up : ∀ (n i pc : Nat) (lv : List (Nat × Value)) (st : List Value) (h : MH) (r : Option Value × MH), m_rn n i pc lv st h = some r → m_rn (n + 1) i pc lv st h = some r
  | 0, _, _, _, _, _, _, e => by cases e
  | n + 1, i, pc, lv, st, h, r, e => by
    rw [m_rn] at e
    rw [m_rn]
    generalize m_st i pc lv st h = R at e ⊢
    match R, e with
    | some (.inl (pc', lv', st', h')), e => exact m_up n i pc' lv' st' h' r e
    | some (.inr (.inl q)), e => exact e
    | some (.inr (.inr (j, as, rr, pc'))), e =>
      dsimp only at e ⊢
      split at e
      · next hc =>
        rw [if_pos hc]
        cases h1 : m_rn n j 0 (lv_args 0 as) [] h with
        | none => rw [h1] at e; cases e
        | some q =>
          rw [h1] at e
          rw [m_up n j 0 _ _ _ q h1]
          exact m_up n i pc' lv _ _ r e
      · cases e
    | none, e => cases e
theorem m_upk (k : Nat) {n i pc : Nat} {lv : List (Nat × Value)} {st : List Value} {h : MH} {r : Option Value × MH} (e : m_rn n i pc lv st h = some r) : m_rn (n + k) i pc lv st h = some r := by
  induction k with
  | zero => exact e
  | succ k ih => exact m_up _ _ _ _ _ _ _ ih
-- it ends, with r
def Rq (i pc : Nat) (lv : List (Nat × Value)) (st : List Value) (h : MH) (r : Option Value × MH) : Prop := ∃ n, m_rn n i pc lv st h = some r
theorem Rq.step {i pc : Nat} {lv : List (Nat × Value)} {st : List Value} {h : MH} {r : Option Value × MH} {pc' : Nat} {lv' : List (Nat × Value)} {st' : List Value} {h' : MH} (e : m_st i pc lv st h = some (.inl (pc', lv', st', h'))) (g : Rq i pc' lv' st' h' r) : Rq i pc lv st h r := by
  obtain ⟨n, hn⟩ := g
  refine ⟨n + 1, ?_⟩
  rw [m_rn, e]
  exact hn
theorem Rq.ret {i pc : Nat} {lv : List (Nat × Value)} {st : List Value} {h : MH} {r : Option Value × MH} (e : m_st i pc lv st h = some (.inr (.inl r))) : Rq i pc lv st h r := by
  refine ⟨1, ?_⟩
  rw [m_rn, e]
theorem Rq.call {i pc : Nat} {lv : List (Nat × Value)} {st : List Value} {h : MH} {r : Option Value × MH} {j : Nat} {as rr : List Value} {pc' : Nat} {v : Option Value} {h' : MH} (e : m_st i pc lv st h = some (.inr (.inr (j, as, rr, pc')))) (hc : m_cat as ≤ m_lc j) (g1 : Rq j 0 (lv_args 0 as) [] h (v, h')) (g2 : Rq i pc' lv (v.toList ++ rr) h' r) : Rq i pc lv st h r := by
  obtain ⟨n1, h1⟩ := g1
  obtain ⟨n2, h2⟩ := g2
  refine ⟨n1 + n2 + 1, ?_⟩
  rw [m_rn, e]
  dsimp only
  rw [if_pos hc, m_upk n2 h1]
  have := m_upk n1 h2
  rw [Nat.add_comm] at this
  exact this
-- tokens
def d_kill (dep : Nat → List (Nat × Nat)) (W : List (Nat × Nat)) (T : List Nat) : List Nat := T.filter (fun t => d_no (dep t) W)
def d_has (T U : List Nat) : Bool := T.all (fun t => U.contains t)
def k_do (sp : List RS) (dep : Nat → List (Nat × Nat)) (m : SM) (W : List (Nat × Nat)) (as r : List AT) (pc : Nat) (S : AST) (T : List Nat) : Option (List (Nat × (AST × List Nat))) := match r_al sp 0 (a_ca m.1.1) S (b_lv 0 (w_fs S (a_args 0 as) []) (a_lv m.1.1) ([], [])) with
  | none => none
  | some (S1, b) => if (u_ok (b_tz b) (b_pz b) m.1.1 (w_fs S1 (a_args 0 as) []) && (decide (a_kp m.1.1 = k_pins (a_nx m.1.1)) && decide (a_ko m.1.1 = List.range (a_nx m.1.1)))) && ((xg_S (a_nx S1) (w_fs S1 (a_lv S1) r) && (List.range (a_nx m.1.1)).all (fun k => xg_l (a_nx S1) (b_tz b k).1 && Nat.blt (b_pz b k) (a_nx S1))) && ((d_has m.1.2 T && d_sub m.2.1 W) && m.2.2.all (fun P => k_pk (a_nx m.1.1) P.1))) then some (m.2.2.filterMap (fun P => match k_ps S1 r m.2.1 (a_nx m.1.1) b P.1 with
      | some S2 => some (pc + 3, (S2, d_kill dep m.2.1 T ++ P.2))
      | none => none)) else none
def j_cl (sp : List RS) (dep : Nat → List (Nat × Nat)) (env : List (Nat × SM)) (alt : List (Nat × Nat)) (W : List (Nat × Nat)) (kd i idx pc : Nat) (S : AST) (T : List Nat) : Option (List (Nat × (AST × List Nat))) := match m_ml i idx with
  | none => none
  | some (_, j) => if k_ok kd i j = true then (match m_lk env (match m_lk alt pc with
      | some x => x
      | none => j) with
    | some m => (match k_sp sp kd j (a_st S) with
      | some (as, r) => if (as.map a_cat).sum ≤ m_lc j ∧ (match m_lk alt pc with
          | some x => x
          | none => j) % 1000 = j then k_do sp dep m W as r pc S T else none
      | none => none)
    | none => none) else none
-- one step: plain or a call
def j_wr (i : Nat) (ins : Instr) (S : AST) : List (Nat × Nat) := match ins with
  | .putfield idx => (match a_st S, m_fl i idx with
    | _ :: .inr (.inr q) :: _, some (_, _, k) => [(q.2.1, k)]
    | _, _ => [])
  | .iastore => (match a_st S with
    | _ :: _ :: .inr (.inr q) :: _ => [(q.2.1, 1001)]
    | _ => [])
  | .bastore => (match a_st S with
    | _ :: _ :: .inr (.inr q) :: _ => [(q.2.1, 1001)]
    | _ => [])
  | .lastore => (match a_st S with
    | _ :: _ :: .inr (.inr q) :: _ => [(q.2.1, 1001)]
    | _ => [])
  | .aastore => (match a_st S with
    | _ :: _ :: .inr (.inr q) :: _ => [(q.2.1, 1001)]
    | _ => [])
  | .invokestatic _ => (match a_st S with
    | _ :: _ :: .inr (.inr q) :: .inl _ :: .inr (.inr _) :: _ => [(q.2.1, 1001)]
    | _ => [])
  | _ => []
-- GHOSTS: what tokens say of a state's own words; KEEPERS: tokens that a store leaves true
abbrev KR : Type := (AST × List Nat) × List Nat
abbrev GK : Type := List (Nat × SM) × List (Nat × KR)
def G_ok (sp : List RS) (CC : Nat × (Nat × Nat)) (PT : Nat → (Nat → Nat) → MH → Prop) (g : SM) : Prop := ∀ (ρ : Nat → Nat) (K : List Int) (KA : List Nat) (lv : List (Nat × Value)) (h : MH), CCok CC ρ → TS sp ρ K KA g.1.1 lv [] h → (∀ t ∈ g.1.2, PT t ρ h) → ∃ P ∈ g.2.2, TS sp ρ K KA P.1 [] [] h ∧ ∀ t ∈ P.2, PT t ρ h
def K_ok (sp : List RS) (CC : Nat × (Nat × Nat)) (PT : Nat → (Nat → Nat) → MH → Prop) (i pc : Nat) (k : KR) : Prop := ∀ (ρ : Nat → Nat) (K : List Int) (KA : List Nat) (lv : List (Nat × Value)) (st : List Value) (h : MH) (pc' : Nat) (lv' : List (Nat × Value)) (st' : List Value) (h' : MH), CCok CC ρ → TS sp ρ K KA k.1.1 lv st h → (∀ t ∈ k.1.2, PT t ρ h) → m_st i pc lv st h = some (.inl (pc', lv', st', h')) → ∀ t ∈ k.2, PT t ρ h'
def GKok (sp : List RS) (CC : Nat × (Nat × Nat)) (PT : Nat → (Nat → Nat) → MH → Prop) (i : Nat) (gk : GK) : Prop := (∀ pc g, m_lk gk.1 pc = some g → G_ok sp CC PT g) ∧ ∀ pc k, m_lk gk.2 pc = some k → K_ok sp CC PT i pc k
def d_gh (sp : List RS) (g : SM) (S : AST) (T : List Nat) : Option (List (AST × List Nat)) := match r_al sp 0 (a_ca g.1.1) S (b_lv 0 S (a_lv g.1.1) ([], [])) with
  | none => none
  | some (S1, b) => if (u_ok (b_tz b) (b_pz b) g.1.1 (w_fs S1 (a_lv S1) []) && (decide (a_kp g.1.1 = k_pins (a_nx g.1.1)) && decide (a_ko g.1.1 = List.range (a_nx g.1.1)))) && ((xg_S (a_nx S1) (w_fs S1 (a_lv S1) (a_st S1)) && (List.range (a_nx g.1.1)).all (fun k => xg_l (a_nx S1) (b_tz b k).1 && Nat.blt (b_pz b k) (a_nx S1))) && (d_has g.1.2 T && g.2.2.all (fun P => k_pk (a_nx g.1.1) P.1))) then some (g.2.2.filterMap (fun P => match k_ps S1 (a_st S1) [] (a_nx g.1.1) b P.1 with
      | some S2 => some (S2, T ++ P.2)
      | none => none)) else none
def d_kr (k : KR) (S : AST) (T : List Nat) : List Nat := if u_ok (b_th (b_al 0 k.1.1 S)) (b_ph (b_al 0 k.1.1 S)) k.1.1 S = true ∧ d_has k.1.2 T = true then k.2 else []
def d_kp (kr : List (Nat × KR)) (pc : Nat) (S : AST) (T : List Nat) : List Nat := match m_lk kr pc with
  | some k => d_kr k S T
  | none => []
def d_pl (sp : List RS) (CC : Nat × (Nat × Nat)) (dep : Nat → List (Nat × Nat)) (kr : List (Nat × KR)) (W : List (Nat × Nat)) (i pc : Nat) (ins : Instr) (S : AST) (T : List Nat) : Option (List (Nat × (AST × List Nat))) := match j_ex sp (j_wr i ins S) CC i pc ins S with
  | some L => if d_sub (j_wr i ins S) W = true then some (L.map (fun q => (q.1, (q.2, d_kill dep (j_wr i ins S) T ++ d_kp kr pc S T)))) else none
  | none => none
-- a step that writes nothing
def d_ps (R : Option (List AO)) (T : List Nat) : Option (List (Nat × (AST × List Nat))) := match R with
  | some L => some (L.map (fun q => (q.1, (q.2, T))))
  | none => none
def d_st (sp : List RS) (CC : Nat × (Nat × Nat)) (dep : Nat → List (Nat × Nat)) (kr : List (Nat × KR)) (env : List (Nat × SM)) (alt : List (Nat × Nat)) (W : List (Nat × Nat)) (i pc : Nat) (ins : Instr) (S : AST) (T : List Nat) : Option (List (Nat × (AST × List Nat))) := match ins with
  | .invokestatic idx => (match j_cl sp dep env alt W 0 i idx pc S T with
    | some L => some L
    | none => d_pl sp CC dep kr W i pc ins S T)
  | .invokevirtual idx => j_cl sp dep env alt W 1 i idx pc S T
  | .invokespecial idx => j_cl sp dep env alt W 2 i idx pc S T
  | .iaload => (match m_lk alt pc with
    | some _ => d_ps (j_sali sp 20 20 pc S) T
    | none => d_pl sp CC dep kr W i pc ins S T)
  | .baload => (match m_lk alt pc with
    | some _ => d_ps (j_sali sp 21 22 pc S) T
    | none => d_pl sp CC dep kr W i pc ins S T)
  | .aaload => (match m_lk alt pc with
    | some _ => d_ps (j_sala sp pc S) T
    | none => d_pl sp CC dep kr W i pc ins S T)
  | _ => d_pl sp CC dep kr W i pc ins S T
def PTx (sp : List RS) (dep : Nat → List (Nat × Nat)) (PT : Nat → (Nat → Nat) → MH → Prop) : Prop := ∀ (t : Nat) (ρ ρ' : Nat → Nat) (W : List (Nat × Nat)) (h h' : MH), TH sp ρ h → FQ ρ ρ' W h h' → d_no (dep t) W = true → PT t ρ h → PT t ρ' h'
def ENV (sp : List RS) (CC : Nat × (Nat × Nat)) (PT : Nat → (Nat → Nat) → MH → Prop) (env : List (Nat × SM)) : Prop := ∀ id m, m_lk env id = some m → V_ok sp CC PT (id % 1000) m
section
variable {sp : List RS} {CC : Nat × (Nat × Nat)} {dep : Nat → List (Nat × Nat)} {kr : List (Nat × KR)} {PT : Nat → (Nat → Nat) → MH → Prop} {env : List (Nat × SM)} {alt : List (Nat × Nat)} {ρ : Nat → Nat} {W : List (Nat × Nat)} {K : List Int} {KA : List Nat} {S : AST} {T : List Nat} {lv' : List (Nat × Value)} {st' : List Value} {h : MH} {pc : Nat} {σ : Nat → Int} {α : Nat → Nat}
def NX (sp : List RS) (PT : Nat → (Nat → Nat) → MH → Prop) (W : List (Nat × Nat)) (K : List Int) (KA : List Nat) (i pc : Nat) (lv : List (Nat × Value)) (st : List Value) (h : MH) (ρ : Nat → Nat) (L : List (Nat × (AST × List Nat))) : Prop := ∃ x ∈ L, ∃ (lv1 : List (Nat × Value)) (st1 : List Value) (h1 : MH) (ρ1 : Nat → Nat), (∀ r, Rq i x.1 lv1 st1 h1 r → Rq i pc lv st h r) ∧ FQ ρ ρ1 W h h1 ∧ TS sp ρ1 K KA x.2.1 lv1 st1 h1 ∧ ∀ t ∈ x.2.2, PT t ρ1 h1
theorem d_killS {ρ' : Nat → Nat} {h' : MH} (hPT : PTx sp dep PT) (ht : TH sp ρ h) (f : FQ ρ ρ' W h h') (hT : ∀ t ∈ T, PT t ρ h) : ∀ t ∈ d_kill dep W T, PT t ρ' h' := fun t m => by
  obtain ⟨m1, m2⟩ := List.mem_filter.mp m
  exact hPT t ρ ρ' W h h' ht f m2 (hT t m1)
theorem d_plS {i : Nat} {ins : Instr} {L : List (Nat × (AST × List Nat))} (hkr : ∀ pc k, m_lk kr pc = some k → K_ok sp CC PT i pc k) (hPT : PTx sp dep PT) (hC : CCok CC ρ) (hlen : ∀ (R : Nat) (rs : RS), sp[R]? = some rs → rs.1.2.2 < 1000 ∨ ¬ (30 ≤ rs.1.1 ∧ rs.1.1 < 33)) (hst : m_st i pc lv' st' h = m_ex i pc ins lv' st' h) (ht : TH sp ρ h) (hw : TW ρ K KA S lv' st' h σ α) (hT : ∀ t ∈ T, PT t ρ h) (e : d_pl sp CC dep kr W i pc ins S T = some L) : NX sp PT W K KA i pc lv' st' h ρ L := by
  unfold d_pl at e
  split at e
  · next L0 h0 =>
    split at e
    · next hs =>
      cases e
      obtain ⟨pc1, lv1, st1, h1, e1, f, S1, m1, t1⟩ := q_ex (W := j_wr i ins S) CC i ins hC.1 hC.2.1 hC.2.2 hlen ht hw L0 h0
      have f1 := FQ.ofFR f
      refine ⟨(pc1, (S1, d_kill dep (j_wr i ins S) T ++ d_kp kr pc S T)), List.mem_map.mpr ⟨_, m1, rfl⟩, lv1, st1, h1, ρ, fun r g => Rq.step (hst.trans e1) g, FQ.mono hs f1, t1, fun t mt => ?_⟩
      rcases List.mem_append.mp mt with mt | mt
      · exact d_killS hPT ht f1 hT t mt
      · unfold d_kp at mt
        split at mt
        · next k hk =>
          unfold d_kr at mt
          split at mt
          · next hc =>
            exact hkr pc k hk ρ _ _ lv' st' h pc1 lv1 st1 h1 hC ⟨ht, _, _, u_okS hw hc.1⟩ (fun t m => hT t (List.contains_iff_mem.mp (List.all_eq_true.mp hc.2 t m))) (hst.trans e1) t mt
          · cases mt
        · cases mt
    · cases e
  · cases e
theorem d_psS {i : Nat} {R : Option (List AO)} {R' : Option MA} {L : List (Nat × (AST × List Nat))} (hst : m_st i pc lv' st' h = R') (hPT : PTx sp dep PT) (ht : TH sp ρ h) (hP : T_P sp ρ [] K KA R h R') (hT : ∀ t ∈ T, PT t ρ h) (e : d_ps R T = some L) : NX sp PT W K KA i pc lv' st' h ρ L := by
  unfold d_ps at e
  split at e
  · next L0 =>
    cases e
    obtain ⟨pc1, lv1, st1, h1, e1, f, S1, m1, t1⟩ := hP L0 rfl
    have f1 := FQ.ofFR f
    refine ⟨(pc1, (S1, T)), List.mem_map.mpr ⟨_, m1, rfl⟩, lv1, st1, h1, ρ, fun r g => Rq.step (hst.trans e1) g, FQ.mono rfl f1, t1, fun t mt => ?_⟩
    refine hPT t ρ ρ [] h h1 ht f1 ?_ (hT t mt)
    exact List.all_eq_true.mpr (fun d _ => rfl)
  · cases e
theorem j_clS {kd i idx : Nat} {L : List (Nat × (AST × List Nat))} (hPT : PTx sp dep PT) (henv : ENV sp CC PT env) (hC : CCok CC ρ) (hst : m_st i pc lv' st' h = e_call kd i idx pc lv' st' h) (ht : TH sp ρ h) (hw : TW ρ K KA S lv' st' h σ α) (hT : ∀ t ∈ T, PT t ρ h) (e : j_cl sp dep env alt W kd i idx pc S T = some L) : NX sp PT W K KA i pc lv' st' h ρ L := by
  unfold j_cl at e
  split at e
  · cases e
  · next nest j hm =>
    split at e
    · next hk =>
      generalize (match m_lk alt pc with
        | some x => x
        | none => j) = id at e
      split at e
      · next m hme =>
        split at e
        · next as r hsp =>
          split at e
          · next hc =>
            have hV := henv id m hme
            rw [hc.2] at hV
            unfold k_do at e
            split at e
            · cases e
            · next S1 b hal =>
              split at e
              · next hall =>
                rw [Bool.and_eq_true, Bool.and_eq_true, Bool.and_eq_true, Bool.and_eq_true, Bool.and_eq_true, Bool.and_eq_true, Bool.and_eq_true] at hall
                obtain ⟨⟨c1, c2, c3⟩, ⟨c4, c5⟩, ⟨c6, c7⟩, c8⟩ := hall
                cases e
                obtain ⟨⟨σ1, α1, hw1⟩, es, el, -, -⟩ := r_alS _ ht _ _ _ _ _ ⟨σ, α, hw⟩ hal
                rw [← es] at hsp
                obtain ⟨as', r', g1, g2, g3⟩ := k_spS (pc := pc) hm hk ht hw1 hsp
                have hwc : TW ρ K KA (w_fs S1 (a_args 0 as) []) (lv_args 0 as') [] h σ1 α1 := q_fs hw1 (a_argsS 0 g2) trivial
                have hu := u_okS hwc c1
                have hT1 : ∀ t ∈ m.1.2, PT t ρ h := fun t mt => hT t (List.contains_iff_mem.mp (List.all_eq_true.mp c6 t mt))
                obtain ⟨n, v, h', ρ', k1, k2, P, mP, k3, k4⟩ := hV ρ _ _ (lv_args 0 as') h hC ⟨ht, _, _, hu⟩ hT1
                rw [of_decide_eq_true c2, of_decide_eq_true c3] at k3
                have hwr : TW ρ K KA (w_fs S1 (a_lv S1) r) lv' r' h σ1 α1 := q_fs hw1 hw1.2.2.2.2.2.1 g3
                obtain ⟨S2, e2, t2⟩ := k_psS ht k2 k3.1 hwr c4 c5 (List.all_eq_true.mp c8 P mP) k3
                refine ⟨(pc + 3, (S2, d_kill dep m.2.1 T ++ P.2)), List.mem_filterMap.mpr ⟨P, mP, by rw [e2]⟩, lv', v.toList ++ r', h', ρ', fun rr g => Rq.call (hst.trans g1) (by rw [t_ct g2]; exact hc.1) ⟨n, k1⟩ g, FQ.mono c7 k2, t2, fun t mt => ?_⟩
                rcases List.mem_append.mp mt with mt | mt
                · exact d_killS hPT ht k2 hT t mt
                · exact k4 t mt
              · cases e
          · cases e
        · cases e
      · cases e
    · cases e
theorem d_stS {i : Nat} {ins : Instr} {L : List (Nat × (AST × List Nat))} (hkr : ∀ pc k, m_lk kr pc = some k → K_ok sp CC PT i pc k) (hPT : PTx sp dep PT) (henv : ENV sp CC PT env) (hC : CCok CC ρ) (hlen : ∀ (R : Nat) (rs : RS), sp[R]? = some rs → rs.1.2.2 < 1000 ∨ ¬ (30 ≤ rs.1.1 ∧ rs.1.1 < 33)) (hst : m_st i pc lv' st' h = m_ex i pc ins lv' st' h) (ht : TH sp ρ h) (hw : TW ρ K KA S lv' st' h σ α) (hT : ∀ t ∈ T, PT t ρ h) (e : d_st sp CC dep kr env alt W i pc ins S T = some L) : NX sp PT W K KA i pc lv' st' h ρ L := by
  unfold d_st at e
  split at e
  · next idx =>
    split at e
    · next L0 h0 =>
      cases e
      exact j_clS hPT henv hC hst ht hw hT h0
    · exact d_plS hkr hPT hC hlen hst ht hw hT e
  · next idx => exact j_clS hPT henv hC hst ht hw hT e
  · next idx => exact j_clS hPT henv hC hst ht hw hT e
  · split at e
    · exact d_psS hst hPT ht (q_sali 20 20 ht hw) hT e
    · exact d_plS hkr hPT hC hlen hst ht hw hT e
  · split at e
    · exact d_psS hst hPT ht (q_sali 21 22 ht hw) hT e
    · exact d_plS hkr hPT hC hlen hst ht hw hT e
  · split at e
    · exact d_psS hst hPT ht (q_sala ht hw) hT e
    · exact d_plS hkr hPT hC hlen hst ht hw hT e
  · exact d_plS hkr hPT hC hlen hst ht hw hT e
theorem d_ghS {g : SM} {L : List (AST × List Nat)} (hg : G_ok sp CC PT g) (hC : CCok CC ρ) (ht : TH sp ρ h) (hw : TW ρ K KA S lv' st' h σ α) (hT : ∀ t ∈ T, PT t ρ h) (e : d_gh sp g S T = some L) : ∃ x ∈ L, TS sp ρ K KA x.1 lv' st' h ∧ ∀ t ∈ x.2, PT t ρ h := by
  unfold d_gh at e
  split at e
  · cases e
  · next S1 b hal =>
    split at e
    · next hall =>
      rw [Bool.and_eq_true, Bool.and_eq_true, Bool.and_eq_true, Bool.and_eq_true, Bool.and_eq_true, Bool.and_eq_true] at hall
      obtain ⟨⟨c1, c2, c3⟩, ⟨c4, c5⟩, c6, c8⟩ := hall
      cases e
      obtain ⟨⟨σ1, α1, hw1⟩, es, el, -, -⟩ := r_alS _ ht _ _ _ _ _ ⟨σ, α, hw⟩ hal
      have hwc : TW ρ K KA (w_fs S1 (a_lv S1) []) lv' [] h σ1 α1 := q_fs hw1 hw1.2.2.2.2.2.1 trivial
      have hu := u_okS hwc c1
      obtain ⟨P, mP, k3, k4⟩ := hg ρ _ _ lv' h hC ⟨ht, _, _, hu⟩ (fun t mt => hT t (List.contains_iff_mem.mp (List.all_eq_true.mp c6 t mt)))
      rw [of_decide_eq_true c2, of_decide_eq_true c3] at k3
      have hwr : TW ρ K KA (w_fs S1 (a_lv S1) (a_st S1)) lv' st' h σ1 α1 := q_fs hw1 hw1.2.2.2.2.2.1 hw1.2.2.2.2.2.2
      obtain ⟨S2, e2, t2⟩ := k_psS (v := none) ht (FQ.refl ρ [] h) k3.1 hwr c4 c5 (List.all_eq_true.mp c8 P mP) k3
      refine ⟨(S2, T ++ P.2), List.mem_filterMap.mpr ⟨P, mP, by rw [e2]⟩, t2, fun t mt => ?_⟩
      rcases List.mem_append.mp mt with mt | mt
      · exact hT t mt
      · exact k4 t mt
    · cases e
end
end
section
-- ALL WAYS OF A METHOD, from a cut to cuts or ends
abbrev CT : Type := Nat × (AST × (List Nat × LE))
def d_arr (C : AST × (List Nat × LE)) (S : AST) (T : List Nat) : Bool := match a_kp S with
  | m :: ks => (let b := b_al (a_kp C.1).length C.1 S
    (u_ok (b_th b) (b_ph b) C.1 S && (decide ((a_kp C.1).map (s_e (b_th b)) = ks) && decide ((a_ko C.1).map (b_ph b) = a_ko S))) && (d_has C.2.1 T && (u_en S (le_mul (-1) (s_e (b_th b) C.2.2)) && u_en S (le_add (le_sub (s_e (b_th b) C.2.2) m) (le_c 1)))))
  | [] => false
def d_pst (P : AST × List Nat) (S : AST) (T : List Nat) : Bool := match a_kp S with
  | _ :: ks => (let b := b_al (a_kp P.1).length P.1 S
    ((a_lv P.1).isEmpty && u_ok (b_th b) (b_ph b) P.1 S && (decide ((a_kp P.1).map (s_e (b_th b)) = ks) && decide ((a_ko P.1).map (b_ph b) = a_ko S))) && d_has P.2 T)
  | [] => false
def d_rng (S : AST) (e : LE) (lo hi : Int) : Bool := u_en S (le_sub (le_c lo) e) && u_en S (le_sub e (le_c hi))
def d_rt (i : Nat) (ins : Instr) (S : AST) : Bool := match ins with
  | .ireturn => (match a_st S with
    | [.inl e] => (match m_rt i with
      | some .int => true
      | some .boolean => d_rng S e 0 1
      | some .byte => d_rng S e (-128) 127
      | some .char => d_rng S e 0 65535
      | _ => false)
    | _ => false)
  | .lreturn => (match a_st S with
    | [.inr (.inl _)] => decide (m_rt i = some .long)
    | _ => false)
  | .areturn => (match a_st S with
    | [.inr (.inr _)] => m_rr (m_rt i)
    | _ => false)
  | .return_ => (match a_st S with
    | [] => decide (m_rt i = none)
    | _ => false)
  | _ => false
def d_gs (sp : List RS) (gh : List (Nat × SM)) (pc : Nat) (S : AST) (T : List Nat) : Option (List (AST × List Nat)) := match m_lk gh pc with
  | some g => (match d_gh sp g S T with
    | some L => some L
    | none => some [(S, T)])
  | none => some [(S, T)]
noncomputable def d_run (sp : List RS) (CC : Nat × (Nat × Nat)) (dep : Nat → List (Nat × Nat)) (gk : GK) (env : List (Nat × SM)) (alt : List (Nat × Nat)) (W : List (Nat × Nat)) (cuts : List CT) (posts : List (AST × List Nat)) (i : Nat) : Nat → Nat → AST → List Nat → Bool
  | 0, _, _, _ => false
  | n + 1, pc, S, T => match b_ff (m_m i).1 pc with
    | none => false
    | some e => if m_ln e.2.1 = e.2.2 ∨ m_ln e.2.1 = 0 then (match d_gs sp gk.1 pc S T with
      | some G => G.all (fun y => match d_st sp CC dep gk.2 env alt W i pc e.2.1 y.1 y.2 with
        | some L => L.all (fun x => match m_lk cuts x.1 with
          | some C => d_arr C x.2.1 x.2.2
          | none => d_run sp CC dep gk env alt W cuts posts i n x.1 x.2.1 x.2.2)
        | none => d_rt i e.2.1 y.1 && posts.any (fun P => d_pst P y.1 y.2))
      | none => false) else false
def w_kp (S : AST) (kp : List LE) : AST := (S.1, S.2.1, ((kp, S.2.2.1.2), S.2.2.2))
-- a method's own claim
noncomputable def d_mth (sp : List RS) (CC : Nat × (Nat × Nat)) (dep : Nat → List (Nat × Nat)) (gk : GK) (env : List (Nat × SM)) (alt : List (Nat × Nat)) (cuts : List CT) (B : Int) (fuel i : Nat) (m : SM) : Bool := d_run sp CC dep gk env alt m.2.1 cuts m.2.2 i fuel 0 (w_kp m.1.1 (le_c B :: a_kp m.1.1)) m.1.2 && cuts.all (fun C => d_run sp CC dep gk env alt m.2.1 cuts m.2.2 i fuel C.1 (w_kp C.2.1 (C.2.2.2 :: a_kp C.2.1)) C.2.2.1)
def OUT (sp : List RS) (PT : Nat → (Nat → Nat) → MH → Prop) (W : List (Nat × Nat)) (cuts : List CT) (posts : List (AST × List Nat)) (i : Nat) (K : List Int) (KA : List Nat) (mv : Int) (pc : Nat) (lv : List (Nat × Value)) (st : List Value) (h : MH) (ρ : Nat → Nat) : Prop :=
  (∃ (v : Option Value) (h' : MH) (ρ' : Nat → Nat), Rq i pc lv st h (v, h') ∧ FQ ρ ρ' W h h' ∧ ∃ P ∈ posts, TS sp ρ' K KA P.1 [] v.toList h' ∧ ∀ t ∈ P.2, PT t ρ' h') ∨
  (∃ C ∈ cuts, ∃ (lv' : List (Nat × Value)) (h' : MH) (ρ' : Nat → Nat), (∀ r, Rq i C.1 lv' [] h' r → Rq i pc lv st h r) ∧ FQ ρ ρ' W h h' ∧ TH sp ρ' h' ∧ (∃ (σ : Nat → Int) (α : Nat → Nat), TW ρ' K KA C.2.1 lv' [] h' σ α ∧ 0 ≤ le_ev σ C.2.2.2 ∧ le_ev σ C.2.2.2 < mv) ∧ ∀ t ∈ C.2.2.1, PT t ρ' h')
section
variable {sp : List RS} {CC : Nat × (Nat × Nat)} {dep : Nat → List (Nat × Nat)} {gk : GK} {PT : Nat → (Nat → Nat) → MH → Prop} {env : List (Nat × SM)} {alt : List (Nat × Nat)} {ρ : Nat → Nat} {W : List (Nat × Nat)} {K : List Int} {KA : List Nat} {S : AST} {T : List Nat} {lv' : List (Nat × Value)} {st' : List Value} {h : MH} {pc : Nat} {σ : Nat → Int} {α : Nat → Nat} {cuts : List CT} {posts : List (AST × List Nat)}
theorem u_sk0 {θ : Nat → LE} {φ : Nat → Nat} {S : AST} : ∀ {t : List AT} {t' : List AT}, u_sk θ φ S t t' = true → t.length = t'.length
  | [], [], _ => rfl
  | _ :: _, _ :: _, k => by
    rw [u_sk, Bool.and_eq_true] at k
    rw [List.length_cons, List.length_cons, u_sk0 k.2]
  | [], _ :: _, k => by cases k
  | _ :: _, [], k => by cases k
theorem d_has_S {T U : List Nat} {P : Nat → Prop} (e : d_has T U = true) (h : ∀ t ∈ U, P t) : ∀ t ∈ T, P t := fun t m => h t (List.contains_iff_mem.mp (List.all_eq_true.mp e t m))
theorem d_arrS {mv : Int} {i pc0 : Nat} {lv0 : List (Nat × Value)} {st0 : List Value} {h0 : MH} {ρ0 : Nat → Nat} {C : CT} (hm : C ∈ cuts) (hcst : a_st C.2.1 = []) (g : ∀ r, Rq i C.1 lv' st' h r → Rq i pc0 lv0 st0 h0 r) (f : FQ ρ0 ρ W h0 h) (ht : TH sp ρ h) (hw : TW ρ (mv :: K) KA S lv' st' h σ α) (hT : ∀ t ∈ T, PT t ρ h) (e : d_arr C.2 S T = true) : OUT sp PT W cuts posts i K KA mv pc0 lv0 st0 h0 ρ0 := by
  have hkp := hw.2.2.2.1
  have hko := hw.2.2.2.2.1
  unfold d_arr at e
  split at e
  · next m ks hks =>
    rw [hks] at hkp
    have hkp1 : le_ev σ m = mv := (List.cons.inj hkp).1
    have hkp2 : ks.map (le_ev σ) = K := (List.cons.inj hkp).2
    rw [Bool.and_eq_true, Bool.and_eq_true, Bool.and_eq_true, Bool.and_eq_true, Bool.and_eq_true] at e
    obtain ⟨⟨e1, e2, e3⟩, e4, e5, e6⟩ := e
    generalize b_al (a_kp C.2.1).length C.2.1 S = b at e1 e2 e3 e5 e6
    have hu := u_okS hw e1
    have hst : st' = [] := by
      have hl := u_sk0 (show u_sk (b_th b) (b_ph b) S (a_st C.2.1) (a_st S) = true by
        unfold u_ok at e1
        rw [Bool.and_eq_true, Bool.and_eq_true, Bool.and_eq_true, Bool.and_eq_true] at e1
        exact e1.2.2.2.2)
      rw [hcst] at hl
      have h2 := t_skl hw.2.2.2.2.2.2
      rw [← hl] at h2
      exact List.eq_nil_of_length_eq_zero h2
    subst hst
    have k1 : (a_kp C.2.1).map (le_ev (fun k => le_ev σ (b_th b k))) = K := by
      rw [← hkp2, ← of_decide_eq_true e2, List.map_map]
      exact List.map_congr_left (fun e _ => (s_eE σ (b_th b) e).symm)
    have k2 : (a_ko C.2.1).map (fun o => α (b_ph b o)) = KA := by
      rw [← hko, ← of_decide_eq_true e3, List.map_map]
      rfl
    rw [k1, k2] at hu
    refine Or.inr ⟨C, hm, lv', h, ρ, g, f, ht, ⟨_, _, hu, ?_, ?_⟩, d_has_S e4 hT⟩
    · have := u_enS hw e5
      rw [le_mulE, s_eE] at this
      omega
    · have := u_enS hw e6
      rw [le_addE, le_subE, le_cE, s_eE, hkp1] at this
      omega
  · cases e
theorem i_bool (v : Int32) (h1 : 0 ≤ v.toInt) (h2 : v.toInt ≤ 1) : v &&& 1 = v := by
  rcases (show v.toInt = 0 ∨ v.toInt = 1 by omega) with e | e
  · have : v = 0 := Int32.toInt_inj.mp (by rw [e]; decide)
    rw [this]
    decide
  · have : v = 1 := Int32.toInt_inj.mp (by rw [e]; decide)
    rw [this]
    decide
theorem i_byte (v : Int32) (h1 : -128 ≤ v.toInt) (h2 : v.toInt ≤ 127) : v.toInt8.toInt32 = v := by
  apply Int32.toInt_inj.mp
  rw [Int8.toInt_toInt32, Int32.toInt_toInt8]
  exact Int.bmod_eq_of_le (by show -((2 ^ 8 : Int) / 2) ≤ v.toInt; omega) (by show v.toInt < ((2 ^ 8 : Int) + 1) / 2; omega)
theorem i_char (v : Int32) (h1 : 0 ≤ v.toInt) (h2 : v.toInt ≤ 65535) : v.toUInt32.toUInt16.toUInt32.toInt32 = v := by
  have e1 : v = Int32.ofInt ((v.toInt.toNat : Nat) : Int) := by
    rw [show ((v.toInt.toNat : Nat) : Int) = v.toInt by omega, Int32.ofInt_toInt]
  have h3 : v.toBitVec.toNat < 65536 := by
    have e2 : v.toInt = v.toBitVec.toInt := rfl
    have h4 := BitVec.toInt_eq_toNat_cond v.toBitVec
    have h5 := v.toBitVec.isLt
    split at h4 <;> omega
  have h6 : v.toUInt32.toNat = v.toBitVec.toNat := rfl
  have h7 : v.toUInt32.toUInt16.toUInt32 = v.toUInt32 := by
    apply UInt32.toNat_inj.mp
    rw [UInt16.toNat_toUInt32, UInt32.toNat_toUInt16, h6]
    exact Nat.mod_eq_of_lt h3
  rw [h7]
  rfl
theorem d_rngS {e : LE} {lo hi : Int} (hw : TW ρ K KA S lv' st' h σ α) (k : d_rng S e lo hi = true) : lo ≤ le_ev σ e ∧ le_ev σ e ≤ hi := by
  unfold d_rng at k
  rw [Bool.and_eq_true] at k
  have h1 := u_enS hw k.1
  have h2 := u_enS hw k.2
  rw [le_subE, le_cE] at h1 h2
  omega
theorem d_rtS {i : Nat} {ins : Instr} (hw : TW ρ K KA S lv' st' h σ α) (e : d_rt i ins S = true) : ∃ v : Option Value, m_ex i pc ins lv' st' h = some (.inr (.inl (v, h))) ∧ st' = v.toList := by
  have hs := hw.2.2.2.2.2.2
  unfold d_rt at e
  split at e
  · split at e
    · next e0 hst =>
      rw [hst] at hs
      obtain ⟨v, q, rfl, ⟨x, rfl, hx⟩, hq⟩ := t_sc hs
      have hq0 : q = [] := List.eq_nil_of_length_eq_zero (t_skl hq)
      subst hq0
      refine ⟨some (.int x), ?_, rfl⟩
      show (if m_rok (m_rt i) x = true then (some (.inr (.inl (some (.int x), h))) : Option MA) else none) = _
      rw [if_pos]
      generalize m_rt i = o at e ⊢
      split at e
      · rfl
      · obtain ⟨r1, r2⟩ := d_rngS hw e
        exact decide_eq_true (i_bool x (by omega) (by omega))
      · obtain ⟨r1, r2⟩ := d_rngS hw e
        exact decide_eq_true (i_byte x (by omega) (by omega))
      · obtain ⟨r1, r2⟩ := d_rngS hw e
        exact decide_eq_true (i_char x (by omega) (by omega))
      · cases e
    · cases e
  · split at e
    · next u hst =>
      rw [hst] at hs
      obtain ⟨v, q, rfl, ⟨x, rfl⟩, hq⟩ := t_sc hs
      have hq0 : q = [] := List.eq_nil_of_length_eq_zero (t_skl hq)
      subst hq0
      refine ⟨some (.long x), ?_, rfl⟩
      show (if m_rt i = some .long then (some (.inr (.inl (some (.long x), h))) : Option MA) else none) = _
      rw [if_pos (of_decide_eq_true e)]
    · cases e
  · split at e
    · next u hst =>
      rw [hst] at hs
      obtain ⟨v, q, rfl, ⟨rfl, _⟩, hq⟩ := t_sc hs
      have hq0 : q = [] := List.eq_nil_of_length_eq_zero (t_skl hq)
      subst hq0
      refine ⟨some (.ref (α u.1)), ?_, rfl⟩
      show (if m_rr (m_rt i) = true then (some (.inr (.inl (some (.ref (α u.1)), h))) : Option MA) else none) = _
      rw [if_pos e]
    · cases e
  · split at e
    · next hst =>
      rw [hst] at hs
      have hq0 : st' = [] := List.eq_nil_of_length_eq_zero (t_skl hs)
      subst hq0
      refine ⟨none, ?_, rfl⟩
      show (if m_rt i = none then (some (.inr (.inl (none, h))) : Option MA) else none) = _
      rw [if_pos (of_decide_eq_true e)]
    · cases e
  · cases e
theorem d_pstS {mv : Int} {P : AST × List Nat} (hw : TW ρ (mv :: K) KA S lv' st' h σ α) (ht : TH sp ρ h) (hT : ∀ t ∈ T, PT t ρ h) (e : d_pst P S T = true) : TS sp ρ K KA P.1 [] st' h ∧ ∀ t ∈ P.2, PT t ρ h := by
  have hkp := hw.2.2.2.1
  have hko := hw.2.2.2.2.1
  unfold d_pst at e
  split at e
  · next m ks hks =>
    rw [hks] at hkp
    have hkp2 : ks.map (le_ev σ) = K := (List.cons.inj hkp).2
    rw [Bool.and_eq_true, Bool.and_eq_true, Bool.and_eq_true, Bool.and_eq_true] at e
    obtain ⟨⟨⟨e0, e1⟩, e2, e3⟩, e4⟩ := e
    generalize b_al (a_kp P.1).length P.1 S = b at e1 e2 e3
    have hu := u_okS hw e1
    have k1 : (a_kp P.1).map (le_ev (fun k => le_ev σ (b_th b k))) = K := by
      rw [← hkp2, ← of_decide_eq_true e2, List.map_map]
      exact List.map_congr_left (fun e _ => (s_eE σ (b_th b) e).symm)
    have k2 : (a_ko P.1).map (fun o => α (b_ph b o)) = KA := by
      rw [← hko, ← of_decide_eq_true e3, List.map_map]
      rfl
    rw [k1, k2] at hu
    obtain ⟨w1, w2, w3, w4, w5, -, w7⟩ := hu
    refine ⟨⟨ht, _, _, w1, w2, w3, w4, w5, ?_, w7⟩, d_has_S e4 hT⟩
    rw [List.isEmpty_iff.mp e0]
    intro q hq
    cases hq
  · cases e
theorem d_runS {i : Nat} (hPT : PTx sp dep PT) (henv : ENV sp CC PT env) (hgk : GKok sp CC PT i gk) (hlen : ∀ (R : Nat) (rs : RS), sp[R]? = some rs → rs.1.2.2 < 1000 ∨ ¬ (30 ≤ rs.1.1 ∧ rs.1.1 < 33)) (hcuts : ∀ C ∈ cuts, a_st C.2.1 = []) {mv : Int} : ∀ (n pc : Nat) (S : AST) (T : List Nat) (lv : List (Nat × Value)) (st : List Value) (h : MH) (ρ : Nat → Nat), CCok CC ρ → TS sp ρ (mv :: K) KA S lv st h → (∀ t ∈ T, PT t ρ h) → d_run sp CC dep gk env alt W cuts posts i n pc S T = true → OUT sp PT W cuts posts i K KA mv pc lv st h ρ
  | 0, _, _, _, _, _, _, _, _, _, _, e => by cases e
  | n + 1, pc, S, T, lv, st, h, ρ, hC, hS, hT, e => by
    rw [d_run] at e
    split at e
    · cases e
    · next e0 hff =>
      split at e
      · next hln =>
        rw [b_ffE] at hff
        have hst : m_st i pc lv st h = m_ex i pc e0.2.1 lv st h := by
          unfold m_st m_at m_lk
          rw [hff]
          dsimp only [Option.map]
          rw [if_pos hln]
        split at e
        · next G hG =>
         obtain ⟨y, my, hSy, hTy⟩ : ∃ y ∈ G, TS sp ρ (mv :: K) KA y.1 lv st h ∧ ∀ t ∈ y.2, PT t ρ h := by
           unfold d_gs at hG
           split at hG
           · next g hg =>
             split at hG
             · next L0 hL0 =>
               cases hG
               obtain ⟨ht, σ, α, hw⟩ := hS
               exact d_ghS (hgk.1 pc g hg) hC ht hw hT hL0
             · cases hG
               exact ⟨(S, T), List.mem_singleton.mpr rfl, hS, hT⟩
           · cases hG
             exact ⟨(S, T), List.mem_singleton.mpr rfl, hS, hT⟩
         have e := List.all_eq_true.mp e y my
         obtain ⟨ht, σ, α, hw⟩ := hSy
         have hT := hTy
         split at e
         · next L hL =>
          obtain ⟨x, mx, lv1, st1, h1, ρ1, g, f, hS1, hT1⟩ := d_stS hgk.2 hPT henv hC hlen hst ht hw hT hL
          have e1 := List.all_eq_true.mp e x mx
          split at e1
          · next C hCm =>
            obtain ⟨ht1, σ1, α1, hw1⟩ := hS1
            exact d_arrS (C := (x.1, C)) (m_lkm hCm) (hcuts _ (m_lkm hCm)) g f ht1 hw1 hT1 e1
          · rcases d_runS hPT henv hgk hlen hcuts n x.1 x.2.1 x.2.2 lv1 st1 h1 ρ1 (hC.x f) hS1 hT1 e1 with ⟨v, h2, ρ2, g1, g2, g3⟩ | ⟨C, mC, lv2, h2, ρ2, g1, g2, g3⟩
            · exact Or.inl ⟨v, h2, ρ2, g _ g1, f.trans g2, g3⟩
            · exact Or.inr ⟨C, mC, lv2, h2, ρ2, fun r z => g r (g1 r z), f.trans g2, g3⟩
         · rw [Bool.and_eq_true] at e
           obtain ⟨v, hv, hvs⟩ := d_rtS (pc := pc) hw e.1
           obtain ⟨P, mP, hP⟩ := List.any_eq_true.mp e.2
           obtain ⟨k1, k2⟩ := d_pstS hw ht hT hP
           rw [hvs] at k1
           exact Or.inl ⟨v, h, ρ, Rq.ret (hst.trans hv), FQ.refl _ _ _, P, mP, k1, k2⟩
        · cases e
      · cases e
theorem w_kpS {e : LE} (hw : TW ρ K KA S lv' st' h σ α) : TW ρ (le_ev σ e :: K) KA (w_kp S (e :: a_kp S)) lv' st' h σ α := by
  obtain ⟨w1, w2, w3, w4, w5, w6, w7⟩ := hw
  refine ⟨w1, w2, w3, ?_, w5, w6, w7⟩
  show le_ev σ e :: (a_kp S).map (le_ev σ) = _
  rw [w4]
theorem d_mthS {B : Int} {fuel i : Nat} {m : SM} (hPT : PTx sp dep PT) (henv : ENV sp CC PT env) (hgk : GKok sp CC PT i gk) (hlen : ∀ (R : Nat) (rs : RS), sp[R]? = some rs → rs.1.2.2 < 1000 ∨ ¬ (30 ≤ rs.1.1 ∧ rs.1.1 < 33)) (hcuts : cuts.all (fun C => (a_st C.2.1).isEmpty) = true) (e : d_mth sp CC dep gk env alt cuts B fuel i m = true) : V_ok sp CC PT i m := by
  have hc2 : ∀ C ∈ cuts, a_st C.2.1 = [] := fun C hC => List.isEmpty_iff.mp (List.all_eq_true.mp hcuts C hC)
  unfold d_mth at e
  rw [Bool.and_eq_true] at e
  intro ρ K KA lv h hC hS hT
  have key : ∀ (n : Nat) (pc : Nat) (lv1 : List (Nat × Value)) (st1 : List Value) (h1 : MH) (ρ1 : Nat → Nat) (mv : Int), mv < n → CCok CC ρ1 → OUT sp PT m.2.1 cuts m.2.2 i K KA mv pc lv1 st1 h1 ρ1 → ∃ (v : Option Value) (h' : MH) (ρ' : Nat → Nat), Rq i pc lv1 st1 h1 (v, h') ∧ FQ ρ1 ρ' m.2.1 h1 h' ∧ ∃ P ∈ m.2.2, TS sp ρ' K KA P.1 [] v.toList h' ∧ ∀ t ∈ P.2, PT t ρ' h' := by
    intro n
    induction n with
    | zero =>
      intro pc lv1 st1 h1 ρ1 mv hmv hC1 ho
      rcases ho with ho | ⟨C, mC, lv2, h2, ρ2, g1, g2, g3, ⟨σ, α, g4, g5, g6⟩, g7⟩
      · exact ho
      · omega
    | succ n ih =>
      intro pc lv1 st1 h1 ρ1 mv hmv hC1 ho
      rcases ho with ho | ⟨C, mC, lv2, h2, ρ2, g1, g2, g3, ⟨σ, α, g4, g5, g6⟩, g7⟩
      · exact ho
      · have e1 := List.all_eq_true.mp e.2 C mC
        have ho2 := d_runS (K := K) (KA := KA) (mv := le_ev σ C.2.2.2) hPT henv hgk hlen hc2 fuel C.1 _ _ lv2 [] h2 ρ2 (hC1.x g2) ⟨g3, σ, α, w_kpS g4⟩ g7 e1
        obtain ⟨v, h3, ρ3, k1, k2, k3⟩ := ih C.1 lv2 [] h2 ρ2 (le_ev σ C.2.2.2) (by omega) (hC1.x g2) ho2
        exact ⟨v, h3, ρ3, g1 _ k1, g2.trans k2, k3⟩
  obtain ⟨ht, σ, α, hw⟩ := hS
  have ho := d_runS (K := K) (KA := KA) (mv := B) hPT henv hgk hlen hc2 fuel 0 _ _ lv [] h ρ hC ⟨ht, σ, α, by
    have := w_kpS (e := le_c B) hw
    rw [le_cE] at this
    exact this⟩ hT e.1
  obtain ⟨v, h', ρ', ⟨n, k1⟩, k2, k3⟩ := key (B.toNat + 1) 0 lv [] h ρ B (by omega) hC ho
  exact ⟨n, v, h', ρ', k1, k2, k3⟩
end
end
section
-- the same from any place of a method (the law, behind its two constructors)
def V_at (sp : List RS) (CC : Nat × (Nat × Nat)) (PT : Nat → (Nat → Nat) → MH → Prop) (j pc0 : Nat) (m : SM) : Prop := ∀ (ρ : Nat → Nat) (K : List Int) (KA : List Nat) (lv : List (Nat × Value)) (h : MH), CCok CC ρ → TS sp ρ K KA m.1.1 lv [] h → (∀ t ∈ m.1.2, PT t ρ h) → ∃ (n : Nat) (v : Option Value) (h' : MH) (ρ' : Nat → Nat), m_rn n j pc0 lv [] h = some (v, h') ∧ FQ ρ ρ' m.2.1 h h' ∧ ∃ P ∈ m.2.2, TS sp ρ' K KA P.1 [] v.toList h' ∧ ∀ t ∈ P.2, PT t ρ' h'
noncomputable def d_mtA (sp : List RS) (CC : Nat × (Nat × Nat)) (dep : Nat → List (Nat × Nat)) (gk : GK) (env : List (Nat × SM)) (alt : List (Nat × Nat)) (cuts : List CT) (B : Int) (fuel i pc0 : Nat) (m : SM) : Bool := d_run sp CC dep gk env alt m.2.1 cuts m.2.2 i fuel pc0 (w_kp m.1.1 (le_c B :: a_kp m.1.1)) m.1.2 && cuts.all (fun C => d_run sp CC dep gk env alt m.2.1 cuts m.2.2 i fuel C.1 (w_kp C.2.1 (C.2.2.2 :: a_kp C.2.1)) C.2.2.1)
section
variable {sp : List RS} {CC : Nat × (Nat × Nat)} {dep : Nat → List (Nat × Nat)} {gk : GK} {PT : Nat → (Nat → Nat) → MH → Prop} {env : List (Nat × SM)} {alt : List (Nat × Nat)} {cuts : List CT}
theorem d_mtAS {B : Int} {fuel i pc0 : Nat} {m : SM} (hPT : PTx sp dep PT) (henv : ENV sp CC PT env) (hgk : GKok sp CC PT i gk) (hlen : ∀ (R : Nat) (rs : RS), sp[R]? = some rs → rs.1.2.2 < 1000 ∨ ¬ (30 ≤ rs.1.1 ∧ rs.1.1 < 33)) (hcuts : cuts.all (fun C => (a_st C.2.1).isEmpty) = true) (e : d_mtA sp CC dep gk env alt cuts B fuel i pc0 m = true) : V_at sp CC PT i pc0 m := by
  have hc2 : ∀ C ∈ cuts, a_st C.2.1 = [] := fun C hC => List.isEmpty_iff.mp (List.all_eq_true.mp hcuts C hC)
  unfold d_mtA at e
  rw [Bool.and_eq_true] at e
  intro ρ K KA lv h hC hS hT
  have key : ∀ (n : Nat) (pc : Nat) (lv1 : List (Nat × Value)) (st1 : List Value) (h1 : MH) (ρ1 : Nat → Nat) (mv : Int), mv < n → CCok CC ρ1 → OUT sp PT m.2.1 cuts m.2.2 i K KA mv pc lv1 st1 h1 ρ1 → ∃ (v : Option Value) (h' : MH) (ρ' : Nat → Nat), Rq i pc lv1 st1 h1 (v, h') ∧ FQ ρ1 ρ' m.2.1 h1 h' ∧ ∃ P ∈ m.2.2, TS sp ρ' K KA P.1 [] v.toList h' ∧ ∀ t ∈ P.2, PT t ρ' h' := by
    intro n
    induction n with
    | zero =>
      intro pc lv1 st1 h1 ρ1 mv hmv hC1 ho
      rcases ho with ho | ⟨C, mC, lv2, h2, ρ2, g1, g2, g3, ⟨σ, α, g4, g5, g6⟩, g7⟩
      · exact ho
      · omega
    | succ n ih =>
      intro pc lv1 st1 h1 ρ1 mv hmv hC1 ho
      rcases ho with ho | ⟨C, mC, lv2, h2, ρ2, g1, g2, g3, ⟨σ, α, g4, g5, g6⟩, g7⟩
      · exact ho
      · have e1 := List.all_eq_true.mp e.2 C mC
        have ho2 := d_runS (K := K) (KA := KA) (mv := le_ev σ C.2.2.2) hPT henv hgk hlen hc2 fuel C.1 _ _ lv2 [] h2 ρ2 (hC1.x g2) ⟨g3, σ, α, w_kpS g4⟩ g7 e1
        obtain ⟨v, h3, ρ3, k1, k2, k3⟩ := ih C.1 lv2 [] h2 ρ2 (le_ev σ C.2.2.2) (by omega) (hC1.x g2) ho2
        exact ⟨v, h3, ρ3, g1 _ k1, g2.trans k2, k3⟩
  obtain ⟨ht, σ, α, hw⟩ := hS
  have ho := d_runS (K := K) (KA := KA) (mv := B) hPT henv hgk hlen hc2 fuel pc0 _ _ lv [] h ρ hC ⟨ht, σ, α, by
    have := w_kpS (e := le_c B) hw
    rw [le_cE] at this
    exact this⟩ hT e.1
  obtain ⟨v, h', ρ', ⟨n, k1⟩, k2, k3⟩ := key (B.toNat + 1) pc0 lv [] h ρ B (by omega) hC ho
  exact ⟨n, v, h', ρ', k1, k2, k3⟩
end
end
section
-- WHAT STANDS BELOW THE FIRST MADE THING STAYS (rows, not objects)
def mlow (h h2 : MH) : Prop := ∀ a, a < 16 → h_k h2 a = h_k h a ∧ (20 ≤ (h_k h a).1 → ∀ j, h_i h2 a j = h_i h a j)
theorem mlow.refl {h : MH} : mlow h h := fun _ _ => ⟨rfl, fun _ _ => rfl⟩
theorem mlow.trans {h h1 h2 : MH} (f : mlow h h1) (g : mlow h1 h2) : mlow h h2 := fun a h3 => by
  obtain ⟨f1, f2⟩ := f a h3
  obtain ⟨g1, g2⟩ := g a h3
  exact ⟨g1.trans f1, fun h4 j => (g2 (by rw [f1]; exact h4) j).trans (f2 h4 j)⟩
section LOW
variable {i : Nat} {pc : Nat} {lv : List (Nat × Value)} {st : List Value} {h : MH}
def m_lw (h : MH) (o : Option MA) : Prop := ∀ q, o = some q → ∃ S : MS, q = .inl S ∧ mlow h S.2.2.2
theorem lo_none : m_lw h none := fun q h => by cases h
theorem lo_go {h1 : MH} (h2 : mlow h h1) : m_lw h (m_go pc lv st h1) := fun q hq => by
  cases hq
  exact ⟨_, rfl, h2⟩
theorem lo_si {a k : Nat} {x : Int32} (hc : 16 ≤ a ∨ (h_k h a).1 < 20) : mlow h (h_si h a k x) := fun b h1 => ⟨rfl, fun h2 j => by
  have hne : b ≠ a := fun e => by
    rw [e] at h1 h2
    omega
  show m_u (h_i h) a (m_u (h_i h a) k x) b j = _
  rw [m_uN _ _ _ _ hne]⟩
theorem lo_sl {a k : Nat} {x : Int64} : mlow h (h_sl h a k x) := fun b h1 => ⟨rfl, fun _ j => rfl⟩
theorem lo_sr {a k x : Nat} : mlow h (h_sr h a k x) := fun b h1 => ⟨rfl, fun _ j => rfl⟩
theorem lo_new {k len sz : Nat} : mlow h (h_new h k len sz) := fun b h1 => ⟨by
    show m_u (h_k h) (16 + h.1.1) (k, len) b = _
    rw [m_uN _ _ _ _ (by omega)], fun _ j => by
    show m_u (h_i h) (16 + h.1.1) (fun _ => 0) b j = _
    rw [m_uN _ _ _ _ (by omega)]⟩
theorem lo_grid {n k : Nat} : mlow h (h_grid h n k) := fun b h1 => ⟨by
    show (if b = 16 + h.1.1 then (33, n) else if 16 + h.1.1 < b ∧ b ≤ 16 + h.1.1 + n then (20, k) else h_k h b) = _
    rw [if_neg (by omega), if_neg (by omega)], fun _ j => by
    show (if 16 + h.1.1 ≤ b ∧ b ≤ 16 + h.1.1 + n then (fun _ => 0) else h_i h b) j = _
    rw [if_neg (by omega)]⟩
theorem lo_cpi {a0 a1 s d n : Nat} (hc : 16 ≤ a1) : mlow h (h_cpi h a0 a1 s d n) := fun b h1 => ⟨rfl, fun _ j => by
  show m_u (h_i h) a1 _ b j = _
  rw [m_uN _ _ _ _ (by omega)]⟩
theorem lo_cpl {a0 a1 s d n : Nat} : mlow h (h_cpl h a0 a1 s d n) := fun b h1 => ⟨rfl, fun _ j => rfl⟩
theorem lo_id : m_lw h (m_go pc lv st h) := lo_go mlow.refl
theorem lo_tg {off : Int} : m_lw h (m_tg pc off lv st h) := by
  unfold m_tg
  split
  · exact lo_id
  · exact lo_none
theorem lo_br {t : Bool} {off : Int} : m_lw h (m_br t pc off lv st h) := by
  unfold m_br
  split
  · split
    · exact lo_id
    · exact lo_id
  · exact lo_none
theorem lo_e_ii {f : Int32 → Int32 → Int32} : m_lw h (e_ii f pc lv st h) := by
  unfold e_ii
  repeat' split
  all_goals first | exact lo_none | exact lo_id
theorem lo_e_ll {f : Int64 → Int64 → Int64} : m_lw h (e_ll f pc lv st h) := by
  unfold e_ll
  repeat' split
  all_goals first | exact lo_none | exact lo_id
theorem lo_e_li {f : Int64 → Int32 → Int64} : m_lw h (e_li f pc lv st h) := by
  unfold e_li
  repeat' split
  all_goals first | exact lo_none | exact lo_id
theorem lo_e_i {f : Int32 → Value} : m_lw h (e_i f pc lv st h) := by
  unfold e_i
  repeat' split
  all_goals first | exact lo_none | exact lo_id
theorem lo_e_l {f : Int64 → Value} : m_lw h (e_l f pc lv st h) := by
  unfold e_l
  repeat' split
  all_goals first | exact lo_none | exact lo_id
theorem lo_e_dv {f : Int32 → Int32 → Int32} : m_lw h (e_dv f pc lv st h) := by
  unfold e_dv
  repeat' split
  all_goals first | exact lo_none | exact lo_id
theorem lo_e_ild {k : Nat} : m_lw h (e_ild k pc lv st h) := by
  unfold e_ild
  repeat' split
  all_goals first | exact lo_none | exact lo_id
theorem lo_e_lld {k : Nat} : m_lw h (e_lld k pc lv st h) := by
  unfold e_lld
  repeat' split
  all_goals first | exact lo_none | exact lo_id
theorem lo_e_ald {k : Nat} : m_lw h (e_ald k pc lv st h) := by
  unfold e_ald
  repeat' split
  all_goals first | exact lo_none | exact lo_id
theorem lo_e_ist {n k : Nat} : m_lw h (e_ist n k pc lv st h) := by
  unfold e_ist
  repeat' split
  all_goals first | exact lo_none | exact lo_id
theorem lo_e_lst {n k : Nat} : m_lw h (e_lst n k pc lv st h) := by
  unfold e_lst
  repeat' split
  all_goals first | exact lo_none | exact lo_id
theorem lo_e_ast {n k : Nat} : m_lw h (e_ast n k pc lv st h) := by
  unfold e_ast
  repeat' split
  all_goals first | exact lo_none | exact lo_id
theorem lo_e_inc {n k : Nat} {z : Int} : m_lw h (e_inc n k z pc lv st h) := by
  unfold e_inc
  repeat' split
  all_goals first | exact lo_none | exact lo_id
theorem lo_e_get {idx : Nat} : m_lw h (e_get i idx pc lv st h) := by
  unfold e_get
  repeat' split
  all_goals first | exact lo_none | exact lo_id
theorem lo_e_put {idx : Nat} : m_lw h (e_put i idx pc lv st h) := by
  unfold e_put
  repeat' split
  all_goals first | exact lo_none | exact lo_id | (rename_i hc; exact lo_go (lo_si (Or.inr (by have := hc.1; have := hc.2.1; omega)))) | exact lo_go lo_sl | exact lo_go lo_sr
theorem lo_e_new {idx : Nat} : m_lw h (e_new i idx pc lv st h) := by
  unfold e_new
  repeat' split
  all_goals first | exact lo_none | exact lo_id | exact lo_go lo_new
theorem lo_e_anew {idx : Nat} : m_lw h (e_anew i idx pc lv st h) := by
  unfold e_anew
  repeat' split
  all_goals first | exact lo_none | exact lo_id | exact lo_go lo_new
theorem lo_e_grid {idx : Nat} : m_lw h (e_grid i idx pc lv st h) := by
  unfold e_grid
  repeat' split
  all_goals first | exact lo_none | exact lo_id | exact lo_go lo_grid
theorem lo_e_gets {idx : Nat} : m_lw h (e_gets i idx pc lv st h) := by
  unfold e_gets
  repeat' split
  all_goals first | exact lo_none | exact lo_id
theorem lo_e_iald {k0 k1 : Nat} : m_lw h (e_iald k0 k1 pc lv st h) := by
  unfold e_iald
  repeat' split
  all_goals first | exact lo_none | exact lo_id
theorem lo_e_lald : m_lw h (e_lald pc lv st h) := by
  unfold e_lald
  repeat' split
  all_goals first | exact lo_none | exact lo_id
theorem lo_e_aald : m_lw h (e_aald pc lv st h) := by
  unfold e_aald
  repeat' split
  all_goals first | exact lo_none | exact lo_id
theorem lo_e_iast : m_lw h (e_iast pc lv st h) := by
  unfold e_iast
  repeat' split
  all_goals first | exact lo_none | exact lo_id | (rename_i hc; exact lo_go (lo_si (Or.inl hc.1)))
theorem lo_e_bast : m_lw h (e_bast pc lv st h) := by
  unfold e_bast
  repeat' split
  all_goals first | exact lo_none | exact lo_id | (rename_i hc; exact lo_go (lo_si (Or.inl hc.1)))
theorem lo_e_last : m_lw h (e_last pc lv st h) := by
  unfold e_last
  repeat' split
  all_goals first | exact lo_none | exact lo_id | exact lo_go lo_sl
theorem lo_e_aast : m_lw h (e_aast pc lv st h) := by
  unfold e_aast
  repeat' split
  all_goals first | exact lo_none | exact lo_id | exact lo_go lo_sr
theorem lo_e_alen : m_lw h (e_alen pc lv st h) := by
  unfold e_alen
  repeat' split
  all_goals first | exact lo_none | exact lo_id
theorem lo_e_newa {t : ArrayType} : m_lw h (e_newa t pc lv st h) := by
  unfold e_newa
  repeat' split
  all_goals first | exact lo_none | exact lo_id | exact lo_go lo_new
theorem lo_e_ldc {w idx : Nat} : m_lw h (e_ldc w i idx pc lv st h) := by
  unfold e_ldc
  repeat' split
  all_goals first | exact lo_none | exact lo_id
theorem lo_e_cp : m_lw h (e_cp i pc lv st h) := by
  unfold e_cp
  split
  · split
    · next hc =>
      split
      · exact lo_go (lo_cpi hc.2.1)
      · split
        · exact lo_go lo_cpl
        · exact lo_none
    · exact lo_none
  · exact lo_none
theorem lo_e_call {kd idx : Nat} {q : MA} (hq : e_call kd i idx pc lv st h = some q) : (∃ S : MS, q = .inl S ∧ mlow h S.2.2.2) ∨ ∃ c, q = .inr (.inr c) := by
  revert hq
  unfold e_call
  repeat' split
  all_goals intro hq
  all_goals first | (exact Or.inl (lo_e_cp q hq)) | (exact Or.inl (lo_id q hq)) | (exact Or.inr ⟨_, (Option.some.inj hq).symm⟩) | (exact absurd hq (by simp))
theorem m_stw {q : MA} (hs : m_st i pc lv st h = some q) : (∃ S : MS, q = .inl S ∧ mlow h S.2.2.2) ∨ (∃ (v : Option Value) (ins : Instr), q = .inr (.inl (v, h)) ∧ decode (m_m i).2.2.1 pc = .ok (ins, 1) ∧ m_ri (m_rt i) ins v ∧ st = v.toList) ∨ (∃ (cl : Nat × List Value × List Value × Nat) (kd idx : Nat) (ins : Instr), q = .inr (.inr cl) ∧ decode (m_m i).2.2.1 pc = .ok (ins, 3) ∧ m_kdi kd idx ins ∧ e_call kd i idx pc lv st h = some (.inr (.inr cl))) := by
  unfold m_st at hs
  split at hs
  · next e9 he9 =>
    split at hs
    · next hlen =>
      have hd := m_dec he9
      obtain ⟨ins, len⟩ := e9
      dsimp only at hs hlen
      cases ins with
      | iadd => exact Or.inl (lo_e_ii q hs)
      | isub => exact Or.inl (lo_e_ii q hs)
      | imul => exact Or.inl (lo_e_ii q hs)
      | iand => exact Or.inl (lo_e_ii q hs)
      | ior => exact Or.inl (lo_e_ii q hs)
      | ixor => exact Or.inl (lo_e_ii q hs)
      | ishl => exact Or.inl (lo_e_ii q hs)
      | ishr => exact Or.inl (lo_e_ii q hs)
      | iushr => exact Or.inl (lo_e_ii q hs)
      | idiv => exact Or.inl (lo_e_dv q hs)
      | irem => exact Or.inl (lo_e_dv q hs)
      | ineg => exact Or.inl (lo_e_i q hs)
      | i2l => exact Or.inl (lo_e_i q hs)
      | i2b => exact Or.inl (lo_e_i q hs)
      | i2c => exact Or.inl (lo_e_i q hs)
      | ladd => exact Or.inl (lo_e_ll q hs)
      | lsub => exact Or.inl (lo_e_ll q hs)
      | land => exact Or.inl (lo_e_ll q hs)
      | lor => exact Or.inl (lo_e_ll q hs)
      | lxor => exact Or.inl (lo_e_ll q hs)
      | lshl => exact Or.inl (lo_e_li q hs)
      | lshr => exact Or.inl (lo_e_li q hs)
      | lushr => exact Or.inl (lo_e_li q hs)
      | lneg => exact Or.inl (lo_e_l q hs)
      | l2i => exact Or.inl (lo_e_l q hs)
      | iconst k => exact Or.inl (lo_id q hs)
      | lconst k => exact Or.inl (lo_id q hs)
      | bipush k => exact Or.inl (lo_id q hs)
      | sipush k => exact Or.inl (lo_id q hs)
      | aconst_null => exact Or.inl (lo_id q hs)
      | iload k => exact Or.inl (lo_e_ild q hs)
      | iload_n k => exact Or.inl (lo_e_ild q hs)
      | lload k => exact Or.inl (lo_e_lld q hs)
      | lload_n k => exact Or.inl (lo_e_lld q hs)
      | aload k => exact Or.inl (lo_e_ald q hs)
      | aload_n k => exact Or.inl (lo_e_ald q hs)
      | istore k => exact Or.inl (lo_e_ist q hs)
      | istore_n k => exact Or.inl (lo_e_ist q hs)
      | lstore k => exact Or.inl (lo_e_lst q hs)
      | lstore_n k => exact Or.inl (lo_e_lst q hs)
      | astore k => exact Or.inl (lo_e_ast q hs)
      | astore_n k => exact Or.inl (lo_e_ast q hs)
      | iinc k z => exact Or.inl (lo_e_inc q hs)
      | goto o => exact Or.inl (lo_tg q hs)
      | getfield k => exact Or.inl (lo_e_get q hs)
      | putfield k => exact Or.inl (lo_e_put q hs)
      | getstatic k => exact Or.inl (lo_e_gets q hs)
      | new k => exact Or.inl (lo_e_new q hs)
      | anewarray k => exact Or.inl (lo_e_anew q hs)
      | multianewarray idx d =>
        simp only [m_ex] at hs
        split at hs
        · exact Or.inl (lo_e_grid q hs)
        · cases hs
      | iaload => exact Or.inl (lo_e_iald q hs)
      | baload => exact Or.inl (lo_e_iald q hs)
      | laload => exact Or.inl (lo_e_lald q hs)
      | aaload => exact Or.inl (lo_e_aald q hs)
      | iastore => exact Or.inl (lo_e_iast q hs)
      | bastore => exact Or.inl (lo_e_bast q hs)
      | lastore => exact Or.inl (lo_e_last q hs)
      | aastore => exact Or.inl (lo_e_aast q hs)
      | arraylength => exact Or.inl (lo_e_alen q hs)
      | newarray t => exact Or.inl (lo_e_newa q hs)
      | ldc k => exact Or.inl (lo_e_ldc q hs)
      | ldc_w k => exact Or.inl (lo_e_ldc q hs)
      | dup =>
        refine Or.inl ((show m_lw h _ from ?_) q hs)
        simp only [m_ex]
        repeat' split
        all_goals first | exact lo_none | exact lo_id | exact lo_tg | exact lo_br
      | pop =>
        refine Or.inl ((show m_lw h _ from ?_) q hs)
        simp only [m_ex]
        repeat' split
        all_goals first | exact lo_none | exact lo_id | exact lo_tg | exact lo_br
      | pop2 =>
        refine Or.inl ((show m_lw h _ from ?_) q hs)
        simp only [m_ex]
        repeat' split
        all_goals first | exact lo_none | exact lo_id | exact lo_tg | exact lo_br
      | dup2 =>
        refine Or.inl ((show m_lw h _ from ?_) q hs)
        simp only [m_ex]
        repeat' split
        all_goals first | exact lo_none | exact lo_id | exact lo_tg | exact lo_br
      | lcmp =>
        refine Or.inl ((show m_lw h _ from ?_) q hs)
        simp only [m_ex]
        repeat' split
        all_goals first | exact lo_none | exact lo_id | exact lo_tg | exact lo_br
      | ldc2_w k =>
        refine Or.inl ((show m_lw h _ from ?_) q hs)
        simp only [m_ex]
        repeat' split
        all_goals first | exact lo_none | exact lo_id | exact lo_tg | exact lo_br
      | ifCond cc o =>
        refine Or.inl ((show m_lw h _ from ?_) q hs)
        simp only [m_ex]
        repeat' split
        all_goals first | exact lo_none | exact lo_id | exact lo_tg | exact lo_br
      | if_icmp cc o =>
        refine Or.inl ((show m_lw h _ from ?_) q hs)
        simp only [m_ex]
        repeat' split
        all_goals first | exact lo_none | exact lo_id | exact lo_tg | exact lo_br
      | ifnull o =>
        refine Or.inl ((show m_lw h _ from ?_) q hs)
        simp only [m_ex]
        repeat' split
        all_goals first | exact lo_none | exact lo_id | exact lo_tg | exact lo_br
      | ifnonnull o =>
        refine Or.inl ((show m_lw h _ from ?_) q hs)
        simp only [m_ex]
        repeat' split
        all_goals first | exact lo_none | exact lo_id | exact lo_tg | exact lo_br
      | tableswitch d lo hi offs =>
        refine Or.inl ((show m_lw h _ from ?_) q hs)
        simp only [m_ex]
        repeat' split
        all_goals first | exact lo_none | exact lo_id | exact lo_tg | exact lo_br
      | invokestatic k =>
        cases (m_l1 (a := 0) 3 (by decide) hlen)
        rcases lo_e_call hs with h9 | ⟨cl, h9⟩
        · exact Or.inl h9
        · subst h9
          exact Or.inr (Or.inr ⟨cl, 0, k, _, rfl, hd, Or.inl ⟨rfl, rfl⟩, hs⟩)
      | invokevirtual k =>
        cases (m_l1 (a := 0) 3 (by decide) hlen)
        rcases lo_e_call hs with h9 | ⟨cl, h9⟩
        · exact Or.inl h9
        · subst h9
          exact Or.inr (Or.inr ⟨cl, 1, k, _, rfl, hd, Or.inr (Or.inl ⟨rfl, rfl⟩), hs⟩)
      | invokespecial k =>
        cases (m_l1 (a := 0) 3 (by decide) hlen)
        rcases lo_e_call hs with h9 | ⟨cl, h9⟩
        · exact Or.inl h9
        · subst h9
          exact Or.inr (Or.inr ⟨cl, 2, k, _, rfl, hd, Or.inr (Or.inr ⟨rfl, rfl⟩), hs⟩)
      | ireturn =>
        cases (m_l1 (a := 0) 1 (by decide) hlen)
        simp only [m_ex] at hs
        split at hs
        · split at hs
          · next hr9 =>
            cases hs
            exact Or.inr (Or.inl ⟨_, _, rfl, hd, Or.inl ⟨_, rfl, rfl, hr9⟩, rfl⟩)
          · cases hs
        · cases hs
      | lreturn =>
        cases (m_l1 (a := 0) 1 (by decide) hlen)
        simp only [m_ex] at hs
        split at hs
        · split at hs
          · next hr9 =>
            cases hs
            exact Or.inr (Or.inl ⟨_, _, rfl, hd, Or.inr (Or.inl ⟨_, rfl, rfl, hr9⟩), rfl⟩)
          · cases hs
        · cases hs
      | areturn =>
        cases (m_l1 (a := 0) 1 (by decide) hlen)
        simp only [m_ex] at hs
        split at hs
        · split at hs
          · next hr9 =>
            cases hs
            exact Or.inr (Or.inl ⟨_, _, rfl, hd, Or.inr (Or.inr (Or.inl ⟨_, rfl, rfl, hr9⟩)), rfl⟩)
          · cases hs
        · cases hs
      | return_ =>
        cases (m_l1 (a := 0) 1 (by decide) hlen)
        simp only [m_ex] at hs
        split at hs
        · split at hs
          · next hr9 =>
            cases hs
            exact Or.inr (Or.inl ⟨_, _, rfl, hd, Or.inr (Or.inr (Or.inr ⟨rfl, rfl, hr9⟩)), rfl⟩)
          · cases hs
        · cases hs
      | _ => exact absurd hs (by simp [m_ex])
    · cases hs
  · cases hs
theorem mlow_rn : ∀ (n i pc : Nat) (lv : List (Nat × Value)) (st : List Value) (h : MH) (v : Option Value) (h' : MH), m_rn n i pc lv st h = some (v, h') → mlow h h'
  | 0, _, _, _, _, _, _, _, hr => by cases hr
  | n + 1, i, pc, lv, st, h, v, h', hr => by
    rw [m_rn] at hr
    split at hr
    · next pc1 lv1 st1 h1 hs =>
      rcases m_stw hs with ⟨S, g1, g2⟩ | ⟨v9, ins, g1, -⟩ | ⟨cl, kd, idx, ins, g1, -⟩
      · cases g1
        exact mlow.trans g2 (mlow_rn n _ _ _ _ _ _ _ hr)
      · cases g1
      · cases g1
    · next q hs =>
      cases hr
      rcases m_stw hs with ⟨S, g1, -⟩ | ⟨v9, ins, g1, -⟩ | ⟨cl, kd, idx, ins, g1, -⟩
      · cases g1
      · cases g1
        exact mlow.refl
      · cases g1
    · next j as r pc1 hs =>
      split at hr
      · split at hr
        · next v1 h1 h2 => exact mlow.trans (mlow_rn n _ _ _ _ _ _ _ h2) (mlow_rn n _ _ _ _ _ _ _ hr)
        · cases hr
      · cases hr
    · cases hr
end LOW
end
section
-- lists of ghosts and keepers
section
variable {sp : List RS} {CC : Nat × (Nat × Nat)} {PT : Nat → (Nat → Nat) → MH → Prop} {i : Nat}
theorem GK_nil : GKok sp CC PT i ([], []) := ⟨fun _ _ h => (by cases h), fun _ _ h => (by cases h)⟩
theorem GK_g {pc : Nat} {g : SM} {gs : List (Nat × SM)} {ks : List (Nat × KR)} (hg : G_ok sp CC PT g) (r : GKok sp CC PT i (gs, ks)) : GKok sp CC PT i ((pc, g) :: gs, ks) := ⟨fun p q h => by
  have h : m_lk ((pc, g) :: gs) p = some q := h
  rw [m_lkc] at h
  split at h
  · cases h
    exact hg
  · exact r.1 p q h, r.2⟩
theorem GK_k {pc : Nat} {k : KR} {gs : List (Nat × SM)} {ks : List (Nat × KR)} (hk : K_ok sp CC PT i pc k) (r : GKok sp CC PT i (gs, ks)) : GKok sp CC PT i (gs, (pc, k) :: ks) := ⟨r.1, fun p q h => by
  have h : m_lk ((pc, k) :: ks) p = some q := h
  rw [m_lkc] at h
  split at h
  · next e =>
    cases h
    rw [← e]
    exact hk
  · exact r.2 p q h⟩
end
end
section
-- BY HAND: steps backwards
def HJ (i pc : Nat) (lv : List (Nat × Value)) (st : List Value) (h : MH) (Q : Option Value → MH → Prop) : Prop := ∃ v h', Rq i pc lv st h (v, h') ∧ Q v h'
section
variable {i pc pc' : Nat} {lv : List (Nat × Value)} {st : List Value} {h : MH} {Q : Option Value → MH → Prop}
theorem HJ.step {lv' : List (Nat × Value)} {st' : List Value} {h' : MH} (e : m_st i pc lv st h = some (.inl (pc', lv', st', h'))) (g : HJ i pc' lv' st' h' Q) : HJ i pc lv st h Q := by
  obtain ⟨v, h2, g1, g2⟩ := g
  exact ⟨v, h2, Rq.step e g1, g2⟩
theorem HJ.ret {v : Option Value} (e : m_st i pc lv st h = some (.inr (.inl (v, h)))) (q : Q v h) : HJ i pc lv st h Q := ⟨v, h, Rq.ret e, q⟩
theorem HJ.call {j : Nat} {as rr : List Value} (e : m_st i pc lv st h = some (.inr (.inr (j, as, rr, pc')))) (hc : m_cat as ≤ m_lc j) (g : HJ j 0 (lv_args 0 as) [] h (fun v h' => HJ i pc' lv (v.toList ++ rr) h' Q)) : HJ i pc lv st h Q := by
  obtain ⟨v, h2, g1, v3, h3, g3, g4⟩ := g
  exact ⟨v3, h3, Rq.call e hc g1 g3, g4⟩
theorem HJ.mono {Q' : Option Value → MH → Prop} (g : HJ i pc lv st h Q) (hq : ∀ v h', Q v h' → Q' v h') : HJ i pc lv st h Q' := by
  obtain ⟨v, h2, g1, g2⟩ := g
  exact ⟨v, h2, g1, hq v h2 g2⟩
theorem m_stx {ins : Instr} {len : Nat} (a : m_at i pc = some (ins, len)) (hl : m_ln ins = len ∨ m_ln ins = 0) : m_st i pc lv st h = m_ex i pc ins lv st h := by
  unfold m_st
  rw [a]
  dsimp only
  rw [if_pos hl]
-- the step itself, told; pc' the next place
theorem HJ.ex {ins : Instr} {len : Nat} {lv' : List (Nat × Value)} {st' : List Value} {h' : MH} (a : m_at i pc = some (ins, len)) (hl : m_ln ins = len ∨ m_ln ins = 0) (e : m_ex i pc ins lv st h = some (.inl (pc', lv', st', h'))) (g : HJ i pc' lv' st' h' Q) : HJ i pc lv st h Q := HJ.step ((m_stx a hl).trans e) g
-- locals
theorem lk_s1 (k : Nat) (v : Value) : m_lk (m_s1 lv k v) k = some v := by
  unfold m_s1
  rw [m_lkc, if_pos rfl]
theorem lk_k1 {k q : Nat} {v w : Value} (e : m_lk lv q = some w) (hq : q ≠ k) (hc : w.category = 1 ∨ q + 1 ≠ k) : m_lk (m_s1 lv k v) q = some w := by
  unfold m_s1
  rw [m_lkc, if_neg (fun z => hq z.symm)]
  refine m_lkf ?_ e
  dsimp only
  rcases hc with hc | hc
  · rw [hc]
    simp [hq]
  · simp [hq, hc]
theorem lk_s2 (k : Nat) (v : Value) : m_lk (m_s2 lv k v) k = some v := by
  unfold m_s2
  rw [m_lkc, if_pos rfl]
theorem lk_k2 {k q : Nat} {v w : Value} (e : m_lk lv q = some w) (hq : q ≠ k) (hq2 : q ≠ k + 1) (hc : w.category = 1 ∨ q + 1 ≠ k) : m_lk (m_s2 lv k v) q = some w := by
  unfold m_s2
  rw [m_lkc, if_neg (fun z => hq z.symm)]
  refine m_lkf ?_ e
  dsimp only
  rcases hc with hc | hc
  · rw [hc]
    simp [hq, hq2]
  · simp [hq, hq2, hc]
-- instructions
theorem hI_il {k : Fin 4} {x : Int32} (a : m_at i pc = some (.iload_n k, 1)) (e : m_lk lv k = some (.int x)) (hp : pc + 1 = pc') (g : HJ i pc' lv (.int x :: st) h Q) : HJ i pc lv st h Q := by
  subst hp
  exact HJ.ex a (Or.inl rfl) (by show e_ild k (pc + 1) lv st h = _; unfold e_ild; rw [e]; rfl) g
theorem hI_il2 {k : Nat} {x : Int32} (a : m_at i pc = some (.iload k, 2)) (e : m_lk lv k = some (.int x)) (hp : pc + 2 = pc') (g : HJ i pc' lv (.int x :: st) h Q) : HJ i pc lv st h Q := by
  subst hp
  exact HJ.ex a (Or.inl rfl) (by show e_ild k (pc + 2) lv st h = _; unfold e_ild; rw [e]; rfl) g
theorem hI_al {k : Fin 4} {x : Nat} (a : m_at i pc = some (.aload_n k, 1)) (e : m_lk lv k = some (.ref x)) (hp : pc + 1 = pc') (g : HJ i pc' lv (.ref x :: st) h Q) : HJ i pc lv st h Q := by
  subst hp
  exact HJ.ex a (Or.inl rfl) (by show e_ald k (pc + 1) lv st h = _; unfold e_ald; rw [e]; rfl) g
theorem hI_al2 {k : Nat} {x : Nat} (a : m_at i pc = some (.aload k, 2)) (e : m_lk lv k = some (.ref x)) (hp : pc + 2 = pc') (g : HJ i pc' lv (.ref x :: st) h Q) : HJ i pc lv st h Q := by
  subst hp
  exact HJ.ex a (Or.inl rfl) (by show e_ald k (pc + 2) lv st h = _; unfold e_ald; rw [e]; rfl) g
theorem hI_ll {k : Fin 4} {x : Int64} (a : m_at i pc = some (.lload_n k, 1)) (e : m_lk lv k = some (.long x)) (hp : pc + 1 = pc') (g : HJ i pc' lv (.long x :: st) h Q) : HJ i pc lv st h Q := by
  subst hp
  exact HJ.ex a (Or.inl rfl) (by show e_lld k (pc + 1) lv st h = _; unfold e_lld; rw [e]; rfl) g
theorem hI_ll2 {k : Nat} {x : Int64} (a : m_at i pc = some (.lload k, 2)) (e : m_lk lv k = some (.long x)) (hp : pc + 2 = pc') (g : HJ i pc' lv (.long x :: st) h Q) : HJ i pc lv st h Q := by
  subst hp
  exact HJ.ex a (Or.inl rfl) (by show e_lld k (pc + 2) lv st h = _; unfold e_lld; rw [e]; rfl) g
theorem hI_ic {n : Int} (a : m_at i pc = some (.iconst n, 1)) (hp : pc + 1 = pc') (g : HJ i pc' lv (.int (Int32.ofInt n) :: st) h Q) : HJ i pc lv st h Q := by
  subst hp
  exact HJ.ex a (Or.inl rfl) rfl g
theorem hI_bp {n : Int} (a : m_at i pc = some (.bipush n, 2)) (hp : pc + 2 = pc') (g : HJ i pc' lv (.int (Int8.ofInt n).toInt32 :: st) h Q) : HJ i pc lv st h Q := by
  subst hp
  exact HJ.ex a (Or.inl rfl) rfl g
theorem hI_sp {n : Int} (a : m_at i pc = some (.sipush n, 3)) (hp : pc + 3 = pc') (g : HJ i pc' lv (.int (Int16.ofInt n).toInt32 :: st) h Q) : HJ i pc lv st h Q := by
  subst hp
  exact HJ.ex a (Or.inl rfl) rfl g
theorem hI_lc {n : Fin 2} (a : m_at i pc = some (.lconst n, 1)) (hp : pc + 1 = pc') (g : HJ i pc' lv (.long (Int64.ofNat n.val) :: st) h Q) : HJ i pc lv st h Q := by
  subst hp
  exact HJ.ex a (Or.inl rfl) rfl g
theorem hI_nul (a : m_at i pc = some (.aconst_null, 1)) (hp : pc + 1 = pc') (g : HJ i pc' lv (.ref 0 :: st) h Q) : HJ i pc lv st h Q := by
  subst hp
  exact HJ.ex a (Or.inl rfl) rfl g
theorem hI_is {k : Fin 4} {x : Int32} (a : m_at i pc = some (.istore_n k, 1)) (hk : k.val < m_lc i) (hp : pc + 1 = pc') (g : HJ i pc' (m_s1 lv k.val (.int x)) st h Q) : HJ i pc lv (.int x :: st) h Q := by
  subst hp
  exact HJ.ex a (Or.inl rfl) (by exact if_pos hk) g
theorem hI_is2 {k : Nat} {x : Int32} (a : m_at i pc = some (.istore k, 2)) (hk : k < m_lc i) (hp : pc + 2 = pc') (g : HJ i pc' (m_s1 lv k (.int x)) st h Q) : HJ i pc lv (.int x :: st) h Q := by
  subst hp
  exact HJ.ex a (Or.inl rfl) (by exact if_pos hk) g
theorem hI_as {k : Fin 4} {x : Nat} (a : m_at i pc = some (.astore_n k, 1)) (hk : k.val < m_lc i) (hp : pc + 1 = pc') (g : HJ i pc' (m_s1 lv k.val (.ref x)) st h Q) : HJ i pc lv (.ref x :: st) h Q := by
  subst hp
  exact HJ.ex a (Or.inl rfl) (by exact if_pos hk) g
theorem hI_as2 {k x : Nat} (a : m_at i pc = some (.astore k, 2)) (hk : k < m_lc i) (hp : pc + 2 = pc') (g : HJ i pc' (m_s1 lv k (.ref x)) st h Q) : HJ i pc lv (.ref x :: st) h Q := by
  subst hp
  exact HJ.ex a (Or.inl rfl) (by exact if_pos hk) g
theorem hI_inc {k : Nat} {z : Int} {x : Int32} (a : m_at i pc = some (.iinc k z, 3)) (e : m_lk lv k = some (.int x)) (hk : k < m_lc i) (hp : pc + 3 = pc') (g : HJ i pc' (m_s1 lv k (.int (x + Int32.ofInt z))) st h Q) : HJ i pc lv st h Q := by
  subst hp
  exact HJ.ex a (Or.inl rfl) (by show e_inc (m_lc i) k z pc lv st h = _; unfold e_inc; rw [e]; dsimp only; rw [if_pos hk]; rfl) g
theorem hI_add {x y : Int32} (a : m_at i pc = some (.iadd, 1)) (hp : pc + 1 = pc') (g : HJ i pc' lv (.int (x + y) :: st) h Q) : HJ i pc lv (.int y :: .int x :: st) h Q := by
  subst hp
  exact HJ.ex a (Or.inl rfl) rfl g
theorem hI_sub {x y : Int32} (a : m_at i pc = some (.isub, 1)) (hp : pc + 1 = pc') (g : HJ i pc' lv (.int (x - y) :: st) h Q) : HJ i pc lv (.int y :: .int x :: st) h Q := by
  subst hp
  exact HJ.ex a (Or.inl rfl) rfl g
theorem hI_mul {x y : Int32} (a : m_at i pc = some (.imul, 1)) (hp : pc + 1 = pc') (g : HJ i pc' lv (.int (x * y) :: st) h Q) : HJ i pc lv (.int y :: .int x :: st) h Q := by
  subst hp
  exact HJ.ex a (Or.inl rfl) rfl g
theorem hI_i2b {x : Int32} (a : m_at i pc = some (.i2b, 1)) (hp : pc + 1 = pc') (g : HJ i pc' lv (.int x.toInt8.toInt32 :: st) h Q) : HJ i pc lv (.int x :: st) h Q := by
  subst hp
  exact HJ.ex a (Or.inl rfl) rfl g
theorem hI_dup {v : Value} (a : m_at i pc = some (.dup, 1)) (hv : v.category = 1) (hp : pc + 1 = pc') (g : HJ i pc' lv (v :: v :: st) h Q) : HJ i pc lv (v :: st) h Q := by
  subst hp
  exact HJ.ex a (Or.inl rfl) (by show (if v.category = 1 then _ else none) = _; rw [if_pos hv]; rfl) g
theorem hI_pop {v : Value} (a : m_at i pc = some (.pop, 1)) (hv : v.category = 1) (hp : pc + 1 = pc') (g : HJ i pc' lv st h Q) : HJ i pc lv (v :: st) h Q := by
  subst hp
  exact HJ.ex a (Or.inl rfl) (by show (if v.category = 1 then _ else none) = _; rw [if_pos hv]; rfl) g
theorem hI_go {off : Int} (a : m_at i pc = some (.goto off, 3)) (hp : (pc : Int) + off = (pc' : Int)) (g : HJ i pc' lv st h Q) : HJ i pc lv st h Q := by
  refine HJ.ex (pc' := pc') a (Or.inl rfl) ?_ g
  show m_tg pc off lv st h = _
  unfold m_tg
  rw [hp, if_pos (Int.natCast_nonneg pc'), Int.toNat_natCast]
-- what a comparison says of the numbers
def cmpZ (c : ClassFile.Cond) (x y : Int) : Prop := match c with
  | .eq => x = y
  | .ne => x ≠ y
  | .lt => x < y
  | .ge => y ≤ x
  | .gt => y < x
  | .le => x ≤ y
theorem m_cmpZ (c : ClassFile.Cond) (x y : Int32) : m_cmp c x y = true ↔ cmpZ c x.toInt y.toInt := by
  cases c with
  | eq => exact decide_eq_true_iff.trans ⟨fun e => by rw [e]; rfl, fun e => Int32.toInt_inj.mp e⟩
  | ne =>
    show (!decide (x = y)) = true ↔ x.toInt ≠ y.toInt
    rw [Bool.not_eq_true', decide_eq_false_iff_not]
    exact ⟨fun e z => e (Int32.toInt_inj.mp z), fun e z => e (by rw [z])⟩
  | lt => exact decide_eq_true_iff.trans Int32.lt_iff_toInt_lt
  | ge => exact decide_eq_true_iff.trans Int32.le_iff_toInt_le
  | gt => exact decide_eq_true_iff.trans Int32.lt_iff_toInt_lt
  | le => exact decide_eq_true_iff.trans Int32.le_iff_toInt_le
theorem hI_cmp {c : ClassFile.Cond} {off : Int} {x y : Int32} {t : Nat} (a : m_at i pc = some (.if_icmp c off, 3)) (ht : (pc : Int) + off = (t : Int)) (hp : pc + 3 = pc') (g1 : cmpZ c x.toInt y.toInt → HJ i t lv st h Q) (g2 : ¬ cmpZ c x.toInt y.toInt → HJ i pc' lv st h Q) : HJ i pc lv (.int y :: .int x :: st) h Q := by
  subst hp
  have e0 : ∀ b, m_br b pc off lv st h = (match b with
    | true => some (.inl (t, lv, st, h))
    | false => some (.inl (pc + 3, lv, st, h))) := fun b => by
    unfold m_br
    rw [ht, if_pos (Int.natCast_nonneg t), Int.toNat_natCast]
    cases b <;> rfl
  by_cases hb : m_cmp c x y = true
  · refine HJ.ex (pc' := t) a (Or.inl rfl) ?_ (g1 ((m_cmpZ c x y).mp hb))
    show m_br (m_cmp c x y) pc off lv st h = _
    rw [e0, hb]
  · refine HJ.ex (pc' := pc + 3) a (Or.inl rfl) ?_ (g2 (fun z => hb ((m_cmpZ c x y).mpr z)))
    show m_br (m_cmp c x y) pc off lv st h = _
    have hb2 : m_cmp c x y = false := by
      cases h9 : m_cmp c x y with
      | true => exact absurd h9 hb
      | false => rfl
    rw [e0, hb2]
theorem hI_if {c : ClassFile.Cond} {off : Int} {x : Int32} {t : Nat} (a : m_at i pc = some (.ifCond c off, 3)) (ht : (pc : Int) + off = (t : Int)) (hp : pc + 3 = pc') (g1 : cmpZ c x.toInt 0 → HJ i t lv st h Q) (g2 : ¬ cmpZ c x.toInt 0 → HJ i pc' lv st h Q) : HJ i pc lv (.int x :: st) h Q := by
  subst hp
  have e0 : ∀ b, m_br b pc off lv st h = (match b with
    | true => some (.inl (t, lv, st, h))
    | false => some (.inl (pc + 3, lv, st, h))) := fun b => by
    unfold m_br
    rw [ht, if_pos (Int.natCast_nonneg t), Int.toNat_natCast]
    cases b <;> rfl
  by_cases hb : m_cmp c x 0 = true
  · refine HJ.ex (pc' := t) a (Or.inl rfl) ?_ (g1 ((m_cmpZ c x 0).mp hb))
    show m_br (m_cmp c x 0) pc off lv st h = _
    rw [e0, hb]
  · refine HJ.ex (pc' := pc + 3) a (Or.inl rfl) ?_ (g2 (fun z => hb ((m_cmpZ c x 0).mpr z)))
    show m_br (m_cmp c x 0) pc off lv st h = _
    have hb2 : m_cmp c x 0 = false := by
      cases h9 : m_cmp c x 0 with
      | true => exact absurd h9 hb
      | false => rfl
    rw [e0, hb2]
-- fields
theorem hI_gi {idx nest c k o : Nat} (a : m_at i pc = some (.getfield idx, 3)) (hf : m_fl i idx = some (nest, c, k)) (ht : (m_ty c k).1 = 0) (hk : (h_k h o).1 = c + 1) (hp : pc + 3 = pc') (g : HJ i pc' lv (.int (h_i h o k) :: st) h Q) : HJ i pc lv (.ref o :: st) h Q := by
  subst hp
  refine HJ.ex a (Or.inl rfl) ?_ g
  show e_get i idx pc lv _ h = _
  unfold e_get
  rw [hf]
  dsimp only
  rw [if_pos hk, ht]
  rfl
theorem hI_gr {idx nest c k o : Nat} (a : m_at i pc = some (.getfield idx, 3)) (hf : m_fl i idx = some (nest, c, k)) (ht : (m_ty c k).1 = 2) (hk : (h_k h o).1 = c + 1) (hp : pc + 3 = pc') (g : HJ i pc' lv (.ref (h_r h o k) :: st) h Q) : HJ i pc lv (.ref o :: st) h Q := by
  subst hp
  refine HJ.ex a (Or.inl rfl) ?_ g
  show e_get i idx pc lv _ h = _
  unfold e_get
  rw [hf]
  dsimp only
  rw [if_pos hk, ht]
  rfl
theorem hI_pi {idx nest c k o : Nat} {x : Int32} (a : m_at i pc = some (.putfield idx, 3)) (hf : m_fl i idx = some (nest, c, k)) (hc : c < 10 ∧ k < m_nf c ∧ m_ty c k = (0, false)) (hk : (h_k h o).1 = c + 1) (hp : pc + 3 = pc') (g : HJ i pc' lv st (h_si h o k x) Q) : HJ i pc lv (.int x :: .ref o :: st) h Q := by
  subst hp
  refine HJ.ex a (Or.inl rfl) ?_ g
  show e_put i idx pc lv _ h = _
  unfold e_put
  rw [hf]
  dsimp only
  rw [if_pos ⟨hk, hc.1, hc.2.1, hc.2.2⟩]
  rfl
theorem hI_pr {idx nest c k o x : Nat} (a : m_at i pc = some (.putfield idx, 3)) (hf : m_fl i idx = some (nest, c, k)) (hc : c < 10 ∧ k < m_nf c ∧ (m_ty c k).1 = 2 ∧ ((m_ty c k).2 = true → nest = 0 ∧ m_kind i = 2 ∧ m_ownL.getD i 0 = m_ow i ∧ m_cnm c = (m_m i).2.1.cls)) (hk : (h_k h o).1 = c + 1) (hp : pc + 3 = pc') (g : HJ i pc' lv st (h_sr h o k x) Q) : HJ i pc lv (.ref x :: .ref o :: st) h Q := by
  subst hp
  refine HJ.ex a (Or.inl rfl) ?_ g
  show e_put i idx pc lv _ h = _
  unfold e_put
  rw [hf]
  dsimp only
  rw [if_pos ⟨hk, hc.1, hc.2.1, hc.2.2.1, hc.2.2.2⟩]
  rfl
-- rows: a place by its number
theorem m_inZ {j : Int32} {n : Nat} (h0 : 0 ≤ j.toInt) (h1 : j.toInt < n) : m_in j n = true := by
  unfold m_in
  rw [Bool.and_eq_true]
  refine ⟨decide_eq_true (fun z => ?_), decide_eq_true ?_⟩
  · have := Int32.lt_iff_toInt_lt.mp z
    have e0 : (0 : Int32).toInt = 0 := by decide
    omega
  · show j.toInt.toNat < n
    omega
theorem hI_ia {j : Int32} {o : Nat} (a : m_at i pc = some (.iaload, 1)) (hk : (h_k h o).1 = 20) (h0 : 0 ≤ j.toInt) (h1 : j.toInt < (h_k h o).2) (hp : pc + 1 = pc') (g : HJ i pc' lv (.int (h_i h o j.toInt.toNat) :: st) h Q) : HJ i pc lv (.int j :: .ref o :: st) h Q := by
  subst hp
  refine HJ.ex a (Or.inl rfl) ?_ g
  show (if ((h_k h o).1 = 20 ∨ (h_k h o).1 = 20) ∧ m_in j (h_k h o).2 = true then _ else none) = _
  rw [if_pos ⟨Or.inl hk, m_inZ h0 h1⟩]
  rfl
theorem hI_ba {j : Int32} {o : Nat} (a : m_at i pc = some (.baload, 1)) (hk : (h_k h o).1 = 21 ∨ (h_k h o).1 = 22) (h0 : 0 ≤ j.toInt) (h1 : j.toInt < (h_k h o).2) (hp : pc + 1 = pc') (g : HJ i pc' lv (.int (h_i h o j.toInt.toNat) :: st) h Q) : HJ i pc lv (.int j :: .ref o :: st) h Q := by
  subst hp
  refine HJ.ex a (Or.inl rfl) ?_ g
  show (if ((h_k h o).1 = 21 ∨ (h_k h o).1 = 22) ∧ m_in j (h_k h o).2 = true then _ else none) = _
  rw [if_pos ⟨hk, m_inZ h0 h1⟩]
  rfl
theorem hI_is_ {j x : Int32} {o : Nat} (a : m_at i pc = some (.iastore, 1)) (ho : 16 ≤ o) (hk : (h_k h o).1 = 20) (h0 : 0 ≤ j.toInt) (h1 : j.toInt < (h_k h o).2) (hp : pc + 1 = pc') (g : HJ i pc' lv st (h_si h o j.toInt.toNat x) Q) : HJ i pc lv (.int x :: .int j :: .ref o :: st) h Q := by
  subst hp
  refine HJ.ex a (Or.inl rfl) ?_ g
  show (if 16 ≤ o ∧ (h_k h o).1 = 20 ∧ m_in j (h_k h o).2 = true then _ else none) = _
  rw [if_pos ⟨ho, hk, m_inZ h0 h1⟩]
  rfl
theorem hI_bs_ {j x : Int32} {o : Nat} (a : m_at i pc = some (.bastore, 1)) (ho : 16 ≤ o) (hk : (h_k h o).1 = 21) (h0 : 0 ≤ j.toInt) (h1 : j.toInt < (h_k h o).2) (hp : pc + 1 = pc') (g : HJ i pc' lv st (h_si h o j.toInt.toNat x.toInt8.toInt32) Q) : HJ i pc lv (.int x :: .int j :: .ref o :: st) h Q := by
  subst hp
  refine HJ.ex a (Or.inl rfl) ?_ g
  show (if 16 ≤ o ∧ (h_k h o).1 = 21 ∧ m_in j (h_k h o).2 = true then _ else _) = _
  rw [if_pos ⟨ho, hk, m_inZ h0 h1⟩]
  rfl
theorem hI_len {o : Nat} (a : m_at i pc = some (.arraylength, 1)) (hk : 20 ≤ (h_k h o).1 ∧ (h_k h o).1 < 34) (hp : pc + 1 = pc') (g : HJ i pc' lv (.int (Int32.ofNat (h_k h o).2) :: st) h Q) : HJ i pc lv (.ref o :: st) h Q := by
  subst hp
  refine HJ.ex a (Or.inl rfl) ?_ g
  show (if 20 ≤ (h_k h o).1 ∧ (h_k h o).1 < 34 then _ else none) = _
  rw [if_pos hk]
  rfl
-- ends
theorem hI_ri {x : Int32} (a : m_at i pc = some (.ireturn, 1)) (hr : m_rok (m_rt i) x = true) (q : Q (some (.int x)) h) : HJ i pc lv [.int x] h Q := by
  refine HJ.ret ((m_stx a (Or.inl rfl)).trans ?_) q
  show (if m_rok (m_rt i) x = true then (some (.inr (.inl (some (.int x), h))) : Option MA) else none) = _
  rw [if_pos hr]
theorem hI_rv (a : m_at i pc = some (.return_, 1)) (hr : m_rt i = none) (q : Q none h) : HJ i pc lv [] h Q := by
  refine HJ.ret ((m_stx a (Or.inl rfl)).trans ?_) q
  show (if m_rt i = none then (some (.inr (.inl (none, h))) : Option MA) else none) = _
  rw [if_pos hr]
theorem hI_rl {x : Int64} (a : m_at i pc = some (.lreturn, 1)) (hr : m_rt i = some .long) (q : Q (some (.long x)) h) : HJ i pc lv [.long x] h Q := by
  refine HJ.ret ((m_stx a (Or.inl rfl)).trans ?_) q
  show (if m_rt i = some .long then (some (.inr (.inl (some (.long x), h))) : Option MA) else none) = _
  rw [if_pos hr]
theorem hI_ra {x : Nat} (a : m_at i pc = some (.areturn, 1)) (hr : m_rr (m_rt i) = true) (q : Q (some (.ref x)) h) : HJ i pc lv [.ref x] h Q := by
  refine HJ.ret ((m_stx a (Or.inl rfl)).trans ?_) q
  show (if m_rr (m_rt i) = true then (some (.inr (.inl (some (.ref x), h))) : Option MA) else none) = _
  rw [if_pos hr]
end
end
section
-- THE SAME, SOME CUTS GONE ON FROM BY HAND
section
variable {sp : List RS} {CC : Nat × (Nat × Nat)} {dep : Nat → List (Nat × Nat)} {gk : GK} {PT : Nat → (Nat → Nat) → MH → Prop} {env : List (Nat × SM)} {alt : List (Nat × Nat)} {cuts : List CT}
-- a cut by hand: whoever goes on from every other cut, goes on from here
def d_hand (sp : List RS) (CC : Nat × (Nat × Nat)) (PT : Nat → (Nat → Nat) → MH → Prop) (i : Nat) (m : SM) (cuts : List CT) (C : CT) : Prop := ∀ (ρ : Nat → Nat) (K : List Int) (KA : List Nat) (lv : List (Nat × Value)) (h : MH) (σ : Nat → Int) (α : Nat → Nat) (Q : Option Value → MH → Prop), CCok CC ρ → TH sp ρ h → TW ρ K KA C.2.1 lv [] h σ α → (∀ t ∈ C.2.2.1, PT t ρ h) → (∀ C' ∈ cuts, ∀ (lv' : List (Nat × Value)) (h' : MH) (ρ' : Nat → Nat) (σ' : Nat → Int) (α' : Nat → Nat), FQ ρ ρ' m.2.1 h h' → TH sp ρ' h' → TW ρ' K KA C'.2.1 lv' [] h' σ' α' → 0 ≤ le_ev σ' C'.2.2.2 → le_ev σ' C'.2.2.2 < le_ev σ C.2.2.2 → (∀ t ∈ C'.2.2.1, PT t ρ' h') → HJ i C'.1 lv' [] h' Q) → HJ i C.1 lv [] h Q
theorem d_mtHS {B : Int} {fuel i pc0 : Nat} {m : SM} (hd : CT → Bool) (hPT : PTx sp dep PT) (henv : ENV sp CC PT env) (hgk : GKok sp CC PT i gk) (hlen : ∀ (R : Nat) (rs : RS), sp[R]? = some rs → rs.1.2.2 < 1000 ∨ ¬ (30 ≤ rs.1.1 ∧ rs.1.1 < 33)) (hcuts : cuts.all (fun C => (a_st C.2.1).isEmpty) = true) (e0 : d_run sp CC dep gk env alt m.2.1 cuts m.2.2 i fuel pc0 (w_kp m.1.1 (le_c B :: a_kp m.1.1)) m.1.2 = true) (e1 : cuts.all (fun C => hd C || d_run sp CC dep gk env alt m.2.1 cuts m.2.2 i fuel C.1 (w_kp C.2.1 (C.2.2.2 :: a_kp C.2.1)) C.2.2.1) = true) (hh : ∀ C ∈ cuts, hd C = true → d_hand sp CC PT i m cuts C) : V_at sp CC PT i pc0 m := by
  have hc2 : ∀ C ∈ cuts, a_st C.2.1 = [] := fun C hC => List.isEmpty_iff.mp (List.all_eq_true.mp hcuts C hC)
  intro ρ K KA lv h hC hS hT
  have key : ∀ (n : Nat) (pc : Nat) (lv1 : List (Nat × Value)) (st1 : List Value) (h1 : MH) (ρ1 : Nat → Nat) (mv : Int), mv < n → CCok CC ρ1 → OUT sp PT m.2.1 cuts m.2.2 i K KA mv pc lv1 st1 h1 ρ1 → ∃ (v : Option Value) (h' : MH) (ρ' : Nat → Nat), Rq i pc lv1 st1 h1 (v, h') ∧ FQ ρ1 ρ' m.2.1 h1 h' ∧ ∃ P ∈ m.2.2, TS sp ρ' K KA P.1 [] v.toList h' ∧ ∀ t ∈ P.2, PT t ρ' h' := by
    intro n
    induction n with
    | zero =>
      intro pc lv1 st1 h1 ρ1 mv hmv hC1 ho
      rcases ho with ho | ⟨C, mC, lv2, h2, ρ2, g1, g2, g3, ⟨σ, α, g4, g5, g6⟩, g7⟩
      · exact ho
      · omega
    | succ n ih =>
      intro pc lv1 st1 h1 ρ1 mv hmv hC1 ho
      rcases ho with ho | ⟨C, mC, lv2, h2, ρ2, g1, g2, g3, ⟨σ, α, g4, g5, g6⟩, g7⟩
      · exact ho
      · have e2 := List.all_eq_true.mp e1 C mC
        by_cases hb : hd C = true
        · obtain ⟨v, h3, k1, ρ3, k2, k3⟩ := hh C mC hb ρ2 K KA lv2 h2 σ α (fun v h3 => ∃ ρ3, FQ ρ2 ρ3 m.2.1 h2 h3 ∧ ∃ P ∈ m.2.2, TS sp ρ3 K KA P.1 [] v.toList h3 ∧ ∀ t ∈ P.2, PT t ρ3 h3) (hC1.x g2) g3 g4 g7 (fun C' mC' lv3 h3 ρ3 σ3 α3 f3 t3 w3 p3 q3 T3 => by
            obtain ⟨v, h4, ρ4, r1, r2, r3⟩ := ih C'.1 lv3 [] h3 ρ3 (le_ev σ C.2.2.2) (by omega) ((hC1.x g2).x f3) (Or.inr ⟨C', mC', lv3, h3, ρ3, fun r g => g, FQ.refl _ _ _, t3, ⟨σ3, α3, w3, p3, q3⟩, T3⟩)
            exact ⟨v, h4, r1, ρ4, f3.trans r2, r3⟩)
          exact ⟨v, h3, ρ3, g1 _ k1, g2.trans k2, k3⟩
        · rw [Bool.or_eq_true] at e2
          rcases e2 with e2 | e2
          · exact absurd e2 hb
          · have ho2 := d_runS (K := K) (KA := KA) (mv := le_ev σ C.2.2.2) hPT henv hgk hlen hc2 fuel C.1 _ _ lv2 [] h2 ρ2 (hC1.x g2) ⟨g3, σ, α, w_kpS g4⟩ g7 e2
            obtain ⟨v, h3, ρ3, k1, k2, k3⟩ := ih C.1 lv2 [] h2 ρ2 (le_ev σ C.2.2.2) (by omega) (hC1.x g2) ho2
            exact ⟨v, h3, ρ3, g1 _ k1, g2.trans k2, k3⟩
  obtain ⟨ht, σ, α, hw⟩ := hS
  have ho := d_runS (K := K) (KA := KA) (mv := B) hPT henv hgk hlen hc2 fuel pc0 _ _ lv [] h ρ hC ⟨ht, σ, α, by
    have := w_kpS (e := le_c B) hw
    rw [le_cE] at this
    exact this⟩ hT e0
  obtain ⟨v, h', ρ', ⟨n, k1⟩, k2, k3⟩ := key (B.toNat + 1) pc0 lv [] h ρ B (by omega) hC ho
  exact ⟨n, v, h', ρ', k1, k2, k3⟩
-- a summary, from any place: as a run by hand
theorem HJ.ofVa {i pc : Nat} {sm : SM} {K : List Int} {KA : List Nat} {ρ : Nat → Nat} {lv : List (Nat × Value)} {h : MH} {Q : Option Value → MH → Prop} (v : V_at sp CC PT i pc sm) (hC : CCok CC ρ) (hS : TS sp ρ K KA sm.1.1 lv [] h) (hT : ∀ t ∈ sm.1.2, PT t ρ h) (g : ∀ (x : Option Value) (h' : MH) (ρ' : Nat → Nat), FQ ρ ρ' sm.2.1 h h' → (∃ P ∈ sm.2.2, TS sp ρ' K KA P.1 [] x.toList h' ∧ ∀ t ∈ P.2, PT t ρ' h') → Q x h') : HJ i pc lv [] h Q := by
  obtain ⟨n, x, h', ρ', g1, g2, g3⟩ := v ρ K KA lv h hC hS hT
  exact ⟨x, h', ⟨n, g1⟩, g x h' ρ' g2 g3⟩
end
end
