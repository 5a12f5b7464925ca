-- A RUN WITH RANGES: the small machine over ranges of numbers in place of numbers. A value: a range of ints, the script's own first (of which only its low 6 bits are known), a range of longs, an address.
abbrev AI : Type := Int × Int
abbrev AV : Type := AI ⊕ (Unit ⊕ (AI ⊕ Nat))
abbrev AR : Type := AI × List (Nat × AI)
abbrev AC : Type := (Nat × Nat) × AR × AR × List (Nat × Nat)
abbrev AH : Type := (Nat × Nat) × List (Nat × AC)
abbrev AL : Type := List (Nat × AV)
abbrev AA : Type := (Nat × AL × List AV × AH) ⊕ ((Option AV × AH) ⊕ (Nat × List AV × List AV × Nat))
def b_t : AI := (-2147483648, 2147483647)
def b_tl : AI := (-9223372036854775808, 9223372036854775807)
def b_i (x : Int32) : AV := .inl (x.toInt, x.toInt)
def b_l (x : Int64) : AV := .inr (.inr (.inl (x.toInt, x.toInt)))
def b_r (a : Nat) : AV := .inr (.inr (.inr a))
def b_cat (v : AV) : Nat := match v with
  | .inr (.inr (.inl _)) => 2
  | _ => 1
def b_ct (st : List AV) : Nat := (st.map b_cat).sum
def b_au {α : Type} : List (Nat × α) → Nat → α → List (Nat × α)
  | [], a, v => [(a, v)]
  | (k, w) :: r, a, v => if k = a then (a, v) :: r else (k, w) :: b_au r a v
def b_rw (d : AR) (j : Nat) : AI := match m_lk d.2 j with
  | some v => v
  | none => d.1
def b_st (d : AR) (j : Nat) (v : AI) : AR := if b_rw d j = v then d else (d.1, b_au d.2 j v)
def b_jn (x y : AI) : AI := (if x.1 ≤ y.1 then x.1 else y.1, if x.2 ≤ y.2 then y.2 else x.2)
def b_all (d : AR) : AI := d.2.foldr (fun q r => b_jn q.2 r) d.1
def b_cell (A : AH) (a : Nat) : Option AC := m_lk A.2 a
def b_set (A : AH) (a : Nat) (c : AC) : AH := (A.1, b_au A.2 a c)
def b_new (A : AH) (k len sz : Nat) : AH := ((A.1.1 + 1, A.1.2 + sz), b_au A.2 (16 + A.1.1) ((k, len), ((0, 0), []), ((0, 0), []), []))
-- ints and longs
def b_f1 (f : Int32 → Int32) (x : AI) : AI := if x.1 = x.2 then (let z := (f (Int32.ofInt x.1)).toInt; (z, z)) else b_t
def b_f2 (f : Int32 → Int32 → Int32) (x y : AI) : AI := if x.1 = x.2 ∧ y.1 = y.2 then (let z := (f (Int32.ofInt x.1) (Int32.ofInt y.1)).toInt; (z, z)) else b_t
def b_g2 (f : Int64 → Int64 → Int64) (x y : AI) : AI := if x.1 = x.2 ∧ y.1 = y.2 then (let z := (f (Int64.ofInt x.1) (Int64.ofInt y.1)).toInt; (z, z)) else b_tl
def b_gi (f : Int64 → Int32 → Int64) (x y : AI) : AI := if x.1 = x.2 ∧ y.1 = y.2 then (let z := (f (Int64.ofInt x.1) (Int32.ofInt y.1)).toInt; (z, z)) else b_tl
def b_il (f : Int32 → Int64) (x : AI) : AI := if x.1 = x.2 then (let z := (f (Int32.ofInt x.1)).toInt; (z, z)) else b_tl
def b_li (f : Int64 → Int32) (x : AI) : AI := if x.1 = x.2 then (let z := (f (Int64.ofInt x.1)).toInt; (z, z)) else b_t
def b_ll (f : Int64 → Int64) (x : AI) : AI := if x.1 = x.2 then (let z := (f (Int64.ofInt x.1)).toInt; (z, z)) else b_tl
def b_lc (x y : AI) : AI := if x.1 = x.2 ∧ y.1 = y.2 then (let z := (lg_cmp (Int64.ofInt x.1) (Int64.ofInt y.1)).toInt; (z, z)) else b_t
def b_eq (x y : AI) : Option Bool := if x.1 = x.2 ∧ y.1 = y.2 ∧ x.1 = y.1 then some true else if x.2 < y.1 ∨ y.2 < x.1 then some false else none
def b_lt (x y : AI) : Option Bool := if x.2 < y.1 then some true else if y.2 ≤ x.1 then some false else none
def b_cmp (c : ClassFile.Cond) (x y : AI) : Option Bool := match c with
  | .eq => b_eq x y
  | .ne => (b_eq x y).map (fun b => !b)
  | .lt => b_lt x y
  | .ge => (b_lt x y).map (fun b => !b)
  | .gt => b_lt y x
  | .le => (b_lt y x).map (fun b => !b)
-- steps
def b_go (pc : Nat) (lv : AL) (st : List AV) (h : AH) : Option AA := some (.inl (pc, lv, st, h))
def b_tg (pc : Nat) (off : Int) (lv : AL) (st : List AV) (h : AH) : Option AA := if 0 ≤ (pc : Int) + off then some (.inl (((pc : Int) + off).toNat, lv, st, h)) else none
def b_br (b : Option Bool) (pc : Nat) (off : Int) (lv : AL) (st : List AV) (h : AH) : Option AA := if 0 ≤ (pc : Int) + off then (match b with
  | some true => some (.inl (((pc : Int) + off).toNat, lv, st, h))
  | some false => b_go (pc + 3) lv st h
  | none => none) else none
def b_s1 (lv : AL) (i : Nat) (v : AV) : AL := (i, v) :: lv.filter (fun q => !(q.1 == i) && !(q.1 + 1 == i && b_cat q.2 == 2))
def b_s2 (lv : AL) (i : Nat) (v : AV) : AL := (i, v) :: lv.filter (fun q => !(q.1 == i) && (!(q.1 == i + 1) && !(q.1 + 1 == i && b_cat q.2 == 2)))
def c_ii (f : Int32 → Int32 → Int32) (pc : Nat) (lv : AL) (st : List AV) (h : AH) : Option AA := match st with
  | .inl y :: .inl x :: r => b_go (pc + 1) lv (.inl (b_f2 f x y) :: r) h
  | _ => none
def c_and (s : AI) (pc : Nat) (lv : AL) (st : List AV) (h : AH) : Option AA := match st with
  | .inl y :: .inl x :: r => b_go (pc + 1) lv (.inl (b_f2 (fun x y => x &&& y) x y) :: r) h
  | .inl y :: .inr (.inl _) :: r => if y = (63, 63) then b_go (pc + 1) lv (.inl s :: r) h else none
  | _ => none
def c_ll (f : Int64 → Int64 → Int64) (pc : Nat) (lv : AL) (st : List AV) (h : AH) : Option AA := match st with
  | .inr (.inr (.inl y)) :: .inr (.inr (.inl x)) :: r => b_go (pc + 1) lv (.inr (.inr (.inl (b_g2 f x y))) :: r) h
  | _ => none
def c_li (f : Int64 → Int32 → Int64) (pc : Nat) (lv : AL) (st : List AV) (h : AH) : Option AA := match st with
  | .inl y :: .inr (.inr (.inl x)) :: r => b_go (pc + 1) lv (.inr (.inr (.inl (b_gi f x y))) :: r) h
  | _ => none
def c_i1 (f : Int32 → Int32) (pc : Nat) (lv : AL) (st : List AV) (h : AH) : Option AA := match st with
  | .inl x :: r => b_go (pc + 1) lv (.inl (b_f1 f x) :: r) h
  | _ => none
def c_il (f : Int32 → Int64) (pc : Nat) (lv : AL) (st : List AV) (h : AH) : Option AA := match st with
  | .inl x :: r => b_go (pc + 1) lv (.inr (.inr (.inl (b_il f x))) :: r) h
  | _ => none
def c_l2i (f : Int64 → Int32) (pc : Nat) (lv : AL) (st : List AV) (h : AH) : Option AA := match st with
  | .inr (.inr (.inl x)) :: r => b_go (pc + 1) lv (.inl (b_li f x) :: r) h
  | _ => none
def c_l1 (f : Int64 → Int64) (pc : Nat) (lv : AL) (st : List AV) (h : AH) : Option AA := match st with
  | .inr (.inr (.inl x)) :: r => b_go (pc + 1) lv (.inr (.inr (.inl (b_ll f x))) :: r) h
  | _ => none
def c_dv (f : Int32 → Int32 → Int32) (pc : Nat) (lv : AL) (st : List AV) (h : AH) : Option AA := match st with
  | .inl y :: .inl x :: r => if y.2 < 0 ∨ 0 < y.1 then b_go (pc + 1) lv (.inl (b_f2 f x y) :: r) h else none
  | _ => none
def c_ild (k pc : Nat) (lv : AL) (st : List AV) (h : AH) : Option AA := match m_lk lv k with
  | some (.inl x) => b_go pc lv (.inl x :: st) h
  | _ => none
def c_lld (k pc : Nat) (lv : AL) (st : List AV) (h : AH) : Option AA := match m_lk lv k with
  | some (.inr (.inr (.inl x))) => b_go pc lv (.inr (.inr (.inl x)) :: st) h
  | _ => none
def c_ald (k pc : Nat) (lv : AL) (st : List AV) (h : AH) : Option AA := match m_lk lv k with
  | some (.inr (.inr (.inr x))) => b_go pc lv (b_r x :: st) h
  | _ => none
def c_ist (n k pc : Nat) (lv : AL) (st : List AV) (h : AH) : Option AA := match st with
  | .inl x :: r => if k < n then b_go pc (b_s1 lv k (.inl x)) r h else none
  | _ => none
def c_lst (n k pc : Nat) (lv : AL) (st : List AV) (h : AH) : Option AA := match st with
  | .inr (.inr (.inl x)) :: r => if k + 1 < n then b_go pc (b_s2 lv k (.inr (.inr (.inl x)))) r h else none
  | _ => none
def c_ast (n k pc : Nat) (lv : AL) (st : List AV) (h : AH) : Option AA := match st with
  | .inr (.inr (.inr x)) :: r => if k < n then b_go pc (b_s1 lv k (b_r x)) r h else none
  | _ => none
def c_inc (n k : Nat) (z : Int) (pc : Nat) (lv : AL) (st : List AV) (h : AH) : Option AA := match m_lk lv k with
  | some (.inl x) => if k < n then b_go (pc + 3) (b_s1 lv k (.inl (b_f1 (fun x => x + Int32.ofInt z) x))) st h else none
  | _ => none
def b_gr (c : AC) (k : Nat) : Nat := match m_lk c.2.2.2 k with
  | some v => v
  | none => 0
def c_get (i idx pc : Nat) (lv : AL) (st : List AV) (h : AH) : Option AA := match st, m_fl i idx with
  | .inr (.inr (.inr a)) :: r, some (_, c, k) => (match b_cell h a with
    | some x => if x.1.1 = c + 1 then (match (m_ty c k).1 with
      | 0 => b_go (pc + 3) lv (.inl (b_rw x.2.1 k) :: r) h
      | 1 => b_go (pc + 3) lv (.inr (.inr (.inl (b_rw x.2.2.1 k))) :: r) h
      | _ => b_go (pc + 3) lv (b_r (b_gr x k) :: r) h) else none
    | none => none)
  | _, _ => none
def b_si (h : AH) (a : Nat) (x : AC) (k : Nat) (v : AI) : AH := if b_rw x.2.1 k = v then h else b_set h a (x.1, b_st x.2.1 k v, x.2.2)
def b_sl (h : AH) (a : Nat) (x : AC) (k : Nat) (v : AI) : AH := if b_rw x.2.2.1 k = v then h else b_set h a (x.1, x.2.1, b_st x.2.2.1 k v, x.2.2.2)
def b_sr (h : AH) (a : Nat) (x : AC) (k : Nat) (v : Nat) : AH := b_set h a (x.1, x.2.1, x.2.2.1, b_au x.2.2.2 k v)
def c_put (i idx pc : Nat) (lv : AL) (st : List AV) (h : AH) : Option AA := match st, m_fl i idx with
  | .inl x :: .inr (.inr (.inr a)) :: r, some (nest, c, k) => (match b_cell h a with
    | some o => if o.1.1 = c + 1 ∧ c < 10 ∧ k < m_nf c ∧ m_ty c k = (0, false) then b_go (pc + 3) lv r (b_si h a o k x) else none
    | none => none)
  | .inr (.inr (.inl x)) :: .inr (.inr (.inr a)) :: r, some (nest, c, k) => (match b_cell h a with
    | some o => if o.1.1 = c + 1 ∧ c < 10 ∧ k < m_nf c ∧ m_ty c k = (1, false) then b_go (pc + 3) lv r (b_sl h a o k x) else none
    | none => none)
  | .inr (.inr (.inr x)) :: .inr (.inr (.inr a)) :: r, some (nest, c, k) => (match b_cell h a with
    | some o => if o.1.1 = c + 1 ∧ c < 10 ∧ k < m_nf c ∧ (m_ty c k).1 = 2 ∧ ((m_ty c k).2 = true → nest = 0 ∧ m_kind i = 2 ∧ m_ownL.getD i 0 = m_ow i ∧ m_cnm c = (m_m i).2.1.cls) then b_go (pc + 3) lv r (b_sr h a o k x) else none
    | none => none)
  | _, _ => none
-- a place in an array: one number, or any within it
def b_at (j : AI) (n : Nat) : Bool := decide (0 ≤ j.1) && decide (j.2 < (n : Int))
def b_rd (d : AR) (j : AI) : AI := if j.1 = j.2 then b_rw d j.1.toNat else b_all d
def c_iald (k0 k1 pc : Nat) (s : AI) (lv : AL) (st : List AV) (h : AH) : Option AA := match st with
  | .inl j :: .inr (.inr (.inr a)) :: r => (match b_cell h a with
    | some x => if (x.1.1 = k0 ∨ x.1.1 = k1) ∧ b_at j x.1.2 = true then (if a = 14 then (if j = (0, 0) then b_go (pc + 1) lv (.inr (.inl ()) :: r) h else if j.1 = j.2 then b_go (pc + 1) lv (.inl (b_rw x.2.1 j.1.toNat) :: r) h else none) else b_go (pc + 1) lv (.inl (b_rd x.2.1 j) :: r) h) else none
    | none => none)
  | _ => none
def c_lald (pc : Nat) (lv : AL) (st : List AV) (h : AH) : Option AA := match st with
  | .inl j :: .inr (.inr (.inr a)) :: r => (match b_cell h a with
    | some x => if x.1.1 = 25 ∧ b_at j x.1.2 = true then b_go (pc + 1) lv (.inr (.inr (.inl (b_rd x.2.2.1 j))) :: r) h else none
    | none => none)
  | _ => none
def c_aald (pc : Nat) (lv : AL) (st : List AV) (h : AH) : Option AA := match st with
  | .inl j :: .inr (.inr (.inr a)) :: r => (match b_cell h a with
    | some x => if (30 ≤ x.1.1 ∧ x.1.1 < 34) ∧ b_at j x.1.2 = true ∧ j.1 = j.2 then b_go (pc + 1) lv (b_r (b_gr x j.1.toNat) :: r) h else none
    | none => none)
  | _ => none
def c_iast (pc : Nat) (lv : AL) (st : List AV) (h : AH) : Option AA := match st with
  | .inl x :: .inl j :: .inr (.inr (.inr a)) :: r => (match b_cell h a with
    | some o => if 16 ≤ a ∧ o.1.1 = 20 ∧ b_at j o.1.2 = true ∧ j.1 = j.2 then b_go (pc + 1) lv r (b_si h a o j.1.toNat x) else none
    | none => none)
  | _ => none
def c_bast (pc : Nat) (lv : AL) (st : List AV) (h : AH) : Option AA := match st with
  | .inl x :: .inl j :: .inr (.inr (.inr a)) :: r => (match b_cell h a with
    | some o => if 16 ≤ a ∧ o.1.1 = 21 ∧ b_at j o.1.2 = true ∧ j.1 = j.2 then b_go (pc + 1) lv r (b_si h a o j.1.toNat (b_f1 (fun x => x.toInt8.toInt32) x))
      else if 16 ≤ a ∧ o.1.1 = 22 ∧ b_at j o.1.2 = true ∧ j.1 = j.2 then b_go (pc + 1) lv r (b_si h a o j.1.toNat (b_f1 (fun x => x &&& 1) x)) else none
    | none => none)
  | _ => none
def c_last (pc : Nat) (lv : AL) (st : List AV) (h : AH) : Option AA := match st with
  | .inr (.inr (.inl x)) :: .inl j :: .inr (.inr (.inr a)) :: r => (match b_cell h a with
    | some o => if 16 ≤ a ∧ o.1.1 = 25 ∧ b_at j o.1.2 = true ∧ j.1 = j.2 then b_go (pc + 1) lv r (b_sl h a o j.1.toNat x) else none
    | none => none)
  | _ => none
def c_aast (pc : Nat) (lv : AL) (st : List AV) (h : AH) : Option AA := match st with
  | .inr (.inr (.inr x)) :: .inl j :: .inr (.inr (.inr a)) :: r => (match b_cell h a, b_cell h x with
    | some o, some q => if 16 ≤ a ∧ (30 ≤ o.1.1 ∧ o.1.1 < 33) ∧ b_at j o.1.2 = true ∧ j.1 = j.2 ∧ 16 ≤ x ∧ q.1.1 = m_el o.1.1 then b_go (pc + 1) lv r (b_sr h a o j.1.toNat x) else none
    | _, _ => none)
  | _ => none
def c_alen (pc : Nat) (lv : AL) (st : List AV) (h : AH) : Option AA := match st with
  | .inr (.inr (.inr a)) :: r => (match b_cell h a with
    | some o => if 20 ≤ o.1.1 ∧ o.1.1 < 34 then b_go (pc + 1) lv (b_i (Int32.ofNat o.1.2) :: r) h else none
    | none => none)
  | _ => none
def c_newa (t : ArrayType) (pc : Nat) (lv : AL) (st : List AV) (h : AH) : Option AA := match st with
  | .inl n :: r => if m_ak t ≠ 0 ∧ n.1 = n.2 ∧ 0 ≤ n.1 ∧ n.1 ≤ 1000000 then b_go (pc + 2) lv (b_r (16 + h.1.1) :: r) (b_new h (m_ak t) n.1.toNat n.1.toNat) else none
  | _ => none
def c_new (i idx pc : Nat) (lv : AL) (st : List AV) (h : AH) : Option AA := match m_cc i idx with
  | some c => if c < 10 then b_go (pc + 3) lv (b_r (16 + h.1.1) :: st) (b_new h (c + 1) (m_nf c) (m_nf c)) else none
  | none => none
def c_anew (i idx pc : Nat) (lv : AL) (st : List AV) (h : AH) : Option AA := match st, m_cc i idx with
  | .inl n :: r, some c => if m_ek c ≠ 0 ∧ n.1 = n.2 ∧ 0 ≤ n.1 ∧ n.1 ≤ 1000000 then b_go (pc + 3) lv (b_r (16 + h.1.1) :: r) (b_new h (m_ek c) n.1.toNat n.1.toNat) else none
  | _, _ => none
def c_gets (i idx pc : Nat) (lv : AL) (st : List AV) (h : AH) : Option AA := match m_sf i idx with
  | some 1 => b_go (pc + 3) lv (.inl (1, 1) :: st) h
  | some 2 => b_go (pc + 3) lv (b_r 1 :: st) h
  | some 3 => b_go (pc + 3) lv (b_r 15 :: st) h
  | _ => none
def c_ldc (w : Nat) (i idx pc : Nat) (lv : AL) (st : List AV) (h : AH) : Option AA := match m_ic i idx with
  | some x => b_go (pc + w) lv (b_i x :: st) h
  | none => if w = 2 then (match m_sc i idx with
      | some a => b_go (pc + w) lv (b_r a :: st) h
      | none => none) else none
def c_cp (i pc : Nat) (lv : AL) (st : List AV) (h : AH) : Option AA := match st with
  | .inl n :: .inl dp :: .inr (.inr (.inr a1)) :: .inl sp :: .inr (.inr (.inr a0)) :: r => (match b_cell h a0, b_cell h a1 with
    | some o0, some o1 => if (16 ≤ a0 ∧ 16 ≤ a1 ∧ 0 ≤ sp.1 ∧ 0 ≤ dp.1 ∧ 0 ≤ n.1 ∧ sp.2 + n.2 ≤ (o0.1.2 : Int) ∧ dp.2 + n.2 ≤ (o1.1.2 : Int) ∧ 1 ≤ m_fr i ∧ b_ct r + 18 ≤ m_lo i ∧ b_ct r ≤ 8) then
      (if (o0.1.1 = 20 ∧ o1.1.1 = 20) ∨ (o0.1.1 = 21 ∧ o1.1.1 = 21) then b_go (pc + 3) lv r (b_set h a1 (o1.1, (b_jn (b_all o0.2.1) (b_all o1.2.1), []), o1.2.2))
       else if o0.1.1 = 25 ∧ o1.1.1 = 25 then b_go (pc + 3) lv r (b_set h a1 (o1.1, o1.2.1, (b_jn (b_all o0.2.2.1) (b_all o1.2.2.1), []), o1.2.2.2)) else none) else none
    | _, _ => none)
  | _ => none
def c_call (kd i idx pc : Nat) (lv : AL) (st : List AV) (h : AH) : Option AA := match m_ml i idx with
  | some (nest, j) =>
    if j = 900 then (match st with
      | .inr (.inr (.inr a)) :: r => if kd = 2 ∧ 16 ≤ a ∧ 1 ≤ m_fr i ∧ b_ct r + 12 ≤ m_lo i ∧ b_ct r ≤ 8 then b_go (pc + 3) lv r h else none
      | _ => none)
    else if j = 901 then (if kd = 0 then c_cp i pc lv st h else none)
    else if j = m_jmin ∨ j = m_jmax then (match st with
      | .inl y :: .inl x :: r => if kd = 0 ∧ nest = 0 ∧ 1 ≤ m_fr i ∧ b_ct r + 13 ≤ m_lo i then b_go (pc + 3) lv (.inl (b_f2 (fun x y => if j = m_jmin then (if y < x then y else x) else (if x < y then y else x)) x y) :: r) h else none
      | _ => none)
    else if j = m_jminl ∨ j = m_jmaxl then (match st with
      | .inr (.inr (.inl y)) :: .inr (.inr (.inl x)) :: r => if kd = 0 ∧ nest = 0 ∧ 1 ≤ m_fr i ∧ b_ct r + 15 ≤ m_lo i then b_go (pc + 3) lv (.inr (.inr (.inl (b_g2 (fun x y => if j = m_jminl then (if y < x then y else x) else (if y < x then x else y)) x y))) :: r) h else none
      | _ => none)
    else if 0 < j ∧ j < 292 ∧ m_kind j = kd ∧ m_fr j + 1 ≤ m_fr i ∧ 8 + (m_lc j + 11) + m_lo j ≤ m_lo i then
      (if kd = 0 then (if m_na j ≤ st.length ∧ b_ct (st.drop (m_na j)) ≤ 8 then some (.inr (.inr (j, (st.take (m_na j)).reverse, st.drop (m_na j), pc + 3))) else none)
       else match st.drop (m_na j) with
        | .inr (.inr (.inr a)) :: r => (match b_cell h a with
          | some o => if m_na j + 1 ≤ st.length ∧ b_ct r ≤ 8 ∧ (if (m_m j).2.1.cls = "java/lang/String" then o.1.1 = 40 else m_cnm (o.1.1 - 1) = (m_m j).2.1.cls ∧ 16 ≤ a ∧ 0 < o.1.1 ∧ o.1.1 < 11) then some (.inr (.inr (j, b_r a :: (st.take (m_na j)).reverse, r, pc + 3))) else none
          | none => none)
        | _ => none)
    else none
  | none => none
def b_rok (t : Option FieldType) (v : AI) : Bool := match t with
  | some .int => true
  | t => decide (v.1 = v.2) && m_rok t (Int32.ofInt v.1)
def c_sw (d lo hi : Int) (offs : Array Int) (pc : Nat) (lv : AL) (st : List AV) (h : AH) : Option AA := match st with
  | .inl x :: r => if x.2 < lo ∨ hi < x.1 then b_tg pc d lv r h else if x.1 = x.2 ∧ lo ≤ x.1 ∧ x.1 ≤ hi then (match offs[(x.1 - lo).toNat]? with
      | some o => b_tg pc o lv r h
      | none => none) else none
  | _ => none
def c_ex (s : AI) (i pc : Nat) (ins : Instr) (lv : AL) (st : List AV) (h : AH) : Option AA := match ins with
  | .iconst n => b_go (pc + 1) lv (b_i (Int32.ofInt n) :: st) h
  | .bipush n => b_go (pc + 2) lv (b_i (Int8.ofInt n).toInt32 :: st) h
  | .sipush n => b_go (pc + 3) lv (b_i (Int16.ofInt n).toInt32 :: st) h
  | .lconst n => b_go (pc + 1) lv (b_l (Int64.ofNat n) :: st) h
  | .aconst_null => b_go (pc + 1) lv (b_r 0 :: st) h
  | .ldc idx => c_ldc 2 i idx pc lv st h
  | .ldc_w idx => c_ldc 3 i idx pc lv st h
  | .ldc2_w idx => (match m_jc i idx with
      | some x => b_go (pc + 3) lv (b_l x :: st) h
      | none => none)
  | .iload_n k => c_ild k (pc + 1) lv st h
  | .iload k => c_ild k (pc + 2) lv st h
  | .lload_n k => c_lld k (pc + 1) lv st h
  | .lload k => c_lld k (pc + 2) lv st h
  | .aload_n k => c_ald k (pc + 1) lv st h
  | .aload k => c_ald k (pc + 2) lv st h
  | .istore_n k => c_ist (m_lc i) k (pc + 1) lv st h
  | .istore k => c_ist (m_lc i) k (pc + 2) lv st h
  | .lstore_n k => c_lst (m_lc i) k (pc + 1) lv st h
  | .lstore k => c_lst (m_lc i) k (pc + 2) lv st h
  | .astore_n k => c_ast (m_lc i) k (pc + 1) lv st h
  | .astore k => c_ast (m_lc i) k (pc + 2) lv st h
  | .iinc k z => c_inc (m_lc i) k z pc lv st h
  | .iadd => c_ii (fun x y => x + y) pc lv st h
  | .isub => c_ii (fun x y => x - y) pc lv st h
  | .imul => c_ii (fun x y => x * y) pc lv st h
  | .iand => c_and s pc lv st h
  | .ior => c_ii (fun x y => x ||| y) pc lv st h
  | .ixor => c_ii (fun x y => x ^^^ y) pc lv st h
  | .idiv => c_dv (fun x y => x / y) pc lv st h
  | .irem => c_dv (fun x y => x - x / y * y) pc lv st h
  | .ineg => c_i1 (fun x => -x) pc lv st h
  | .ishl => c_ii (fun x y => x <<< (y &&& 31)) pc lv st h
  | .ishr => c_ii (fun x y => x >>> (y &&& 31)) pc lv st h
  | .iushr => c_ii (fun x y => (x.toUInt32 >>> (y.toUInt32 &&& Int32.toUInt32 31)).toInt32) pc lv st h
  | .ladd => c_ll (fun x y => x + y) pc lv st h
  | .lsub => c_ll (fun x y => x - y) pc lv st h
  | .land => c_ll (fun x y => x &&& y) pc lv st h
  | .lor => c_ll (fun x y => x ||| y) pc lv st h
  | .lxor => c_ll (fun x y => x ^^^ y) pc lv st h
  | .lneg => c_l1 (fun x => -x) pc lv st h
  | .lshl => c_li (fun x y => x <<< (y.toInt64 &&& 63)) pc lv st h
  | .lshr => c_li (fun x y => x >>> (y.toInt64 &&& 63)) pc lv st h
  | .lushr => c_li (fun x y => (x.toUInt64 >>> (y.toInt64.toUInt64 &&& Int64.toUInt64 63)).toInt64) pc lv st h
  | .lcmp => (match st with
      | .inr (.inr (.inl y)) :: .inr (.inr (.inl x)) :: r => b_go (pc + 1) lv (.inl (b_lc x y) :: r) h
      | _ => none)
  | .i2l => c_il (fun x => x.toInt64) pc lv st h
  | .l2i => c_l2i (fun x => x.toInt32) pc lv st h
  | .i2b => c_i1 (fun x => x.toInt8.toInt32) pc lv st h
  | .i2c => c_i1 (fun x => (x.toUInt32 % 65536).toInt32) pc lv st h
  | .dup => (match st with
      | v :: r => if b_cat v = 1 then b_go (pc + 1) lv (v :: v :: r) h else none
      | _ => none)
  | .pop => (match st with
      | v :: r => if b_cat v = 1 then b_go (pc + 1) lv r h else none
      | _ => none)
  | .dup2 => (match st with
      | v :: w :: r => if b_cat v = 1 ∧ b_cat w = 1 then b_go (pc + 1) lv (v :: w :: v :: w :: r) h else none
      | _ => none)
  | .goto off => b_tg pc off lv st h
  | .ifCond c off => (match st with
      | .inl x :: r => b_br (b_cmp c x (0, 0)) pc off lv r h
      | _ => none)
  | .if_icmp c off => (match st with
      | .inl y :: .inl x :: r => b_br (b_cmp c x y) pc off lv r h
      | _ => none)
  | .ifnull off => (match st with
      | .inr (.inr (.inr a)) :: r => if a = 0 then b_tg pc off lv r h else if 16 ≤ a then b_go (pc + 3) lv r h else none
      | _ => none)
  | .ifnonnull off => (match st with
      | .inr (.inr (.inr a)) :: r => if a = 0 then b_go (pc + 3) lv r h else if 16 ≤ a then b_tg pc off lv r h else none
      | _ => none)
  | .tableswitch d lo hi offs => c_sw d lo hi offs pc lv st h
  | .getfield idx => c_get i idx pc lv st h
  | .putfield idx => c_put i idx pc lv st h
  | .getstatic idx => c_gets i idx pc lv st h
  | .iaload => c_iald 20 20 pc s lv st h
  | .baload => c_iald 21 22 pc s lv st h
  | .laload => c_lald pc lv st h
  | .aaload => c_aald pc lv st h
  | .iastore => c_iast pc lv st h
  | .bastore => c_bast pc lv st h
  | .lastore => c_last pc lv st h
  | .aastore => c_aast pc lv st h
  | .arraylength => c_alen pc lv st h
  | .newarray t => c_newa t pc lv st h
  | .new idx => c_new i idx pc lv st h
  | .anewarray idx => c_anew i idx pc lv st h
  | .invokestatic idx => c_call 0 i idx pc lv st h
  | .invokevirtual idx => c_call 1 i idx pc lv st h
  | .invokespecial idx => c_call 2 i idx pc lv st h
  | .ireturn => (match st with
      | [.inl v] => if b_rok (m_rt i) v = true then some (.inr (.inl (some (.inl v), h))) else none
      | _ => none)
  | .lreturn => (match st with
      | [.inr (.inr (.inl v))] => if m_rt i = some .long then some (.inr (.inl (some (.inr (.inr (.inl v))), h))) else none
      | _ => none)
  | .areturn => (match st with
      | [.inr (.inr (.inr v))] => if m_rr (m_rt i) = true then some (.inr (.inl (some (b_r v), h))) else none
      | _ => none)
  | .return_ => (match st with
      | [] => if m_rt i = none then some (.inr (.inl (none, h))) else none
      | _ => none)
  | _ => none
noncomputable def b_ff (l : List m_I) (pc : Nat) : Option m_I := List.rec (motive := fun _ => Option m_I) none (fun e _ ih => Bool.rec (motive := fun _ => Option m_I) ih (some e) (Nat.beq e.1 pc)) l
noncomputable def c_st (s : AI) (i pc : Nat) (lv : AL) (st : List AV) (h : AH) : Option AA := match b_ff (m_m i).1 pc with
  | some e => if m_ln e.2.1 = e.2.2 ∨ m_ln e.2.1 = 0 then c_ex s i e.1 e.2.1 lv st h else none
  | none => none
def b_args : Nat → List AV → AL
  | _, [] => []
  | i, v :: vs => (i, v) :: b_args (if b_cat v = 2 then i + 2 else i + 1) vs
noncomputable def c_rn (s : AI) : Nat → Nat → Nat → AL → List AV → AH → Option (Option AV × AH)
  | 0, _, _, _, _, _ => none
  | n + 1, i, pc, lv, st, h => match c_st s i pc lv st h with
    | some (.inl (pc', lv', st', h')) => c_rn s n i pc' lv' st' h'
    | some (.inr (.inl q)) => some q
    | some (.inr (.inr (j, as, r, pc'))) => if b_ct as ≤ m_lc j then (match c_rn s n j 0 (b_args 0 as) [] h with
      | some (v, h') => c_rn s n i pc' lv (v.toList ++ r) h'
      | none => none) else none
    | none => none
-- where the law begins
def b_row : Nat → List Int32 → List (Nat × AI)
  | _, [] => []
  | k, x :: r => (k, (x.toInt, x.toInt)) :: b_row (k + 1) r
def b_xr : Nat → List AI → List (Nat × AI)
  | _, [] => []
  | k, x :: r => (k, x) :: b_xr (k + 1) r
def b_c0 (k len : Nat) (l : List Int32) : AC := ((k, len), ((0, 0), b_row 0 l), ((0, 0), []), [])
def b_cs (a : Nat) : AC := ((40, 0), ((0, 0), []), ((0, 0), []), [(0, a)])
def b_h0 (L : Nat) (xi : List AI) : AH := ((0, 0), [(1, b_c0 20 18 m_lim), (14, ((20, L), (b_t, b_xr 0 xi), ((0, 0), []), [])),
  (2, b_cs 8), (3, b_cs 9), (4, b_cs 10), (5, b_cs 11), (6, b_cs 12), (7, b_cs 13),
  (8, b_c0 21 3 [110, 101, 119]), (9, b_c0 21 3 [112, 117, 116]), (10, b_c0 21 4 [109, 101, 108, 100]), (11, b_c0 21 4 [108, 101, 115, 115]), (12, b_c0 21 5 [108, 111, 119, 101, 114]), (13, b_c0 21 3 [99, 117, 116])])
noncomputable def b_ok (s : AI) (fuel L : Nat) (xi : List AI) : Bool := match c_rn s fuel 0 0 [(0, b_r 14)] [] (b_h0 L xi) with
  | some (some (.inl v), A) => decide (v = (1, 1)) && (decide (A.1.1 ≤ 600000) && decide (A.1.2 ≤ 7302250))
  | _ => false
