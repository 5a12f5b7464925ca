-- ALL WAYS OF A METHOD, from a cut to cuts or ends
abbrev CT : Type := Nat × (AST × (List Nat × LE))
def d_arr (C : AST × (List Nat × LE)) (S : AST) (T : List Nat) : Bool := match a_kp S with
  | m :: ks => (let b := b_al (a_kp C.1).length C.1 S
    (u_ok (b_th b) (b_ph b) C.1 S && (decide ((a_kp C.1).map (s_e (b_th b)) = ks) && decide ((a_ko C.1).map (b_ph b) = a_ko S))) && (d_has C.2.1 T && (u_en S (le_mul (-1) (s_e (b_th b) C.2.2)) && u_en S (le_add (le_sub (s_e (b_th b) C.2.2) m) (le_c 1)))))
  | [] => false
def d_pst (P : AST × List Nat) (S : AST) (T : List Nat) : Bool := match a_kp S with
  | _ :: ks => (let b := b_al (a_kp P.1).length P.1 S
    ((a_lv P.1).isEmpty && u_ok (b_th b) (b_ph b) P.1 S && (decide ((a_kp P.1).map (s_e (b_th b)) = ks) && decide ((a_ko P.1).map (b_ph b) = a_ko S))) && d_has P.2 T)
  | [] => false
def d_rng (S : AST) (e : LE) (lo hi : Int) : Bool := u_en S (le_sub (le_c lo) e) && u_en S (le_sub e (le_c hi))
def d_rt (i : Nat) (ins : Instr) (S : AST) : Bool := match ins with
  | .ireturn => (match a_st S with
    | [.inl e] => (match m_rt i with
      | some .int => true
      | some .boolean => d_rng S e 0 1
      | some .byte => d_rng S e (-128) 127
      | some .char => d_rng S e 0 65535
      | _ => false)
    | _ => false)
  | .lreturn => (match a_st S with
    | [.inr (.inl _)] => decide (m_rt i = some .long)
    | _ => false)
  | .areturn => (match a_st S with
    | [.inr (.inr _)] => m_rr (m_rt i)
    | _ => false)
  | .return_ => (match a_st S with
    | [] => decide (m_rt i = none)
    | _ => false)
  | _ => false
def d_gs (sp : List RS) (gh : List (Nat × SM)) (pc : Nat) (S : AST) (T : List Nat) : Option (List (AST × List Nat)) := match m_lk gh pc with
  | some g => (match d_gh sp g S T with
    | some L => some L
    | none => some [(S, T)])
  | none => some [(S, T)]
noncomputable def d_run (sp : List RS) (CC : Nat × (Nat × Nat)) (dep : Nat → List (Nat × Nat)) (gk : GK) (env : List (Nat × SM)) (alt : List (Nat × Nat)) (W : List (Nat × Nat)) (cuts : List CT) (posts : List (AST × List Nat)) (i : Nat) : Nat → Nat → AST → List Nat → Bool
  | 0, _, _, _ => false
  | n + 1, pc, S, T => match b_ff (m_m i).1 pc with
    | none => false
    | some e => if m_ln e.2.1 = e.2.2 ∨ m_ln e.2.1 = 0 then (match d_gs sp gk.1 pc S T with
      | some G => G.all (fun y => match d_st sp CC dep gk.2 env alt W i pc e.2.1 y.1 y.2 with
        | some L => L.all (fun x => match m_lk cuts x.1 with
          | some C => d_arr C x.2.1 x.2.2
          | none => d_run sp CC dep gk env alt W cuts posts i n x.1 x.2.1 x.2.2)
        | none => d_rt i e.2.1 y.1 && posts.any (fun P => d_pst P y.1 y.2))
      | none => false) else false
def w_kp (S : AST) (kp : List LE) : AST := (S.1, S.2.1, ((kp, S.2.2.1.2), S.2.2.2))
-- a method's own claim
noncomputable def d_mth (sp : List RS) (CC : Nat × (Nat × Nat)) (dep : Nat → List (Nat × Nat)) (gk : GK) (env : List (Nat × SM)) (alt : List (Nat × Nat)) (cuts : List CT) (B : Int) (fuel i : Nat) (m : SM) : Bool := d_run sp CC dep gk env alt m.2.1 cuts m.2.2 i fuel 0 (w_kp m.1.1 (le_c B :: a_kp m.1.1)) m.1.2 && cuts.all (fun C => d_run sp CC dep gk env alt m.2.1 cuts m.2.2 i fuel C.1 (w_kp C.2.1 (C.2.2.2 :: a_kp C.2.1)) C.2.2.1)
def OUT (sp : List RS) (PT : Nat → (Nat → Nat) → MH → Prop) (W : List (Nat × Nat)) (cuts : List CT) (posts : List (AST × List Nat)) (i : Nat) (K : List Int) (KA : List Nat) (mv : Int) (pc : Nat) (lv : List (Nat × Value)) (st : List Value) (h : MH) (ρ : Nat → Nat) : Prop :=
  (∃ (v : Option Value) (h' : MH) (ρ' : Nat → Nat), Rq i pc lv st h (v, h') ∧ FQ ρ ρ' W h h' ∧ ∃ P ∈ posts, TS sp ρ' K KA P.1 [] v.toList h' ∧ ∀ t ∈ P.2, PT t ρ' h') ∨
  (∃ C ∈ cuts, ∃ (lv' : List (Nat × Value)) (h' : MH) (ρ' : Nat → Nat), (∀ r, Rq i C.1 lv' [] h' r → Rq i pc lv st h r) ∧ FQ ρ ρ' W h h' ∧ TH sp ρ' h' ∧ (∃ (σ : Nat → Int) (α : Nat → Nat), TW ρ' K KA C.2.1 lv' [] h' σ α ∧ 0 ≤ le_ev σ C.2.2.2 ∧ le_ev σ C.2.2.2 < mv) ∧ ∀ t ∈ C.2.2.1, PT t ρ' h')
section
variable {sp : List RS} {CC : Nat × (Nat × Nat)} {dep : Nat → List (Nat × Nat)} {gk : GK} {PT : Nat → (Nat → Nat) → MH → Prop} {env : List (Nat × SM)} {alt : List (Nat × Nat)} {ρ : Nat → Nat} {W : List (Nat × Nat)} {K : List Int} {KA : List Nat} {S : AST} {T : List Nat} {lv' : List (Nat × Value)} {st' : List Value} {h : MH} {pc : Nat} {σ : Nat → Int} {α : Nat → Nat} {cuts : List CT} {posts : List (AST × List Nat)}
theorem u_sk0 {θ : Nat → LE} {φ : Nat → Nat} {S : AST} : ∀ {t : List AT} {t' : List AT}, u_sk θ φ S t t' = true → t.length = t'.length
  | [], [], _ => rfl
  | _ :: _, _ :: _, k => by
    rw [u_sk, Bool.and_eq_true] at k
    rw [List.length_cons, List.length_cons, u_sk0 k.2]
  | [], _ :: _, k => by cases k
  | _ :: _, [], k => by cases k
theorem d_has_S {T U : List Nat} {P : Nat → Prop} (e : d_has T U = true) (h : ∀ t ∈ U, P t) : ∀ t ∈ T, P t := fun t m => h t (List.contains_iff_mem.mp (List.all_eq_true.mp e t m))
theorem d_arrS {mv : Int} {i pc0 : Nat} {lv0 : List (Nat × Value)} {st0 : List Value} {h0 : MH} {ρ0 : Nat → Nat} {C : CT} (hm : C ∈ cuts) (hcst : a_st C.2.1 = []) (g : ∀ r, Rq i C.1 lv' st' h r → Rq i pc0 lv0 st0 h0 r) (f : FQ ρ0 ρ W h0 h) (ht : TH sp ρ h) (hw : TW ρ (mv :: K) KA S lv' st' h σ α) (hT : ∀ t ∈ T, PT t ρ h) (e : d_arr C.2 S T = true) : OUT sp PT W cuts posts i K KA mv pc0 lv0 st0 h0 ρ0 := by
  have hkp := hw.2.2.2.1
  have hko := hw.2.2.2.2.1
  unfold d_arr at e
  split at e
  · next m ks hks =>
    rw [hks] at hkp
    have hkp1 : le_ev σ m = mv := (List.cons.inj hkp).1
    have hkp2 : ks.map (le_ev σ) = K := (List.cons.inj hkp).2
    rw [Bool.and_eq_true, Bool.and_eq_true, Bool.and_eq_true, Bool.and_eq_true, Bool.and_eq_true] at e
    obtain ⟨⟨e1, e2, e3⟩, e4, e5, e6⟩ := e
    generalize b_al (a_kp C.2.1).length C.2.1 S = b at e1 e2 e3 e5 e6
    have hu := u_okS hw e1
    have hst : st' = [] := by
      have hl := u_sk0 (show u_sk (b_th b) (b_ph b) S (a_st C.2.1) (a_st S) = true by
        unfold u_ok at e1
        rw [Bool.and_eq_true, Bool.and_eq_true, Bool.and_eq_true, Bool.and_eq_true] at e1
        exact e1.2.2.2.2)
      rw [hcst] at hl
      have h2 := t_skl hw.2.2.2.2.2.2
      rw [← hl] at h2
      exact List.eq_nil_of_length_eq_zero h2
    subst hst
    have k1 : (a_kp C.2.1).map (le_ev (fun k => le_ev σ (b_th b k))) = K := by
      rw [← hkp2, ← of_decide_eq_true e2, List.map_map]
      exact List.map_congr_left (fun e _ => (s_eE σ (b_th b) e).symm)
    have k2 : (a_ko C.2.1).map (fun o => α (b_ph b o)) = KA := by
      rw [← hko, ← of_decide_eq_true e3, List.map_map]
      rfl
    rw [k1, k2] at hu
    refine Or.inr ⟨C, hm, lv', h, ρ, g, f, ht, ⟨_, _, hu, ?_, ?_⟩, d_has_S e4 hT⟩
    · have := u_enS hw e5
      rw [le_mulE, s_eE] at this
      omega
    · have := u_enS hw e6
      rw [le_addE, le_subE, le_cE, s_eE, hkp1] at this
      omega
  · cases e
theorem i_bool (v : Int32) (h1 : 0 ≤ v.toInt) (h2 : v.toInt ≤ 1) : v &&& 1 = v := by
  rcases (show v.toInt = 0 ∨ v.toInt = 1 by omega) with e | e
  · have : v = 0 := Int32.toInt_inj.mp (by rw [e]; decide)
    rw [this]
    decide
  · have : v = 1 := Int32.toInt_inj.mp (by rw [e]; decide)
    rw [this]
    decide
theorem i_byte (v : Int32) (h1 : -128 ≤ v.toInt) (h2 : v.toInt ≤ 127) : v.toInt8.toInt32 = v := by
  apply Int32.toInt_inj.mp
  rw [Int8.toInt_toInt32, Int32.toInt_toInt8]
  exact Int.bmod_eq_of_le (by show -((2 ^ 8 : Int) / 2) ≤ v.toInt; omega) (by show v.toInt < ((2 ^ 8 : Int) + 1) / 2; omega)
theorem i_char (v : Int32) (h1 : 0 ≤ v.toInt) (h2 : v.toInt ≤ 65535) : v.toUInt32.toUInt16.toUInt32.toInt32 = v := by
  have e1 : v = Int32.ofInt ((v.toInt.toNat : Nat) : Int) := by
    rw [show ((v.toInt.toNat : Nat) : Int) = v.toInt by omega, Int32.ofInt_toInt]
  have h3 : v.toBitVec.toNat < 65536 := by
    have e2 : v.toInt = v.toBitVec.toInt := rfl
    have h4 := BitVec.toInt_eq_toNat_cond v.toBitVec
    have h5 := v.toBitVec.isLt
    split at h4 <;> omega
  have h6 : v.toUInt32.toNat = v.toBitVec.toNat := rfl
  have h7 : v.toUInt32.toUInt16.toUInt32 = v.toUInt32 := by
    apply UInt32.toNat_inj.mp
    rw [UInt16.toNat_toUInt32, UInt32.toNat_toUInt16, h6]
    exact Nat.mod_eq_of_lt h3
  rw [h7]
  rfl
theorem d_rngS {e : LE} {lo hi : Int} (hw : TW ρ K KA S lv' st' h σ α) (k : d_rng S e lo hi = true) : lo ≤ le_ev σ e ∧ le_ev σ e ≤ hi := by
  unfold d_rng at k
  rw [Bool.and_eq_true] at k
  have h1 := u_enS hw k.1
  have h2 := u_enS hw k.2
  rw [le_subE, le_cE] at h1 h2
  omega
theorem d_rtS {i : Nat} {ins : Instr} (hw : TW ρ K KA S lv' st' h σ α) (e : d_rt i ins S = true) : ∃ v : Option Value, m_ex i pc ins lv' st' h = some (.inr (.inl (v, h))) ∧ st' = v.toList := by
  have hs := hw.2.2.2.2.2.2
  unfold d_rt at e
  split at e
  · split at e
    · next e0 hst =>
      rw [hst] at hs
      obtain ⟨v, q, rfl, ⟨x, rfl, hx⟩, hq⟩ := t_sc hs
      have hq0 : q = [] := List.eq_nil_of_length_eq_zero (t_skl hq)
      subst hq0
      refine ⟨some (.int x), ?_, rfl⟩
      show (if m_rok (m_rt i) x = true then (some (.inr (.inl (some (.int x), h))) : Option MA) else none) = _
      rw [if_pos]
      generalize m_rt i = o at e ⊢
      split at e
      · rfl
      · obtain ⟨r1, r2⟩ := d_rngS hw e
        exact decide_eq_true (i_bool x (by omega) (by omega))
      · obtain ⟨r1, r2⟩ := d_rngS hw e
        exact decide_eq_true (i_byte x (by omega) (by omega))
      · obtain ⟨r1, r2⟩ := d_rngS hw e
        exact decide_eq_true (i_char x (by omega) (by omega))
      · cases e
    · cases e
  · split at e
    · next u hst =>
      rw [hst] at hs
      obtain ⟨v, q, rfl, ⟨x, rfl⟩, hq⟩ := t_sc hs
      have hq0 : q = [] := List.eq_nil_of_length_eq_zero (t_skl hq)
      subst hq0
      refine ⟨some (.long x), ?_, rfl⟩
      show (if m_rt i = some .long then (some (.inr (.inl (some (.long x), h))) : Option MA) else none) = _
      rw [if_pos (of_decide_eq_true e)]
    · cases e
  · split at e
    · next u hst =>
      rw [hst] at hs
      obtain ⟨v, q, rfl, ⟨rfl, _⟩, hq⟩ := t_sc hs
      have hq0 : q = [] := List.eq_nil_of_length_eq_zero (t_skl hq)
      subst hq0
      refine ⟨some (.ref (α u.1)), ?_, rfl⟩
      show (if m_rr (m_rt i) = true then (some (.inr (.inl (some (.ref (α u.1)), h))) : Option MA) else none) = _
      rw [if_pos e]
    · cases e
  · split at e
    · next hst =>
      rw [hst] at hs
      have hq0 : st' = [] := List.eq_nil_of_length_eq_zero (t_skl hs)
      subst hq0
      refine ⟨none, ?_, rfl⟩
      show (if m_rt i = none then (some (.inr (.inl (none, h))) : Option MA) else none) = _
      rw [if_pos (of_decide_eq_true e)]
    · cases e
  · cases e
theorem d_pstS {mv : Int} {P : AST × List Nat} (hw : TW ρ (mv :: K) KA S lv' st' h σ α) (ht : TH sp ρ h) (hT : ∀ t ∈ T, PT t ρ h) (e : d_pst P S T = true) : TS sp ρ K KA P.1 [] st' h ∧ ∀ t ∈ P.2, PT t ρ h := by
  have hkp := hw.2.2.2.1
  have hko := hw.2.2.2.2.1
  unfold d_pst at e
  split at e
  · next m ks hks =>
    rw [hks] at hkp
    have hkp2 : ks.map (le_ev σ) = K := (List.cons.inj hkp).2
    rw [Bool.and_eq_true, Bool.and_eq_true, Bool.and_eq_true, Bool.and_eq_true] at e
    obtain ⟨⟨⟨e0, e1⟩, e2, e3⟩, e4⟩ := e
    generalize b_al (a_kp P.1).length P.1 S = b at e1 e2 e3
    have hu := u_okS hw e1
    have k1 : (a_kp P.1).map (le_ev (fun k => le_ev σ (b_th b k))) = K := by
      rw [← hkp2, ← of_decide_eq_true e2, List.map_map]
      exact List.map_congr_left (fun e _ => (s_eE σ (b_th b) e).symm)
    have k2 : (a_ko P.1).map (fun o => α (b_ph b o)) = KA := by
      rw [← hko, ← of_decide_eq_true e3, List.map_map]
      rfl
    rw [k1, k2] at hu
    obtain ⟨w1, w2, w3, w4, w5, -, w7⟩ := hu
    refine ⟨⟨ht, _, _, w1, w2, w3, w4, w5, ?_, w7⟩, d_has_S e4 hT⟩
    rw [List.isEmpty_iff.mp e0]
    intro q hq
    cases hq
  · cases e
theorem d_runS {i : Nat} (hPT : PTx sp dep PT) (henv : ENV sp CC PT env) (hgk : GKok sp CC PT i gk) (hlen : ∀ (R : Nat) (rs : RS), sp[R]? = some rs → rs.1.2.2 < 1000 ∨ ¬ (30 ≤ rs.1.1 ∧ rs.1.1 < 33)) (hcuts : ∀ C ∈ cuts, a_st C.2.1 = []) {mv : Int} : ∀ (n pc : Nat) (S : AST) (T : List Nat) (lv : List (Nat × Value)) (st : List Value) (h : MH) (ρ : Nat → Nat), CCok CC ρ → TS sp ρ (mv :: K) KA S lv st h → (∀ t ∈ T, PT t ρ h) → d_run sp CC dep gk env alt W cuts posts i n pc S T = true → OUT sp PT W cuts posts i K KA mv pc lv st h ρ
  | 0, _, _, _, _, _, _, _, _, _, _, e => by cases e
  | n + 1, pc, S, T, lv, st, h, ρ, hC, hS, hT, e => by
    rw [d_run] at e
    split at e
    · cases e
    · next e0 hff =>
      split at e
      · next hln =>
        rw [b_ffE] at hff
        have hst : m_st i pc lv st h = m_ex i pc e0.2.1 lv st h := by
          unfold m_st m_at m_lk
          rw [hff]
          dsimp only [Option.map]
          rw [if_pos hln]
        split at e
        · next G hG =>
         obtain ⟨y, my, hSy, hTy⟩ : ∃ y ∈ G, TS sp ρ (mv :: K) KA y.1 lv st h ∧ ∀ t ∈ y.2, PT t ρ h := by
           unfold d_gs at hG
           split at hG
           · next g hg =>
             split at hG
             · next L0 hL0 =>
               cases hG
               obtain ⟨ht, σ, α, hw⟩ := hS
               exact d_ghS (hgk.1 pc g hg) hC ht hw hT hL0
             · cases hG
               exact ⟨(S, T), List.mem_singleton.mpr rfl, hS, hT⟩
           · cases hG
             exact ⟨(S, T), List.mem_singleton.mpr rfl, hS, hT⟩
         have e := List.all_eq_true.mp e y my
         obtain ⟨ht, σ, α, hw⟩ := hSy
         have hT := hTy
         split at e
         · next L hL =>
          obtain ⟨x, mx, lv1, st1, h1, ρ1, g, f, hS1, hT1⟩ := d_stS hgk.2 hPT henv hC hlen hst ht hw hT hL
          have e1 := List.all_eq_true.mp e x mx
          split at e1
          · next C hCm =>
            obtain ⟨ht1, σ1, α1, hw1⟩ := hS1
            exact d_arrS (C := (x.1, C)) (m_lkm hCm) (hcuts _ (m_lkm hCm)) g f ht1 hw1 hT1 e1
          · rcases d_runS hPT henv hgk hlen hcuts n x.1 x.2.1 x.2.2 lv1 st1 h1 ρ1 (hC.x f) hS1 hT1 e1 with ⟨v, h2, ρ2, g1, g2, g3⟩ | ⟨C, mC, lv2, h2, ρ2, g1, g2, g3⟩
            · exact Or.inl ⟨v, h2, ρ2, g _ g1, f.trans g2, g3⟩
            · exact Or.inr ⟨C, mC, lv2, h2, ρ2, fun r z => g r (g1 r z), f.trans g2, g3⟩
         · rw [Bool.and_eq_true] at e
           obtain ⟨v, hv, hvs⟩ := d_rtS (pc := pc) hw e.1
           obtain ⟨P, mP, hP⟩ := List.any_eq_true.mp e.2
           obtain ⟨k1, k2⟩ := d_pstS hw ht hT hP
           rw [hvs] at k1
           exact Or.inl ⟨v, h, ρ, Rq.ret (hst.trans hv), FQ.refl _ _ _, P, mP, k1, k2⟩
        · cases e
      · cases e
theorem w_kpS {e : LE} (hw : TW ρ K KA S lv' st' h σ α) : TW ρ (le_ev σ e :: K) KA (w_kp S (e :: a_kp S)) lv' st' h σ α := by
  obtain ⟨w1, w2, w3, w4, w5, w6, w7⟩ := hw
  refine ⟨w1, w2, w3, ?_, w5, w6, w7⟩
  show le_ev σ e :: (a_kp S).map (le_ev σ) = _
  rw [w4]
theorem d_mthS {B : Int} {fuel i : Nat} {m : SM} (hPT : PTx sp dep PT) (henv : ENV sp CC PT env) (hgk : GKok sp CC PT i gk) (hlen : ∀ (R : Nat) (rs : RS), sp[R]? = some rs → rs.1.2.2 < 1000 ∨ ¬ (30 ≤ rs.1.1 ∧ rs.1.1 < 33)) (hcuts : cuts.all (fun C => (a_st C.2.1).isEmpty) = true) (e : d_mth sp CC dep gk env alt cuts B fuel i m = true) : V_ok sp CC PT i m := by
  have hc2 : ∀ C ∈ cuts, a_st C.2.1 = [] := fun C hC => List.isEmpty_iff.mp (List.all_eq_true.mp hcuts C hC)
  unfold d_mth at e
  rw [Bool.and_eq_true] at e
  intro ρ K KA lv h hC hS hT
  have key : ∀ (n : Nat) (pc : Nat) (lv1 : List (Nat × Value)) (st1 : List Value) (h1 : MH) (ρ1 : Nat → Nat) (mv : Int), mv < n → CCok CC ρ1 → OUT sp PT m.2.1 cuts m.2.2 i K KA mv pc lv1 st1 h1 ρ1 → ∃ (v : Option Value) (h' : MH) (ρ' : Nat → Nat), Rq i pc lv1 st1 h1 (v, h') ∧ FQ ρ1 ρ' m.2.1 h1 h' ∧ ∃ P ∈ m.2.2, TS sp ρ' K KA P.1 [] v.toList h' ∧ ∀ t ∈ P.2, PT t ρ' h' := by
    intro n
    induction n with
    | zero =>
      intro pc lv1 st1 h1 ρ1 mv hmv hC1 ho
      rcases ho with ho | ⟨C, mC, lv2, h2, ρ2, g1, g2, g3, ⟨σ, α, g4, g5, g6⟩, g7⟩
      · exact ho
      · omega
    | succ n ih =>
      intro pc lv1 st1 h1 ρ1 mv hmv hC1 ho
      rcases ho with ho | ⟨C, mC, lv2, h2, ρ2, g1, g2, g3, ⟨σ, α, g4, g5, g6⟩, g7⟩
      · exact ho
      · have e1 := List.all_eq_true.mp e.2 C mC
        have ho2 := d_runS (K := K) (KA := KA) (mv := le_ev σ C.2.2.2) hPT henv hgk hlen hc2 fuel C.1 _ _ lv2 [] h2 ρ2 (hC1.x g2) ⟨g3, σ, α, w_kpS g4⟩ g7 e1
        obtain ⟨v, h3, ρ3, k1, k2, k3⟩ := ih C.1 lv2 [] h2 ρ2 (le_ev σ C.2.2.2) (by omega) (hC1.x g2) ho2
        exact ⟨v, h3, ρ3, g1 _ k1, g2.trans k2, k3⟩
  obtain ⟨ht, σ, α, hw⟩ := hS
  have ho := d_runS (K := K) (KA := KA) (mv := B) hPT henv hgk hlen hc2 fuel 0 _ _ lv [] h ρ hC ⟨ht, σ, α, by
    have := w_kpS (e := le_c B) hw
    rw [le_cE] at this
    exact this⟩ hT e.1
  obtain ⟨v, h', ρ', ⟨n, k1⟩, k2, k3⟩ := key (B.toNat + 1) 0 lv [] h ρ B (by omega) hC ho
  exact ⟨n, v, h', ρ', k1, k2, k3⟩
end
