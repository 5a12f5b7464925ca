-- MAKE A NODE
def w_mk : List (Nat × Nat) := [(40, 1001), (40, 1002), (41, 1001), (41, 1002), (48, 0), (48, 1), (48, 5), (1000, 1002)]
section
variable {lv : List (Nat × Value)} {Q : Option Value → MH → Prop} {W : List (Nat × Nat)} {ρ : Nat → Nat} {m : Nat} {A : Nat → Nat} {h0 h : MH} {F : Nat → Int} {V : Nat → Nat → Int} {G : Nat → Nat → Int64}
theorem c_mk48 {xw xr : Int32} (ht : TH c_sp ρ h) (hm : ρ m = 48) (n1 : t_nd ρ h) (n2 : t_rm ρ h) (cap : (h_i h m 5).toInt < ((h_k h (h_r h m 1)).2 : Int)) (m1 : (h_i h m 5).toInt ≤ 15999) (e0 : m_lk lv 0 = some (.ref m)) (e1 : m_lk lv 1 = some (.int xw)) (e2 : m_lk lv 2 = some (.int xr)) (g : ∀ (x : Int32) (h6 h' : MH), FS ρ [(48, 5)] h h6 → FS ρ [(40, 1001), (41, 1001)] h6 h' → TH c_sp ρ h' → t_nd ρ h' → t_rm ρ h' → x.toInt = (h_i h m 5).toInt → (h_i h' m 5).toInt = (h_i h m 5).toInt + 1 → Q (some (.int x)) h') : HJ 61 48 lv [] h Q := by
  have M0 := MX.start (W := []) ht hm
  have b5 : 0 ≤ (h_i h m 5).toInt ∧ (h_i h m 5).toInt ≤ 16000 := M0.fi (by decide) (k := 5) (lo := 0) (hi := 16000) rfl rfl rfl
  refine s_mk48 M0 e0 e1 rfl e2 rfl m1 (fun x1 q1 x5 q5 lv2 d0 d1 d2 d3 _ _ => ?_)
  have q1 : x1.toInt = (h_i h m 5).toInt := q1
  have q5 : x5.toInt = (h_i h m 5).toInt + 1 := q5
  have mk : (h_k h m).1 = 3 := (t_spec ht (by decide) (rfl : c_sp[48]? = some _) hm).1
  refine hI_pi (o := m) rfl rfl (by decide +kernel) mk rfl ?_
  have T6 : TH c_sp ρ (h_si h m 5 x5) := s_siT (k := 5) ht (by decide) (rfl : c_sp[48]? = some _) hm rfl (by show 0 ≤ x5.toInt; omega) (by show x5.toInt ≤ 16000; omega)
  have Q6 : FS ρ [(48, 5)] h (h_si h m 5 x5) := FS.ofFR (s_siF hm (Or.inl (List.mem_singleton.mpr rfl)))
  have N6 : t_nd ρ (h_si h m 5 x5) := fun a ha => by
    obtain ⟨k1, k2⟩ := n1 a ha
    refine ⟨k1, ?_⟩
    rw [s_siI]
    by_cases e : a = m
    · rw [if_pos ⟨e, rfl⟩]
      subst e
      show x5.toInt ≤ ((h_k h (h_r h a 1)).2 : Int)
      omega
    · rw [if_neg (fun z => e z.1)]
      exact k2
  have R6 : t_rm ρ (h_si h m 5 x5) := c_PTx 2 ρ ρ [(48, 5)] h _ ht Q6.fq (by decide +kernel) n2
  have i6 : (h_i (h_si h m 5 x5) m 5).toInt = x5.toInt := by rw [s_siI, if_pos ⟨rfl, rfl⟩]
  obtain ⟨k1, k2⟩ := N6 m (Or.inr hm)
  rw [i6] at k2
  generalize h_si h m 5 x5 = h6 at T6 Q6 N6 R6 i6 k1 k2 ⊢
  have M6 := MX.start (W := [(40, 1001), (41, 1001)]) T6 hm
  have a0 := (M6.ar (by decide) (K := 0) (by decide +kernel)).1
  have l0 : (h_k h6 (h_r h6 m 0)).2 ≤ 224000 := (t_spec T6 (by decide) (rfl : c_sp[40]? = some _) a0).2.1.2
  refine s_mk63 (n := (h_i h m 5).toInt) (T := ((h_k h6 (h_r h6 m 0)).2 : Int)) (T1 := ((h_k h6 (h_r h6 m 1)).2 : Int)) M6 d0 d1 rfl d2 rfl d3 q1 b5.1 (by omega) (by omega) m1 rfl rfl (by decide +kernel) (fun h1 V1 x3 q3 h7 V7 h10 V10 x12 q12 x14 q14 x15 q15 lv4 M10 c0 c1 c2 c3 c4 => ?_)
  refine c_fr M10 (by decide +kernel) rfl (by omega) (by omega) (by omega) (by omega) (fun h' V' M' => s_mk113 c3 q1 (g x1 h6 h' Q6 M'.1.2.2 M'.1.1 (c_PTx 1 ρ ρ _ h6 h' T6 M'.1.2.2.fq (by decide +kernel) N6) (c_PTx 2 ρ ρ _ h6 h' T6 M'.1.2.2.fq (by decide +kernel) R6) q1 ?_))
  have e9 : (h_i h' m 5).toInt = (h_i h6 m 5).toInt := M'.2.1 5
  omega
theorem fq_pt {ρ ρ1 : Nat → Nat} {R a k : Nat} {h h' : MH} (f : FQ ρ ρ1 [(R, 1002), (1000, 1002)] h h') (ha : a < 16 + h_n h) (hk : k < 1000) : h_k h' a = h_k h a ∧ h_i h' a k = h_i h a k ∧ h_r h' a k = h_r h a k := by
  have := f.2.2.2 a ha
  have w : ¬ t_W [(R, 1002), (1000, 1002)] (ρ a) k := by
    intro z
    rcases z with z | z
    · simp at z
      omega
    · simp at z
  exact ⟨this.1, (this.2 k w).1, (this.2 k w).2.2⟩
theorem c_makeNode {xw xr : Int32} (ht : TH c_sp ρ h) (hm : ρ m = 48) (n1 : t_nd ρ h) (n2 : t_rm ρ h) (m1 : (h_i h m 5).toInt ≤ 15999) (e0 : m_lk lv 0 = some (.ref m)) (e1 : m_lk lv 1 = some (.int xw)) (e2 : m_lk lv 2 = some (.int xr)) (g : ∀ (ρ' : Nat → Nat) (x : Int32) (h' : MH), FQ ρ ρ' w_mk h h' → TH c_sp ρ' h' → t_nd ρ' h' → t_rm ρ' h' → x.toInt = (h_i h m 5).toInt → (h_i h' m 5).toInt = (h_i h m 5).toInt + 1 → Q (some (.int x)) h') : HJ 61 0 lv [] h Q := by
  have M0 := MX.start (W := []) ht hm
  have b5 : 0 ≤ (h_i h m 5).toInt ∧ (h_i h m 5).toInt ≤ 16000 := M0.fi (by decide) (k := 5) (lo := 0) (hi := 16000) rfl rfl rfl
  obtain ⟨k1, k2⟩ := n1 m (Or.inr hm)
  have a0 : ρ (h_r h m 0) = 40 := (M0.ar (by decide) (K := 0) (by decide +kernel)).1
  have a1 : ρ (h_r h m 1) = 41 := (M0.ar (by decide) (K := 1) (by decide +kernel)).1
  have ml : m < 16 + h_n h := (ht.2 m (by rw [hm]; decide)).1
  have l0 : (h_r h m 0) < 16 + h_n h := (ht.2 _ (by rw [a0]; decide)).1
  have l1 : (h_r h m 1) < 16 + h_n h := (ht.2 _ (by rw [a1]; decide)).1
  have mk : (h_k h m).1 = 3 := (t_spec ht (by decide) (rfl : c_sp[48]? = some _) hm).1
  have L64 : 64 ≤ (h_k h (h_r h m 1)).2 := (t_spec ht (by decide) (rfl : c_sp[41]? = some _) a1).2.1.1
  refine s_mk0 M0 e0 e1 rfl e2 rfl (fun z2 a2 b2 c2 _ _ c9 => ?_) (fun z2 a2 b2 c2 _ _ c9 => ?_)
  · have c9 : (h_i h m 5).toInt < z2 := c9
    exact c_mk48 ht hm n1 n2 (by omega) m1 e0 e1 e2 (fun x h6 h' f1 f2 t k1 k2 q1 q2 => g ρ x h' ((f1.fq.mono (by decide +kernel)).trans (f2.fq.mono (by decide +kernel))) t k1 k2 q1 q2)
  · have c9 : (h_i h m 5).toInt ≥ z2 := c9
    refine s_mk12 M0 e0 e1 rfl e2 rfl (fun z1 a3 b3 c1 x3 q3 => c_copyI ht a0 (by omega) (by omega) (fun h1 T1 F1 en1 ez1 el1 => ?_))
    have f1 := @fq_pt _ _ _ m 0 _ _ F1 ml (by decide)
    have mk1 : (h_k h1 m).1 = 3 := by rw [f1.1]; exact mk
    show HJ 61 27 lv [.ref (16 + h_n h), .ref m] h1 Q
    refine hI_pr (o := m) rfl rfl (by decide +kernel) mk1 rfl ?_
    have hm1 : m_u ρ (16 + h_n h) 40 m = 48 := by rw [m_uN _ _ _ _ (by omega)]; exact hm
    have T2 := s_srT (k := 0) (x := 16 + h_n h) T1 (rfl : c_sp[48]? = some _) hm1 rfl (Or.inr ⟨by omega, by decide, m_uE _ _ _⟩)
    have Q2 : FQ (m_u ρ (16 + h_n h) 40) (m_u ρ (16 + h_n h) 40) [(48, 0)] h1 (h_sr h1 m 0 (16 + h_n h)) := (FS.ofFR (s_srF hm1 (Or.inl (List.mem_singleton.mpr rfl)))).fq
    have r1 : h_r (h_sr h1 m 0 (16 + h_n h)) m 1 = h_r h m 1 := by
      rw [s_srR, if_neg (fun z => by have := z.2; omega)]
      exact (@fq_pt _ _ _ m 1 _ _ F1 ml (by decide)).2.2
    have ho : m_u ρ (16 + h_n h) 40 (h_r (h_sr h1 m 0 (16 + h_n h)) m 1) = 41 := by
      rw [r1, m_uN _ _ _ _ (by omega)]
      exact a1
    have kl : (h_k (h_sr h1 m 0 (16 + h_n h)) (h_r (h_sr h1 m 0 (16 + h_n h)) m 1)).2 = (h_k h (h_r h m 1)).2 := by
      rw [r1]
      show (h_k h1 (h_r h m 1)).2 = _
      rw [(@fq_pt _ _ _ _ 0 _ _ F1 l1 (by decide)).1]
    refine s_mk30 (MX.start (W := []) T2 hm1) e0 e1 rfl e2 rfl (fun z4 a4 b4 c4 x4 q4 => c_copyL T2 ho (by omega) (by omega) (fun h3 T3 F3 en3 ez3 el3 => ?_))
    have en2 : h_n (h_sr h1 m 0 (16 + h_n h)) = h_n h + 1 := en1
    generalize hh2 : h_sr h1 m 0 (16 + h_n h) = h2 at T2 Q2 r1 ho kl T3 F3 en3 ez3 el3 en2 ⊢
    have s2k : ∀ a, h_k h2 a = h_k h1 a := fun a => by rw [← hh2]; rfl
    have s2i : ∀ a j, h_i h2 a j = h_i h1 a j := fun a j => by rw [← hh2]; rfl
    have s2z : h_z h2 = h_z h1 := by rw [← hh2]; rfl
    have s2r : ∀ a j, ¬ (a = m ∧ j = 0) → h_r h2 a j = h_r h1 a j := fun a j hn => by rw [← hh2, s_srR, if_neg hn]
    have s20 : h_r h2 m 0 = 16 + h_n h := by rw [← hh2, s_srR, if_pos ⟨rfl, rfl⟩]
    have f3 := @fq_pt _ _ _ m 0 _ _ F3 (by omega) (by decide)
    have mk3 : (h_k h3 m).1 = 3 := by rw [f3.1, s2k]; exact mk1
    show HJ 61 45 lv [.ref (16 + h_n h2), .ref m] h3 Q
    refine hI_pr (o := m) rfl rfl (by decide +kernel) mk3 rfl ?_
    have hm2 : m_u (m_u ρ (16 + h_n h) 40) (16 + h_n h2) 41 m = 48 := by rw [m_uN _ _ _ _ (by omega)]; exact hm1
    have T4 := s_srT (k := 1) (x := 16 + h_n h2) T3 (rfl : c_sp[48]? = some _) hm2 rfl (Or.inr ⟨by omega, by decide, m_uE _ _ _⟩)
    have Q4 : FQ (m_u (m_u ρ (16 + h_n h) 40) (16 + h_n h2) 41) (m_u (m_u ρ (16 + h_n h) 40) (16 + h_n h2) 41) [(48, 1)] h3 (h_sr h3 m 1 (16 + h_n h2)) := (FS.ofFR (s_srF hm2 (Or.inl (List.mem_singleton.mpr rfl)))).fq
    generalize hh4 : h_sr h3 m 1 (16 + h_n h2) = h4 at T4 Q4 ⊢
    have s4k : ∀ a, h_k h4 a = h_k h3 a := fun a => by rw [← hh4]; rfl
    have s4i : ∀ a j, h_i h4 a j = h_i h3 a j := fun a j => by rw [← hh4]; rfl
    have s4z : h_z h4 = h_z h3 := by rw [← hh4]; rfl
    have s4n : h_n h4 = h_n h3 := by rw [← hh4]; rfl
    have s4r : ∀ a j, ¬ (a = m ∧ j = 1) → h_r h4 a j = h_r h3 a j := fun a j hn => by rw [← hh4, s_srR, if_neg hn]
    have s41 : h_r h4 m 1 = 16 + h_n h2 := by rw [← hh4, s_srR, if_pos ⟨rfl, rfl⟩]
    have pk : ∀ a, a < 16 + h_n h → h_k h4 a = h_k h a := fun a ha => by
      rw [s4k, (@fq_pt _ _ _ a 0 _ _ F3 (by omega) (by decide)).1, s2k, (@fq_pt _ _ _ a 0 _ _ F1 ha (by decide)).1]
    have pi : ∀ a, a < 16 + h_n h → h_i h4 a 5 = h_i h a 5 := fun a ha => by
      rw [s4i, (@fq_pt _ _ _ a 5 _ _ F3 (by omega) (by decide)).2.1, s2i, (@fq_pt _ _ _ a 5 _ _ F1 ha (by decide)).2.1]
    have pr : ∀ a j, a < 16 + h_n h → a ≠ m → j < 1000 → h_r h4 a j = h_r h a j := fun a j ha hn hj => by
      rw [s4r a j (fun z => hn z.1), (@fq_pt _ _ _ a j _ _ F3 (by omega) hj).2.2, s2r a j (fun z => hn z.1), (@fq_pt _ _ _ a j _ _ F1 ha hj).2.2]
    have r40 : h_r h4 m 0 = 16 + h_n h := by
      rw [s4r m 0 (fun z => by have := z.2; omega), (@fq_pt _ _ _ m 0 _ _ F3 (by omega) (by decide)).2.2, s20]
    have kN : (h_k h4 (16 + h_n h)).2 = 2 * (h_k h (h_r h m 0)).2 := by
      rw [s4k, (@fq_pt _ _ _ (16 + h_n h) 0 _ _ F3 (by omega) (by decide)).1, s2k]
      exact el1
    have kN2 : (h_k h4 (16 + h_n h2)).2 = 2 * (h_k h (h_r h m 1)).2 := by
      rw [s4k, el3, kl]
    have i5 := pi m ml
    have n4 : t_nd (m_u (m_u ρ (16 + h_n h) 40) (16 + h_n h2) 41) h4 := fun a ha => by
      have x2 : a ≠ 16 + h_n h2 := fun z => by rw [z, m_uE] at ha; rcases ha with e | e <;> cases e
      rw [m_uN _ _ _ _ x2] at ha
      have x1 : a ≠ 16 + h_n h := fun z => by rw [z, m_uE] at ha; rcases ha with e | e <;> cases e
      rw [m_uN _ _ _ _ x1] at ha
      have al : a < 16 + h_n h := (ht.2 a (by rcases ha with e | e <;> (rw [e]; decide))).1
      obtain ⟨y1, y2⟩ := n1 a ha
      by_cases e : a = m
      · subst e
        rw [s41, r40, kN, kN2, i5]
        omega
      · have w1 : h_r h a 1 < 16 + h_n h ∧ h_r h a 0 < 16 + h_n h := by
          rcases ha with q | q
          · have u1 := (th_rf ht (R := 39) (by decide) rfl q (k := 1) rfl (fun z => by cases z)).2
            have u0 := (th_rf ht (R := 39) (by decide) rfl q (k := 0) rfl (fun z => by cases z)).2
            exact ⟨(ht.2 _ (by rw [u1]; decide)).1, (ht.2 _ (by rw [u0]; decide)).1⟩
          · have u1 := (th_rf ht (R := 48) (by decide) rfl q (k := 1) rfl (fun z => by cases z)).2
            have u0 := (th_rf ht (R := 48) (by decide) rfl q (k := 0) rfl (fun z => by cases z)).2
            exact ⟨(ht.2 _ (by rw [u1]; decide)).1, (ht.2 _ (by rw [u0]; decide)).1⟩
        rw [pr a 1 al e (by decide), pr a 0 al e (by decide), pk _ w1.1, pk _ w1.2, pi a al]
        exact ⟨y1, y2⟩
    have F4 : FQ ρ (m_u (m_u ρ (16 + h_n h) 40) (16 + h_n h2) 41) [(40, 1002), (41, 1002), (48, 0), (48, 1), (1000, 1002)] h h4 := (((F1.mono (by decide +kernel)).trans (Q2.mono (by decide +kernel))).trans (F3.mono (by decide +kernel))).trans (Q4.mono (by decide +kernel))
    have R4 : t_rm (m_u (m_u ρ (16 + h_n h) 40) (16 + h_n h2) 41) h4 := rm_grow (n := m) (L := (h_k h (h_r h m 1)).2) ht F4 (by decide +kernel) (Or.inr hm) rfl (by omega) (by rw [kl] at ez3; omega) (by rw [s41]; omega) (by rw [s41, kN2]) L64 (fun a hn ha _ => pr a 1 ha hn (by decide)) n2
    refine c_mk48 T4 hm2 n4 R4 (by rw [s41, kN2, i5]; omega) (by rw [i5]; exact m1) e0 e1 e2 (fun x h6 h' f1 f2 t k1 k2 q1 q2 => g _ x h' (((F4.mono (by decide +kernel)).trans (f1.fq.mono (by decide +kernel))).trans (f2.fq.mono (by decide +kernel))) t k1 k2 (by rw [q1, i5]) (by rw [q2, i5]))
end
