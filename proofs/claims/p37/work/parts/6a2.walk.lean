section
variable {ρ : Nat → Nat} {h h0 : MH} {m : Nat}
theorem w_in (ht0 : TH c_sp ρ h0) (hm : ρ m = 49) (sh : p_sh (v_n h0 m) (v_rk h0 m) (v_bl h0 m)) {W v w : Nat} (hW : W ≤ 63) {Q : Option Value → MH → Prop} {vx : Int32} (hv : vx.toInt = (v : Int)) (cont : ∀ (lv' : List (Nat × Value)) (h' : MH) (t' : Nat) (tx' : Int32), TH c_sp ρ h' → FR ρ w_W h0 h' → m_lk lv' 0 = some (.ref m) → m_lk lv' 2 = some (.int tx') → tx'.toInt = (t' : Int) → (h_i h' m 26).toInt = (w : Int) → w_J (v_n h0 m) (v_rk h0 m) (w_P h' m) (w_U h' m) (w_D h' m) W t' (w + 1) → HJ 220 148 lv' [] h' Q) : ∀ (d : Nat) (lv : List (Nat × Value)) (h : MH) (t k : Nat) (tx kx : Int32), v_rk h0 m v ≤ (k : Int) + d → TH c_sp ρ h → FR ρ w_W h0 h → m_lk lv 0 = some (.ref m) → m_lk lv 2 = some (.int tx) → tx.toInt = (t : Int) → m_lk lv 3 = some (.int vx) → m_lk lv 4 = some (.int kx) → kx.toInt = (k : Int) → (h_i h m 26).toInt = (w : Int) → w_K (v_n h0 m) (v_rk h0 m) (w_P h m) (w_U h m) (w_D h m) W t k v w → HJ 220 100 lv [] h Q := by
  intro d
  induction d with
  | zero =>
    intro lv h t k tx kx hd ht f e0 e2 ht2 e3 e4 hk hw q
    exact w_in1 ht0 hm sh hW hv ht f e0 e2 ht2 e3 e4 hk hw q (fun hn => cont lv h t tx ht f e0 e2 ht2 hw (w_out q hn)) (fun _ _ _ _ hlt => by omega)
  | succ d ih =>
    intro lv h t k tx kx hd ht f e0 e2 ht2 e3 e4 hk hw q
    exact w_in1 ht0 hm sh hW hv ht f e0 e2 ht2 e3 e4 hk hw q (fun hn => cont lv h t tx ht f e0 e2 ht2 hw (w_out q hn)) (fun lv2 h2 tx2 kx2 _ i1 i2 i3 i4 i5 i6 i7 i8 i9 i10 => ih lv2 h2 (t + 1) (k + 1) tx2 kx2 (by omega) i1 i2 i3 i4 i5 i6 i7 i8 i9 i10)
theorem i_m1 {t : Nat} {tx : Int32} (h : tx.toInt = ((t + 1 : Nat) : Int)) (h1 : t < 1000000) : (tx + Int32.ofInt (-1)).toInt = (t : Int) := by
  have e1 : (Int32.ofInt (-1)).toInt = -1 := by decide
  rw [i_add _ _ (by rw [e1, h]; omega) (by rw [e1, h]; omega), e1, h]
  omega
theorem w_el {R j : Nat} {rs : RS} {p : Int × Int} {a L : Nat} (ht : TH c_sp ρ h) (ha : ρ a = R) (hR : R ≠ 0) (hs : c_sp[R]? = some rs) (hf : r_ft rs j = some (.inl p)) (hl : (h_k h a).2 = L) (hj : j < L) : p.1 ≤ (h_i h a j).toInt ∧ (h_i h a j).toInt ≤ p.2 := (t_spec ht hR hs ha).2.2.2 j (.inl p) hf (fun _ => by rw [hl]; exact hj)
theorem w_fin {Q : Option Value → MH → Prop} {lv : List (Nat × Value)} {tx : Int32} (ht : TH c_sp ρ h) (hm : ρ m = 49) (f : FR ρ w_W h0 h) (e0 : m_lk lv 0 = some (.ref m)) (e2 : m_lk lv 2 = some (.int tx)) (ht2 : tx.toInt = ((0 : Nat) : Int)) (fin : Q none h) : HJ 220 16 lv [] h Q := by
  obtain ⟨k27, l27, g27, r27⟩ := w_ar (k := 27) (R := 63) ht hm rfl (by decide) rfl ⟨rfl, rfl⟩
  obtain ⟨k28, l28, g28, r28⟩ := w_ar (k := 28) (R := 64) ht hm rfl (by decide) rfl ⟨rfl, rfl⟩
  obtain ⟨k29, l29, g29, r29⟩ := w_ar (k := 29) (R := 65) ht hm rfl (by decide) rfl ⟨rfl, rfl⟩
  obtain ⟨k30, l30, g30, r30⟩ := w_ar (k := 30) (R := 66) ht hm rfl (by decide) rfl ⟨rfl, rfl⟩
  obtain ⟨k31, l31, g31, r31⟩ := w_ar (k := 31) (R := 67) ht hm rfl (by decide) rfl ⟨rfl, rfl⟩
  obtain ⟨k22, l22, g22, r22⟩ := w_ar (k := 22) (R := 59) ht hm rfl (by decide) rfl ⟨rfl, rfl⟩
  obtain ⟨k23, l23, g23, r23⟩ := w_ar (k := 23) (R := 60) ht hm rfl (by decide) rfl ⟨rfl, rfl⟩
  have km : (h_k h m).1 = 10 := (t_spec ht (R := 49) (by decide) rfl hm).1
  have zz : ¬ 0 < tx.toInt := by omega
  refine wt_b (t := tx) (v := h_i h (h_r h m 30) (tx + Int32.ofInt (-1)).toInt.toNat) (u := h_i h (h_r h m 31) (tx + Int32.ofInt (-1)).toInt.toNat) (f26 := h_i h m 26) (du := h_i h (h_r h m 28) (h_i h (h_r h m 31) (tx + Int32.ofInt (-1)).toInt.toNat).toInt.toNat) km k27 g27 k28 g28 k29 g29 k30 g30 k31 g31 k22 g22 k23 g23 e0 e2 rfl rfl rfl rfl (w_ne hm r27 (by decide)) (w_ne hm r29 (by decide)) (w_ne hm r28 (by decide)) (w_ne r31 r27 (by decide)) (w_ne r28 r27 (by decide)) (w_ne r28 r29 (by decide)) (fun z => absurd z zz) (fun z => absurd z zz) (fun z => ?_) (fun _ => hI_rv rfl rfl fin) (fun z => absurd z zz) (fun z => absurd z zz)
  have u1 : (Int32.ofInt (-1)).toInt = -1 := by decide
  have z : ¬ (h_i h (h_r h m 31) (tx + Int32.ofInt (-1)).toInt.toNat).toInt = (Int32.ofInt (-1)).toInt := z
  rw [u1] at z
  have tm : (tx + Int32.ofInt (-1)).toInt = -1 := by rw [i_add _ _ (by rw [u1]; omega) (by rw [u1]; omega), u1, ht2]; rfl
  have tm2 : (tx + Int32.ofInt (-1)).toInt.toNat = 0 := by rw [tm]; rfl
  rw [tm2] at z ⊢
  have uT : (-1 : Int) ≤ (h_i h (h_r h m 31) 0).toInt ∧ (h_i h (h_r h m 31) 0).toInt ≤ 62 := w_el (p := (-1, 62)) ht r31 (by decide) rfl rfl l31 (by decide)
  clear tm tm2
  rw [l28]
  omega
theorem w_mid (ht0 : TH c_sp ρ h0) (hm : ρ m = 49) (sh : p_sh (v_n h0 m) (v_rk h0 m) (v_bl h0 m)) {W : Nat} (hW : W ≤ 63) {Q : Option Value → MH → Prop} {lv : List (Nat × Value)} {t w : Nat} {tx : Int32} (ht : TH c_sp ρ h) (f : FR ρ w_W h0 h) (e0 : m_lk lv 0 = some (.ref m)) (e2 : m_lk lv 2 = some (.int tx)) (ht2 : tx.toInt = ((t + 1 : Nat) : Int)) (hw : (h_i h m 26).toInt = (w : Int)) (q : w_J (v_n h0 m) (v_rk h0 m) (w_P h m) (w_U h m) (w_D h m) W (t + 1) w) (ih : ∀ (lv' : List (Nat × Value)) (h' : MH) (t' : Nat) (tx' : Int32), TH c_sp ρ h' → FR ρ w_W h0 h' → m_lk lv' 0 = some (.ref m) → m_lk lv' 2 = some (.int tx') → tx'.toInt = (t' : Int) → (h_i h' m 26).toInt = ((w + 1 : Nat) : Int) → w_J (v_n h0 m) (v_rk h0 m) (w_P h' m) (w_U h' m) (w_D h' m) W t' (w + 1) → HJ 220 16 lv' [] h' Q) : HJ 220 16 lv [] h Q := by
  obtain ⟨k27, l27, g27, r27⟩ := w_ar (k := 27) (R := 63) ht hm rfl (by decide) rfl ⟨rfl, rfl⟩
  obtain ⟨k28, l28, g28, r28⟩ := w_ar (k := 28) (R := 64) ht hm rfl (by decide) rfl ⟨rfl, rfl⟩
  obtain ⟨k29, l29, g29, r29⟩ := w_ar (k := 29) (R := 65) ht hm rfl (by decide) rfl ⟨rfl, rfl⟩
  obtain ⟨k30, l30, g30, r30⟩ := w_ar (k := 30) (R := 66) ht hm rfl (by decide) rfl ⟨rfl, rfl⟩
  obtain ⟨k31, l31, g31, r31⟩ := w_ar (k := 31) (R := 67) ht hm rfl (by decide) rfl ⟨rfl, rfl⟩
  obtain ⟨k22, l22, g22, r22⟩ := w_ar (k := 22) (R := 59) ht hm rfl (by decide) rfl ⟨rfl, rfl⟩
  obtain ⟨k23, l23, g23, r23⟩ := w_ar (k := 23) (R := 60) ht hm rfl (by decide) rfl ⟨rfl, rfl⟩
  have km : (h_k h m).1 = 10 := (t_spec ht (R := 49) (by decide) rfl hm).1
  have nn := wk_nn ht0 hm
  obtain ⟨b1, b2⟩ := w_JB q hW
  have tI := i_m1 ht2 (by omega)
  have tN : (tx + Int32.ofInt (-1)).toInt.toNat = t := by rw [tI]; exact Int.toNat_natCast t
  have wN : (h_i h m 26).toInt.toNat = w := by rw [hw]; exact Int.toNat_natCast w
  obtain ⟨y, hy⟩ : ∃ y, tx + Int32.ofInt (-1) = y := ⟨_, rfl⟩
  rw [hy] at tI tN
  have uT : (-1 : Int) ≤ w_U h m t ∧ w_U h m t ≤ 62 := w_el (p := (-1, 62)) ht r31 (by decide) rfl rfl l31 (by omega)
  have u1 : (Int32.ofInt (-1)).toInt = -1 := by decide
  obtain ⟨⟨p1, p2, p3⟩, p4⟩ := q.1 t (by omega)
  have vE : (h_i h (h_r h m 30) t).toInt = ((w_P h m t).toNat : Int) := by
    show w_P h m t = _
    omega
  have rk0 := (sh (w_P h m t).toNat (by omega)).1
  have dU : 0 ≤ w_D h m (w_U h m t).toNat ∧ w_D h m (w_U h m t).toNat ≤ 5 := w_el (p := (0, 5)) ht r28 (by decide) rfl rfl l28 (by omega)
  have n1 : m ≠ h_r h m 27 := w_ne hm r27 (by decide)
  have n2 : m ≠ h_r h m 29 := w_ne hm r29 (by decide)
  have n3 : m ≠ h_r h m 28 := w_ne hm r28 (by decide)
  have mid : ∀ dx : Int32, (w_U h m t = -1 → dx.toInt = 0) → (w_U h m t ≠ -1 → dx.toInt = w_D h m (w_U h m t).toNat + 1) → HJ 220 100 (m_s1 (m_s1 (m_s1 lv 2 (.int y)) 3 (.int (h_i h (h_r h m 30) t))) 4 (.int (Int32.ofInt 0))) [] (h_si (h_si (h_si h (h_r h m 27) w (h_i h (h_r h m 30) t)) (h_r h m 29) w (h_i h (h_r h m 31) t)) (h_r h m 28) w dx) Q := fun dx d1 d2 => by
    have dxr : 0 ≤ dx.toInt ∧ dx.toInt ≤ 5 := by
      by_cases z : w_U h m t = -1
      · rw [d1 z]
        omega
      · rw [d2 z]
        rcases p4 with z2 | z2
        · exact absurd z2 z
        · omega
    have t1 : TH c_sp ρ (h_si h (h_r h m 27) w (h_i h (h_r h m 30) t)) := s_siT ht (R := 63) (p := (0, 15999)) (by decide) rfl r27 rfl (by show (0 : Int) ≤ _; omega) (by show _ ≤ (15999 : Int); omega)
    have t2 : TH c_sp ρ (h_si (h_si h (h_r h m 27) w (h_i h (h_r h m 30) t)) (h_r h m 29) w (h_i h (h_r h m 31) t)) := s_siT t1 (R := 65) (p := (-1, 62)) (by decide) rfl r29 rfl uT.1 uT.2
    have t3 : TH c_sp ρ (h_si (h_si (h_si h (h_r h m 27) w (h_i h (h_r h m 30) t)) (h_r h m 29) w (h_i h (h_r h m 31) t)) (h_r h m 28) w dx) := s_siT t2 (R := 64) (p := (0, 5)) (by decide) rfl r28 rfl dxr.1 dxr.2
    have f3 := ((f.trans (s_siF (x := h_i h (h_r h m 30) t) (k := w) (h := h) r27 (Or.inr (by decide)))).trans (s_siF (x := h_i h (h_r h m 31) t) (k := w) r29 (Or.inr (by decide)))).trans (s_siF (x := dx) (k := w) r28 (Or.inr (by decide)))
    refine w_in ht0 hm sh hW (v := (w_P h m t).toNat) (w := w) vE (fun lv' h' t' tx' i1 i2 i3 i4 i5 i6 i7 => ?_) 6 _ _ t 0 y (Int32.ofInt 0) (by omega) t3 f3 (lk_k1 (lk_k1 (lk_k1 e0 (by decide) (Or.inl rfl)) (by decide) (Or.inl rfl)) (by decide) (Or.inl rfl)) (lk_k1 (lk_k1 (lk_s1 _ _) (by decide) (Or.inl rfl)) (by decide) (Or.inl rfl)) tI (lk_k1 (lk_s1 _ _) (by decide) (Or.inl rfl)) (lk_s1 _ _) (by decide) (by rw [si_f n3, si_f n2, si_f n1]; exact hw) ?_
    · have k1 : (h_k h' m).1 = 10 := (t_spec i1 (R := 49) (by decide) rfl hm).1
      refine wt_d (f26 := h_i h' m 26) k1 i3 rfl (ih lv' _ t' tx' ?_ (i2.trans (s_siF hm (Or.inl (by decide)))) i3 i4 i5 ?_ ?_)
      · have z := i_p1 i6 (by omega)
        exact s_siT i1 (R := 49) (p := (0, 63)) (by decide) rfl hm rfl (by show (0 : Int) ≤ _; omega) (by show _ ≤ (63 : Int); omega)
      · rw [si_s]
        exact i_p1 i6 (by omega)
      · have a30 := (th_rf (R := 49) i1 (by decide) rfl hm (k := 30) (R2 := 66) rfl (fun z => by cases z)).2
        have a31 := (th_rf (R := 49) i1 (by decide) rfl hm (k := 31) (R2 := 67) rfl (fun z => by cases z)).2
        have a28 := (th_rf (R := 49) i1 (by decide) rfl hm (k := 28) (R2 := 64) rfl (fun z => by cases z)).2
        have x1 : w_P (h_si h' m 26 (h_i h' m 26 + Int32.ofInt 1)) m = w_P h' m := funext (fun j => congrArg Int32.toInt (si_f (w_ne a30 hm (by decide))))
        have x2 : w_U (h_si h' m 26 (h_i h' m 26 + Int32.ofInt 1)) m = w_U h' m := funext (fun j => congrArg Int32.toInt (si_f (w_ne a31 hm (by decide))))
        have x3 : w_D (h_si h' m 26 (h_i h' m 26 + Int32.ofInt 1)) m = w_D h' m := funext (fun j => congrArg Int32.toInt (si_f (w_ne a28 hm (by decide))))
        rw [x1, x2, x3]
        exact i7
    · have x1 : w_P (h_si (h_si (h_si h (h_r h m 27) w (h_i h (h_r h m 30) t)) (h_r h m 29) w (h_i h (h_r h m 31) t)) (h_r h m 28) w dx) m = w_P h m := funext (fun j => congrArg Int32.toInt ((si_f (w_ne r30 r28 (by decide))).trans ((si_f (w_ne r30 r29 (by decide))).trans (si_f (w_ne r30 r27 (by decide))))))
      have x2 : w_U (h_si (h_si (h_si h (h_r h m 27) w (h_i h (h_r h m 30) t)) (h_r h m 29) w (h_i h (h_r h m 31) t)) (h_r h m 28) w dx) m = w_U h m := funext (fun j => congrArg Int32.toInt ((si_f (w_ne r31 r28 (by decide))).trans ((si_f (w_ne r31 r29 (by decide))).trans (si_f (w_ne r31 r27 (by decide))))))
      rw [x1, x2]
      have xw : w_D (h_si (h_si (h_si h (h_r h m 27) w (h_i h (h_r h m 30) t)) (h_r h m 29) w (h_i h (h_r h m 31) t)) (h_r h m 28) w dx) m w = dx.toInt := congrArg Int32.toInt si_s
      refine w_pop sh q (by omega) (fun j hj => ?_) ⟨fun z => by rw [xw, d1 z], fun z => by rw [xw, d2 z]⟩ dU.1
      exact congrArg Int32.toInt ((si_n hj).trans ((si_f (w_ne r28 r29 (by decide))).trans (si_f (w_ne r28 r27 (by decide)))))
  refine wt_b (t := tx) (v := h_i h (h_r h m 30) t) (u := h_i h (h_r h m 31) t) (f26 := h_i h m 26) (du := h_i h (h_r h m 28) (h_i h (h_r h m 31) t).toInt.toNat) km k27 g27 k28 g28 k29 g29 k30 g30 k31 g31 k22 g22 k23 g23 e0 e2 rfl (by rw [hy, tN]) (by rw [hy, tN]) rfl n1 n2 n3 (w_ne r31 r27 (by decide)) (w_ne r28 r27 (by decide)) (w_ne r28 r29 (by decide)) (fun _ => by rw [hy, l30, l31]; omega) (fun _ => by rw [l27, l28, l29]; omega) (fun z => ?_) (fun z => by omega) (fun _ z => ?_) (fun _ z => ?_)
  · have z : ¬ w_U h m t = (Int32.ofInt (-1)).toInt := z
    rw [u1] at z
    rw [l28]
    show 0 ≤ w_U h m t ∧ w_U h m t < ((64 : Nat) : Int)
    omega
  · have z : ¬ ¬ w_U h m t = (Int32.ofInt (-1)).toInt := z
    rw [u1] at z
    rw [wN, hy]
    exact mid _ (fun _ => by decide) (fun z2 => absurd z2 z)
  · have z : ¬ w_U h m t = (Int32.ofInt (-1)).toInt := z
    rw [u1] at z
    rw [wN, hy]
    refine mid _ (fun z2 => absurd z2 z) (fun _ => ?_)
    have e1 : (Int32.ofInt 1).toInt = 1 := by decide
    rw [i_add _ _ (by rw [e1]; show _ ≤ w_D h m (w_U h m t).toNat + 1; omega) (by rw [e1]; show w_D h m (w_U h m t).toNat + 1 ≤ _; omega), e1]
    rfl
theorem w_out1 (ht0 : TH c_sp ρ h0) (hm : ρ m = 49) (sh : p_sh (v_n h0 m) (v_rk h0 m) (v_bl h0 m)) {W : Nat} (hW : W ≤ 63) {Q : Option Value → MH → Prop} (fin : ∀ h', TH c_sp ρ h' → FR ρ w_W h0 h' → (h_i h' m 26).toInt = (W : Int) → Q none h') : ∀ (d : Nat) (lv : List (Nat × Value)) (h : MH) (t w : Nat) (tx : Int32), W = w + d → TH c_sp ρ h → FR ρ w_W h0 h → m_lk lv 0 = some (.ref m) → m_lk lv 2 = some (.int tx) → tx.toInt = (t : Int) → (h_i h m 26).toInt = (w : Int) → w_J (v_n h0 m) (v_rk h0 m) (w_P h m) (w_U h m) (w_D h m) W t w → HJ 220 16 lv [] h Q := by
  intro d
  induction d with
  | zero =>
    intro lv h t w tx hd ht f e0 e2 ht2 hw q
    cases t with
    | succ t =>
      have g := w_Sg (rk := v_rk h0 m) (P := w_P h m) (t + 1)
      have q2 := q.2
      omega
    | zero => exact w_fin ht hm f e0 e2 ht2 (fin h ht f (by omega))
  | succ d ih =>
    intro lv h t w tx hd ht f e0 e2 ht2 hw q
    cases t with
    | zero =>
      have q2 := q.2
      rw [w_S] at q2
      omega
    | succ t =>
      exact w_mid ht0 hm sh hW ht f e0 e2 ht2 hw q (fun lv' h' t' tx' i1 i2 i3 i4 i5 i6 i7 => ih lv' h' t' (w + 1) tx' (by omega) i1 i2 i3 i4 i5 i6 i7)
end
