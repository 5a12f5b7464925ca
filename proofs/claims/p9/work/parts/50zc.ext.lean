-- A TEXT HANGS ON ITS OWN BYTES ALONE
section
variable {T U : Nat → Int} {n : Nat}
theorem rd_goX {f : Int → Bool} (h : ∀ j, j < n → T j = U j) : ∀ (d p : Nat), p + d ≤ n → rd_go f T d p = rd_go f U d p
  | 0, _, _ => rfl
  | d + 1, p, hp => by rw [rd_go, rd_go, h p (by omega), rd_goX h d (p + 1) (by omega)]
theorem rd_ibX {s b : Nat} {l : List Int} (h : ∀ j, j < n → T j = U j) (bn : b ≤ n) : rd_ib T s b l = rd_ib U s b l := by
  refine Bool.eq_iff_iff.mpr ?_
  have e : rd_is T s b l ↔ rd_is U s b l := by
    rw [rd_isT, rd_isT]
    exact ⟨fun k => ⟨k.1, fun i hi => by rw [← h _ (by have := k.1; omega)]; exact k.2 i hi⟩, fun k => ⟨k.1, fun i hi => by rw [h _ (by have := k.1; omega)]; exact k.2 i hi⟩⟩
  exact e
theorem rd_kdX {s b : Nat} (h : ∀ j, j < n → T j = U j) (bn : b ≤ n) : ∀ k : Nat, rd_kd T s b k = rd_kd U s b k
  | 0 => rfl
  | k + 1 => by rw [rd_kd, rd_kd, rd_ibX h bn, rd_kdX h bn k]
theorem rd_tkX {p : Nat} (h : ∀ j, j < n → T j = U j) (pn : p ≤ n) : rd_tk T n p = rd_tk U n p := by
  have e := rd_goX (f := rd_ws) h (n - p) p (by omega)
  have hb := rd_goB (f := rd_ws) (T := T) (n - p) p
  generalize hs : rd_go rd_ws T (n - p) p = s at e hb
  by_cases sn : n ≤ s
  · rw [rd_tk0 (T := T) (by omega), rd_tk0 (T := U) (by omega), hs, ← e]
  · have hT := h s (by omega)
    by_cases ha : rd_al (T s) = true
    · have ea := rd_goX (f := rd_al) h (n - s) s (by omega)
      have ba := rd_goB (f := rd_al) (T := T) (n - s) s
      rw [rd_tk1 hs (by omega) ha, rd_tk1 (T := U) e.symm (by omega) (by rw [← hT]; exact ha), ← ea, rd_kdX h (by omega)]
    · have ha : rd_al (T s) = false := by simpa using ha
      by_cases hd : rd_dg (T s) = true
      · have ed := rd_goX (f := rd_dg) h (n - s) s (by omega)
        have bd := rd_goB (f := rd_dg) (T := T) (n - s) s
        have pd := rd_goP (n := n) (by omega) hd
        rw [rd_tk2 hs (by omega) ha hd, rd_tk2 (T := U) e.symm (by omega) (by rw [← hT]; exact ha) (by rw [← hT]; exact hd), ← ed]
        have nb : rd_nb T s (rd_go rd_dg T (n - s) s) = rd_nb U s (rd_go rd_dg T (n - s) s) := by
          unfold rd_nb
          by_cases e1 : rd_go rd_dg T (n - s) s = s + 1
          · rw [if_pos e1, if_pos e1, hT]
          · rw [if_neg e1, if_neg e1, hT, h (s + 1) (by omega)]
        rw [nb]
      · have hd : rd_dg (T s) = false := by simpa using hd
        rw [rd_tk3 hs (by omega) ha hd, rd_tk3 (T := U) e.symm (by omega) (by rw [← hT]; exact ha) (by rw [← hT]; exact hd), hT]
theorem rd_numsX (h : ∀ j, j < n → T j = U j) : ∀ (l : List Int) (i : Nat) (S : RLS), ls_p S ≤ n → rd_nums T n l i S = rd_nums U n l i S
  | [], _, _, _ => rfl
  | x :: r, i, S, hp => by
    have tb := (rd_tkB (T := T) (n := n) (p := ls_p S) hp).1
    rw [rd_nums, rd_nums, ← rd_tkX h hp]
    split
    · exact rd_numsX h r (i + 1) _ (by rw [rd_numE.1]; exact tb.2.2)
    · rfl
theorem rd_lineP {S : RLS} (hp : ls_p S ≤ n) : ls_p (rd_line T n S).2 ≤ n := by
  have tb := (rd_tkB (T := T) (n := n) (p := ls_p S) hp).1
  unfold rd_line
  split
  · exact tb.2.2
  · split
    · have pr := (rd_numsP (T := T) (n := n) (rd_lim (rt_v (rd_tk T n (ls_p S)))) 0 (rd_beg (rd_tk T n (ls_p S)) S) (by rw [rd_begE.1]; exact tb.2.2)).2
      split
      · have tb2 := (rd_tkB (T := T) (n := n) (p := ls_p (rd_nums T n (rd_lim (rt_v (rd_tk T n (ls_p S)))) 0 (rd_beg (rd_tk T n (ls_p S)) S)).2) pr).1
        unfold rd_mark
        split
        · exact tb2.2.2
        · exact tb2.2.2
      · exact pr
    · exact tb.2.2
theorem rd_lineX {S : RLS} (h : ∀ j, j < n → T j = U j) (hp : ls_p S ≤ n) : rd_line T n S = rd_line U n S := by
  have tb := (rd_tkB (T := T) (n := n) (p := ls_p S) hp).1
  have pb : ls_p (rd_beg (rd_tk T n (ls_p S)) S) ≤ n := by rw [rd_begE.1]; exact tb.2.2
  have pr := (rd_numsP (T := T) (n := n) (rd_lim (rt_v (rd_tk T n (ls_p S)))) 0 (rd_beg (rd_tk T n (ls_p S)) S) pb).2
  unfold rd_line
  rw [← rd_tkX h hp, ← rd_numsX h _ _ _ pb]
  have em : rd_mark T n (rd_nums T n (rd_lim (rt_v (rd_tk T n (ls_p S)))) 0 (rd_beg (rd_tk T n (ls_p S)) S)).2 = rd_mark U n (rd_nums T n (rd_lim (rt_v (rd_tk T n (ls_p S)))) 0 (rd_beg (rd_tk T n (ls_p S)) S)).2 := by
    unfold rd_mark
    rw [← rd_tkX h pr]
  rw [em]
theorem rd_runX (h : ∀ j, j < n → T j = U j) : ∀ (d : Nat) (S : RLS), ls_p S ≤ n → rd_run T n d S = rd_run U n d S
  | 0, _, _ => rfl
  | d + 1, S, hp => by rw [rd_run, rd_run, ← rd_lineX h hp, rd_runX h d _ (rd_lineP hp)]
theorem rd_txX (h : ∀ j, j < n → T j = U j) : rd_tx T n = rd_tx U n := by
  rw [rd_txE, rd_txE, rd_runX h 601 rd_S0 (Nat.zero_le _)]
end
