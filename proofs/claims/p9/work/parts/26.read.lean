-- the checker's readings of the heap
def c_lk : CA → (Nat × (Nat × Nat)) → Option AT
  | [], _ => none
  | q :: r, k => if q.1 = k then some q.2 else c_lk r k
theorem c_lkm : ∀ {ca : CA} {k : Nat × (Nat × Nat)} {t : AT}, c_lk ca k = some t → (k, t) ∈ ca
  | [], _, _, h => by cases h
  | q :: r, k, t, h => by
    rw [c_lk] at h
    by_cases hq : q.1 = k
    · rw [if_pos hq] at h
      cases h
      rw [← hq]
      exact List.mem_cons_self
    · rw [if_neg hq] at h
      exact List.mem_cons_of_mem _ (c_lkm h)
-- a new int from a field, with its range, and the field known by it (if it is to be: kn)
def t_ri (pc : Nat) (S : AST) (st : List AT) (kn : Bool) (o R k : Nat) (lo hi : Int) : Option (List AO) := if f_S (a_nx S) (w_fs S (a_lv S) st) = true ∧ o ≠ a_nx S ∧ k < 5000 then some [(pc, w_nx (w_fs (w_ca (w_iv S ((a_nx S, (lo, hi)) :: a_iv S)) (if kn then ((o, (R, k)), .inl (le_s (a_nx S))) :: a_ca S else a_ca S)) (a_lv S) (.inl (le_s (a_nx S)) :: st)) (a_nx S + 1))] else none
def t_rr (pc : Nat) (S : AST) (st : List AT) (kn : Bool) (o R k R2 : Nat) (nn : Bool) : Option (List AO) := if f_S (a_nx S) (w_fs S (a_lv S) st) = true ∧ o ≠ a_nx S ∧ k < 5000 then some [(pc, w_nx (w_fs (w_ca S (if kn then ((o, (R, k)), .inr (.inr (a_nx S, (R2, nn)))) :: a_ca S else a_ca S)) (a_lv S) (.inr (.inr (a_nx S, (R2, nn))) :: st)) (a_nx S + 1))] else none
section
variable {sp : List RS} {ρ : Nat → Nat} {W : List (Nat × Nat)} {K : List Int} {KA : List Nat} {S : AST} {lv' : List (Nat × Value)} {st' : List Value} {h : MH} {pc : Nat} {st : List AT} {σ : Nat → Int} {α : Nat → Nat}
theorem q_ri {st0 : List Value} {kn : Bool} {o R k : Nat} {lo hi : Int} {x : Int32} (ht : TH sp ρ h) (hw : TW ρ K KA S lv' st0 h σ α) (hs : t_sk σ α ρ st st') (h1 : lo ≤ x.toInt) (h2 : x.toInt ≤ hi) (hk : kn = true → (α o ≠ 0 ∧ ρ (α o) = R) ∧ (if k = 1000 then ((h_k h (α o)).2 : Int) = x.toInt else (h_i h (α o) k).toInt = x.toInt)) : T_P sp ρ W K KA (t_ri pc S st kn o R k lo hi) h (m_go pc lv' (.int x :: st') h) := fun L e9 => by
  unfold t_ri at e9
  split at e9
  · next hf =>
    cases (Option.some.inj e9)
    have hw2 := f_SS x.toInt 0 hf.1 (q_fs hw hw.2.2.2.2.2.1 hs)
    refine ⟨pc, lv', _, h, rfl, FR.refl _ _ _, _, List.mem_singleton.mpr rfl, ht, s_up σ (a_nx S) x.toInt, o_up α (a_nx S) 0, ?_⟩
    obtain ⟨w1, w2, w3, w4, w5, w6, w7⟩ := hw2
    have hn : s_up σ (a_nx S) x.toInt (a_nx S) = x.toInt := if_pos rfl
    have ho : o_up α (a_nx S) 0 o = α o := if_neg hf.2.1
    refine ⟨fun q hq => ?_, w2, ?_, w4, w5, w6, ⟨x, rfl, by rw [le_sE, hn]⟩, w7⟩
    · rcases List.mem_cons.mp hq with e | hq
      · rw [e]
        show lo ≤ s_up σ (a_nx S) x.toInt (a_nx S) ∧ s_up σ (a_nx S) x.toInt (a_nx S) ≤ hi
        rw [hn]
        exact ⟨h1, h2⟩
      · exact w1 q hq
    · cases kn with
      | false => exact w3
      | true =>
        obtain ⟨g1, g2⟩ := hk rfl
        intro q hq
        rcases List.mem_cons.mp hq with e | hq
        · rw [e]
          refine ⟨?_, ?_⟩
          · show o_up α (a_nx S) 0 o ≠ 0 ∧ ρ (o_up α (a_nx S) 0 o) = R
            rw [ho]
            exact g1
          · show if k = 1000 then ((h_k h (o_up α (a_nx S) 0 o)).2 : Int) = le_ev (s_up σ (a_nx S) x.toInt) (le_s (a_nx S)) else (h_i h (o_up α (a_nx S) 0 o) (t_kx (s_up σ (a_nx S) x.toInt) k)).toInt = le_ev (s_up σ (a_nx S) x.toInt) (le_s (a_nx S))
            rw [ho, le_sE, hn, t_kxl hf.2.2]
            exact g2
        · exact w3 q hq
  · cases e9
theorem q_rr {st0 : List Value} {kn : Bool} {o R k R2 a : Nat} {nn : Bool} (ht : TH sp ρ h) (hw : TW ρ K KA S lv' st0 h σ α) (hs : t_sk σ α ρ st st') (hr : t_rf ρ R2 nn a) (hk : kn = true → (α o ≠ 0 ∧ ρ (α o) = R) ∧ h_r h (α o) k = a) : T_P sp ρ W K KA (t_rr pc S st kn o R k R2 nn) h (m_go pc lv' (.ref a :: st') h) := fun L e9 => by
  unfold t_rr at e9
  split at e9
  · next hf =>
    cases (Option.some.inj e9)
    have hw2 := f_SS 0 a hf.1 (q_fs hw hw.2.2.2.2.2.1 hs)
    refine ⟨pc, lv', _, h, rfl, FR.refl _ _ _, _, List.mem_singleton.mpr rfl, ht, s_up σ (a_nx S) 0, o_up α (a_nx S) a, ?_⟩
    obtain ⟨w1, w2, w3, w4, w5, w6, w7⟩ := hw2
    have hn : o_up α (a_nx S) a (a_nx S) = a := if_pos rfl
    have ho : o_up α (a_nx S) a o = α o := if_neg hf.2.1
    refine ⟨w1, w2, ?_, w4, w5, w6, ⟨?_, ?_⟩, w7⟩
    · cases kn with
      | false => exact w3
      | true =>
        obtain ⟨g1, g2⟩ := hk rfl
        intro q hq
        rcases List.mem_cons.mp hq with e | hq
        · rw [e]
          refine ⟨?_, ?_, ?_⟩
          · show o_up α (a_nx S) a o ≠ 0 ∧ ρ (o_up α (a_nx S) a o) = R
            rw [ho]
            exact g1
          · show h_r h (o_up α (a_nx S) a o) (t_kx (s_up σ (a_nx S) 0) k) = o_up α (a_nx S) a (a_nx S)
            rw [ho, hn, t_kxl hf.2.2]
            exact g2
          · show t_rf ρ R2 nn (o_up α (a_nx S) a (a_nx S))
            rw [hn]
            exact hr
        · exact w3 q hq
    · show Value.ref a = Value.ref (o_up α (a_nx S) a (a_nx S))
      rw [hn]
    · show t_rf ρ R2 nn (o_up α (a_nx S) a (a_nx S))
      rw [hn]
      exact hr
  · cases e9
theorem t_nn {R a : Nat} (h : t_rf ρ R true a) : a ≠ 0 ∧ ρ a = R := by
  rcases h with ⟨-, h⟩ | h
  · cases h
  · exact ⟨h.1, h.2.2⟩
theorem t_spec {R a : Nat} {rs : RS} (ht : TH sp ρ h) (hR : R ≠ 0) (hsp : sp[R]? = some rs) (ha : ρ a = R) : t_cell ρ rs h a := by
  obtain ⟨-, rs2, h1, h2⟩ := ht.2 a (by rw [ha]; exact hR)
  rw [ha, hsp] at h1
  cases h1
  exact h2
end
