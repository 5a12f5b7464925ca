-- A CALL BY ITS SUMMARY: what a method wants (a state, tokens), what it writes, what it leaves (states, tokens)
abbrev SM : Type := (AST × List Nat) × (List (Nat × Nat) × List (AST × List Nat))
def CCok (CC : Nat × (Nat × Nat)) (ρ : Nat → Nat) : Prop := t_rf ρ CC.1 true 1 ∧ (∀ a, 2 ≤ a → a < 8 → t_rf ρ CC.2.1 true a) ∧ t_rf ρ CC.2.2 true 15
def V_ok (sp : List RS) (CC : Nat × (Nat × Nat)) (PT : Nat → (Nat → Nat) → MH → Prop) (j : Nat) (m : SM) : Prop := ∀ (ρ : Nat → Nat) (K : List Int) (KA : List Nat) (lv : List (Nat × Value)) (h : MH), CCok CC ρ → TS sp ρ K KA m.1.1 lv [] h → (∀ t ∈ m.1.2, PT t ρ h) → ∃ (n : Nat) (v : Option Value) (h' : MH) (ρ' : Nat → Nat), m_rn n j 0 lv [] h = some (v, h') ∧ FQ ρ ρ' m.2.1 h h' ∧ ∃ P ∈ m.2.2, TS sp ρ' K KA P.1 [] v.toList h' ∧ ∀ t ∈ P.2, PT t ρ' h'
theorem CCok.x {CC : Nat × (Nat × Nat)} {ρ ρ' : Nat → Nat} {W : List (Nat × Nat)} {h h' : MH} (c : CCok CC ρ) (f : FQ ρ ρ' W h h') : CCok CC ρ' := ⟨x_rf f c.1, fun a h1 h2 => x_rf f (c.2.1 a h1 h2), x_rf f c.2.2⟩
def a_args : Nat → List AT → List (Nat × AT)
  | _, [] => []
  | i, v :: vs => (i, v) :: a_args (if a_cat v = 2 then i + 2 else i + 1) vs
section
variable {ρ : Nat → Nat} {σ : Nat → Int} {α : Nat → Nat}
theorem a_argsN : ∀ (n : Nat) (l : List AT) (q : Nat × AT), q ∈ a_args n l → n ≤ q.1
  | _, [], _, h => by cases h
  | n, v :: vs, q, h => by
    rw [a_args] at h
    rcases List.mem_cons.mp h with e | h
    · rw [e]
      exact Nat.le_refl _
    · have := a_argsN _ vs q h
      split at this <;> omega
theorem a_argsS : ∀ (n : Nat) {l : List AT} {v : List Value}, t_sk σ α ρ l v → t_lv σ α ρ (a_args n l) (lv_args n v)
  | _, [], [], _ => fun q hq => by cases hq
  | n, t :: r, x :: q, h => fun p hp => by
    rw [lv_args]
    rw [a_args] at hp
    rw [a_catE h.1]
    rcases List.mem_cons.mp hp with e | hp
    · rw [e, m_lkc, if_pos rfl]
      exact ⟨x, rfl, h.1⟩
    · have hn := a_argsN _ r p hp
      obtain ⟨y, h1, h2⟩ := a_argsS (if a_cat t = 2 then n + 2 else n + 1) h.2 p hp
      refine ⟨y, ?_, h2⟩
      rw [m_lkc, if_neg (show ¬ n = p.1 by split at hn <;> omega)]
      exact h1
  | _, [], _ :: _, h => h.elim
  | _, _ :: _, [], h => h.elim
theorem t_skt : ∀ (n : Nat) {l : List AT} {v : List Value}, t_sk σ α ρ l v → t_sk σ α ρ (l.take n) (v.take n)
  | 0, _, _, _ => trivial
  | _ + 1, [], [], _ => trivial
  | n + 1, _ :: _, _ :: _, h => ⟨h.1, t_skt n h.2⟩
  | _, [], _ :: _, h => h.elim
  | _, _ :: _, [], h => h.elim
theorem t_skd : ∀ (n : Nat) {l : List AT} {v : List Value}, t_sk σ α ρ l v → t_sk σ α ρ (l.drop n) (v.drop n)
  | 0, _, _, h => h
  | _ + 1, [], [], _ => trivial
  | n + 1, _ :: _, _ :: _, h => t_skd n h.2
  | _, [], _ :: _, h => h.elim
  | _, _ :: _, [], h => h.elim
theorem t_ska : ∀ {l : List AT} {v : List Value} {l2 : List AT} {v2 : List Value}, t_sk σ α ρ l v → t_sk σ α ρ l2 v2 → t_sk σ α ρ (l ++ l2) (v ++ v2)
  | [], [], _, _, _, h => h
  | _ :: _, _ :: _, _, _, h, h2 => ⟨h.1, t_ska h.2 h2⟩
  | [], _ :: _, _, _, h, _ => h.elim
  | _ :: _, [], _, _, h, _ => h.elim
theorem t_skr : ∀ {l : List AT} {v : List Value}, t_sk σ α ρ l v → t_sk σ α ρ l.reverse v.reverse
  | [], [], _ => trivial
  | t :: r, x :: q, h => by
    rw [List.reverse_cons, List.reverse_cons]
    exact t_ska (t_skr h.2) ⟨h.1, trivial⟩
  | [], _ :: _, h => h.elim
  | _ :: _, [], h => h.elim
theorem t_skl : ∀ {l : List AT} {v : List Value}, t_sk σ α ρ l v → v.length = l.length
  | [], [], _ => rfl
  | _ :: _, _ :: _, h => by rw [List.length_cons, List.length_cons, t_skl h.2]
  | [], _ :: _, h => h.elim
  | _ :: _, [], h => h.elim
end
def k_ok (kd i j : Nat) : Bool := decide ((j ≠ 900 ∧ j ≠ 901 ∧ ¬ (j = m_jmin ∨ j = m_jmax) ∧ ¬ (j = m_jminl ∨ j = m_jmaxl)) ∧ (0 < j ∧ j < 292 ∧ m_kind j = kd ∧ m_fr j + 1 ≤ m_fr i ∧ 8 + (m_lc j + 11) + m_lo j ≤ m_lo i))
def k_rc (rs : RS) (j : Nat) : Bool := if (m_m j).2.1.cls = "java/lang/String" then decide (rs.1.1 = 40) else decide (m_cnm (rs.1.1 - 1) = (m_m j).2.1.cls ∧ rs.2.1 = true ∧ 0 < rs.1.1 ∧ rs.1.1 < 11)
-- the stack, cut into what is handed over and the rest
def k_sp (sp : List RS) (kd j : Nat) (st : List AT) : Option (List AT × List AT) := if kd = 0 then (if m_na j ≤ st.length ∧ ((st.drop (m_na j)).map a_cat).sum ≤ 8 then some ((st.take (m_na j)).reverse, st.drop (m_na j)) else none) else match st.drop (m_na j) with
  | .inr (.inr (o, (R, true))) :: r => if R = 0 then none else (match sp[R]? with
    | some rs => if m_na j + 1 ≤ st.length ∧ (r.map a_cat).sum ≤ 8 ∧ k_rc rs j = true then some (.inr (.inr (o, (R, true))) :: (st.take (m_na j)).reverse, r) else none
    | none => none)
  | _ => none
section
variable {sp : List RS} {ρ : Nat → Nat} {K : List Int} {KA : List Nat} {S : AST} {lv' : List (Nat × Value)} {st' : List Value} {h : MH} {pc : Nat} {σ : Nat → Int} {α : Nat → Nat}
theorem k_spS {kd i idx nest j : Nat} {as r : List AT} (hm : m_ml i idx = some (nest, j)) (hk : k_ok kd i j = true) (ht : TH sp ρ h) (hw : TW ρ K KA S lv' st' h σ α) (e : k_sp sp kd j (a_st S) = some (as, r)) : ∃ as' r', e_call kd i idx pc lv' st' h = some (.inr (.inr (j, as', r', pc + 3))) ∧ t_sk σ α ρ as as' ∧ t_sk σ α ρ r r' := by
  have hs := hw.2.2.2.2.2.2
  obtain ⟨⟨k1, k2, k3, k4⟩, k5⟩ := of_decide_eq_true hk
  unfold e_call
  rw [hm]
  dsimp only
  rw [if_neg k1, if_neg k2, if_neg k3, if_neg k4, if_pos k5]
  unfold k_sp at e
  have hlen := t_skl hs
  by_cases h0 : kd = 0
  · rw [if_pos h0] at e ⊢
    split at e
    · next hc =>
      cases e
      have h2 := t_skd (m_na j) hs
      rw [if_pos ⟨by omega, by rw [t_ct h2]; exact hc.2⟩]
      exact ⟨_, _, rfl, t_skr (t_skt (m_na j) hs), h2⟩
    · cases e
  · rw [if_neg h0] at e ⊢
    have h2 := t_skd (m_na j) hs
    split at e
    · next o R r0 hd =>
      rw [hd] at h2
      obtain ⟨v, q, hq, ⟨rfl, hrf⟩, hr⟩ := t_sc h2
      obtain ⟨ha0, haR⟩ := t_nn hrf
      dsimp only at ha0 haR
      split at e
      · cases e
      · next hR =>
        split at e
        · next rs hsp =>
          have hcell := t_spec ht hR hsp haR
          split at e
          · next hc =>
            cases e
            rw [hq]
            dsimp only
            have hcc : m_na j + 1 ≤ st'.length ∧ m_cat q ≤ 8 ∧ (if (m_m j).2.1.cls = "java/lang/String" then (h_k h (α o)).1 = 40 else m_cnm ((h_k h (α o)).1 - 1) = (m_m j).2.1.cls ∧ 16 ≤ α o ∧ 0 < (h_k h (α o)).1 ∧ (h_k h (α o)).1 < 11) := by
              refine ⟨by omega, by rw [t_ct hr]; exact hc.2.1, ?_⟩
              have hc3 := hc.2.2
              unfold k_rc at hc3
              rw [hcell.1]
              by_cases hS : (m_m j).2.1.cls = "java/lang/String"
              · rw [if_pos hS] at hc3 ⊢
                exact of_decide_eq_true hc3
              · rw [if_neg hS] at hc3 ⊢
                have hc4 := of_decide_eq_true hc3
                exact ⟨hc4.1, hcell.2.2.1 hc4.2.1, hc4.2.2⟩
            rw [if_pos hcc]
            exact ⟨_, _, rfl, ⟨⟨rfl, hrf⟩, t_skr (t_skt (m_na j) hs)⟩, hr⟩
          · cases e
        · cases e
    · cases e
end
-- what a callee leaves, as the caller has it
def b_tz (b : BS) : Nat → LE := fun k => match m_lk b.1 k with
  | some e => e
  | none => le_c 0
def b_pz (b : BS) : Nat → Nat := fun k => match m_lk b.2 k with
  | some o => o
  | none => 0
def k_pins (m : Nat) : List LE := (List.range m).map le_s
def k_th (n m0 : Nat) (b : BS) : Nat → LE := fun k => if k < m0 then b_tz b k else le_s (n + (k - m0))
def k_ph (n m0 : Nat) (b : BS) : Nat → Nat := fun k => if k < m0 then b_pz b k else n + (k - m0)
def k_asm : List LE → AST → Option AST
  | [], S => some S
  | e :: r, S => match t_asm e S with
    | some S' => k_asm r S'
    | none => none
def k_pb (S1 : AST) (r : List AT) (W : List (Nat × Nat)) (m0 : Nat) (b : BS) (P : AST) : AST := (((a_iv P).map (fun q => (a_nx S1 + (q.1 - m0), q.2)) ++ a_iv S1, a_cs S1), ((a_ca P).map (fun q => ((k_ph (a_nx S1) m0 b q.1.1, q.1.2), s_at (k_th (a_nx S1) m0 b) (k_ph (a_nx S1) m0 b) q.2)) ++ x_kf W (a_ca S1), ((a_kp S1, a_ko S1), (a_nx S1 + (a_nx P - m0), (a_lv S1, (a_st P).map (s_at (k_th (a_nx S1) m0 b) (k_ph (a_nx S1) m0 b)) ++ r)))))
def k_ps (S1 : AST) (r : List AT) (W : List (Nat × Nat)) (m0 : Nat) (b : BS) (P : AST) : Option AST := k_asm ((a_cs P).map (s_e (k_th (a_nx S1) m0 b))) (k_pb S1 r W m0 b P)
def k_pk (m0 : Nat) (P : AST) : Bool := decide (a_kp P = k_pins m0) && (decide (a_ko P = List.range m0) && ((a_iv P).all (fun q => Nat.ble m0 q.1) && (a_ca P).all (fun q => Nat.blt q.1.2.2 5000)))
section
variable {sp : List RS} {ρ ρ' : Nat → Nat} {W : List (Nat × Nat)} {K : List Int} {KA : List Nat} {S : AST} {lv' : List (Nat × Value)} {st' : List Value} {h h' : MH} {σ : Nat → Int} {α : Nat → Nat}
theorem k_asmS : ∀ (l : List LE) (S : AST), (∀ e ∈ l, le_ev σ e ≤ 0) → TW ρ K KA S lv' st' h σ α → ∃ S', k_asm l S = some S' ∧ TW ρ K KA S' lv' st' h σ α
  | [], S, _, hw => ⟨S, rfl, hw⟩
  | e :: r, S, hl, hw => by
    obtain ⟨S1, e1, w1⟩ := r_asm hw (hl e List.mem_cons_self)
    rw [k_asm, e1]
    exact k_asmS r S1 (fun e he => hl e (List.mem_cons_of_mem _ he)) w1
theorem s_atS {θ : Nat → LE} {φ : Nat → Nat} {t : AT} {v : Value} (hv : t_at (fun k => le_ev σ (θ k)) (fun o => α (φ o)) ρ t v) : t_at σ α ρ (s_at θ φ t) v := by
  cases t with
  | inl e =>
    obtain ⟨x, h1, h2⟩ := hv
    exact ⟨x, h1, by rw [s_eE]; exact h2⟩
  | inr t => cases t with
    | inl u => exact hv
    | inr q => exact hv
theorem s_skS {θ : Nat → LE} {φ : Nat → Nat} : ∀ {t : List AT} {v : List Value}, t_sk (fun k => le_ev σ (θ k)) (fun o => α (φ o)) ρ t v → t_sk σ α ρ (t.map (s_at θ φ)) v
  | [], [], _ => trivial
  | _ :: _, _ :: _, h => ⟨s_atS h.1, s_skS h.2⟩
  | [], _ :: _, h => h.elim
  | _ :: _, [], h => h.elim
theorem s_fvS {θ : Nat → LE} {φ : Nat → Nat} {t : AT} {a f : Nat} (hf : f < 5000) (hv : t_fv (fun k => le_ev σ (θ k)) (fun o => α (φ o)) ρ h a f t) : t_fv σ α ρ h a f (s_at θ φ t) := by
  cases t with
  | inl e =>
    have hv : if f = 1000 then ((h_k h a).2 : Int) = le_ev (fun k => le_ev σ (θ k)) e else (h_i h a (t_kx _ f)).toInt = le_ev (fun k => le_ev σ (θ k)) e := hv
    show if f = 1000 then ((h_k h a).2 : Int) = le_ev σ (s_e θ e) else (h_i h a (t_kx σ f)).toInt = le_ev σ (s_e θ e)
    rw [t_kxl hf] at hv ⊢
    rw [s_eE]
    exact hv
  | inr t => cases t with
    | inl u => exact hv
    | inr q =>
      obtain ⟨h1, h2⟩ := hv
      rw [t_kxl hf] at h1
      refine ⟨?_, h2⟩
      rw [t_kxl hf]
      exact h1
theorem k_psS {S1 : AST} {r : List AT} {r' : List Value} {m0 : Nat} {b : BS} {P : AST} {v : Option Value} (ht : TH sp ρ h) (f : FQ ρ ρ' W h h') (ht' : TH sp ρ' h') (hw : TW ρ K KA (w_fs S1 (a_lv S1) r) lv' r' h σ α) (hg : xg_S (a_nx S1) (w_fs S1 (a_lv S1) r) = true) (hb : (List.range m0).all (fun k => xg_l (a_nx S1) (b_tz b k).1 && Nat.blt (b_pz b k) (a_nx S1)) = true) (hp : k_pk m0 P = true) (hP : TS sp ρ' ((k_pins m0).map (le_ev (fun k => le_ev σ (b_tz b k)))) ((List.range m0).map (fun o => α (b_pz b o))) P [] v.toList h') : ∃ S', k_ps S1 r W m0 b P = some S' ∧ TS sp ρ' K KA S' lv' (v.toList ++ r') h' := by
  obtain ⟨-, σ', α', p1, p2, p3, p4, p5, p6, p7⟩ := hP
  unfold k_pk at hp
  rw [Bool.and_eq_true, Bool.and_eq_true] at hp
  rw [Bool.and_eq_true] at hp
  obtain ⟨q1, q2, q3, q4⟩ := hp
  rw [of_decide_eq_true q1] at p4
  rw [of_decide_eq_true q2] at p5
  have e4 : ∀ k, k < m0 → σ' k = le_ev σ (b_tz b k) := by
    intro k hk
    have := List.map_inj_left.mp p4 (le_s k) (List.mem_map.mpr ⟨k, List.mem_range.mpr hk, rfl⟩)
    rw [le_sE, le_sE] at this
    exact this
  have e5 : ∀ k, k < m0 → α' k = α (b_pz b k) := fun k hk => List.map_inj_left.mp p5 k (List.mem_range.mpr hk)
  obtain ⟨σ2, hσ2⟩ : ∃ s : Nat → Int, s = fun k => if k < a_nx S1 then σ k else σ' (m0 + (k - a_nx S1)) := ⟨_, rfl⟩
  obtain ⟨α2, hα2⟩ : ∃ s : Nat → Nat, s = fun k => if k < a_nx S1 then α k else α' (m0 + (k - a_nx S1)) := ⟨_, rfl⟩
  have a1 : ∀ k, k < a_nx S1 → σ2 k = σ k := fun k hk => by rw [hσ2]; exact if_pos hk
  have a2 : ∀ k, k < a_nx S1 → α2 k = α k := fun k hk => by rw [hα2]; exact if_pos hk
  have a3 : ∀ k, m0 ≤ k → σ2 (a_nx S1 + (k - m0)) = σ' k := fun k hk => by
    rw [hσ2]
    dsimp only
    rw [if_neg (by omega), show m0 + (a_nx S1 + (k - m0) - a_nx S1) = k by omega]
  have a4 : ∀ k, m0 ≤ k → α2 (a_nx S1 + (k - m0)) = α' k := fun k hk => by
    rw [hα2]
    dsimp only
    rw [if_neg (by omega), show m0 + (a_nx S1 + (k - m0) - a_nx S1) = k by omega]
  have hb2 : ∀ k, k < m0 → xg_l (a_nx S1) (b_tz b k).1 = true ∧ b_pz b k < a_nx S1 := fun k hk => by
    have := List.all_eq_true.mp hb k (List.mem_range.mpr hk)
    rw [Bool.and_eq_true] at this
    exact ⟨this.1, xg_lt this.2⟩
  have eθ : (fun k => le_ev σ2 (k_th (a_nx S1) m0 b k)) = σ' := by
    funext k
    unfold k_th
    split
    · next hk => rw [xg_eS a1 _ (hb2 k hk).1, e4 k hk]
    · next hk => rw [le_sE, a3 k (by omega)]
  have eφ : (fun k => α2 (k_ph (a_nx S1) m0 b k)) = α' := by
    funext k
    unfold k_ph
    split
    · next hk => rw [a2 _ (hb2 k hk).2, e5 k hk]
    · next hk => rw [a4 k (by omega)]
  obtain ⟨w1, w2, w3, w4, w5, w6, w7⟩ := xg_SS a1 a2 hg hw
  have hbase : TW ρ' K KA (k_pb S1 r W m0 b P) lv' (v.toList ++ r') h' σ2 α2 := by
    refine ⟨fun q hq => ?_, w2, fun q hq => ?_, w4, w5, x_lv f w6, t_ska (s_skS (by rw [eθ, eφ]; exact p7)) (x_sk f w7)⟩
    · rcases List.mem_append.mp hq with hq | hq
      · obtain ⟨q0, h0, rfl⟩ := List.mem_map.mp hq
        dsimp only
        rw [a3 q0.1 (Nat.le_of_ble_eq_true (List.all_eq_true.mp q3 q0 h0))]
        exact p1 q0 h0
      · exact w1 q hq
    · rcases List.mem_append.mp hq with hq | hq
      · obtain ⟨q0, h0, rfl⟩ := List.mem_map.mp hq
        obtain ⟨g1, g2⟩ := p3 q0 h0
        have e0 : α2 (k_ph (a_nx S1) m0 b q0.1.1) = α' q0.1.1 := congrFun eφ q0.1.1
        dsimp only
        rw [e0]
        refine ⟨g1, s_fvS (Nat.le_of_ble_eq_true (List.all_eq_true.mp q4 q0 h0)) ?_⟩
        rw [eθ, eφ]
        exact g2
      · exact x_ca ht f w3 q hq
  obtain ⟨S', e1, hw'⟩ := k_asmS ((a_cs P).map (s_e (k_th (a_nx S1) m0 b))) _ (fun e he => by
    obtain ⟨e0, h0, rfl⟩ := List.mem_map.mp he
    rw [s_eE, eθ]
    exact p2 e0 h0) hbase
  exact ⟨S', e1, ht', σ2, α2, hw'⟩
end
