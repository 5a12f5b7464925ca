-- A PAST AT WORK: its own two regions, the others out of the way; and back
def z_Z : List Nat := [6, 9, 29, 39, 47, 48]
def act_r (ρ : Nat → Nat) (h : MH) (p a : Nat) : Nat := if a = p then 47 else if a = h_r h p 0 then 48 else if z_Z.contains (ρ a) = true then 0 else ρ a
def act_u (ρ ρ1 : Nat → Nat) (h : MH) (a : Nat) : Nat := if a < 16 + h_n h then ρ a else ρ1 a
def z_ft (t : FT) : Bool := match t with
  | .inr (.inr q) => !z_Z.contains q.1
  | _ => true
def z_all : Bool := (List.range c_sp.length).all (fun R => z_Z.contains R || (match c_sp[R]? with
  | some rs => rs.2.2.2.all z_ft
  | none => true))
theorem z_allT : z_all = true := by decide +kernel
theorem z_sp {R k : Nat} {rs : RS} {ft : FT} (hs : c_sp[R]? = some rs) (hR : ¬ R ∈ z_Z) (hf : r_ft rs k = some ft) : z_ft ft = true := by
  have hb := List.all_eq_true.mp z_allT R (List.mem_range.mpr (List.getElem?_eq_some_iff.mp hs).1)
  rw [Bool.or_eq_true, hs] at hb
  rcases hb with hb | hb
  · exact absurd (List.contains_iff_mem.mp hb) hR
  · have hm : ft ∈ rs.2.2.2 := by
      unfold r_ft at hf
      split at hf
      · exact List.mem_of_getElem? hf
      · exact List.mem_of_getElem? hf
    exact List.all_eq_true.mp hb ft hm
-- a field's word in another reading of the heap's addresses
theorem z_t {ρ1 ρ2 : Nat → Nat} {h : MH} {a k : Nat} {ft : FT} (hz : z_ft ft = true) (hb : ∀ b, ρ1 b ≠ 0 → ¬ ρ1 b ∈ z_Z → ρ2 b = ρ1 b) (f : t_ft ρ1 ft h a k) : t_ft ρ2 ft h a k := by
  cases ft with
  | inl p => exact f
  | inr t => cases t with
    | inl u => trivial
    | inr q =>
      have f : t_rf ρ1 q.1 q.2 (h_r h a k) := f
      show t_rf ρ2 q.1 q.2 (h_r h a k)
      rcases f with f | ⟨f1, f2, f3⟩
      · exact Or.inl f
      · refine Or.inr ⟨f1, f2, ?_⟩
        have hq : ¬ q.1 ∈ z_Z := fun e => by
          have : (!z_Z.contains q.1) = true := hz
          rw [List.contains_iff_mem.mpr e] at this
          cases this
        rw [hb _ (by rw [f3]; exact f2) (by rw [f3]; exact hq)]
        exact f3
theorem z_mem {R : Nat} : R ∈ z_Z ↔ (R = 6 ∨ R = 9 ∨ R = 29 ∨ R = 39 ∨ R = 47 ∨ R = 48) := by
  unfold z_Z
  simp only [List.mem_cons, List.not_mem_nil, or_false]
section
variable {ρ ρ1 : Nat → Nat} {h h' : MH} {p : Nat}
theorem act_n (ht : TH c_sp ρ h) (hp : ρ p = 29) : ρ (h_r h p 0) = 39 := (th_rf ht (by decide) rfl hp rfl (fun z => by cases z)).2
theorem act_b (ht : TH c_sp ρ h) (hp : ρ p = 29) (b : Nat) (h0 : ρ b ≠ 0) (hz : ¬ ρ b ∈ z_Z) : act_r ρ h p b = ρ b := by
  unfold act_r
  rw [if_neg (fun e => hz (by rw [e, hp]; decide)), if_neg (fun e => hz (by rw [e, act_n ht hp]; decide)), if_neg (fun e => hz (List.contains_iff_mem.mp e))]
theorem act_p : act_r ρ h p p = 47 := if_pos rfl
theorem act_nn (ht : TH c_sp ρ h) (hp : ρ p = 29) : act_r ρ h p (h_r h p 0) = 48 := by
  unfold act_r
  rw [if_neg (fun e => by
    have := act_n ht hp
    rw [e, hp] at this
    cases this), if_pos rfl]
-- what an address may be at work
theorem act_c (ht : TH c_sp ρ h) (hp : ρ p = 29) (a : Nat) (ha : act_r ρ h p a ≠ 0) : (a = p ∧ act_r ρ h p a = 47) ∨ (a = h_r h p 0 ∧ act_r ρ h p a = 48) ∨ (act_r ρ h p a = ρ a ∧ ¬ ρ a ∈ z_Z) := by
  unfold act_r at ha ⊢
  by_cases h1 : a = p
  · rw [if_pos h1]
    exact Or.inl ⟨h1, rfl⟩
  · rw [if_neg h1] at ha ⊢
    by_cases h2 : a = h_r h p 0
    · rw [if_pos h2]
      exact Or.inr (Or.inl ⟨h2, rfl⟩)
    · rw [if_neg h2] at ha ⊢
      by_cases h3 : z_Z.contains (ρ a) = true
      · rw [if_pos h3] at ha
        exact absurd rfl ha
      · rw [if_neg h3]
        exact Or.inr (Or.inr ⟨rfl, fun e => h3 (List.contains_iff_mem.mpr e)⟩)
theorem act_TH (ht : TH c_sp ρ h) (hp : ρ p = 29) : TH c_sp (act_r ρ h p) h := by
  have hb := act_b ht hp
  have hn := act_n ht hp
  have hp0 : p ≠ 0 := fun e => by rw [e, ht.1] at hp; cases hp
  have hn0 : h_r h p 0 ≠ 0 := fun e => by rw [e, ht.1] at hn; cases hn
  refine ⟨?_, fun a ha => ?_⟩
  · unfold act_r
    rw [if_neg (fun e => hp0 e.symm), if_neg (fun e => hn0 e.symm), ht.1]
    rfl
  · rcases act_c ht hp a ha with ⟨e1, e2⟩ | ⟨e1, e2⟩ | ⟨e1, e2⟩
    · subst e1
      obtain ⟨b1, rs, b2, b3, b4, b5, b6⟩ := ht.2 a (by rw [hp]; decide)
      rw [hp] at b2
      cases b2
      refine ⟨b1, _, (congrArg (fun R => c_sp[R]?) e2).trans (rfl : c_sp[47]? = some _), b3, b4, b5, fun k ft hk hl => ?_⟩
      match k, hk with
      | 0, hk =>
        cases hk
        exact Or.inr ⟨hn0, by decide, act_nn ht hp⟩
      | k + 1, hk =>
        have b7 := b6 (k + 1) ft hk (fun z => by cases z)
        refine z_t ?_ hb b7
        match k, hk with
        | 0, hk => cases hk; rfl
        | 1, hk => cases hk; rfl
        | 2, hk => cases hk; rfl
        | 3, hk => cases hk; rfl
        | 4, hk => cases hk; rfl
        | 5, hk => cases hk; rfl
        | 6, hk => cases hk; rfl
        | 7, hk => cases hk; rfl
        | 8, hk => cases hk; rfl
        | 9, hk => cases hk; rfl
        | 10, hk => cases hk; rfl
        | 11, hk => cases hk; rfl
        | 12, hk => cases hk; rfl
        | k + 13, hk => cases hk
    · subst e1
      obtain ⟨b1, rs, b2, b3, b4, b5, b6⟩ := ht.2 (h_r h p 0) (by rw [hn]; decide)
      rw [hn] at b2
      cases b2
      refine ⟨b1, _, (congrArg (fun R => c_sp[R]?) e2).trans (rfl : c_sp[48]? = some _), b3, b4, b5, fun k ft hk hl => ?_⟩
      match k, hk with
      | 0, hk => cases hk; exact z_t rfl hb (b6 0 _ rfl (fun z => by cases z))
      | 1, hk => cases hk; exact z_t rfl hb (b6 1 _ rfl (fun z => by cases z))
      | 2, hk => cases hk; exact z_t rfl hb (b6 2 _ rfl (fun z => by cases z))
      | 3, hk => cases hk; exact z_t rfl hb (b6 3 _ rfl (fun z => by cases z))
      | 4, hk => cases hk; exact z_t rfl hb (b6 4 _ rfl (fun z => by cases z))
      | 5, hk =>
        cases hk
        have b7 : (0 : Int) ≤ (h_i h (h_r h p 0) 5).toInt ∧ (h_i h (h_r h p 0) 5).toInt ≤ (15120 : Int) := b6 5 _ rfl (fun z => by cases z)
        show (0 : Int) ≤ (h_i h (h_r h p 0) 5).toInt ∧ (h_i h (h_r h p 0) 5).toInt ≤ (16000 : Int)
        omega
      | 6, hk => cases hk; exact z_t rfl hb (b6 6 _ rfl (fun z => by cases z))
      | k + 7, hk => cases hk
    · rw [e1] at ha
      obtain ⟨b1, rs, b2, b3, b4, b5, b6⟩ := ht.2 a ha
      refine ⟨b1, rs, by rw [e1]; exact b2, b3, b4, b5, fun k ft hk hl => ?_⟩
      exact z_t (z_sp b2 e2 hk) hb (b6 k ft hk hl)
theorem act_CC (ht : TH c_sp ρ h) (hp : ρ p = 29) (hC : CCok c_CC ρ) : CCok c_CC (act_r ρ h p) := by
  have hb := act_b ht hp
  have key : ∀ R a, R ≠ 0 → ¬ R ∈ z_Z → t_rf ρ R true a → t_rf (act_r ρ h p) R true a := fun R a h0 hz q => by
    rcases q with ⟨-, q⟩ | ⟨q1, q2, q3⟩
    · cases q
    · exact Or.inr ⟨q1, q2, by rw [hb a (by rw [q3]; exact q2) (by rw [q3]; exact hz)]; exact q3⟩
  exact ⟨key _ _ (by decide) (by decide) hC.1, fun a h1 h2 => key _ _ (by decide) (by decide) (hC.2.1 a h1 h2), key _ _ (by decide) (by decide) hC.2.2⟩
theorem act_nd (ht : TH c_sp ρ h) (hp : ρ p = 29) (k : t_nd ρ h) : t_nd (act_r ρ h p) h := fun a ha => by
  rcases act_c ht hp a (by rcases ha with e | e <;> (rw [e]; decide)) with ⟨e1, e2⟩ | ⟨e1, e2⟩ | ⟨e1, e2⟩
  · rw [e2] at ha
    rcases ha with e | e <;> cases e
  · rw [e1]
    exact k _ (Or.inl (act_n ht hp))
  · rw [e1] at ha
    exact absurd (z_mem.mpr (by rcases ha with e | e <;> (rw [e]; decide))) e2
theorem act_keep {R a : Nat} (ht : TH c_sp ρ h) (hp : ρ p = 29) (ha : act_r ρ h p a = R) (h0 : R ≠ 0) (h1 : R ≠ 47) (h2 : R ≠ 48) : ρ a = R := by
  rcases act_c ht hp a (by rw [ha]; exact h0) with ⟨_, e2⟩ | ⟨_, e2⟩ | ⟨e1, _⟩
  · exact absurd (ha.symm.trans e2) h1
  · exact absurd (ha.symm.trans e2) h2
  · exact e1.symm.trans ha
theorem act_rm (ht : TH c_sp ρ h) (hp : ρ p = 29) (k : t_rm ρ h) : t_rm (act_r ρ h p) h := by
  obtain ⟨⟨a1, a2, a3, a4, a5⟩, b, c, d, e⟩ := k
  have hn := act_n ht hp
  have one : ∀ {a R : Nat}, r_iu ρ h a R → R ≠ 29 → R ≠ 39 → r_iu (act_r ρ h p) h a R := fun {a R} q h1 h2 => by
    refine ⟨q.1, ?_⟩
    unfold act_r
    have na : ρ a ≠ 29 ∧ ρ a ≠ 39 := by
      rcases q.2 with z | z
      · rw [z]
        exact ⟨h1, h2⟩
      · rw [z]
        decide
    rw [if_neg (fun e => na.1 (by rw [e]; exact hp)), if_neg (fun e => na.2 (by rw [e]; exact hn))]
    split
    · exact Or.inr rfl
    · exact q.2
  refine ⟨⟨one a1 (by decide) (by decide), one a2 (by decide) (by decide), one a3 (by decide) (by decide), one a4 (by decide) (by decide), a5.1, fun a ha => a5.2.1 a (act_keep ht hp ha (by decide) (by decide) (by decide)), fun a ha => a5.2.2 a (act_keep ht hp ha (by decide) (by decide) (by decide))⟩, fun k hk => ?_, fun a ha => ?_, d, e⟩
  · rcases b k hk with z | ⟨z1, z2, z3⟩
    · exact Or.inl z
    · refine Or.inr ⟨⟨z1.1, ?_⟩, ⟨z2.1, ?_⟩, z3⟩
      · unfold act_r
        by_cases e1 : r_sl h k = p
        · rw [if_pos e1]
          exact Or.inr (Or.inl rfl)
        · rw [if_neg e1]
          split
          · next e2 =>
            have q := z1.2
            rw [e2, hn] at q
            rcases q with q | q | q <;> cases q
          · split
            · exact Or.inr (Or.inr rfl)
            · exact z1.2
      · unfold act_r
        by_cases e1 : r_no h k = p
        · have q := z2.2
          rw [e1, hp] at q
          rcases q with q | q | q <;> cases q
        · rw [if_neg e1]
          split
          · exact Or.inr (Or.inl rfl)
          · split
            · exact Or.inr (Or.inr rfl)
            · exact z2.2
  · rcases act_c ht hp a (by rcases ha with e | e <;> (rw [e]; decide)) with ⟨e1, e2⟩ | ⟨e1, e2⟩ | ⟨e1, e2⟩
    · rw [e2] at ha
      rcases ha with e | e <;> cases e
    · rw [e1]
      exact c _ (Or.inl hn)
    · rw [e1] at ha
      exact absurd (z_mem.mpr (by rcases ha with e | e <;> (rw [e]; decide))) e2
end
-- and back
def act_i (R : Nat) : Nat := if R = 47 then 29 else if R = 48 then 39 else R
def act_q (W : List (Nat × Nat)) (q : Nat × Nat) : Bool := (!(q.1 == 0) && !(q == (47, 0))) && ((!(q == (47, 1001)) && W.contains (act_i q.1, q.2)) && (!(q.2 == 1002) || !z_Z.contains q.1))
def act_W (WA W : List (Nat × Nat)) : Bool := WA.all (act_q W)
theorem act_w1 {WA W : List (Nat × Nat)} (hw : act_W WA W = true) {q : Nat × Nat} (hq : q ∈ WA) : q.1 ≠ 0 ∧ q ≠ (47, 0) ∧ q ≠ (47, 1001) ∧ (act_i q.1, q.2) ∈ W ∧ (q.2 = 1002 → ¬ q.1 ∈ z_Z) := by
  have hb : act_q W q = true := List.all_eq_true.mp hw q hq
  unfold act_q at hb
  rw [Bool.and_eq_true, Bool.and_eq_true, Bool.and_eq_true, Bool.and_eq_true] at hb
  obtain ⟨⟨b1, b2⟩, ⟨b3, b4⟩, b5⟩ := hb
  refine ⟨fun e => ?_, fun e => ?_, fun e => ?_, List.contains_iff_mem.mp b4, fun e z => ?_⟩
  · rw [e] at b1
    cases b1
  · rw [e] at b2
    cases b2
  · rw [e] at b3
    cases b3
  · rw [e, List.contains_iff_mem.mpr z] at b5
    cases b5
section
variable {ρ ρ1 : Nat → Nat} {h h' : MH} {p : Nat} {WA W : List (Nat × Nat)}
theorem act_z (hw : act_W WA W = true) (k : Nat) : ¬ t_W WA 0 k := fun z => by
  rcases z with z | z
  · exact (act_w1 hw z).1 rfl
  · exact (act_w1 hw z).1 rfl
theorem act_t (hw : act_W WA W = true) (ht : TH c_sp ρ h) (hp : ρ p = 29) {a k : Nat} (hh : ¬ t_W W (ρ a) k) : ¬ t_W WA (act_r ρ h p a) k := fun z => by
  by_cases h0 : act_r ρ h p a = 0
  · rw [h0] at z
    exact act_z hw k z
  · have e : act_i (act_r ρ h p a) = ρ a := by
      rcases act_c ht hp a h0 with ⟨e1, e2⟩ | ⟨e1, e2⟩ | ⟨e1, e2⟩
      · rw [e2, e1, hp]
        rfl
      · rw [e2, e1, act_n ht hp]
        rfl
      · rw [e1]
        unfold act_i
        rw [if_neg (fun e => e2 (by rw [e]; decide)), if_neg (fun e => e2 (by rw [e]; decide))]
    refine hh ?_
    rcases z with z | z
    · have := (act_w1 hw z).2.2.2.1
      rw [e] at this
      exact Or.inl this
    · have := (act_w1 hw z).2.2.2.1
      rw [e] at this
      exact Or.inr this
-- what is new
theorem act_new (f : FQ (act_r ρ h p) ρ1 WA h h') (ht : TH c_sp ρ h) (hp : ρ p = 29) (hw : act_W WA W = true) {a : Nat} (ha : 16 + h_n h ≤ a) (h1 : ρ1 a ≠ 0) : (ρ1 a, 1002) ∈ W ∧ ¬ ρ1 a ∈ z_Z := by
  have h0 : act_r ρ h p a = 0 := by
    by_cases e : act_r ρ h p a = 0
    · exact e
    · have := ((act_TH ht hp).2 a e).1
      omega
  have hm := (f.2.2.1 a h0 h1).2
  have hz := act_w1 hw hm
  have hz5 : ¬ ρ1 a ∈ z_Z := hz.2.2.2.2 rfl
  refine ⟨?_, hz5⟩
  have h4 : (act_i (ρ1 a), 1002) ∈ W := hz.2.2.2.1
  have e : act_i (ρ1 a) = ρ1 a := by
    unfold act_i
    rw [if_neg (fun e => hz5 (by rw [e]; decide)), if_neg (fun e => hz5 (by rw [e]; decide))]
  rw [e] at h4
  exact h4
theorem act_un (a : Nat) (ha : a < 16 + h_n h) : act_u ρ ρ1 h a = ρ a := if_pos ha
theorem act_uw (a : Nat) (ha : 16 + h_n h ≤ a) : act_u ρ ρ1 h a = ρ1 a := if_neg (by omega)
theorem act_FQ (f : FQ (act_r ρ h p) ρ1 WA h h') (ht : TH c_sp ρ h) (hp : ρ p = 29) (hw : act_W WA W = true) (hm : (1000, 1002) ∈ W) : FQ ρ (act_u ρ ρ1 h) W h h' := by
  refine ⟨⟨f.1.1, fun z => absurd hm z⟩, fun a ha => act_un a (ht.2 a ha).1, fun a h0 h1 => ?_, fun a ha => ?_⟩
  · by_cases hl : a < 16 + h_n h
    · rw [act_un a hl] at h1
      exact absurd h0 h1
    · have hl2 : 16 + h_n h ≤ a := by omega
      rw [act_uw a hl2] at h1 ⊢
      exact ⟨hl2, (act_new f ht hp hw hl2 h1).1⟩
  · obtain ⟨x1, x2⟩ := f.2.2.2 a ha
    exact ⟨x1, fun k hk => x2 k (act_t hw ht hp hk)⟩
-- a region that the work leaves alone is the same before and behind
theorem act_bb (f : FQ (act_r ρ h p) ρ1 WA h h') (ht : TH c_sp ρ h) (hp : ρ p = 29) (b : Nat) (h0 : ρ1 b ≠ 0) (hz : ¬ ρ1 b ∈ z_Z) : act_u ρ ρ1 h b = ρ1 b := by
  by_cases hl : b < 16 + h_n h
  · rw [act_un b hl]
    have e := f.same hl
    rw [e] at h0 hz ⊢
    rcases act_c ht hp b h0 with ⟨e1, e2⟩ | ⟨e1, e2⟩ | ⟨e1, e2⟩
    · rw [e2] at hz
      exact absurd (by decide) hz
    · rw [e2] at hz
      exact absurd (by decide) hz
    · exact e1.symm
  · exact act_uw b (by omega)
theorem act_r0 (f : FQ (act_r ρ h p) ρ1 WA h h') (hp0 : p < 16 + h_n h) (hw : act_W WA W = true) : h_r h' p 0 = h_r h p 0 := by
  refine ((f.2.2.2 p hp0).2 0 (fun z => ?_)).2.2
  rw [act_p] at z
  rcases z with z | z
  · exact (act_w1 hw z).2.1 rfl
  · exact (act_w1 hw z).2.2.1 rfl
-- an object that the work doesn't reach
theorem act_far (f : FQ (act_r ρ h p) ρ1 WA h h') (hw : act_W WA W = true) {a : Nat} (ha : a < 16 + h_n h) (h0 : act_r ρ h p a = 0) : h_k h' a = h_k h a ∧ ∀ k, h_i h' a k = h_i h a k ∧ h_l h' a k = h_l h a k ∧ h_r h' a k = h_r h a k := by
  obtain ⟨x1, x2⟩ := f.2.2.2 a ha
  refine ⟨x1, fun k => x2 k ?_⟩
  rw [h0]
  exact act_z hw k
theorem act_tu (ht : TH c_sp ρ h) {a k : Nat} {ft : FT} (e : h_i h' a k = h_i h a k ∧ h_l h' a k = h_l h a k ∧ h_r h' a k = h_r h a k) (x : t_ft ρ ft h a k) : t_ft (act_u ρ ρ1 h) ft h' a k := by
  cases ft with
  | inl q =>
    have x : q.1 ≤ (h_i h a k).toInt ∧ (h_i h a k).toInt ≤ q.2 := x
    show q.1 ≤ (h_i h' a k).toInt ∧ (h_i h' a k).toInt ≤ q.2
    rw [e.1]
    exact x
  | inr t => cases t with
    | inl u => trivial
    | inr q =>
      have x : t_rf ρ q.1 q.2 (h_r h a k) := x
      show t_rf (act_u ρ ρ1 h) q.1 q.2 (h_r h' a k)
      rw [e.2.2]
      rcases x with x | ⟨x1, x2, x3⟩
      · exact Or.inl x
      · refine Or.inr ⟨x1, x2, ?_⟩
        rw [act_un _ (ht.2 _ (by rw [x3]; exact x2)).1]
        exact x3
theorem act_TU (f : FQ (act_r ρ h p) ρ1 WA h h') (ht : TH c_sp ρ h) (hp : ρ p = 29) (hw : act_W WA W = true) (h1 : TH c_sp ρ1 h') (hm : (h_i h' (h_r h p 0) 5).toInt ≤ 15120) : TH c_sp (act_u ρ ρ1 h) h' := by
  have hb := act_bb f ht hp
  have hn := act_n ht hp
  have hpl : p < 16 + h_n h := (ht.2 p (by rw [hp]; decide)).1
  have hnl : h_r h p 0 < 16 + h_n h := (ht.2 _ (by rw [hn]; decide)).1
  have hn0 : h_r h p 0 ≠ 0 := fun e => by rw [e, ht.1] at hn; cases hn
  have hle := f.1.1
  refine ⟨by rw [act_un 0 (by omega)]; exact ht.1, fun a ha => ?_⟩
  by_cases hl : a < 16 + h_n h
  · rw [act_un a hl] at ha ⊢
    by_cases hA : act_r ρ h p a = 0
    · obtain ⟨b1, rs, b2, b3, b4, b5, b6⟩ := ht.2 a ha
      obtain ⟨y1, y2⟩ := act_far f hw hl hA
      refine ⟨by omega, rs, b2, by rw [y1]; exact b3, by rw [y1]; exact b4, b5, fun k ft hk hj => ?_⟩
      rw [y1] at hj
      exact act_tu ht (y2 k) (b6 k ft hk hj)
    · have e := f.same hl
      rcases act_c ht hp a hA with ⟨e1, e2⟩ | ⟨e1, e2⟩ | ⟨e1, e2⟩
      · subst e1
        have hr := act_r0 f hpl hw
        obtain ⟨b1, rs, b2, b3, b4, b5, b6⟩ := h1.2 a (by rw [e, e2]; decide)
        rw [e, e2] at b2
        cases b2
        refine ⟨b1, _, (congrArg (fun R => c_sp[R]?) hp).trans (rfl : c_sp[29]? = some _), b3, b4, b5, fun k ft hk hj => ?_⟩
        match k, hk with
        | 0, hk =>
          cases hk
          show t_rf (act_u ρ ρ1 h) 39 true (h_r h' a 0)
          rw [show h_r h' a 0 = h_r h a 0 from hr]
          exact Or.inr ⟨hn0, by decide, by rw [act_un _ hnl]; exact hn⟩
        | 1, hk => cases hk; exact z_t rfl hb (b6 1 _ rfl (fun z => by cases z))
        | 2, hk => cases hk; exact z_t rfl hb (b6 2 _ rfl (fun z => by cases z))
        | 3, hk => cases hk; exact z_t rfl hb (b6 3 _ rfl (fun z => by cases z))
        | 4, hk => cases hk; exact z_t rfl hb (b6 4 _ rfl (fun z => by cases z))
        | 5, hk => cases hk; exact z_t rfl hb (b6 5 _ rfl (fun z => by cases z))
        | 6, hk => cases hk; exact z_t rfl hb (b6 6 _ rfl (fun z => by cases z))
        | 7, hk => cases hk; exact z_t rfl hb (b6 7 _ rfl (fun z => by cases z))
        | 8, hk => cases hk; exact z_t rfl hb (b6 8 _ rfl (fun z => by cases z))
        | 9, hk => cases hk; exact z_t rfl hb (b6 9 _ rfl (fun z => by cases z))
        | 10, hk => cases hk; exact z_t rfl hb (b6 10 _ rfl (fun z => by cases z))
        | 11, hk => cases hk; exact z_t rfl hb (b6 11 _ rfl (fun z => by cases z))
        | 12, hk => cases hk; exact z_t rfl hb (b6 12 _ rfl (fun z => by cases z))
        | 13, hk => cases hk; exact z_t rfl hb (b6 13 _ rfl (fun z => by cases z))
        | k + 14, hk => cases hk
      · subst e1
        obtain ⟨b1, rs, b2, b3, b4, b5, b6⟩ := h1.2 (h_r h p 0) (by rw [e, e2]; decide)
        rw [e, e2] at b2
        cases b2
        refine ⟨b1, _, (congrArg (fun R => c_sp[R]?) hn).trans (rfl : c_sp[39]? = some _), b3, b4, b5, fun k ft hk hj => ?_⟩
        match k, hk with
        | 0, hk => cases hk; exact z_t rfl hb (b6 0 _ rfl (fun z => by cases z))
        | 1, hk => cases hk; exact z_t rfl hb (b6 1 _ rfl (fun z => by cases z))
        | 2, hk => cases hk; exact z_t rfl hb (b6 2 _ rfl (fun z => by cases z))
        | 3, hk => cases hk; exact z_t rfl hb (b6 3 _ rfl (fun z => by cases z))
        | 4, hk => cases hk; exact z_t rfl hb (b6 4 _ rfl (fun z => by cases z))
        | 5, hk =>
          cases hk
          have b7 : (0 : Int) ≤ (h_i h' (h_r h p 0) 5).toInt ∧ (h_i h' (h_r h p 0) 5).toInt ≤ (16000 : Int) := b6 5 _ rfl (fun z => by cases z)
          exact ⟨b7.1, hm⟩
        | 6, hk => cases hk; exact z_t rfl hb (b6 6 _ rfl (fun z => by cases z))
        | k + 7, hk => cases hk
      · obtain ⟨b1, rs, b2, b3, b4, b5, b6⟩ := h1.2 a (by rw [e]; exact hA)
        rw [e, e1] at b2
        exact ⟨b1, rs, b2, b3, b4, b5, fun k ft hk hj => z_t (z_sp b2 e2 hk) hb (b6 k ft hk hj)⟩
  · have hl2 : 16 + h_n h ≤ a := by omega
    rw [act_uw a hl2] at ha ⊢
    have hz := (act_new f ht hp hw hl2 ha).2
    obtain ⟨b1, rs, b2, b3, b4, b5, b6⟩ := h1.2 a ha
    exact ⟨b1, rs, b2, b3, b4, b5, fun k ft hk hj => z_t (z_sp b2 hz hk) hb (b6 k ft hk hj)⟩
end
section
variable {ρ ρ1 : Nat → Nat} {h h' : MH} {p : Nat} {WA W : List (Nat × Nat)}
theorem act_nd2 (f : FQ (act_r ρ h p) ρ1 WA h h') (ht : TH c_sp ρ h) (hp : ρ p = 29) (hw : act_W WA W = true) (k : t_nd ρ h) (k1 : t_nd ρ1 h') : t_nd (act_u ρ ρ1 h) h' := fun a ha => by
  by_cases hl : a < 16 + h_n h
  · rw [act_un a hl] at ha
    by_cases hA : act_r ρ h p a = 0
    · have y := (act_far f hw hl hA).2
      have k0 := k a ha
      have e1 : ∃ R, R ≠ 0 ∧ ρ (h_r h a 1) = R := by
        rcases ha with e | e
        · exact ⟨_, by decide, (th_rf ht (by decide) rfl e rfl (fun z => by cases z)).2⟩
        · exact ⟨_, by decide, (th_rf ht (by decide) rfl e rfl (fun z => by cases z)).2⟩
      have e2 : ∃ R, R ≠ 0 ∧ ρ (h_r h a 0) = R := by
        rcases ha with e | e
        · exact ⟨_, by decide, (th_rf ht (by decide) rfl e rfl (fun z => by cases z)).2⟩
        · exact ⟨_, by decide, (th_rf ht (by decide) rfl e rfl (fun z => by cases z)).2⟩
      obtain ⟨R1, r1, q1⟩ := e1
      obtain ⟨R2, r2, q2⟩ := e2
      have l1 := (ht.2 (h_r h a 1) (by rw [q1]; exact r1)).1
      have l2 := (ht.2 (h_r h a 0) (by rw [q2]; exact r2)).1
      rw [(y 1).2.2, (y 0).2.2, (y 5).1, (f.2.2.2 _ l1).1, (f.2.2.2 _ l2).1]
      exact k0
    · rcases act_c ht hp a hA with ⟨e1, e2⟩ | ⟨e1, e2⟩ | ⟨e1, e2⟩
      · rw [e1, hp] at ha
        rcases ha with e | e <;> cases e
      · exact k1 a (Or.inr ((f.same hl).trans e2))
      · exact absurd (z_mem.mpr (by rcases ha with e | e <;> (rw [e]; decide))) e2
  · have hl2 : 16 + h_n h ≤ a := by omega
    rw [act_uw a hl2] at ha
    exact absurd (z_mem.mpr (by rcases ha with e | e <;> (rw [e]; decide))) (act_new f ht hp hw hl2 (by rcases ha with e | e <;> (rw [e]; decide))).2
theorem act_0 (hp : ρ p = 29) (hn : ρ (h_r h p 0) = 39) {a : Nat} (h1 : a ≠ p) (h2 : ρ a ≠ 39) (h3 : ρ a = 0 ∨ ρ a ∈ z_Z) : act_r ρ h p a = 0 := by
  unfold act_r
  rw [if_neg h1, if_neg (fun e => h2 (by rw [e]; exact hn))]
  rcases h3 with e | e
  · split
    · rfl
    · exact e
  · rw [if_pos (List.contains_iff_mem.mpr e)]
theorem act_rm2 (f : FQ (act_r ρ h p) ρ1 WA h h') (ht : TH c_sp ρ h) (hp : ρ p = 29) (hw : act_W WA W = true) (k : t_rm ρ h) (k1 : t_rm ρ1 h') : t_rm (act_u ρ ρ1 h) h' := by
  have hn := act_n ht hp
  have hpl : p < 16 + h_n h := (ht.2 p (by rw [hp]; decide)).1
  have hle := f.1.1
  obtain ⟨⟨a1, a2, a3, a4, a5⟩, b, c, d, e⟩ := k
  obtain ⟨⟨-, -, -, -, a5', a6', a7'⟩, b', -, d', e'⟩ := k1
  have far : ∀ {a R : Nat}, r_iu ρ h a R → R ≠ 29 → R ≠ 39 → R ∈ z_Z → ∀ j, h_r h' a j = h_r h a j := fun {a R} q h1 h2 h3 j => by
    refine ((act_far f hw q.1 (act_0 hp hn (fun e => ?_) (fun e => ?_) ?_)).2 j).2.2
    · rw [e, r_iu, hp] at q
      rcases q.2 with z | z
      · exact h1 z.symm
      · cases z
    · rw [r_iu, e] at q
      rcases q.2 with z | z
      · exact h2 z.symm
      · cases z
    · rcases q.2 with z | z
      · exact Or.inr (by rw [z]; exact h3)
      · exact Or.inl z
  have e16 := far a1 (by decide) (by decide) (by decide)
  have eP : r_P h' = r_P h := e16 _
  have eI : r_I h' = r_I h := e16 _
  have eS : r_S h' = r_S h := e16 _
  have esl : ∀ j, r_sl h' j = r_sl h j := fun j => by
    show h_r h' (r_P h') j = h_r h (r_P h) j
    rw [eP]
    exact far a2 (by decide) (by decide) (by decide) j
  have eno : ∀ j, r_iu2 ρ h (r_sl h j) 29 47 → r_no h' j = r_no h j := fun j q => by
    show h_r h' (r_sl h' j) 0 = h_r h (r_sl h j) 0
    rw [esl]
    by_cases h1 : r_sl h j = p
    · rw [h1]
      exact act_r0 f hpl hw
    · refine ((act_far f hw q.1 (act_0 hp hn h1 (fun e => ?_) ?_)).2 0).2.2
      · have q := q.2
        rw [e] at q
        rcases q with z | z | z <;> cases z
      · rcases q.2 with z | z | z
        · exact Or.inr (by rw [z]; decide)
        · exact Or.inr (by rw [z]; decide)
        · exact Or.inl z
  have iu : ∀ {a R : Nat}, r_iu ρ h a R → r_iu (act_u ρ ρ1 h) h' a R := fun {a R} q => ⟨by have := q.1; omega, by rw [act_un _ q.1]; exact q.2⟩
  have iu2 : ∀ {a R R2 : Nat}, r_iu2 ρ h a R R2 → r_iu2 (act_u ρ ρ1 h) h' a R R2 := fun {a R R2} q => ⟨by have := q.1; omega, by rw [act_un _ q.1]; exact q.2⟩
  refine ⟨⟨iu a1, by rw [eP]; exact iu a2, by rw [eI]; exact iu a3, by rw [eS]; exact iu a4, a5', fun a ha => ?_, fun a ha => ?_⟩, fun j hj => ?_, fun a ha => ?_, d', e'⟩
  · by_cases hl : a < 16 + h_n h
    · exact a5.2.1 a ((act_un a hl).symm.trans ha)
    · exact a6' a ((act_uw a (by omega)).symm.trans ha)
  · by_cases hl : a < 16 + h_n h
    · rw [eS]
      exact a5.2.2 a ((act_un a hl).symm.trans ha)
    · exact a7' a ((act_uw a (by omega)).symm.trans ha)
  · rcases b j hj with z | ⟨z1, z2, z3⟩
    · exact Or.inl (by rw [esl]; exact z)
    · rcases b' j hj with y | ⟨-, -, y⟩
      · exact Or.inl y
      · exact Or.inr ⟨by rw [esl]; exact iu2 z1, by rw [eno j z1]; exact iu2 z2, y⟩
  · by_cases hl : a < 16 + h_n h
    · rw [act_un a hl] at ha
      obtain ⟨j, j1, j2, j3⟩ := c a ha
      rcases b j j1 with z | ⟨z1, -, -⟩
      · exact absurd z j2
      · exact ⟨j, j1, by rw [esl]; exact j2, by rw [eno j z1]; exact j3⟩
    · have hl2 : 16 + h_n h ≤ a := by omega
      rw [act_uw a hl2] at ha
      exact absurd (z_mem.mpr (by rcases ha with e | e <;> (rw [e]; decide))) (act_new f ht hp hw hl2 (by rcases ha with e | e <;> (rw [e]; decide))).2
end
-- the four methods that stand between: from a Past at work
theorem act_V {j : Nat} {S SA P PA : AST} {WA W : List (Nat × Nat)} (v : V_ok c_sp c_CC c_PT j ((SA, [1, 2]), (WA, [(PA, [1, 2])]))) (hw : act_W WA W = true) (hm : (1000, 1002) ∈ W) (hin : ∀ (ρ : Nat → Nat) (K : List Int) (KA : List Nat) (lv : List (Nat × Value)) (h : MH), TS c_sp ρ K KA S lv [] h → ∃ (p : Nat) (K' : List Int) (KA' : List Nat), ρ p = 29 ∧ TS c_sp (act_r ρ h p) K' KA' SA lv [] h ∧ ∀ (ρ1 : Nat → Nat) (v : List Value) (h' : MH), TS c_sp ρ1 K' KA' PA [] v h' → h_r h' p 0 = h_r h p 0 → (h_i h' (h_r h p 0) 5).toInt ≤ 15120 ∧ ∀ ρ', TH c_sp ρ' h' → TS c_sp ρ' K KA P [] v h') : V_ok c_sp c_CC c_PT j ((S, [1, 2]), (W, [(P, [1, 2])])) := by
  intro ρ K KA lv h hC hS hT
  have ht : TH c_sp ρ h := hS.1
  obtain ⟨p, K', KA', hp, hA, hback⟩ := hin ρ K KA lv h hS
  have k1 : t_nd ρ h := hT 1 (show (1 : Nat) ∈ [1, 2] by decide)
  have k2 : t_rm ρ h := hT 2 (show (2 : Nat) ∈ [1, 2] by decide)
  obtain ⟨n, r, h', ρ1, run, f, Q, hQ, t1, t2⟩ := v (act_r ρ h p) K' KA' lv h (act_CC ht hp hC) hA (fun t ht2 => by
    have ht2 : t ∈ [1, 2] := ht2
    rcases List.mem_cons.mp ht2 with e | ht2
    · rw [e]
      exact act_nd ht hp k1
    · rcases List.mem_cons.mp ht2 with e | ht2
      · rw [e]
        exact act_rm ht hp k2
      · cases ht2)
  have hQ : Q ∈ [(PA, [1, 2])] := hQ
  rcases List.mem_cons.mp hQ with e | hQ
  · subst e
    have hpl : p < 16 + h_n h := (ht.2 p (by rw [hp]; decide)).1
    obtain ⟨b1, b2⟩ := hback ρ1 r.toList h' t1 (act_r0 f hpl hw)
    have hU := act_TU f ht hp hw t1.1 b1
    refine ⟨n, r, h', act_u ρ ρ1 h, run, act_FQ f ht hp hw hm, (P, [1, 2]), List.mem_cons_self .., b2 _ hU, fun t ht2 => ?_⟩
    have ht2 : t ∈ [1, 2] := ht2
    rcases List.mem_cons.mp ht2 with e | ht2
    · rw [e]
      exact act_nd2 f ht hp hw k1 (t2 1 (show (1 : Nat) ∈ [1, 2] by decide))
    · rcases List.mem_cons.mp ht2 with e | ht2
      · rw [e]
        exact act_rm2 f ht hp hw k2 (t2 2 (show (2 : Nat) ∈ [1, 2] by decide))
      · cases ht2
  · cases hQ
theorem kp_c {σ σ2 : Nat → Int} {N : Nat} (hs : ∀ k, k < N → σ2 k = σ k) : (k_pins N).map (le_ev σ2) = (k_pins N).map (le_ev σ) := List.map_congr_left (fun e he => by
  obtain ⟨k, hk, rfl⟩ := List.mem_map.mp he
  rw [le_sE, le_sE]
  exact hs k (List.mem_range.mp hk))
theorem l_evC {σ σ2 : Nat → Int} {N : Nat} (hs : ∀ k, k < N → σ2 k = σ k) : ∀ l : List (Nat × Int), l.all (fun x => decide (x.1 < N)) = true → l_ev σ2 l = l_ev σ l
  | [], _ => rfl
  | (k, z) :: r, h => by
    rw [List.all_cons, Bool.and_eq_true] at h
    rw [l_ev, l_ev, l_evC hs r h.2, hs k (of_decide_eq_true h.1)]
def a_lc (N : Nat) (t : AT) : Bool := match t with
  | .inl e => e.1.all (fun x => decide (x.1 < N))
  | .inr (.inl _) => true
  | _ => false
theorem a_lcS {σ σ2 : Nat → Int} {α α2 ρ ρ2 : Nat → Nat} {N : Nat} {t : AT} {v : Value} (hs : ∀ k, k < N → σ2 k = σ k) (hc : a_lc N t = true) (k : t_at σ α ρ t v) : t_at σ2 α2 ρ2 t v := by
  cases t with
  | inl e =>
    obtain ⟨x, x1, x2⟩ := (k : ∃ x, v = .int x ∧ x.toInt = le_ev σ e)
    refine ⟨x, x1, x2.trans ?_⟩
    unfold le_ev
    rw [l_evC hs e.1 hc]
  | inr t => cases t with
    | inl u => exact k
    | inr q => cases hc
theorem act_three {j N : Nat} {iv : IV} {rest : List (Nat × AT)} {WA W : List (Nat × Nat)} (v : V_ok c_sp c_CC c_PT j ((((iv ++ [(N + 1, (0, 15120))], []), ([((0, (47, 0)), .inr (.inr (N, (48, true)))), ((N, (48, 5)), .inl ([(N + 1, 1)], 0))], ((k_pins (N + 2), List.range (N + 2)), (N + 2, ((0, .inr (.inr (0, (47, true)))) :: rest, []))))), [1, 2]), (WA, [((([(N + 2, ((-2147483648), 2147483647)), (N + 3, (0, 15120))], []), ([((N, (48, 5)), .inl ([(N + 3, 1)], 0))], ((k_pins (N + 2), List.range (N + 2)), (N + 4, ([], [.inl ([(N + 2, 1)], 0)]))))), [1, 2])]))) (hN : 0 < N) (hiv : iv.all (fun q => decide (q.1 < N)) = true) (hr : rest.all (fun q => a_lc N q.2) = true) (hw : act_W WA W = true) (hm : (1000, 1002) ∈ W) : V_ok c_sp c_CC c_PT j ((((iv, []), ([], ((k_pins N, List.range N), (N, ((0, .inr (.inr (0, (29, true)))) :: rest, []))))), [1, 2]), (W, [((([(N, ((-2147483648), 2147483647))], []), ([], ((k_pins N, List.range N), (N + 1, ([], [.inl ([(N, 1)], 0)]))))), [1, 2])])) := by
  refine act_V v hw hm (fun ρ K KA lv h hS => ?_)
  obtain ⟨ht, σ, α, s1, s2, s3, s4, s5, s6, s7⟩ := hS
  have s4 : (k_pins N).map (le_ev σ) = K := s4
  have s5 : (List.range N).map α = KA := s5
  obtain ⟨x, x1, x2⟩ := s6 _ (List.mem_cons_self ..)
  have x2 : x = .ref (α 0) ∧ t_rf ρ 29 true (α 0) := x2
  obtain ⟨hp0, hp⟩ := t_nn x2.2
  have hn := act_n ht hp
  have hn0 : h_r h (α 0) 0 ≠ 0 := fun e => by
    have hn : ρ (h_r h (α 0) 0) = 39 := hn
    rw [e, ht.1] at hn
    cases hn
  have hb : (0 : Int) ≤ (h_i h (h_r h (α 0) 0) 5).toInt ∧ (h_i h (h_r h (α 0) 0) 5).toInt ≤ 15120 := (t_spec ht (R := 39) (by decide) rfl hn).2.2.2 5 (.inl (0, 15120)) rfl (fun z => by cases z)
  obtain ⟨σ2, hσ⟩ : ∃ σ2 : Nat → Int, σ2 = fun k => if k = N + 1 then (h_i h (h_r h (α 0) 0) 5).toInt else σ k := ⟨_, rfl⟩
  obtain ⟨α2, hα⟩ : ∃ α2 : Nat → Nat, α2 = fun k => if k = N then h_r h (α 0) 0 else α k := ⟨_, rfl⟩
  have c1 : ∀ k, k < N → σ2 k = σ k := fun k hk => by rw [hσ]; exact if_neg (by omega)
  have c2 : σ2 (N + 1) = (h_i h (h_r h (α 0) 0) 5).toInt := by rw [hσ]; exact if_pos rfl
  have c3 : α2 N = h_r h (α 0) 0 := by rw [hα]; exact if_pos rfl
  have c4 : α2 0 = α 0 := by rw [hα]; exact if_neg (by omega)
  refine ⟨α 0, (k_pins (N + 2)).map (le_ev σ2), (List.range (N + 2)).map α2, hp, ⟨act_TH ht hp, σ2, α2, ?_, ?_, ?_, rfl, rfl, ?_, trivial⟩, fun ρ1 vs h' hP e0 => ?_⟩
  · intro q hq
    have hq : q ∈ iv ++ [(N + 1, ((0 : Int), (15120 : Int)))] := hq
    rcases List.mem_append.mp hq with z | z
    · rw [c1 q.1 (of_decide_eq_true (List.all_eq_true.mp hiv q z))]
      exact s1 q z
    · rcases List.mem_cons.mp z with e | z
      · rw [e]
        show (0 : Int) ≤ σ2 (N + 1) ∧ σ2 (N + 1) ≤ 15120
        rw [c2]
        exact hb
      · cases z
  · intro q hq
    cases hq
  · intro q hq
    have hq : q ∈ [((0, (47, 0)), (.inr (.inr (N, (48, true))) : AT)), ((N, (48, 5)), .inl ([(N + 1, 1)], 0))] := hq
    rcases List.mem_cons.mp hq with e | hq
    · rw [e]
      refine ⟨⟨by show α2 0 ≠ 0; rw [c4]; exact hp0, by show act_r ρ h (α 0) (α2 0) = 47; rw [c4]; exact act_p⟩, ?_⟩
      show h_r h (α2 0) (t_kx σ2 0) = α2 N ∧ t_rf (act_r ρ h (α 0)) 48 true (α2 N)
      rw [t_kxl (by decide), c4, c3]
      exact ⟨rfl, Or.inr ⟨hn0, by decide, act_nn ht hp⟩⟩
    · rcases List.mem_cons.mp hq with e | hq
      · rw [e]
        refine ⟨⟨by show α2 N ≠ 0; rw [c3]; exact hn0, by show act_r ρ h (α 0) (α2 N) = 48; rw [c3]; exact act_nn ht hp⟩, ?_⟩
        show (h_i h (α2 N) (t_kx σ2 5)).toInt = le_ev σ2 (le_s (N + 1))
        rw [t_kxl (by decide), c3, le_sE, c2]
      · cases hq
  · intro q hq
    have hq : q ∈ ((0, .inr (.inr (0, (47, true)))) :: rest : List (Nat × AT)) := hq
    rcases List.mem_cons.mp hq with e | hq
    · rw [e]
      refine ⟨x, x1, ?_⟩
      show x = .ref (α2 0) ∧ t_rf (act_r ρ h (α 0)) 47 true (α2 0)
      rw [c4]
      exact ⟨x2.1, Or.inr ⟨hp0, by decide, act_p⟩⟩
    · obtain ⟨y, y1, y2⟩ := s6 q (List.mem_cons_of_mem _ hq)
      exact ⟨y, y1, a_lcS c1 (List.all_eq_true.mp hr q hq) y2⟩
  · obtain ⟨ht1, σ', α', p1, p2, p3, p4, p5, p6, p7⟩ := hP
    have p5 : (List.range (N + 2)).map α' = (List.range (N + 2)).map α2 := p5
    have eN : α' N = h_r h (α 0) 0 := (List.map_inj_left.mp p5 N (List.mem_range.mpr (by omega))).trans c3
    have g1 := p1 (N + 2, ((-2147483648), 2147483647)) (List.mem_cons_self ..)
    have g2 := p1 (N + 3, (0, 15120)) (List.mem_cons_of_mem _ (List.mem_cons_self ..))
    have g1 : (-2147483648 : Int) ≤ σ' (N + 2) ∧ σ' (N + 2) ≤ 2147483647 := g1
    have g2 : (0 : Int) ≤ σ' (N + 3) ∧ σ' (N + 3) ≤ 15120 := g2
    have g3 := (p3 _ (List.mem_cons_self ..)).2
    have g3 : (h_i h' (α' N) (t_kx σ' 5)).toInt = le_ev σ' (le_s (N + 3)) := g3
    rw [t_kxl (by decide), le_sE, eN] at g3
    refine ⟨by show (h_i h' (h_r h (α 0) 0) 5).toInt ≤ 15120; rw [g3]; exact g2.2, fun ρ' hT' => ?_⟩
    cases vs with
    | nil => cases p7
    | cons w r => cases r with
      | cons _ _ => cases p7.2
      | nil =>
        obtain ⟨y, y1, y2⟩ := (p7.1 : ∃ x, w = .int x ∧ x.toInt = le_ev σ' (le_s (N + 2)))
        have y2 : y.toInt = le_ev σ' (le_s (N + 2)) := y2
        rw [le_sE] at y2
        subst y1
        have c5 : ∀ k, k < N → s_up σ N y.toInt k = σ k := fun k hk => if_neg (by omega)
        have c6 : s_up σ N y.toInt N = y.toInt := if_pos rfl
        refine ⟨hT', s_up σ N y.toInt, α, ?_, ?_, ?_, (kp_c c5).trans s4, s5, ?_, ⟨⟨y, rfl, ?_⟩, trivial⟩⟩
        · intro q hq
          have hq : q ∈ [(N, ((-2147483648 : Int), (2147483647 : Int)))] := hq
          rcases List.mem_cons.mp hq with e | hq
          · rw [e]
            show (-2147483648 : Int) ≤ s_up σ N y.toInt N ∧ s_up σ N y.toInt N ≤ 2147483647
            rw [c6, y2]
            exact g1
          · cases hq
        · intro q hq
          cases hq
        · intro q hq
          cases hq
        · intro q hq
          cases hq
        · show y.toInt = le_ev (s_up σ N y.toInt) (le_s N)
          rw [le_sE, c6]
theorem act_45 {j R : Nat} {WA W : List (Nat × Nat)} (v : V_ok c_sp c_CC c_PT j (((([], []), ([], ((k_pins 2, List.range 2), (2, ([(0, .inr (.inr (0, (47, true)))), (1, .inr (.inr (1, (R, true))))], []))))), [1, 2]), (WA, [((([(3, (0, 15120))], []), ([((0, (47, 0)), .inr (.inr (2, (48, true)))), ((2, (48, 5)), .inl ([(3, 1)], 0))], ((k_pins 2, List.range 2), (4, ([], []))))), [1, 2])]))) (h0 : R ≠ 0) (hR : ¬ R ∈ z_Z) (hw : act_W WA W = true) (hm : (1000, 1002) ∈ W) : V_ok c_sp c_CC c_PT j (((([], []), ([], ((k_pins 2, List.range 2), (2, ([(0, .inr (.inr (0, (29, true)))), (1, .inr (.inr (1, (R, true))))], []))))), [1, 2]), (W, [((([], []), ([], ((k_pins 2, List.range 2), (2, ([], []))))), [1, 2])])) := by
  refine act_V v hw hm (fun ρ K KA lv h hS => ?_)
  obtain ⟨ht, σ, α, s1, s2, s3, s4, s5, s6, s7⟩ := hS
  have s4 : (k_pins 2).map (le_ev σ) = K := s4
  have s5 : (List.range 2).map α = KA := s5
  obtain ⟨x, x1, x2⟩ := s6 _ (List.mem_cons_self ..)
  have x2 : x = .ref (α 0) ∧ t_rf ρ 29 true (α 0) := x2
  obtain ⟨hp0, hp⟩ := t_nn x2.2
  obtain ⟨y, y1, y2⟩ := s6 _ (List.mem_cons_of_mem _ (List.mem_cons_self ..))
  have y2 : y = .ref (α 1) ∧ t_rf ρ R true (α 1) := y2
  obtain ⟨hq0, hq⟩ := t_nn y2.2
  refine ⟨α 0, K, KA, hp, ⟨act_TH ht hp, σ, α, ?_, ?_, ?_, s4, s5, ?_, trivial⟩, fun ρ1 vs h' hP e0 => ?_⟩
  · intro q hq
    cases hq
  · intro q hq
    cases hq
  · intro q hq
    cases hq
  · intro q hq2
    have hq2 : q ∈ [((0 : Nat), (.inr (.inr (0, (47, true))) : AT)), (1, .inr (.inr (1, (R, true))))] := hq2
    rcases List.mem_cons.mp hq2 with e | hq2
    · rw [e]
      exact ⟨x, x1, x2.1, Or.inr ⟨hp0, by decide, act_p⟩⟩
    · rcases List.mem_cons.mp hq2 with e | hq2
      · rw [e]
        exact ⟨y, y1, y2.1, Or.inr ⟨hq0, h0, by rw [act_b ht hp _ (by rw [hq]; exact h0) (by rw [hq]; exact hR)]; exact hq⟩⟩
      · cases hq2
  · obtain ⟨ht1, σ', α', p1, p2, p3, p4, p5, p6, p7⟩ := hP
    have p5 : (List.range 2).map α' = KA := p5
    have eN : α' 0 = α 0 := List.map_inj_left.mp (p5.trans s5.symm) 0 (by decide)
    have g2 := p1 (3, (0, 15120)) (List.mem_cons_self ..)
    have g2 : (0 : Int) ≤ σ' 3 ∧ σ' 3 ≤ 15120 := g2
    have g4 := (p3 _ (List.mem_cons_self ..)).2
    have g4 : h_r h' (α' 0) (t_kx σ' 0) = α' 2 ∧ t_rf ρ1 48 true (α' 2) := g4
    have g3 := (p3 _ (List.mem_cons_of_mem _ (List.mem_cons_self ..))).2
    have g3 : (h_i h' (α' 2) (t_kx σ' 5)).toInt = le_ev σ' (le_s 3) := g3
    rw [t_kxl (by decide), eN] at g4
    have e1 : α' 2 = h_r h (α 0) 0 := g4.1.symm.trans e0
    rw [t_kxl (by decide), le_sE, e1] at g3
    refine ⟨by show (h_i h' (h_r h (α 0) 0) 5).toInt ≤ 15120; rw [g3]; exact g2.2, fun ρ' hT' => ?_⟩
    cases vs with
    | cons _ _ => cases p7
    | nil => exact ⟨hT', σ, α, fun q hq => (by cases hq), fun q hq => (by cases hq), fun q hq => (by cases hq), s4, s5, fun q hq => (by cases hq), trivial⟩
