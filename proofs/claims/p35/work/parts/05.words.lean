def lw_d : Nat → List Cond
  | 0 => lw_tbl
  | k + 1 => (lw_d k).drop 64
theorem lw_dM : ∀ k w, w ∈ lw_d k → w ∈ lw_tbl
  | 0, _, h => h
  | k + 1, w, h => lw_dM k w (List.mem_of_mem_drop h)
theorem m_memD {ws : List Cond} (ps : List (Nat × Nat)) (h : ws = ps.filterMap (fun q => (lw_d q.1)[q.2]?)) : ∀ w ∈ ws, w ∈ lw_tbl := by
  intro w hw
  rw [h] at hw
  obtain ⟨q, -, hi⟩ := List.mem_filterMap.mp hw
  exact lw_dM q.1 w (List.mem_of_getElem? hi)
theorem m_kk_0 : ∀ q ∈ m_meths_0, m_dok q = true := List.forall_mem_cons.mpr ⟨m_k0, List.forall_mem_cons.mpr ⟨m_k1, List.forall_mem_cons.mpr ⟨m_k2, List.forall_mem_cons.mpr ⟨m_k3, List.forall_mem_cons.mpr ⟨m_k4, List.forall_mem_cons.mpr ⟨m_k5, List.forall_mem_cons.mpr ⟨m_k6, List.forall_mem_cons.mpr ⟨m_k7, List.forall_mem_cons.mpr ⟨m_k8, List.forall_mem_cons.mpr ⟨m_k9, List.forall_mem_cons.mpr ⟨m_k10, List.forall_mem_cons.mpr ⟨m_k11, List.forall_mem_cons.mpr ⟨m_k12, List.forall_mem_cons.mpr ⟨m_k13, List.forall_mem_cons.mpr ⟨m_k14, List.forall_mem_cons.mpr ⟨m_k15, List.forall_mem_cons.mpr ⟨m_k16, List.forall_mem_cons.mpr ⟨m_k17, List.forall_mem_cons.mpr ⟨m_k18, List.forall_mem_cons.mpr ⟨m_k19, List.forall_mem_cons.mpr ⟨m_k20, List.forall_mem_cons.mpr ⟨m_k21, List.forall_mem_cons.mpr ⟨m_k22, List.forall_mem_cons.mpr ⟨m_k23, fun _ h => absurd h List.not_mem_nil⟩⟩⟩⟩⟩⟩⟩⟩⟩⟩⟩⟩⟩⟩⟩⟩⟩⟩⟩⟩⟩⟩⟩⟩
theorem m_kk_1 : ∀ q ∈ m_meths_1, m_dok q = true := List.forall_mem_cons.mpr ⟨m_k24, List.forall_mem_cons.mpr ⟨m_k25, List.forall_mem_cons.mpr ⟨m_k26, List.forall_mem_cons.mpr ⟨m_k27, List.forall_mem_cons.mpr ⟨m_k28, List.forall_mem_cons.mpr ⟨m_k29, List.forall_mem_cons.mpr ⟨m_k30, List.forall_mem_cons.mpr ⟨m_k31, List.forall_mem_cons.mpr ⟨m_k32, List.forall_mem_cons.mpr ⟨m_k33, List.forall_mem_cons.mpr ⟨m_k34, List.forall_mem_cons.mpr ⟨m_k35, List.forall_mem_cons.mpr ⟨m_k36, List.forall_mem_cons.mpr ⟨m_k37, List.forall_mem_cons.mpr ⟨m_k38, List.forall_mem_cons.mpr ⟨m_k39, List.forall_mem_cons.mpr ⟨m_k40, List.forall_mem_cons.mpr ⟨m_k41, List.forall_mem_cons.mpr ⟨m_k42, List.forall_mem_cons.mpr ⟨m_k43, List.forall_mem_cons.mpr ⟨m_k44, List.forall_mem_cons.mpr ⟨m_k45, List.forall_mem_cons.mpr ⟨m_k46, List.forall_mem_cons.mpr ⟨m_k47, fun _ h => absurd h List.not_mem_nil⟩⟩⟩⟩⟩⟩⟩⟩⟩⟩⟩⟩⟩⟩⟩⟩⟩⟩⟩⟩⟩⟩⟩⟩
theorem m_kk_2 : ∀ q ∈ m_meths_2, m_dok q = true := List.forall_mem_cons.mpr ⟨m_k48, List.forall_mem_cons.mpr ⟨m_k49, List.forall_mem_cons.mpr ⟨m_k50, List.forall_mem_cons.mpr ⟨m_k51, List.forall_mem_cons.mpr ⟨m_k52, List.forall_mem_cons.mpr ⟨m_k53, List.forall_mem_cons.mpr ⟨m_k54, List.forall_mem_cons.mpr ⟨m_k55, List.forall_mem_cons.mpr ⟨m_k56, List.forall_mem_cons.mpr ⟨m_k57, List.forall_mem_cons.mpr ⟨m_k58, List.forall_mem_cons.mpr ⟨m_k59, List.forall_mem_cons.mpr ⟨m_k60, List.forall_mem_cons.mpr ⟨m_k61, List.forall_mem_cons.mpr ⟨m_k62, List.forall_mem_cons.mpr ⟨m_k63, List.forall_mem_cons.mpr ⟨m_k64, List.forall_mem_cons.mpr ⟨m_k65, List.forall_mem_cons.mpr ⟨m_k66, List.forall_mem_cons.mpr ⟨m_k67, List.forall_mem_cons.mpr ⟨m_k68, List.forall_mem_cons.mpr ⟨m_k69, List.forall_mem_cons.mpr ⟨m_k70, List.forall_mem_cons.mpr ⟨m_k71, fun _ h => absurd h List.not_mem_nil⟩⟩⟩⟩⟩⟩⟩⟩⟩⟩⟩⟩⟩⟩⟩⟩⟩⟩⟩⟩⟩⟩⟩⟩
theorem m_kk_3 : ∀ q ∈ m_meths_3, m_dok q = true := List.forall_mem_cons.mpr ⟨m_k72, List.forall_mem_cons.mpr ⟨m_k73, List.forall_mem_cons.mpr ⟨m_k74, List.forall_mem_cons.mpr ⟨m_k75, List.forall_mem_cons.mpr ⟨m_k76, List.forall_mem_cons.mpr ⟨m_k77, List.forall_mem_cons.mpr ⟨m_k78, List.forall_mem_cons.mpr ⟨m_k79, List.forall_mem_cons.mpr ⟨m_k80, List.forall_mem_cons.mpr ⟨m_k81, List.forall_mem_cons.mpr ⟨m_k82, List.forall_mem_cons.mpr ⟨m_k83, List.forall_mem_cons.mpr ⟨m_k84, List.forall_mem_cons.mpr ⟨m_k85, List.forall_mem_cons.mpr ⟨m_k86, List.forall_mem_cons.mpr ⟨m_k87, List.forall_mem_cons.mpr ⟨m_k88, List.forall_mem_cons.mpr ⟨m_k89, List.forall_mem_cons.mpr ⟨m_k90, List.forall_mem_cons.mpr ⟨m_k91, List.forall_mem_cons.mpr ⟨m_k92, List.forall_mem_cons.mpr ⟨m_k93, List.forall_mem_cons.mpr ⟨m_k94, List.forall_mem_cons.mpr ⟨m_k95, fun _ h => absurd h List.not_mem_nil⟩⟩⟩⟩⟩⟩⟩⟩⟩⟩⟩⟩⟩⟩⟩⟩⟩⟩⟩⟩⟩⟩⟩⟩
theorem m_kk_4 : ∀ q ∈ m_meths_4, m_dok q = true := List.forall_mem_cons.mpr ⟨m_k96, List.forall_mem_cons.mpr ⟨m_k97, List.forall_mem_cons.mpr ⟨m_k98, List.forall_mem_cons.mpr ⟨m_k99, List.forall_mem_cons.mpr ⟨m_k100, List.forall_mem_cons.mpr ⟨m_k101, List.forall_mem_cons.mpr ⟨m_k102, List.forall_mem_cons.mpr ⟨m_k103, List.forall_mem_cons.mpr ⟨m_k104, List.forall_mem_cons.mpr ⟨m_k105, List.forall_mem_cons.mpr ⟨m_k106, List.forall_mem_cons.mpr ⟨m_k107, List.forall_mem_cons.mpr ⟨m_k108, List.forall_mem_cons.mpr ⟨m_k109, List.forall_mem_cons.mpr ⟨m_k110, List.forall_mem_cons.mpr ⟨m_k111, List.forall_mem_cons.mpr ⟨m_k112, List.forall_mem_cons.mpr ⟨m_k113, List.forall_mem_cons.mpr ⟨m_k114, List.forall_mem_cons.mpr ⟨m_k115, List.forall_mem_cons.mpr ⟨m_k116, List.forall_mem_cons.mpr ⟨m_k117, List.forall_mem_cons.mpr ⟨m_k118, List.forall_mem_cons.mpr ⟨m_k119, fun _ h => absurd h List.not_mem_nil⟩⟩⟩⟩⟩⟩⟩⟩⟩⟩⟩⟩⟩⟩⟩⟩⟩⟩⟩⟩⟩⟩⟩⟩
theorem m_kk_5 : ∀ q ∈ m_meths_5, m_dok q = true := List.forall_mem_cons.mpr ⟨m_k120, List.forall_mem_cons.mpr ⟨m_k121, List.forall_mem_cons.mpr ⟨m_k122, List.forall_mem_cons.mpr ⟨m_k123, List.forall_mem_cons.mpr ⟨m_k124, List.forall_mem_cons.mpr ⟨m_k125, List.forall_mem_cons.mpr ⟨m_k126, List.forall_mem_cons.mpr ⟨m_k127, List.forall_mem_cons.mpr ⟨m_k128, List.forall_mem_cons.mpr ⟨m_k129, List.forall_mem_cons.mpr ⟨m_k130, List.forall_mem_cons.mpr ⟨m_k131, List.forall_mem_cons.mpr ⟨m_k132, List.forall_mem_cons.mpr ⟨m_k133, List.forall_mem_cons.mpr ⟨m_k134, List.forall_mem_cons.mpr ⟨m_k135, List.forall_mem_cons.mpr ⟨m_k136, List.forall_mem_cons.mpr ⟨m_k137, List.forall_mem_cons.mpr ⟨m_k138, List.forall_mem_cons.mpr ⟨m_k139, List.forall_mem_cons.mpr ⟨m_k140, List.forall_mem_cons.mpr ⟨m_k141, List.forall_mem_cons.mpr ⟨m_k142, List.forall_mem_cons.mpr ⟨m_k143, fun _ h => absurd h List.not_mem_nil⟩⟩⟩⟩⟩⟩⟩⟩⟩⟩⟩⟩⟩⟩⟩⟩⟩⟩⟩⟩⟩⟩⟩⟩
theorem m_kk_6 : ∀ q ∈ m_meths_6, m_dok q = true := List.forall_mem_cons.mpr ⟨m_k144, List.forall_mem_cons.mpr ⟨m_k145, List.forall_mem_cons.mpr ⟨m_k146, List.forall_mem_cons.mpr ⟨m_k147, List.forall_mem_cons.mpr ⟨m_k148, List.forall_mem_cons.mpr ⟨m_k149, List.forall_mem_cons.mpr ⟨m_k150, List.forall_mem_cons.mpr ⟨m_k151, List.forall_mem_cons.mpr ⟨m_k152, List.forall_mem_cons.mpr ⟨m_k153, List.forall_mem_cons.mpr ⟨m_k154, List.forall_mem_cons.mpr ⟨m_k155, List.forall_mem_cons.mpr ⟨m_k156, List.forall_mem_cons.mpr ⟨m_k157, List.forall_mem_cons.mpr ⟨m_k158, List.forall_mem_cons.mpr ⟨m_k159, List.forall_mem_cons.mpr ⟨m_k160, List.forall_mem_cons.mpr ⟨m_k161, List.forall_mem_cons.mpr ⟨m_k162, List.forall_mem_cons.mpr ⟨m_k163, List.forall_mem_cons.mpr ⟨m_k164, List.forall_mem_cons.mpr ⟨m_k165, List.forall_mem_cons.mpr ⟨m_k166, List.forall_mem_cons.mpr ⟨m_k167, fun _ h => absurd h List.not_mem_nil⟩⟩⟩⟩⟩⟩⟩⟩⟩⟩⟩⟩⟩⟩⟩⟩⟩⟩⟩⟩⟩⟩⟩⟩
theorem m_kk_7 : ∀ q ∈ m_meths_7, m_dok q = true := List.forall_mem_cons.mpr ⟨m_k168, List.forall_mem_cons.mpr ⟨m_k169, List.forall_mem_cons.mpr ⟨m_k170, List.forall_mem_cons.mpr ⟨m_k171, List.forall_mem_cons.mpr ⟨m_k172, List.forall_mem_cons.mpr ⟨m_k173, List.forall_mem_cons.mpr ⟨m_k174, List.forall_mem_cons.mpr ⟨m_k175, List.forall_mem_cons.mpr ⟨m_k176, List.forall_mem_cons.mpr ⟨m_k177, List.forall_mem_cons.mpr ⟨m_k178, List.forall_mem_cons.mpr ⟨m_k179, List.forall_mem_cons.mpr ⟨m_k180, List.forall_mem_cons.mpr ⟨m_k181, List.forall_mem_cons.mpr ⟨m_k182, List.forall_mem_cons.mpr ⟨m_k183, List.forall_mem_cons.mpr ⟨m_k184, List.forall_mem_cons.mpr ⟨m_k185, List.forall_mem_cons.mpr ⟨m_k186, List.forall_mem_cons.mpr ⟨m_k187, List.forall_mem_cons.mpr ⟨m_k188, List.forall_mem_cons.mpr ⟨m_k189, List.forall_mem_cons.mpr ⟨m_k190, List.forall_mem_cons.mpr ⟨m_k191, fun _ h => absurd h List.not_mem_nil⟩⟩⟩⟩⟩⟩⟩⟩⟩⟩⟩⟩⟩⟩⟩⟩⟩⟩⟩⟩⟩⟩⟩⟩
theorem m_kk_8 : ∀ q ∈ m_meths_8, m_dok q = true := List.forall_mem_cons.mpr ⟨m_k192, List.forall_mem_cons.mpr ⟨m_k193, List.forall_mem_cons.mpr ⟨m_k194, List.forall_mem_cons.mpr ⟨m_k195, List.forall_mem_cons.mpr ⟨m_k196, List.forall_mem_cons.mpr ⟨m_k197, List.forall_mem_cons.mpr ⟨m_k198, List.forall_mem_cons.mpr ⟨m_k199, List.forall_mem_cons.mpr ⟨m_k200, List.forall_mem_cons.mpr ⟨m_k201, List.forall_mem_cons.mpr ⟨m_k202, List.forall_mem_cons.mpr ⟨m_k203, List.forall_mem_cons.mpr ⟨m_k204, List.forall_mem_cons.mpr ⟨m_k205, List.forall_mem_cons.mpr ⟨m_k206, List.forall_mem_cons.mpr ⟨m_k207, List.forall_mem_cons.mpr ⟨m_k208, List.forall_mem_cons.mpr ⟨m_k209, List.forall_mem_cons.mpr ⟨m_k210, List.forall_mem_cons.mpr ⟨m_k211, List.forall_mem_cons.mpr ⟨m_k212, List.forall_mem_cons.mpr ⟨m_k213, List.forall_mem_cons.mpr ⟨m_k214, List.forall_mem_cons.mpr ⟨m_k215, fun _ h => absurd h List.not_mem_nil⟩⟩⟩⟩⟩⟩⟩⟩⟩⟩⟩⟩⟩⟩⟩⟩⟩⟩⟩⟩⟩⟩⟩⟩
theorem m_kk_9 : ∀ q ∈ m_meths_9, m_dok q = true := List.forall_mem_cons.mpr ⟨m_k216, List.forall_mem_cons.mpr ⟨m_k217, List.forall_mem_cons.mpr ⟨m_k218, List.forall_mem_cons.mpr ⟨m_k219, List.forall_mem_cons.mpr ⟨m_k220, List.forall_mem_cons.mpr ⟨m_k221, List.forall_mem_cons.mpr ⟨m_k222, List.forall_mem_cons.mpr ⟨m_k223, List.forall_mem_cons.mpr ⟨m_k224, List.forall_mem_cons.mpr ⟨m_k225, List.forall_mem_cons.mpr ⟨m_k226, List.forall_mem_cons.mpr ⟨m_k227, List.forall_mem_cons.mpr ⟨m_k228, List.forall_mem_cons.mpr ⟨m_k229, List.forall_mem_cons.mpr ⟨m_k230, List.forall_mem_cons.mpr ⟨m_k231, List.forall_mem_cons.mpr ⟨m_k232, List.forall_mem_cons.mpr ⟨m_k233, List.forall_mem_cons.mpr ⟨m_k234, List.forall_mem_cons.mpr ⟨m_k235, List.forall_mem_cons.mpr ⟨m_k236, List.forall_mem_cons.mpr ⟨m_k237, List.forall_mem_cons.mpr ⟨m_k238, List.forall_mem_cons.mpr ⟨m_k239, fun _ h => absurd h List.not_mem_nil⟩⟩⟩⟩⟩⟩⟩⟩⟩⟩⟩⟩⟩⟩⟩⟩⟩⟩⟩⟩⟩⟩⟩⟩
theorem m_kk_10 : ∀ q ∈ m_meths_10, m_dok q = true := List.forall_mem_cons.mpr ⟨m_k240, List.forall_mem_cons.mpr ⟨m_k241, List.forall_mem_cons.mpr ⟨m_k242, List.forall_mem_cons.mpr ⟨m_k243, List.forall_mem_cons.mpr ⟨m_k244, List.forall_mem_cons.mpr ⟨m_k245, List.forall_mem_cons.mpr ⟨m_k246, List.forall_mem_cons.mpr ⟨m_k247, List.forall_mem_cons.mpr ⟨m_k248, List.forall_mem_cons.mpr ⟨m_k249, List.forall_mem_cons.mpr ⟨m_k250, List.forall_mem_cons.mpr ⟨m_k251, List.forall_mem_cons.mpr ⟨m_k252, List.forall_mem_cons.mpr ⟨m_k253, List.forall_mem_cons.mpr ⟨m_k254, List.forall_mem_cons.mpr ⟨m_k255, List.forall_mem_cons.mpr ⟨m_k256, List.forall_mem_cons.mpr ⟨m_k257, List.forall_mem_cons.mpr ⟨m_k258, List.forall_mem_cons.mpr ⟨m_k259, List.forall_mem_cons.mpr ⟨m_k260, List.forall_mem_cons.mpr ⟨m_k261, List.forall_mem_cons.mpr ⟨m_k262, List.forall_mem_cons.mpr ⟨m_k263, fun _ h => absurd h List.not_mem_nil⟩⟩⟩⟩⟩⟩⟩⟩⟩⟩⟩⟩⟩⟩⟩⟩⟩⟩⟩⟩⟩⟩⟩⟩
theorem m_kk_11 : ∀ q ∈ m_meths_11, m_dok q = true := List.forall_mem_cons.mpr ⟨m_k264, List.forall_mem_cons.mpr ⟨m_k265, List.forall_mem_cons.mpr ⟨m_k266, List.forall_mem_cons.mpr ⟨m_k267, List.forall_mem_cons.mpr ⟨m_k268, List.forall_mem_cons.mpr ⟨m_k269, List.forall_mem_cons.mpr ⟨m_k270, List.forall_mem_cons.mpr ⟨m_k271, List.forall_mem_cons.mpr ⟨m_k272, List.forall_mem_cons.mpr ⟨m_k273, List.forall_mem_cons.mpr ⟨m_k274, List.forall_mem_cons.mpr ⟨m_k275, List.forall_mem_cons.mpr ⟨m_k276, List.forall_mem_cons.mpr ⟨m_k277, List.forall_mem_cons.mpr ⟨m_k278, List.forall_mem_cons.mpr ⟨m_k279, List.forall_mem_cons.mpr ⟨m_k280, List.forall_mem_cons.mpr ⟨m_k281, List.forall_mem_cons.mpr ⟨m_k282, List.forall_mem_cons.mpr ⟨m_k283, List.forall_mem_cons.mpr ⟨m_k284, List.forall_mem_cons.mpr ⟨m_k285, List.forall_mem_cons.mpr ⟨m_k286, List.forall_mem_cons.mpr ⟨m_k287, fun _ h => absurd h List.not_mem_nil⟩⟩⟩⟩⟩⟩⟩⟩⟩⟩⟩⟩⟩⟩⟩⟩⟩⟩⟩⟩⟩⟩⟩⟩
theorem m_kk_12 : ∀ q ∈ m_meths_12, m_dok q = true := List.forall_mem_cons.mpr ⟨m_k288, List.forall_mem_cons.mpr ⟨m_k289, List.forall_mem_cons.mpr ⟨m_k290, List.forall_mem_cons.mpr ⟨m_k291, fun _ h => absurd h List.not_mem_nil⟩⟩⟩⟩
theorem m_kk : ∀ q ∈ m_meths, m_dok q = true := (fun q h => (List.mem_append.mp h).elim (m_kk_0 q) ((fun q h => (List.mem_append.mp h).elim (m_kk_1 q) ((fun q h => (List.mem_append.mp h).elim (m_kk_2 q) ((fun q h => (List.mem_append.mp h).elim (m_kk_3 q) ((fun q h => (List.mem_append.mp h).elim (m_kk_4 q) ((fun q h => (List.mem_append.mp h).elim (m_kk_5 q) ((fun q h => (List.mem_append.mp h).elim (m_kk_6 q) ((fun q h => (List.mem_append.mp h).elim (m_kk_7 q) ((fun q h => (List.mem_append.mp h).elim (m_kk_8 q) ((fun q h => (List.mem_append.mp h).elim (m_kk_9 q) ((fun q h => (List.mem_append.mp h).elim (m_kk_10 q) ((fun q h => (List.mem_append.mp h).elim (m_kk_11 q) (m_kk_12 q)) q)) q)) q)) q)) q)) q)) q)) q)) q)) q)) q))
def m_cw (q : m_M) : Cond := Cond.code q.2.1 q.2.2.1 q.2.2.2.1 q.2.2.2.2.1
set_option maxRecDepth 100000 in
theorem m_kc0 : ∀ w ∈ (m_meths_0.drop 1).map m_cw, w ∈ lw_tbl := m_memD [(2, 0), (2, 8), (2, 15), (2, 63), (3, 37), (4, 20), (4, 63), (5, 3), (5, 7), (5, 11), (5, 15), (5, 19), (5, 22), (5, 26), (5, 30), (5, 34), (5, 37), (5, 41), (5, 44), (5, 54), (5, 58), (5, 62), (6, 4)] rfl
set_option maxRecDepth 100000 in
theorem m_kc1 : ∀ w ∈ m_meths_1.map m_cw, w ∈ lw_tbl := m_memD [(6, 8), (6, 11), (6, 14), (6, 19), (6, 22), (6, 25), (6, 28), (6, 32), (6, 41), (6, 45), (6, 49), (6, 53), (6, 57), (6, 60), (6, 63), (7, 5), (7, 9), (7, 16), (7, 20), (7, 26), (7, 62), (9, 6), (9, 10), (9, 14)] rfl
set_option maxRecDepth 100000 in
theorem m_kc2 : ∀ w ∈ m_meths_2.map m_cw, w ∈ lw_tbl := m_memD [(9, 17), (9, 21), (9, 26), (9, 30), (9, 33), (9, 37), (9, 41), (9, 45), (9, 49), (9, 53), (9, 57), (9, 61), (10, 0), (10, 4), (10, 7), (10, 19), (10, 29), (10, 33), (10, 37), (10, 41), (10, 46), (10, 50), (10, 54), (10, 58)] rfl
set_option maxRecDepth 100000 in
theorem m_kc3 : ∀ w ∈ m_meths_3.map m_cw, w ∈ lw_tbl := m_memD [(10, 62), (11, 4), (11, 8), (11, 12), (11, 19), (11, 22), (11, 25), (11, 30), (11, 34), (11, 39), (11, 42), (11, 49), (11, 53), (11, 57), (11, 63), (12, 3), (12, 7), (12, 13), (12, 17), (12, 21), (12, 26), (12, 30), (12, 34), (12, 38)] rfl
set_option maxRecDepth 100000 in
theorem m_kc4 : ∀ w ∈ m_meths_4.map m_cw, w ∈ lw_tbl := m_memD [(12, 44), (12, 48), (12, 56), (12, 60), (13, 0), (13, 5), (13, 9), (13, 14), (13, 18), (13, 22), (13, 27), (13, 31), (13, 37), (13, 42), (13, 46), (13, 50), (13, 54), (13, 58), (13, 62), (14, 2), (14, 6), (14, 10), (14, 14), (14, 18)] rfl
set_option maxRecDepth 100000 in
theorem m_kc5 : ∀ w ∈ m_meths_5.map m_cw, w ∈ lw_tbl := m_memD [(14, 22), (14, 27), (14, 31), (14, 35), (14, 39), (14, 43), (14, 46), (14, 50), (14, 54), (14, 58), (14, 62), (15, 2), (15, 6), (15, 10), (15, 14), (15, 18), (15, 22), (15, 25), (15, 28), (15, 32), (15, 35), (15, 39), (15, 44), (15, 49)] rfl
set_option maxRecDepth 100000 in
theorem m_kc6 : ∀ w ∈ m_meths_6.map m_cw, w ∈ lw_tbl := m_memD [(15, 53), (15, 57), (15, 61), (16, 1), (16, 5), (16, 11), (16, 15), (16, 19), (16, 23), (16, 27), (16, 31), (16, 34), (16, 43), (16, 47), (16, 51), (16, 55), (16, 59), (17, 0), (17, 4), (17, 8), (17, 12), (17, 16), (17, 24), (17, 28)] rfl
set_option maxRecDepth 100000 in
theorem m_kc7 : ∀ w ∈ m_meths_7.map m_cw, w ∈ lw_tbl := m_memD [(17, 33), (17, 37), (17, 41), (17, 45), (17, 49), (17, 53), (17, 57), (17, 61), (18, 1), (18, 5), (18, 9), (18, 13), (18, 17), (18, 22), (18, 27), (21, 46), (21, 50), (21, 54), (21, 57), (21, 61), (22, 1), (22, 5), (22, 9), (22, 13)] rfl
set_option maxRecDepth 100000 in
theorem m_kc8 : ∀ w ∈ m_meths_8.map m_cw, w ∈ lw_tbl := m_memD [(22, 17), (22, 27), (22, 31), (22, 35), (22, 39), (22, 43), (22, 47), (22, 51), (22, 55), (22, 59), (22, 63), (23, 3), (23, 7), (23, 11), (23, 15), (23, 19), (23, 23), (23, 27), (23, 31), (23, 35), (23, 39), (23, 43), (23, 47), (23, 51)] rfl
set_option maxRecDepth 100000 in
theorem m_kc9 : ∀ w ∈ m_meths_9.map m_cw, w ∈ lw_tbl := m_memD [(23, 55), (23, 59), (23, 63), (24, 3), (24, 7), (24, 11), (24, 15), (24, 19), (24, 24), (24, 28), (24, 32), (24, 36), (24, 40), (24, 44), (24, 48), (24, 52), (24, 55), (24, 60), (25, 0), (25, 4), (25, 8), (25, 12), (25, 16), (25, 20)] rfl
set_option maxRecDepth 100000 in
theorem m_kc10 : ∀ w ∈ m_meths_10.map m_cw, w ∈ lw_tbl := m_memD [(25, 24), (25, 28), (25, 32), (25, 36), (25, 40), (25, 44), (25, 48), (25, 52), (25, 56), (25, 60), (25, 63), (26, 3), (26, 7), (26, 11), (26, 15), (26, 19), (26, 22), (26, 26), (26, 30), (26, 33), (26, 37), (26, 41), (26, 45), (26, 49)] rfl
set_option maxRecDepth 100000 in
theorem m_kc11 : ∀ w ∈ m_meths_11.map m_cw, w ∈ lw_tbl := m_memD [(26, 53), (26, 57), (26, 61), (27, 1), (27, 5), (27, 8), (27, 12), (27, 16), (27, 20), (27, 24), (27, 28), (27, 32), (27, 36), (27, 41), (27, 45), (27, 49), (27, 53), (27, 57), (27, 61), (28, 1), (28, 5), (28, 9), (28, 13), (28, 17)] rfl
set_option maxRecDepth 100000 in
theorem m_kc12 : ∀ w ∈ m_meths_12.map m_cw, w ∈ lw_tbl := m_memD [(28, 21), (28, 25), (28, 28), (28, 32)] rfl
def m_kw (q : m_M) : List Cond := match q.2.2.2.2.2.1 with | 0 => [.initialized q.2.1.cls, .static q.2.1] | 1 => [.initialized q.2.1.cls, .instanceMethod q.2.1, .selects q.2.1.cls q.2.1 q.2.1] | _ => [.initialized q.2.1.cls, .instanceMethod q.2.1]
theorem m_kw0 : ∀ w ∈ (m_meths_0.drop 1).flatMap m_kw, w ∈ lw_tbl := m_memD [(1, 41), (1, 63), (1, 42), (2, 7), (1, 43), (2, 14), (1, 44), (2, 62), (1, 45), (3, 36), (1, 46), (4, 19), (1, 41), (4, 61), (4, 62), (1, 42), (5, 1), (5, 2), (1, 41), (5, 5), (5, 6), (1, 41), (5, 9), (5, 10), (1, 41), (5, 14), (0, 0), (1, 44), (5, 17), (5, 18), (1, 48), (5, 21), (1, 43), (5, 24), (5, 25), (1, 44), (5, 29), (0, 1), (1, 44), (5, 33), (0, 2), (1, 44), (5, 36), (1, 44), (5, 40), (0, 3), (1, 44), (5, 43), (1, 44), (5, 53), (0, 4), (1, 49), (5, 56), (5, 57), (1, 49), (5, 60), (5, 61), (1, 49), (6, 2), (6, 3)] (by decide +kernel)
theorem m_kw1 : ∀ w ∈ m_meths_1.flatMap m_kw, w ∈ lw_tbl := m_memD [(1, 49), (6, 6), (6, 7), (1, 50), (6, 10), (1, 49), (6, 13), (1, 51), (6, 18), (1, 52), (6, 21), (1, 52), (6, 24), (1, 52), (6, 27), (1, 52), (6, 31), (1, 44), (6, 40), (1, 44), (6, 44), (0, 5), (1, 44), (6, 48), (0, 6), (1, 44), (6, 52), (0, 7), (1, 43), (6, 55), (6, 56), (1, 53), (6, 59), (1, 53), (6, 62), (1, 43), (7, 3), (7, 4), (1, 43), (7, 7), (7, 8), (1, 41), (7, 15), (0, 8), (1, 55), (7, 19), (1, 56), (7, 25), (1, 57), (7, 61), (1, 55), (9, 4), (9, 5), (1, 56), (9, 8), (9, 9), (1, 48), (9, 13)] (by decide +kernel)
theorem m_kw2 : ∀ w ∈ m_meths_2.flatMap m_kw, w ∈ lw_tbl := m_memD [(1, 53), (9, 16), (1, 55), (9, 20), (0, 9), (1, 55), (9, 25), (0, 10), (1, 57), (9, 28), (9, 29), (1, 41), (9, 32), (1, 57), (9, 36), (0, 11), (1, 43), (9, 39), (9, 40), (1, 43), (9, 43), (9, 44), (1, 55), (9, 48), (0, 12), (1, 55), (9, 51), (9, 52), (1, 55), (9, 56), (0, 13), (1, 55), (9, 60), (0, 14), (1, 41), (9, 63), (1, 56), (10, 2), (10, 3), (1, 53), (10, 6), (1, 53), (10, 18), (1, 56), (10, 27), (10, 28), (1, 56), (10, 32), (0, 15), (1, 56), (10, 35), (10, 36), (1, 56), (10, 39), (10, 40), (1, 56), (10, 45), (0, 16), (1, 56), (10, 48), (10, 49), (1, 55), (10, 53), (0, 17), (1, 56), (10, 56), (10, 57)] (by decide +kernel)
theorem m_kw3 : ∀ w ∈ m_meths_3.flatMap m_kw, w ∈ lw_tbl := m_memD [(1, 56), (10, 60), (10, 61), (1, 56), (11, 2), (11, 3), (1, 45), (11, 6), (11, 7), (1, 45), (11, 11), (0, 18), (1, 45), (11, 17), (11, 18), (1, 41), (11, 21), (1, 41), (11, 24), (1, 56), (11, 29), (0, 19), (1, 56), (11, 32), (11, 33), (1, 55), (11, 38), (0, 20), (1, 58), (11, 41), (1, 55), (11, 47), (11, 48), (1, 55), (11, 51), (11, 52), (1, 55), (11, 56), (0, 21), (1, 56), (11, 61), (11, 62), (1, 41), (12, 1), (12, 2), (1, 41), (12, 5), (12, 6), (1, 41), (12, 11), (12, 12), (1, 41), (12, 16), (0, 22), (1, 41), (12, 19), (12, 20), (1, 41), (12, 24), (12, 25), (1, 41), (12, 28), (12, 29), (1, 41), (12, 32), (12, 33), (1, 42), (12, 36), (12, 37)] (by decide +kernel)
theorem m_kw4 : ∀ w ∈ m_meths_4.flatMap m_kw, w ∈ lw_tbl := m_memD [(1, 41), (12, 42), (12, 43), (1, 41), (12, 46), (12, 47), (1, 46), (12, 54), (12, 55), (1, 56), (12, 58), (12, 59), (1, 46), (12, 62), (12, 63), (1, 46), (13, 3), (13, 4), (1, 41), (13, 8), (0, 23), (1, 45), (13, 12), (13, 13), (1, 45), (13, 16), (13, 17), (1, 45), (13, 20), (13, 21), (1, 55), (13, 25), (13, 26), (1, 41), (13, 29), (13, 30), (1, 41), (13, 35), (13, 36), (1, 41), (13, 40), (13, 41), (1, 41), (13, 44), (13, 45), (1, 45), (13, 48), (13, 49), (1, 41), (13, 52), (13, 53), (1, 45), (13, 56), (13, 57), (1, 41), (13, 60), (13, 61), (1, 45), (14, 0), (14, 1), (1, 45), (14, 4), (14, 5), (1, 45), (14, 9), (0, 24), (1, 45), (14, 13), (0, 25), (1, 41), (14, 16), (14, 17)] (by decide +kernel)
theorem m_kw5 : ∀ w ∈ m_meths_5.flatMap m_kw, w ∈ lw_tbl := m_memD [(1, 57), (14, 20), (14, 21), (1, 45), (14, 25), (14, 26), (1, 41), (14, 29), (14, 30), (1, 41), (14, 34), (0, 26), (1, 45), (14, 37), (14, 38), (1, 45), (14, 42), (0, 27), (1, 45), (14, 45), (1, 41), (14, 48), (14, 49), (1, 45), (14, 52), (14, 53), (1, 45), (14, 56), (14, 57), (1, 41), (14, 60), (14, 61), (1, 57), (15, 0), (15, 1), (1, 41), (15, 4), (15, 5), (1, 57), (15, 8), (15, 9), (1, 57), (15, 13), (0, 28), (1, 53), (15, 17), (1, 57), (15, 21), (0, 29), (1, 48), (15, 24), (1, 48), (15, 27), (1, 57), (15, 30), (15, 31), (1, 41), (15, 34), (1, 41), (15, 37), (15, 38), (1, 57), (15, 42), (15, 43), (1, 57), (15, 47), (15, 48)] (by decide +kernel)
theorem m_kw6 : ∀ w ∈ m_meths_6.flatMap m_kw, w ∈ lw_tbl := m_memD [(1, 41), (15, 51), (15, 52), (1, 55), (15, 55), (15, 56), (1, 41), (15, 59), (15, 60), (1, 41), (15, 63), (16, 0), (1, 46), (16, 3), (16, 4), (1, 41), (16, 9), (16, 10), (1, 55), (16, 13), (16, 14), (1, 46), (16, 17), (16, 18), (1, 41), (16, 21), (16, 22), (1, 46), (16, 25), (16, 26), (1, 41), (16, 30), (1, 59), (16, 33), (1, 41), (16, 41), (16, 42), (1, 46), (16, 45), (16, 46), (1, 46), (16, 50), (0, 30), (1, 46), (16, 54), (0, 31), (1, 46), (16, 58), (0, 32), (1, 46), (16, 63), (0, 33), (1, 41), (17, 2), (17, 3), (1, 46), (17, 6), (17, 7), (1, 41), (17, 10), (17, 11), (1, 46), (17, 14), (17, 15), (1, 41), (17, 22), (17, 23), (1, 46), (17, 26), (17, 27)] (by decide +kernel)
theorem m_kw7 : ∀ w ∈ m_meths_7.flatMap m_kw, w ∈ lw_tbl := m_memD [(1, 41), (17, 31), (17, 32), (1, 55), (17, 35), (17, 36), (1, 41), (17, 39), (17, 40), (1, 55), (17, 43), (17, 44), (1, 55), (17, 47), (17, 48), (1, 55), (17, 52), (0, 34), (1, 55), (17, 56), (0, 35), (1, 55), (17, 60), (0, 36), (1, 41), (17, 63), (18, 0), (1, 55), (18, 3), (18, 4), (1, 41), (18, 7), (18, 8), (1, 55), (18, 11), (18, 12), (1, 55), (18, 16), (0, 37), (1, 55), (18, 21), (0, 38), (1, 47), (18, 26), (1, 47), (21, 44), (21, 45), (1, 47), (21, 49), (0, 39), (1, 47), (21, 52), (21, 53), (1, 47), (21, 56), (1, 47), (21, 59), (21, 60), (1, 47), (22, 0), (0, 40), (1, 47), (22, 4), (0, 41), (1, 47), (22, 8), (0, 42), (1, 47), (22, 12), (0, 43)] (by decide +kernel)
theorem m_kw8 : ∀ w ∈ m_meths_8.flatMap m_kw, w ∈ lw_tbl := m_memD [(1, 47), (22, 16), (0, 44), (1, 47), (22, 26), (0, 45), (1, 47), (22, 30), (0, 46), (1, 47), (22, 34), (0, 47), (1, 47), (22, 37), (22, 38), (1, 47), (22, 41), (22, 42), (1, 47), (22, 46), (0, 48), (1, 47), (22, 50), (0, 49), (1, 47), (22, 53), (22, 54), (1, 47), (22, 58), (0, 50), (1, 47), (22, 62), (0, 51), (1, 47), (23, 2), (0, 52), (1, 47), (23, 6), (0, 53), (1, 47), (23, 10), (0, 54), (1, 47), (23, 14), (0, 55), (1, 47), (23, 18), (0, 56), (1, 47), (23, 22), (0, 57), (1, 47), (23, 26), (0, 58), (1, 47), (23, 30), (0, 59), (1, 47), (23, 34), (0, 60), (1, 47), (23, 38), (0, 61), (1, 47), (23, 42), (0, 62), (1, 47), (23, 46), (0, 63), (1, 47), (23, 50), (1, 0)] (by decide +kernel)
theorem m_kw9 : ∀ w ∈ m_meths_9.flatMap m_kw, w ∈ lw_tbl := m_memD [(1, 47), (23, 54), (1, 1), (1, 47), (23, 58), (1, 2), (1, 47), (23, 62), (1, 3), (1, 47), (24, 2), (1, 4), (1, 47), (24, 6), (1, 5), (1, 47), (24, 10), (1, 6), (1, 47), (24, 14), (1, 7), (1, 47), (24, 17), (24, 18), (1, 47), (24, 23), (1, 8), (1, 47), (24, 27), (1, 9), (1, 47), (24, 30), (24, 31), (1, 47), (24, 34), (24, 35), (1, 47), (24, 39), (1, 10), (1, 47), (24, 43), (1, 11), (1, 47), (24, 47), (1, 12), (1, 47), (24, 51), (1, 13), (1, 47), (24, 54), (1, 47), (24, 59), (1, 14), (1, 47), (24, 63), (1, 15), (1, 47), (25, 2), (25, 3), (1, 47), (25, 6), (25, 7), (1, 47), (25, 10), (25, 11), (1, 47), (25, 14), (25, 15), (1, 47), (25, 18), (25, 19)] (by decide +kernel)
theorem m_kw10 : ∀ w ∈ m_meths_10.flatMap m_kw, w ∈ lw_tbl := m_memD [(1, 47), (25, 23), (1, 16), (1, 47), (25, 26), (25, 27), (1, 47), (25, 31), (1, 17), (1, 47), (25, 34), (25, 35), (1, 47), (25, 38), (25, 39), (1, 47), (25, 43), (1, 18), (1, 47), (25, 47), (1, 19), (1, 47), (25, 50), (25, 51), (1, 47), (25, 54), (25, 55), (1, 47), (25, 59), (1, 20), (1, 47), (25, 62), (1, 47), (26, 2), (1, 21), (1, 47), (26, 6), (1, 22), (1, 47), (26, 9), (26, 10), (1, 47), (26, 14), (1, 23), (1, 47), (26, 18), (1, 24), (1, 47), (26, 21), (1, 47), (26, 25), (1, 25), (1, 47), (26, 29), (1, 26), (1, 47), (26, 32), (1, 47), (26, 36), (1, 27), (1, 47), (26, 40), (1, 28), (1, 47), (26, 43), (26, 44), (1, 47), (26, 48), (1, 29)] (by decide +kernel)
theorem m_kw11 : ∀ w ∈ m_meths_11.flatMap m_kw, w ∈ lw_tbl := m_memD [(1, 47), (26, 51), (26, 52), (1, 47), (26, 55), (26, 56), (1, 47), (26, 60), (1, 30), (1, 47), (27, 0), (1, 31), (1, 47), (27, 3), (27, 4), (1, 47), (27, 7), (1, 47), (27, 10), (27, 11), (1, 47), (27, 14), (27, 15), (1, 47), (27, 19), (1, 32), (1, 47), (27, 22), (27, 23), (1, 47), (27, 26), (27, 27), (1, 47), (27, 30), (27, 31), (1, 47), (27, 35), (1, 33), (1, 47), (27, 39), (27, 40), (1, 47), (27, 44), (1, 34), (1, 47), (27, 48), (1, 35), (1, 47), (27, 51), (27, 52), (1, 47), (27, 56), (1, 36), (1, 47), (27, 59), (27, 60), (1, 47), (28, 0), (1, 37), (1, 47), (28, 3), (28, 4), (1, 47), (28, 7), (28, 8), (1, 47), (28, 12), (1, 38), (1, 47), (28, 15), (28, 16)] (by decide +kernel)
theorem m_kw12 : ∀ w ∈ m_meths_12.flatMap m_kw, w ∈ lw_tbl := m_memD [(1, 47), (28, 19), (28, 20), (1, 47), (28, 24), (1, 39), (1, 47), (28, 27), (1, 47), (28, 30), (28, 31)] (by decide +kernel)
-- names: plain, no method handle; as many arguments as the table says
def m_nok (q : m_M) : Bool := (decide (q.2.1.cls = "java/lang/Math") || plainName q.2.1.cls) && decide (q.2.1.cls ≠ "java/lang/invoke/MethodHandle" ∧ q.2.1.cls ≠ "java/lang/invoke/VarHandle" ∧ (parseMethodDescriptor q.2.1.desc).map (fun d => d.parameters.length) = some q.2.2.2.2.2.2.2.2 ∧ (q.2.2.2.2.2.1 = 2 → q.2.1.name = "<init>" ∧ q.2.2.2.2.1 = none))
theorem m_kn0 : ∀ q ∈ m_meths_0, m_nok q = true := List.all_eq_true.mp (by decide +kernel)
theorem m_kn1 : ∀ q ∈ m_meths_1, m_nok q = true := List.all_eq_true.mp (by decide +kernel)
theorem m_kn2 : ∀ q ∈ m_meths_2, m_nok q = true := List.all_eq_true.mp (by decide +kernel)
theorem m_kn3 : ∀ q ∈ m_meths_3, m_nok q = true := List.all_eq_true.mp (by decide +kernel)
theorem m_kn4 : ∀ q ∈ m_meths_4, m_nok q = true := List.all_eq_true.mp (by decide +kernel)
theorem m_kn5 : ∀ q ∈ m_meths_5, m_nok q = true := List.all_eq_true.mp (by decide +kernel)
theorem m_kn6 : ∀ q ∈ m_meths_6, m_nok q = true := List.all_eq_true.mp (by decide +kernel)
theorem m_kn7 : ∀ q ∈ m_meths_7, m_nok q = true := List.all_eq_true.mp (by decide +kernel)
theorem m_kn8 : ∀ q ∈ m_meths_8, m_nok q = true := List.all_eq_true.mp (by decide +kernel)
theorem m_kn9 : ∀ q ∈ m_meths_9, m_nok q = true := List.all_eq_true.mp (by decide +kernel)
theorem m_kn10 : ∀ q ∈ m_meths_10, m_nok q = true := List.all_eq_true.mp (by decide +kernel)
theorem m_kn11 : ∀ q ∈ m_meths_11, m_nok q = true := List.all_eq_true.mp (by decide +kernel)
theorem m_kn12 : ∀ q ∈ m_meths_12, m_nok q = true := List.all_eq_true.mp (by decide +kernel)
theorem m_kn : ∀ q ∈ m_meths, m_nok q = true := (fun q h => (List.mem_append.mp h).elim (m_kn0 q) ((fun q h => (List.mem_append.mp h).elim (m_kn1 q) ((fun q h => (List.mem_append.mp h).elim (m_kn2 q) ((fun q h => (List.mem_append.mp h).elim (m_kn3 q) ((fun q h => (List.mem_append.mp h).elim (m_kn4 q) ((fun q h => (List.mem_append.mp h).elim (m_kn5 q) ((fun q h => (List.mem_append.mp h).elim (m_kn6 q) ((fun q h => (List.mem_append.mp h).elim (m_kn7 q) ((fun q h => (List.mem_append.mp h).elim (m_kn8 q) ((fun q h => (List.mem_append.mp h).elim (m_kn9 q) ((fun q h => (List.mem_append.mp h).elim (m_kn10 q) ((fun q h => (List.mem_append.mp h).elim (m_kn11 q) (m_kn12 q)) q)) q)) q)) q)) q)) q)) q)) q)) q)) q)) q))
def m_mw (o : String) (e : Nat × Nat × Nat) : Cond := if e.2.1 = 0 then .methodLink o e.1 (m_name e.2.2) else .methodLinkNest o e.1 (m_name e.2.2) "PastHeaps"
theorem m_kl0 : ∀ w ∈ m_mlk_0.map (m_mw "PastHeapsLaw"), w ∈ lw_tbl := m_memD [(1, 62), (18, 25), (4, 60), (21, 43), (5, 4), (21, 51), (5, 8), (21, 58), (12, 0), (22, 36), (12, 4), (22, 40), (12, 10), (22, 52), (12, 18), (24, 16), (12, 23), (24, 29), (12, 45), (24, 33), (13, 28), (25, 1), (13, 34), (25, 5), (13, 39), (25, 9), (13, 43), (25, 13), (14, 59), (25, 17), (15, 3), (25, 25), (15, 58), (25, 33), (16, 8), (25, 37), (16, 20), (25, 49), (16, 40), (25, 53), (14, 28), (26, 8), (14, 47), (26, 42), (17, 30), (26, 50), (17, 38), (26, 54), (17, 62), (27, 2), (13, 51), (27, 9), (17, 9), (27, 13), (17, 21), (27, 21), (15, 50), (27, 25), (18, 6), (27, 29), (13, 59), (27, 38), (15, 36), (27, 50), (14, 15), (27, 58), (15, 62), (28, 2), (17, 1), (28, 6), (12, 27), (28, 14), (12, 31), (28, 18), (12, 41), (28, 29)] (by decide +kernel)
theorem m_kl1 : ∀ w ∈ m_mlk_1.map (m_mw "PastHeaps"), w ∈ lw_tbl := m_memD [(2, 1), (2, 6), (2, 61), (3, 32), (3, 35), (4, 18), (5, 0), (5, 12), (5, 16), (7, 6), (7, 13), (9, 3), (12, 8), (12, 9), (12, 14), (12, 35), (12, 49), (12, 50), (12, 51), (12, 52), (12, 53), (12, 61), (13, 6), (13, 15), (13, 19), (13, 24), (13, 32), (13, 33), (13, 38), (13, 47), (13, 55), (13, 63), (14, 3), (14, 19), (14, 23), (14, 24), (14, 32), (14, 36), (14, 51), (14, 55), (14, 63), (15, 7), (15, 29), (15, 41), (15, 46), (15, 54), (16, 2), (16, 12), (16, 16), (16, 24), (16, 32), (16, 44), (17, 5), (17, 13), (17, 19), (17, 20), (17, 25), (17, 34), (17, 42), (17, 46), (18, 2), (18, 10), (7, 18), (13, 10), (13, 11)] (by decide +kernel)
theorem m_kl2 : ∀ w ∈ m_mlk_2.map (m_mw "PastHeaps$Told"), w ∈ lw_tbl := m_memD [(2, 9), (2, 13), (12, 39), (12, 40)] (by decide +kernel)
theorem m_kl3 : ∀ w ∈ m_mlk_3.map (m_mw "PastHeaps$Acts"), w ∈ lw_tbl := m_memD [(2, 16), (6, 58), (7, 10)] (by decide +kernel)
theorem m_kl4 : ∀ w ∈ m_mlk_4.map (m_mw "PastHeaps$Reader"), w ∈ lw_tbl := m_memD [(3, 0), (5, 20), (5, 23), (5, 27), (6, 50), (5, 31), (6, 46), (6, 54), (7, 2), (5, 35), (5, 38), (6, 39), (6, 42), (5, 42), (5, 51), (5, 55), (6, 1)] (by decide +kernel)
theorem m_kl5 : ∀ w ∈ m_mlk_5.map (m_mw "PastHeaps$Walk"), w ∈ lw_tbl := m_memD [(3, 38), (11, 9), (11, 13), (11, 14), (11, 15), (11, 20), (11, 23), (13, 23), (14, 7), (14, 11), (14, 40), (14, 44)] (by decide +kernel)
theorem m_kl6 : ∀ w ∈ m_mlk_6.map (m_mw "PastHeaps$Shares"), w ∈ lw_tbl := m_memD [(4, 21), (12, 57), (13, 2), (16, 6), (16, 7), (16, 28), (16, 29), (16, 38), (16, 39), (16, 48), (16, 52), (16, 56), (16, 60), (16, 61), (17, 17), (17, 18), (17, 29)] (by decide +kernel)
theorem m_kl7 : ∀ w ∈ m_mlk_7.map (m_mw "java/lang/Math"), w ∈ lw_tbl := m_memD [] (by decide +kernel)
theorem m_kl8 : ∀ w ∈ m_mlk_8.map (m_mw "java/lang/String"), w ∈ lw_tbl := m_memD [(5, 59), (6, 5), (6, 9), (6, 20), (6, 17)] (by decide +kernel)
theorem m_kl9 : ∀ w ∈ m_mlk_9.map (m_mw "java/lang/StringLatin1"), w ∈ lw_tbl := m_memD [(6, 12)] (by decide +kernel)
theorem m_kl10 : ∀ w ∈ m_mlk_10.map (m_mw "jdk/internal/util/Preconditions"), w ∈ lw_tbl := m_memD [] (by decide +kernel)
theorem m_kl11 : ∀ w ∈ m_mlk_11.map (m_mw "java/lang/StringUTF16"), w ∈ lw_tbl := m_memD [(6, 26), (6, 23), (6, 30), (6, 29)] (by decide +kernel)
theorem m_kl12 : ∀ w ∈ m_mlk_12.map (m_mw "java/util/Arrays"), w ∈ lw_tbl := m_memD [(6, 61), (10, 16), (10, 15)] (by decide +kernel)
theorem m_kl13 : ∀ w ∈ m_mlk_13.map (m_mw "PastHeaps$Past"), w ∈ lw_tbl := m_memD [(7, 21), (7, 24), (7, 60), (11, 59), (9, 50), (11, 50), (11, 40), (9, 7), (9, 15), (9, 18), (9, 27), (9, 38), (9, 42), (9, 46), (11, 36), (11, 54), (11, 58), (11, 60), (9, 23), (11, 46), (9, 22), (9, 54), (9, 58), (10, 51), (10, 55), (11, 1), (11, 31), (9, 62), (10, 1), (10, 26), (17, 50), (17, 54), (17, 58), (18, 14), (18, 19)] (by decide +kernel)
theorem m_kl14 : ∀ w ∈ m_mlk_14.map (m_mw "PastHeaps$Nodes"), w ∈ lw_tbl := m_memD [(7, 27), (7, 29), (9, 11), (9, 12), (10, 5), (10, 17), (10, 25), (10, 34), (10, 38), (10, 42), (10, 43), (10, 47), (10, 30), (10, 59), (11, 35), (10, 63), (11, 0), (11, 5), (11, 16), (11, 26), (11, 27)] (by decide +kernel)
theorem m_kl15 : ∀ w ∈ m_mlk_15.map (m_mw "PastHeaps$Lines"), w ∈ lw_tbl := m_memD [(7, 63), (9, 31), (9, 34), (15, 33), (15, 16), (15, 11), (15, 19), (15, 23), (15, 26), (15, 45)] (by decide +kernel)
theorem m_kl16 : ∀ w ∈ m_mlk_16.map (m_mw "java/lang/Integer"), w ∈ lw_tbl := m_memD [] (by decide +kernel)
theorem m_kl17 : ∀ w ∈ m_mlk_17.map (m_mw "java/lang/Long"), w ∈ lw_tbl := m_memD [] (by decide +kernel)
theorem m_kl18 : ∀ w ∈ m_mlk_18.map (m_mw "PastHeapsModel"), w ∈ lw_tbl := m_memD [(18, 28), (28, 26), (21, 55), (21, 47), (22, 10), (22, 24), (22, 28), (22, 6), (22, 32), (22, 14), (21, 62), (22, 2), (22, 44), (22, 48), (23, 32), (23, 36), (23, 28), (23, 44), (23, 48), (23, 24), (23, 56), (23, 52), (24, 4), (24, 0), (24, 8), (23, 8), (23, 16), (23, 20), (22, 60), (23, 12), (23, 40), (23, 60), (24, 12), (23, 0), (23, 4), (22, 56), (24, 25), (24, 21), (24, 53), (24, 37), (24, 41), (24, 45), (24, 49), (24, 57), (24, 61), (25, 21), (25, 29), (25, 41), (25, 45), (25, 57), (25, 61), (26, 0), (26, 4), (26, 31), (26, 34), (26, 20), (26, 23), (26, 27), (26, 38), (26, 12), (26, 16), (26, 46), (26, 58), (26, 62), (27, 6), (27, 17), (27, 33), (27, 46), (27, 42), (27, 54), (27, 62), (28, 10), (28, 22)] (by decide +kernel)
def m_fw (o : String) (e : Nat × Nat × Nat × Nat) : Cond := match m_cl[e.2.2.1]? with | some q => (if e.2.1 = 0 then .fieldLink o e.1 q.1 (q.2.1 e.2.2.2).2.1 (q.2.1 e.2.2.2).2.2.1 else .fieldLinkNest o e.1 q.1 (q.2.1 e.2.2.2).2.1 (q.2.1 e.2.2.2).2.2.1 "PastHeaps") | none => (if e.2.2.2 = 0 then .fieldLink o e.1 "java/lang/String" "value" "[B" else .fieldLink o e.1 "java/lang/String" "coder" "B")
theorem m_kf0 : ∀ w ∈ m_flk_0.map (m_fw "PastHeapsLaw"), w ∈ lw_tbl := m_memD [] (by decide +kernel)
theorem m_kf1 : ∀ w ∈ m_flk_1.map (m_fw "PastHeaps"), w ∈ lw_tbl := m_memD [(4, 35), (4, 36), (4, 37), (4, 38), (4, 39), (4, 40), (4, 41), (4, 42), (2, 35), (2, 38), (2, 40), (2, 42), (2, 32), (3, 9), (3, 11), (2, 34), (2, 20), (8, 34), (8, 23), (8, 25), (8, 27), (8, 36), (8, 16), (7, 39), (3, 44), (3, 51), (3, 42), (3, 49), (8, 20), (8, 18), (8, 32)] (by decide +kernel)
theorem m_kf2 : ∀ w ∈ m_flk_2.map (m_fw "PastHeaps$Told"), w ∈ lw_tbl := m_memD [(2, 31), (2, 33), (2, 39), (2, 36), (2, 37), (2, 41)] (by decide +kernel)
theorem m_kf3 : ∀ w ∈ m_flk_3.map (m_fw "PastHeaps$Acts"), w ∈ lw_tbl := m_memD [(2, 17), (2, 18), (2, 19)] (by decide +kernel)
theorem m_kf4 : ∀ w ∈ m_flk_4.map (m_fw "PastHeaps$Reader"), w ∈ lw_tbl := m_memD [(3, 1), (3, 2), (3, 4), (3, 7), (3, 8), (3, 10), (3, 5), (3, 6), (3, 3)] (by decide +kernel)
theorem m_kf5 : ∀ w ∈ m_flk_5.map (m_fw "PastHeaps$Walk"), w ∈ lw_tbl := m_memD [(3, 39), (3, 43), (3, 45), (3, 47), (3, 50), (3, 52), (3, 53), (3, 54), (3, 55), (3, 57)] (by decide +kernel)
theorem m_kf6 : ∀ w ∈ m_flk_6.map (m_fw "PastHeaps$Shares"), w ∈ lw_tbl := m_memD [(4, 22), (4, 23), (4, 24), (7, 37), (4, 25)] (by decide +kernel)
theorem m_kf7 : ∀ w ∈ m_flk_7.map (m_fw "java/lang/Math"), w ∈ lw_tbl := m_memD [] (by decide +kernel)
theorem m_kf8 : ∀ w ∈ m_flk_8.map (m_fw "java/lang/String"), w ∈ lw_tbl := m_memD [(28, 34), (28, 35)] (by decide +kernel)
theorem m_kf9 : ∀ w ∈ m_flk_9.map (m_fw "java/lang/StringLatin1"), w ∈ lw_tbl := m_memD [] (by decide +kernel)
theorem m_kf10 : ∀ w ∈ m_flk_10.map (m_fw "jdk/internal/util/Preconditions"), w ∈ lw_tbl := m_memD [] (by decide +kernel)
theorem m_kf11 : ∀ w ∈ m_flk_11.map (m_fw "java/lang/StringUTF16"), w ∈ lw_tbl := m_memD [] (by decide +kernel)
theorem m_kf12 : ∀ w ∈ m_flk_12.map (m_fw "java/util/Arrays"), w ∈ lw_tbl := m_memD [] (by decide +kernel)
theorem m_kf13 : ∀ w ∈ m_flk_13.map (m_fw "PastHeaps$Past"), w ∈ lw_tbl := m_memD [(8, 15), (8, 17), (8, 19), (8, 21), (8, 22), (8, 24), (8, 26), (8, 28), (8, 29), (8, 30), (8, 31), (8, 33), (8, 35), (2, 21), (7, 38), (7, 41), (7, 35), (3, 56), (3, 40), (8, 37)] (by decide +kernel)
theorem m_kf14 : ∀ w ∈ m_flk_14.map (m_fw "PastHeaps$Nodes"), w ∈ lw_tbl := m_memD [(7, 30), (7, 31), (7, 32), (7, 33), (7, 34), (7, 36), (7, 40), (3, 48), (3, 41), (3, 46)] (by decide +kernel)
theorem m_kf15 : ∀ w ∈ m_flk_15.map (m_fw "PastHeaps$Lines"), w ∈ lw_tbl := m_memD [(8, 0), (8, 1), (8, 2), (8, 3)] (by decide +kernel)
theorem m_kf16 : ∀ w ∈ m_flk_16.map (m_fw "java/lang/Integer"), w ∈ lw_tbl := m_memD [] (by decide +kernel)
theorem m_kf17 : ∀ w ∈ m_flk_17.map (m_fw "java/lang/Long"), w ∈ lw_tbl := m_memD [] (by decide +kernel)
theorem m_kf18 : ∀ w ∈ m_flk_18.map (m_fw "PastHeapsModel"), w ∈ lw_tbl := m_memD [(18, 31), (18, 32), (18, 33), (18, 34), (18, 35), (18, 36), (18, 46), (18, 50), (18, 51), (18, 52), (18, 53), (18, 54), (18, 55), (18, 57), (18, 58), (18, 59), (18, 60), (18, 61), (18, 62), (18, 63), (19, 0), (19, 2), (19, 3), (19, 4), (19, 5), (19, 6), (19, 7), (19, 8), (19, 10), (19, 11), (19, 12), (19, 14), (19, 16), (19, 18), (19, 19), (19, 20), (19, 21), (19, 22), (19, 24), (19, 25), (19, 26), (19, 27), (19, 29), (19, 30), (19, 31), (19, 32), (19, 33), (18, 30), (18, 37), (18, 38), (18, 39), (18, 42), (18, 40), (18, 41), (18, 43), (18, 44), (18, 45), (18, 47), (18, 49), (18, 48), (18, 56), (19, 1), (19, 9), (19, 13), (19, 15), (19, 17), (19, 23), (19, 28)] (by decide +kernel)
def m_clw (o : String) (e : Nat × Nat) : Cond := .classLink o e.1 (m_cnm e.2)
def m_icw (o : String) (e : Nat × Int32) : Cond := .constant o e.1 e.2
def m_lcw (o : String) (e : Nat × Int64) : Cond := .constantLong o e.1 e.2
theorem m_kq0 : ∀ w ∈ m_clk_0.map (m_clw "PastHeapsLaw"), w ∈ lw_tbl := m_memD [(1, 60), (18, 23)] (by decide +kernel)
theorem m_ki0 : ∀ w ∈ m_ick_0.map (m_icw "PastHeapsLaw"), w ∈ lw_tbl := m_memD [] (by decide +kernel)
theorem m_kj0 : ∀ w ∈ m_lck_0.map (m_lcw "PastHeapsLaw"), w ∈ lw_tbl := m_memD [(28, 33)] (by decide +kernel)
theorem m_kq1 : ∀ w ∈ m_clk_1.map (m_clw "PastHeaps"), w ∈ lw_tbl := m_memD [(2, 4), (2, 57), (2, 59), (3, 31), (3, 33), (4, 16)] (by decide +kernel)
theorem m_ki1 : ∀ w ∈ m_ick_1.map (m_icw "PastHeaps"), w ∈ lw_tbl := m_memD [(12, 22)] (by decide +kernel)
theorem m_kj1 : ∀ w ∈ m_lck_1.map (m_lcw "PastHeaps"), w ∈ lw_tbl := m_memD [(15, 40)] (by decide +kernel)
theorem m_kq2 : ∀ w ∈ m_clk_2.map (m_clw "PastHeaps$Told"), w ∈ lw_tbl := m_memD [(2, 10)] (by decide +kernel)
theorem m_ki2 : ∀ w ∈ m_ick_2.map (m_icw "PastHeaps$Told"), w ∈ lw_tbl := m_memD [] (by decide +kernel)
theorem m_kj2 : ∀ w ∈ m_lck_2.map (m_lcw "PastHeaps$Told"), w ∈ lw_tbl := m_memD [] (by decide +kernel)
theorem m_kq3 : ∀ w ∈ m_clk_3.map (m_clw "PastHeaps$Acts"), w ∈ lw_tbl := m_memD [] (by decide +kernel)
theorem m_ki3 : ∀ w ∈ m_ick_3.map (m_icw "PastHeaps$Acts"), w ∈ lw_tbl := m_memD [] (by decide +kernel)
theorem m_kj3 : ∀ w ∈ m_lck_3.map (m_lcw "PastHeaps$Acts"), w ∈ lw_tbl := m_memD [] (by decide +kernel)
theorem m_kq4 : ∀ w ∈ m_clk_4.map (m_clw "PastHeaps$Reader"), w ∈ lw_tbl := m_memD [] (by decide +kernel)
theorem m_ki4 : ∀ w ∈ m_ick_4.map (m_icw "PastHeaps$Reader"), w ∈ lw_tbl := m_memD [] (by decide +kernel)
theorem m_kj4 : ∀ w ∈ m_lck_4.map (m_lcw "PastHeaps$Reader"), w ∈ lw_tbl := m_memD [] (by decide +kernel)
theorem m_kq5 : ∀ w ∈ m_clk_5.map (m_clw "PastHeaps$Walk"), w ∈ lw_tbl := m_memD [] (by decide +kernel)
theorem m_ki5 : ∀ w ∈ m_ick_5.map (m_icw "PastHeaps$Walk"), w ∈ lw_tbl := m_memD [] (by decide +kernel)
theorem m_kj5 : ∀ w ∈ m_lck_5.map (m_lcw "PastHeaps$Walk"), w ∈ lw_tbl := m_memD [] (by decide +kernel)
theorem m_kq6 : ∀ w ∈ m_clk_6.map (m_clw "PastHeaps$Shares"), w ∈ lw_tbl := m_memD [] (by decide +kernel)
theorem m_ki6 : ∀ w ∈ m_ick_6.map (m_icw "PastHeaps$Shares"), w ∈ lw_tbl := m_memD [] (by decide +kernel)
theorem m_kj6 : ∀ w ∈ m_lck_6.map (m_lcw "PastHeaps$Shares"), w ∈ lw_tbl := m_memD [(13, 1)] (by decide +kernel)
theorem m_kq7 : ∀ w ∈ m_clk_7.map (m_clw "java/lang/Math"), w ∈ lw_tbl := m_memD [] (by decide +kernel)
theorem m_ki7 : ∀ w ∈ m_ick_7.map (m_icw "java/lang/Math"), w ∈ lw_tbl := m_memD [] (by decide +kernel)
theorem m_kj7 : ∀ w ∈ m_lck_7.map (m_lcw "java/lang/Math"), w ∈ lw_tbl := m_memD [] (by decide +kernel)
theorem m_kq8 : ∀ w ∈ m_clk_8.map (m_clw "java/lang/String"), w ∈ lw_tbl := m_memD [] (by decide +kernel)
theorem m_ki8 : ∀ w ∈ m_ick_8.map (m_icw "java/lang/String"), w ∈ lw_tbl := m_memD [] (by decide +kernel)
theorem m_kj8 : ∀ w ∈ m_lck_8.map (m_lcw "java/lang/String"), w ∈ lw_tbl := m_memD [] (by decide +kernel)
theorem m_kq9 : ∀ w ∈ m_clk_9.map (m_clw "java/lang/StringLatin1"), w ∈ lw_tbl := m_memD [] (by decide +kernel)
theorem m_ki9 : ∀ w ∈ m_ick_9.map (m_icw "java/lang/StringLatin1"), w ∈ lw_tbl := m_memD [] (by decide +kernel)
theorem m_kj9 : ∀ w ∈ m_lck_9.map (m_lcw "java/lang/StringLatin1"), w ∈ lw_tbl := m_memD [] (by decide +kernel)
theorem m_kq10 : ∀ w ∈ m_clk_10.map (m_clw "jdk/internal/util/Preconditions"), w ∈ lw_tbl := m_memD [] (by decide +kernel)
theorem m_ki10 : ∀ w ∈ m_ick_10.map (m_icw "jdk/internal/util/Preconditions"), w ∈ lw_tbl := m_memD [] (by decide +kernel)
theorem m_kj10 : ∀ w ∈ m_lck_10.map (m_lcw "jdk/internal/util/Preconditions"), w ∈ lw_tbl := m_memD [] (by decide +kernel)
theorem m_kq11 : ∀ w ∈ m_clk_11.map (m_clw "java/lang/StringUTF16"), w ∈ lw_tbl := m_memD [] (by decide +kernel)
theorem m_ki11 : ∀ w ∈ m_ick_11.map (m_icw "java/lang/StringUTF16"), w ∈ lw_tbl := m_memD [] (by decide +kernel)
theorem m_kj11 : ∀ w ∈ m_lck_11.map (m_lcw "java/lang/StringUTF16"), w ∈ lw_tbl := m_memD [] (by decide +kernel)
theorem m_kq12 : ∀ w ∈ m_clk_12.map (m_clw "java/util/Arrays"), w ∈ lw_tbl := m_memD [] (by decide +kernel)
theorem m_ki12 : ∀ w ∈ m_ick_12.map (m_icw "java/util/Arrays"), w ∈ lw_tbl := m_memD [] (by decide +kernel)
theorem m_kj12 : ∀ w ∈ m_lck_12.map (m_lcw "java/util/Arrays"), w ∈ lw_tbl := m_memD [] (by decide +kernel)
theorem m_kq13 : ∀ w ∈ m_clk_13.map (m_clw "PastHeaps$Past"), w ∈ lw_tbl := m_memD [(7, 22), (7, 58), (8, 13)] (by decide +kernel)
theorem m_ki13 : ∀ w ∈ m_ick_13.map (m_icw "PastHeaps$Past"), w ∈ lw_tbl := m_memD [(18, 18)] (by decide +kernel)
theorem m_kj13 : ∀ w ∈ m_lck_13.map (m_lcw "PastHeaps$Past"), w ∈ lw_tbl := m_memD [] (by decide +kernel)
theorem m_kq14 : ∀ w ∈ m_clk_14.map (m_clw "PastHeaps$Nodes"), w ∈ lw_tbl := m_memD [(7, 28)] (by decide +kernel)
theorem m_ki14 : ∀ w ∈ m_ick_14.map (m_icw "PastHeaps$Nodes"), w ∈ lw_tbl := m_memD [] (by decide +kernel)
theorem m_kj14 : ∀ w ∈ m_lck_14.map (m_lcw "PastHeaps$Nodes"), w ∈ lw_tbl := m_memD [] (by decide +kernel)
theorem m_kq15 : ∀ w ∈ m_clk_15.map (m_clw "PastHeaps$Lines"), w ∈ lw_tbl := m_memD [] (by decide +kernel)
theorem m_ki15 : ∀ w ∈ m_ick_15.map (m_icw "PastHeaps$Lines"), w ∈ lw_tbl := m_memD [] (by decide +kernel)
theorem m_kj15 : ∀ w ∈ m_lck_15.map (m_lcw "PastHeaps$Lines"), w ∈ lw_tbl := m_memD [(15, 15)] (by decide +kernel)
theorem m_kq16 : ∀ w ∈ m_clk_16.map (m_clw "java/lang/Integer"), w ∈ lw_tbl := m_memD [] (by decide +kernel)
theorem m_ki16 : ∀ w ∈ m_ick_16.map (m_icw "java/lang/Integer"), w ∈ lw_tbl := m_memD [(11, 43), (11, 44), (11, 45)] (by decide +kernel)
theorem m_kj16 : ∀ w ∈ m_lck_16.map (m_lcw "java/lang/Integer"), w ∈ lw_tbl := m_memD [] (by decide +kernel)
theorem m_kq17 : ∀ w ∈ m_clk_17.map (m_clw "java/lang/Long"), w ∈ lw_tbl := m_memD [] (by decide +kernel)
theorem m_ki17 : ∀ w ∈ m_ick_17.map (m_icw "java/lang/Long"), w ∈ lw_tbl := m_memD [] (by decide +kernel)
theorem m_kj17 : ∀ w ∈ m_lck_17.map (m_lcw "java/lang/Long"), w ∈ lw_tbl := m_memD [(16, 35), (16, 36), (16, 37)] (by decide +kernel)
theorem m_kq18 : ∀ w ∈ m_clk_18.map (m_clw "PastHeapsModel"), w ∈ lw_tbl := m_memD [] (by decide +kernel)
theorem m_ki18 : ∀ w ∈ m_ick_18.map (m_icw "PastHeapsModel"), w ∈ lw_tbl := m_memD [(18, 29), (24, 20), (27, 37)] (by decide +kernel)
theorem m_kj18 : ∀ w ∈ m_lck_18.map (m_lcw "PastHeapsModel"), w ∈ lw_tbl := m_memD [(22, 18), (22, 19), (22, 20), (22, 21), (22, 22), (22, 23), (24, 56)] (by decide +kernel)
theorem m_ky0 : ∀ w ∈ u_ws RX0 TX0 3, w ∈ lw_tbl := m_memD [(2, 22), (2, 24), (2, 26)] (by decide +kernel)
theorem nmX0 : ∀ a, a < 3 → ∀ b, b < 3 → a ≠ b → (TX0 a).2.1 ≠ (TX0 b).2.1 := by decide +kernel
theorem tyX0_ok : ∀ k, k < 3 → parseFieldDescriptor (TX0 k).2.2.1 = some (tyX0 k) := by decide +kernel
theorem m_ky1 : ∀ w ∈ u_ws RX1 TX1 4, w ∈ lw_tbl := m_memD [(8, 4), (8, 6), (8, 8), (8, 10)] (by decide +kernel)
theorem nmX1 : ∀ a, a < 4 → ∀ b, b < 4 → a ≠ b → (TX1 a).2.1 ≠ (TX1 b).2.1 := by decide +kernel
theorem tyX1_ok : ∀ k, k < 4 → parseFieldDescriptor (TX1 k).2.2.1 = some (tyX1 k) := by decide +kernel
theorem m_ky2 : ∀ w ∈ u_ws RX2 TX2 7, w ∈ lw_tbl := m_memD [(7, 42), (7, 44), (7, 46), (7, 48), (7, 50), (7, 52), (7, 54)] (by decide +kernel)
theorem nmX2 : ∀ a, a < 7 → ∀ b, b < 7 → a ≠ b → (TX2 a).2.1 ≠ (TX2 b).2.1 := by decide +kernel
theorem tyX2_ok : ∀ k, k < 7 → parseFieldDescriptor (TX2 k).2.2.1 = some (tyX2 k) := by decide +kernel
theorem m_ky3 : ∀ w ∈ u_ws RX3 TX3 14, w ∈ lw_tbl := m_memD [(8, 38), (8, 40), (8, 42), (8, 44), (8, 46), (8, 48), (8, 50), (8, 52), (8, 54), (8, 56), (8, 58), (8, 60), (8, 62), (9, 0)] (by decide +kernel)
theorem nmX3 : ∀ a, a < 14 → ∀ b, b < 14 → a ≠ b → (TX3 a).2.1 ≠ (TX3 b).2.1 := by decide +kernel
theorem tyX3_ok : ∀ k, k < 14 → parseFieldDescriptor (TX3 k).2.2.1 = some (tyX3 k) := by decide +kernel
theorem m_ky4 : ∀ w ∈ u_ws RX4 TX4 9, w ∈ lw_tbl := m_memD [(3, 12), (3, 14), (3, 16), (3, 18), (3, 20), (3, 22), (3, 24), (3, 26), (3, 28)] (by decide +kernel)
theorem nmX4 : ∀ a, a < 9 → ∀ b, b < 9 → a ≠ b → (TX4 a).2.1 ≠ (TX4 b).2.1 := by decide +kernel
theorem tyX4_ok : ∀ k, k < 9 → parseFieldDescriptor (TX4 k).2.2.1 = some (tyX4 k) := by decide +kernel
theorem m_ky5 : ∀ w ∈ u_ws RX5 TX5 4, w ∈ lw_tbl := m_memD [(4, 26), (4, 28), (4, 30), (4, 32)] (by decide +kernel)
theorem nmX5 : ∀ a, a < 4 → ∀ b, b < 4 → a ≠ b → (TX5 a).2.1 ≠ (TX5 b).2.1 := by decide +kernel
theorem tyX5_ok : ∀ k, k < 4 → parseFieldDescriptor (TX5 k).2.2.1 = some (tyX5 k) := by decide +kernel
theorem m_ky6 : ∀ w ∈ u_ws RX6 TX6 6, w ∈ lw_tbl := m_memD [(2, 43), (2, 45), (2, 47), (2, 49), (2, 51), (2, 53)] (by decide +kernel)
theorem nmX6 : ∀ a, a < 6 → ∀ b, b < 6 → a ≠ b → (TX6 a).2.1 ≠ (TX6 b).2.1 := by decide +kernel
theorem tyX6_ok : ∀ k, k < 6 → parseFieldDescriptor (TX6 k).2.2.1 = some (tyX6 k) := by decide +kernel
theorem m_ky7 : ∀ w ∈ u_ws RX7 TX7 10, w ∈ lw_tbl := m_memD [(3, 58), (3, 60), (3, 62), (4, 0), (4, 2), (4, 4), (4, 6), (4, 8), (4, 10), (4, 12)] (by decide +kernel)
theorem nmX7 : ∀ a, a < 10 → ∀ b, b < 10 → a ≠ b → (TX7 a).2.1 ≠ (TX7 b).2.1 := by decide +kernel
theorem tyX7_ok : ∀ k, k < 10 → parseFieldDescriptor (TX7 k).2.2.1 = some (tyX7 k) := by decide +kernel
theorem m_ky8 : ∀ w ∈ u_ws RX8 TX8 8, w ∈ lw_tbl := m_memD [(4, 43), (4, 45), (4, 47), (4, 49), (4, 51), (4, 53), (4, 55), (4, 57)] (by decide +kernel)
theorem nmX8 : ∀ a, a < 8 → ∀ b, b < 8 → a ≠ b → (TX8 a).2.1 ≠ (TX8 b).2.1 := by decide +kernel
theorem tyX8_ok : ∀ k, k < 8 → parseFieldDescriptor (TX8 k).2.2.1 = some (tyX8 k) := by decide +kernel
theorem m_ky9 : ∀ w ∈ u_ws RX9 TX9 68, w ∈ lw_tbl := m_memD [(19, 34), (19, 36), (19, 38), (19, 40), (19, 42), (19, 44), (19, 46), (19, 48), (19, 50), (19, 52), (19, 54), (19, 56), (19, 58), (19, 60), (19, 62), (20, 0), (20, 2), (20, 4), (20, 6), (20, 8), (20, 10), (20, 12), (20, 14), (20, 16), (20, 18), (20, 20), (20, 22), (20, 24), (20, 26), (20, 28), (20, 30), (20, 32), (20, 34), (20, 36), (20, 38), (20, 40), (20, 42), (20, 44), (20, 46), (20, 48), (20, 50), (20, 52), (20, 54), (20, 56), (20, 58), (20, 60), (20, 62), (21, 0), (21, 2), (21, 4), (21, 6), (21, 8), (21, 10), (21, 12), (21, 14), (21, 16), (21, 18), (21, 20), (21, 22), (21, 24), (21, 26), (21, 28), (21, 30), (21, 32), (21, 34), (21, 36), (21, 38), (21, 40)] (by decide +kernel)
theorem nmX9 : ∀ a, a < 68 → ∀ b, b < 68 → a ≠ b → (TX9 a).2.1 ≠ (TX9 b).2.1 := by decide +kernel
theorem tyX9_ok : ∀ k, k < 68 → parseFieldDescriptor (TX9 k).2.2.1 = some (tyX9 k) := by decide +kernel
theorem m_kinst : ∀ w ∈ m_cl.flatMap (fun q => [Cond.instantiable q.1 q.2.2, Cond.initialized q.1]), w ∈ lw_tbl := m_memD [(2, 12), (1, 43), (7, 59), (1, 57), (7, 23), (1, 56), (7, 17), (1, 55), (2, 60), (1, 44), (4, 17), (1, 46), (2, 5), (1, 42), (3, 34), (1, 45), (1, 61), (1, 41), (18, 24), (1, 47)] (by decide +kernel)
theorem m_karr : ∀ w ∈ [Cond.arrayClass .int, .arrayClass .byte, .arrayClass .boolean, .arrayClass .long, .arrayOver (.object RX6), .arrayOver (.object RX3), .arrayOver (.object RX0), .arrayOver (.array .int), .native arraycopyName, .static arraycopyName, .initialized "java/lang/System", .instanceMethod objectInit, .initialized "java/lang/String"], w ∈ lw_tbl := m_memD [(2, 30), (2, 29), (4, 15), (7, 57), (2, 56), (2, 58), (2, 11), (8, 14), (7, 12), (7, 11), (1, 54), (2, 2), (1, 49)] (by decide +kernel)
set_option maxRecDepth 100000 in
theorem m_kobj : Cond.code objectInit ⟨#[0xb1]⟩ 1 none ∈ lw_tbl := List.mem_of_getElem? (i := 131) rfl
theorem m_KL : ∀ (k : Nat) (o : String) (l : List (Nat × Nat × Nat)), m_own[k]? = some o → m_mlk[k]? = some l → ∀ w ∈ l.map (m_mw o), w ∈ lw_tbl
  | 0, _, _, h1, h2 => by cases h1; cases h2; exact m_kl0
  | 1, _, _, h1, h2 => by cases h1; cases h2; exact m_kl1
  | 2, _, _, h1, h2 => by cases h1; cases h2; exact m_kl2
  | 3, _, _, h1, h2 => by cases h1; cases h2; exact m_kl3
  | 4, _, _, h1, h2 => by cases h1; cases h2; exact m_kl4
  | 5, _, _, h1, h2 => by cases h1; cases h2; exact m_kl5
  | 6, _, _, h1, h2 => by cases h1; cases h2; exact m_kl6
  | 7, _, _, h1, h2 => by cases h1; cases h2; exact m_kl7
  | 8, _, _, h1, h2 => by cases h1; cases h2; exact m_kl8
  | 9, _, _, h1, h2 => by cases h1; cases h2; exact m_kl9
  | 10, _, _, h1, h2 => by cases h1; cases h2; exact m_kl10
  | 11, _, _, h1, h2 => by cases h1; cases h2; exact m_kl11
  | 12, _, _, h1, h2 => by cases h1; cases h2; exact m_kl12
  | 13, _, _, h1, h2 => by cases h1; cases h2; exact m_kl13
  | 14, _, _, h1, h2 => by cases h1; cases h2; exact m_kl14
  | 15, _, _, h1, h2 => by cases h1; cases h2; exact m_kl15
  | 16, _, _, h1, h2 => by cases h1; cases h2; exact m_kl16
  | 17, _, _, h1, h2 => by cases h1; cases h2; exact m_kl17
  | 18, _, _, h1, h2 => by cases h1; cases h2; exact m_kl18
  | k + 19, _, _, h1, h2 => by simp [m_own] at h1
theorem m_KF : ∀ (k : Nat) (o : String) (l : List (Nat × Nat × Nat × Nat)), m_own[k]? = some o → m_flk[k]? = some l → ∀ w ∈ l.map (m_fw o), w ∈ lw_tbl
  | 0, _, _, h1, h2 => by cases h1; cases h2; exact m_kf0
  | 1, _, _, h1, h2 => by cases h1; cases h2; exact m_kf1
  | 2, _, _, h1, h2 => by cases h1; cases h2; exact m_kf2
  | 3, _, _, h1, h2 => by cases h1; cases h2; exact m_kf3
  | 4, _, _, h1, h2 => by cases h1; cases h2; exact m_kf4
  | 5, _, _, h1, h2 => by cases h1; cases h2; exact m_kf5
  | 6, _, _, h1, h2 => by cases h1; cases h2; exact m_kf6
  | 7, _, _, h1, h2 => by cases h1; cases h2; exact m_kf7
  | 8, _, _, h1, h2 => by cases h1; cases h2; exact m_kf8
  | 9, _, _, h1, h2 => by cases h1; cases h2; exact m_kf9
  | 10, _, _, h1, h2 => by cases h1; cases h2; exact m_kf10
  | 11, _, _, h1, h2 => by cases h1; cases h2; exact m_kf11
  | 12, _, _, h1, h2 => by cases h1; cases h2; exact m_kf12
  | 13, _, _, h1, h2 => by cases h1; cases h2; exact m_kf13
  | 14, _, _, h1, h2 => by cases h1; cases h2; exact m_kf14
  | 15, _, _, h1, h2 => by cases h1; cases h2; exact m_kf15
  | 16, _, _, h1, h2 => by cases h1; cases h2; exact m_kf16
  | 17, _, _, h1, h2 => by cases h1; cases h2; exact m_kf17
  | 18, _, _, h1, h2 => by cases h1; cases h2; exact m_kf18
  | k + 19, _, _, h1, h2 => by simp [m_own] at h1
theorem m_KQ : ∀ (k : Nat) (o : String) (l : List (Nat × Nat)), m_own[k]? = some o → m_clk[k]? = some l → ∀ w ∈ l.map (m_clw o), w ∈ lw_tbl
  | 0, _, _, h1, h2 => by cases h1; cases h2; exact m_kq0
  | 1, _, _, h1, h2 => by cases h1; cases h2; exact m_kq1
  | 2, _, _, h1, h2 => by cases h1; cases h2; exact m_kq2
  | 3, _, _, h1, h2 => by cases h1; cases h2; exact m_kq3
  | 4, _, _, h1, h2 => by cases h1; cases h2; exact m_kq4
  | 5, _, _, h1, h2 => by cases h1; cases h2; exact m_kq5
  | 6, _, _, h1, h2 => by cases h1; cases h2; exact m_kq6
  | 7, _, _, h1, h2 => by cases h1; cases h2; exact m_kq7
  | 8, _, _, h1, h2 => by cases h1; cases h2; exact m_kq8
  | 9, _, _, h1, h2 => by cases h1; cases h2; exact m_kq9
  | 10, _, _, h1, h2 => by cases h1; cases h2; exact m_kq10
  | 11, _, _, h1, h2 => by cases h1; cases h2; exact m_kq11
  | 12, _, _, h1, h2 => by cases h1; cases h2; exact m_kq12
  | 13, _, _, h1, h2 => by cases h1; cases h2; exact m_kq13
  | 14, _, _, h1, h2 => by cases h1; cases h2; exact m_kq14
  | 15, _, _, h1, h2 => by cases h1; cases h2; exact m_kq15
  | 16, _, _, h1, h2 => by cases h1; cases h2; exact m_kq16
  | 17, _, _, h1, h2 => by cases h1; cases h2; exact m_kq17
  | 18, _, _, h1, h2 => by cases h1; cases h2; exact m_kq18
  | k + 19, _, _, h1, h2 => by simp [m_own] at h1
theorem m_KI : ∀ (k : Nat) (o : String) (l : List (Nat × Int32)), m_own[k]? = some o → m_ick[k]? = some l → ∀ w ∈ l.map (m_icw o), w ∈ lw_tbl
  | 0, _, _, h1, h2 => by cases h1; cases h2; exact m_ki0
  | 1, _, _, h1, h2 => by cases h1; cases h2; exact m_ki1
  | 2, _, _, h1, h2 => by cases h1; cases h2; exact m_ki2
  | 3, _, _, h1, h2 => by cases h1; cases h2; exact m_ki3
  | 4, _, _, h1, h2 => by cases h1; cases h2; exact m_ki4
  | 5, _, _, h1, h2 => by cases h1; cases h2; exact m_ki5
  | 6, _, _, h1, h2 => by cases h1; cases h2; exact m_ki6
  | 7, _, _, h1, h2 => by cases h1; cases h2; exact m_ki7
  | 8, _, _, h1, h2 => by cases h1; cases h2; exact m_ki8
  | 9, _, _, h1, h2 => by cases h1; cases h2; exact m_ki9
  | 10, _, _, h1, h2 => by cases h1; cases h2; exact m_ki10
  | 11, _, _, h1, h2 => by cases h1; cases h2; exact m_ki11
  | 12, _, _, h1, h2 => by cases h1; cases h2; exact m_ki12
  | 13, _, _, h1, h2 => by cases h1; cases h2; exact m_ki13
  | 14, _, _, h1, h2 => by cases h1; cases h2; exact m_ki14
  | 15, _, _, h1, h2 => by cases h1; cases h2; exact m_ki15
  | 16, _, _, h1, h2 => by cases h1; cases h2; exact m_ki16
  | 17, _, _, h1, h2 => by cases h1; cases h2; exact m_ki17
  | 18, _, _, h1, h2 => by cases h1; cases h2; exact m_ki18
  | k + 19, _, _, h1, h2 => by simp [m_own] at h1
theorem m_KJ : ∀ (k : Nat) (o : String) (l : List (Nat × Int64)), m_own[k]? = some o → m_lck[k]? = some l → ∀ w ∈ l.map (m_lcw o), w ∈ lw_tbl
  | 0, _, _, h1, h2 => by cases h1; cases h2; exact m_kj0
  | 1, _, _, h1, h2 => by cases h1; cases h2; exact m_kj1
  | 2, _, _, h1, h2 => by cases h1; cases h2; exact m_kj2
  | 3, _, _, h1, h2 => by cases h1; cases h2; exact m_kj3
  | 4, _, _, h1, h2 => by cases h1; cases h2; exact m_kj4
  | 5, _, _, h1, h2 => by cases h1; cases h2; exact m_kj5
  | 6, _, _, h1, h2 => by cases h1; cases h2; exact m_kj6
  | 7, _, _, h1, h2 => by cases h1; cases h2; exact m_kj7
  | 8, _, _, h1, h2 => by cases h1; cases h2; exact m_kj8
  | 9, _, _, h1, h2 => by cases h1; cases h2; exact m_kj9
  | 10, _, _, h1, h2 => by cases h1; cases h2; exact m_kj10
  | 11, _, _, h1, h2 => by cases h1; cases h2; exact m_kj11
  | 12, _, _, h1, h2 => by cases h1; cases h2; exact m_kj12
  | 13, _, _, h1, h2 => by cases h1; cases h2; exact m_kj13
  | 14, _, _, h1, h2 => by cases h1; cases h2; exact m_kj14
  | 15, _, _, h1, h2 => by cases h1; cases h2; exact m_kj15
  | 16, _, _, h1, h2 => by cases h1; cases h2; exact m_kj16
  | 17, _, _, h1, h2 => by cases h1; cases h2; exact m_kj17
  | 18, _, _, h1, h2 => by cases h1; cases h2; exact m_kj18
  | k + 19, _, _, h1, h2 => by simp [m_own] at h1
theorem m_kfok : ∀ l ∈ m_flk, ∀ e ∈ l, decide (e.2.2.1 = 39 ∧ e.2.1 = 0 ∧ e.2.2.2 < 2 ∨ e.2.2.1 < 10 ∧ e.2.2.2 < m_nf e.2.2.1 ∧ e.2.1 < 2) = true := by decide +kernel
def m_cf (c : Nat) (q : vw_C) (ty : Nat → FieldType) : Prop := m_cl[c]? = some q ∧ m_nf c = q.2.2 ∧ (∀ w ∈ u_ws q.1 q.2.1 q.2.2, w ∈ lw_tbl) ∧ (∀ a, a < q.2.2 → ∀ b, b < q.2.2 → a ≠ b → (q.2.1 a).2.1 ≠ (q.2.1 b).2.1) ∧ (∀ k, k < q.2.2 → parseFieldDescriptor (q.2.1 k).2.2.1 = some (ty k)) ∧ (∀ k, k < q.2.2 → (q.2.1 k).1 = q.1 ∧ (q.2.1 k).2.2.2 = (m_ty c k).2 ∧ ((m_ty c k).1 = 0 → ty k = .int) ∧ ((m_ty c k).1 = 1 → ty k = .long) ∧ ((m_ty c k).1 ≠ 0 → (m_ty c k).1 ≠ 1 → m_rr (some (ty k)) = true)) ∧ Cond.instantiable q.1 q.2.2 ∈ lw_tbl ∧ Cond.initialized q.1 ∈ lw_tbl
theorem m_cf0 : m_cf 0 (RX0, TX0, 3) tyX0 := ⟨rfl, by decide +kernel, m_ky0, nmX0, tyX0_ok, by decide +kernel, m_kinst _ (List.mem_of_getElem? (i := 0) rfl), m_kinst _ (List.mem_of_getElem? (i := 1) rfl)⟩
theorem m_cf1 : m_cf 1 (RX1, TX1, 4) tyX1 := ⟨rfl, by decide +kernel, m_ky1, nmX1, tyX1_ok, by decide +kernel, m_kinst _ (List.mem_of_getElem? (i := 2) rfl), m_kinst _ (List.mem_of_getElem? (i := 3) rfl)⟩
theorem m_cf2 : m_cf 2 (RX2, TX2, 7) tyX2 := ⟨rfl, by decide +kernel, m_ky2, nmX2, tyX2_ok, by decide +kernel, m_kinst _ (List.mem_of_getElem? (i := 4) rfl), m_kinst _ (List.mem_of_getElem? (i := 5) rfl)⟩
theorem m_cf3 : m_cf 3 (RX3, TX3, 14) tyX3 := ⟨rfl, by decide +kernel, m_ky3, nmX3, tyX3_ok, by decide +kernel, m_kinst _ (List.mem_of_getElem? (i := 6) rfl), m_kinst _ (List.mem_of_getElem? (i := 7) rfl)⟩
theorem m_cf4 : m_cf 4 (RX4, TX4, 9) tyX4 := ⟨rfl, by decide +kernel, m_ky4, nmX4, tyX4_ok, by decide +kernel, m_kinst _ (List.mem_of_getElem? (i := 8) rfl), m_kinst _ (List.mem_of_getElem? (i := 9) rfl)⟩
theorem m_cf5 : m_cf 5 (RX5, TX5, 4) tyX5 := ⟨rfl, by decide +kernel, m_ky5, nmX5, tyX5_ok, by decide +kernel, m_kinst _ (List.mem_of_getElem? (i := 10) rfl), m_kinst _ (List.mem_of_getElem? (i := 11) rfl)⟩
theorem m_cf6 : m_cf 6 (RX6, TX6, 6) tyX6 := ⟨rfl, by decide +kernel, m_ky6, nmX6, tyX6_ok, by decide +kernel, m_kinst _ (List.mem_of_getElem? (i := 12) rfl), m_kinst _ (List.mem_of_getElem? (i := 13) rfl)⟩
theorem m_cf7 : m_cf 7 (RX7, TX7, 10) tyX7 := ⟨rfl, by decide +kernel, m_ky7, nmX7, tyX7_ok, by decide +kernel, m_kinst _ (List.mem_of_getElem? (i := 14) rfl), m_kinst _ (List.mem_of_getElem? (i := 15) rfl)⟩
theorem m_cf8 : m_cf 8 (RX8, TX8, 8) tyX8 := ⟨rfl, by decide +kernel, m_ky8, nmX8, tyX8_ok, by decide +kernel, m_kinst _ (List.mem_of_getElem? (i := 16) rfl), m_kinst _ (List.mem_of_getElem? (i := 17) rfl)⟩
theorem m_cf9 : m_cf 9 (RX9, TX9, 68) tyX9 := ⟨rfl, by decide +kernel, m_ky9, nmX9, tyX9_ok, by decide +kernel, m_kinst _ (List.mem_of_getElem? (i := 18) rfl), m_kinst _ (List.mem_of_getElem? (i := 19) rfl)⟩
theorem m_cfs : ∀ c, c < 10 → ∃ (q : vw_C) (ty : Nat → FieldType), m_cf c q ty
  | 0, _ => ⟨_, _, m_cf0⟩
  | 1, _ => ⟨_, _, m_cf1⟩
  | 2, _ => ⟨_, _, m_cf2⟩
  | 3, _ => ⟨_, _, m_cf3⟩
  | 4, _ => ⟨_, _, m_cf4⟩
  | 5, _ => ⟨_, _, m_cf5⟩
  | 6, _ => ⟨_, _, m_cf6⟩
  | 7, _ => ⟨_, _, m_cf7⟩
  | 8, _ => ⟨_, _, m_cf8⟩
  | 9, _ => ⟨_, _, m_cf9⟩
  | c + 10, h => absurd h (by omega)
