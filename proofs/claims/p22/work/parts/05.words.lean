theorem m_kk_0 : ∀ q ∈ m_meths_0, m_dok q = true := List.forall_mem_cons.mpr ⟨m_k0, List.forall_mem_cons.mpr ⟨m_k1, List.forall_mem_cons.mpr ⟨m_k2, List.forall_mem_cons.mpr ⟨m_k3, List.forall_mem_cons.mpr ⟨m_k4, List.forall_mem_cons.mpr ⟨m_k5, List.forall_mem_cons.mpr ⟨m_k6, List.forall_mem_cons.mpr ⟨m_k7, List.forall_mem_cons.mpr ⟨m_k8, List.forall_mem_cons.mpr ⟨m_k9, List.forall_mem_cons.mpr ⟨m_k10, List.forall_mem_cons.mpr ⟨m_k11, List.forall_mem_cons.mpr ⟨m_k12, List.forall_mem_cons.mpr ⟨m_k13, List.forall_mem_cons.mpr ⟨m_k14, List.forall_mem_cons.mpr ⟨m_k15, List.forall_mem_cons.mpr ⟨m_k16, List.forall_mem_cons.mpr ⟨m_k17, List.forall_mem_cons.mpr ⟨m_k18, List.forall_mem_cons.mpr ⟨m_k19, List.forall_mem_cons.mpr ⟨m_k20, List.forall_mem_cons.mpr ⟨m_k21, List.forall_mem_cons.mpr ⟨m_k22, List.forall_mem_cons.mpr ⟨m_k23, fun _ h => absurd h List.not_mem_nil⟩⟩⟩⟩⟩⟩⟩⟩⟩⟩⟩⟩⟩⟩⟩⟩⟩⟩⟩⟩⟩⟩⟩⟩
theorem m_kk_1 : ∀ q ∈ m_meths_1, m_dok q = true := List.forall_mem_cons.mpr ⟨m_k24, List.forall_mem_cons.mpr ⟨m_k25, List.forall_mem_cons.mpr ⟨m_k26, List.forall_mem_cons.mpr ⟨m_k27, List.forall_mem_cons.mpr ⟨m_k28, List.forall_mem_cons.mpr ⟨m_k29, List.forall_mem_cons.mpr ⟨m_k30, List.forall_mem_cons.mpr ⟨m_k31, List.forall_mem_cons.mpr ⟨m_k32, List.forall_mem_cons.mpr ⟨m_k33, List.forall_mem_cons.mpr ⟨m_k34, List.forall_mem_cons.mpr ⟨m_k35, List.forall_mem_cons.mpr ⟨m_k36, List.forall_mem_cons.mpr ⟨m_k37, List.forall_mem_cons.mpr ⟨m_k38, List.forall_mem_cons.mpr ⟨m_k39, List.forall_mem_cons.mpr ⟨m_k40, List.forall_mem_cons.mpr ⟨m_k41, List.forall_mem_cons.mpr ⟨m_k42, List.forall_mem_cons.mpr ⟨m_k43, List.forall_mem_cons.mpr ⟨m_k44, List.forall_mem_cons.mpr ⟨m_k45, List.forall_mem_cons.mpr ⟨m_k46, List.forall_mem_cons.mpr ⟨m_k47, fun _ h => absurd h List.not_mem_nil⟩⟩⟩⟩⟩⟩⟩⟩⟩⟩⟩⟩⟩⟩⟩⟩⟩⟩⟩⟩⟩⟩⟩⟩
theorem m_kk_2 : ∀ q ∈ m_meths_2, m_dok q = true := List.forall_mem_cons.mpr ⟨m_k48, List.forall_mem_cons.mpr ⟨m_k49, List.forall_mem_cons.mpr ⟨m_k50, List.forall_mem_cons.mpr ⟨m_k51, List.forall_mem_cons.mpr ⟨m_k52, List.forall_mem_cons.mpr ⟨m_k53, List.forall_mem_cons.mpr ⟨m_k54, List.forall_mem_cons.mpr ⟨m_k55, List.forall_mem_cons.mpr ⟨m_k56, List.forall_mem_cons.mpr ⟨m_k57, List.forall_mem_cons.mpr ⟨m_k58, List.forall_mem_cons.mpr ⟨m_k59, List.forall_mem_cons.mpr ⟨m_k60, List.forall_mem_cons.mpr ⟨m_k61, List.forall_mem_cons.mpr ⟨m_k62, List.forall_mem_cons.mpr ⟨m_k63, List.forall_mem_cons.mpr ⟨m_k64, List.forall_mem_cons.mpr ⟨m_k65, List.forall_mem_cons.mpr ⟨m_k66, List.forall_mem_cons.mpr ⟨m_k67, List.forall_mem_cons.mpr ⟨m_k68, List.forall_mem_cons.mpr ⟨m_k69, List.forall_mem_cons.mpr ⟨m_k70, List.forall_mem_cons.mpr ⟨m_k71, fun _ h => absurd h List.not_mem_nil⟩⟩⟩⟩⟩⟩⟩⟩⟩⟩⟩⟩⟩⟩⟩⟩⟩⟩⟩⟩⟩⟩⟩⟩
theorem m_kk_3 : ∀ q ∈ m_meths_3, m_dok q = true := List.forall_mem_cons.mpr ⟨m_k72, List.forall_mem_cons.mpr ⟨m_k73, List.forall_mem_cons.mpr ⟨m_k74, List.forall_mem_cons.mpr ⟨m_k75, List.forall_mem_cons.mpr ⟨m_k76, List.forall_mem_cons.mpr ⟨m_k77, List.forall_mem_cons.mpr ⟨m_k78, List.forall_mem_cons.mpr ⟨m_k79, List.forall_mem_cons.mpr ⟨m_k80, List.forall_mem_cons.mpr ⟨m_k81, List.forall_mem_cons.mpr ⟨m_k82, List.forall_mem_cons.mpr ⟨m_k83, List.forall_mem_cons.mpr ⟨m_k84, List.forall_mem_cons.mpr ⟨m_k85, List.forall_mem_cons.mpr ⟨m_k86, List.forall_mem_cons.mpr ⟨m_k87, List.forall_mem_cons.mpr ⟨m_k88, List.forall_mem_cons.mpr ⟨m_k89, List.forall_mem_cons.mpr ⟨m_k90, List.forall_mem_cons.mpr ⟨m_k91, List.forall_mem_cons.mpr ⟨m_k92, List.forall_mem_cons.mpr ⟨m_k93, List.forall_mem_cons.mpr ⟨m_k94, List.forall_mem_cons.mpr ⟨m_k95, fun _ h => absurd h List.not_mem_nil⟩⟩⟩⟩⟩⟩⟩⟩⟩⟩⟩⟩⟩⟩⟩⟩⟩⟩⟩⟩⟩⟩⟩⟩
theorem m_kk_4 : ∀ q ∈ m_meths_4, m_dok q = true := List.forall_mem_cons.mpr ⟨m_k96, List.forall_mem_cons.mpr ⟨m_k97, List.forall_mem_cons.mpr ⟨m_k98, List.forall_mem_cons.mpr ⟨m_k99, List.forall_mem_cons.mpr ⟨m_k100, List.forall_mem_cons.mpr ⟨m_k101, List.forall_mem_cons.mpr ⟨m_k102, List.forall_mem_cons.mpr ⟨m_k103, List.forall_mem_cons.mpr ⟨m_k104, List.forall_mem_cons.mpr ⟨m_k105, List.forall_mem_cons.mpr ⟨m_k106, List.forall_mem_cons.mpr ⟨m_k107, List.forall_mem_cons.mpr ⟨m_k108, List.forall_mem_cons.mpr ⟨m_k109, List.forall_mem_cons.mpr ⟨m_k110, List.forall_mem_cons.mpr ⟨m_k111, List.forall_mem_cons.mpr ⟨m_k112, List.forall_mem_cons.mpr ⟨m_k113, List.forall_mem_cons.mpr ⟨m_k114, List.forall_mem_cons.mpr ⟨m_k115, List.forall_mem_cons.mpr ⟨m_k116, List.forall_mem_cons.mpr ⟨m_k117, List.forall_mem_cons.mpr ⟨m_k118, List.forall_mem_cons.mpr ⟨m_k119, fun _ h => absurd h List.not_mem_nil⟩⟩⟩⟩⟩⟩⟩⟩⟩⟩⟩⟩⟩⟩⟩⟩⟩⟩⟩⟩⟩⟩⟩⟩
theorem m_kk_5 : ∀ q ∈ m_meths_5, m_dok q = true := List.forall_mem_cons.mpr ⟨m_k120, List.forall_mem_cons.mpr ⟨m_k121, List.forall_mem_cons.mpr ⟨m_k122, List.forall_mem_cons.mpr ⟨m_k123, List.forall_mem_cons.mpr ⟨m_k124, List.forall_mem_cons.mpr ⟨m_k125, List.forall_mem_cons.mpr ⟨m_k126, List.forall_mem_cons.mpr ⟨m_k127, List.forall_mem_cons.mpr ⟨m_k128, List.forall_mem_cons.mpr ⟨m_k129, List.forall_mem_cons.mpr ⟨m_k130, List.forall_mem_cons.mpr ⟨m_k131, List.forall_mem_cons.mpr ⟨m_k132, List.forall_mem_cons.mpr ⟨m_k133, List.forall_mem_cons.mpr ⟨m_k134, List.forall_mem_cons.mpr ⟨m_k135, List.forall_mem_cons.mpr ⟨m_k136, List.forall_mem_cons.mpr ⟨m_k137, List.forall_mem_cons.mpr ⟨m_k138, List.forall_mem_cons.mpr ⟨m_k139, List.forall_mem_cons.mpr ⟨m_k140, List.forall_mem_cons.mpr ⟨m_k141, List.forall_mem_cons.mpr ⟨m_k142, List.forall_mem_cons.mpr ⟨m_k143, fun _ h => absurd h List.not_mem_nil⟩⟩⟩⟩⟩⟩⟩⟩⟩⟩⟩⟩⟩⟩⟩⟩⟩⟩⟩⟩⟩⟩⟩⟩
theorem m_kk_6 : ∀ q ∈ m_meths_6, m_dok q = true := List.forall_mem_cons.mpr ⟨m_k144, List.forall_mem_cons.mpr ⟨m_k145, List.forall_mem_cons.mpr ⟨m_k146, List.forall_mem_cons.mpr ⟨m_k147, List.forall_mem_cons.mpr ⟨m_k148, List.forall_mem_cons.mpr ⟨m_k149, List.forall_mem_cons.mpr ⟨m_k150, List.forall_mem_cons.mpr ⟨m_k151, List.forall_mem_cons.mpr ⟨m_k152, List.forall_mem_cons.mpr ⟨m_k153, List.forall_mem_cons.mpr ⟨m_k154, List.forall_mem_cons.mpr ⟨m_k155, List.forall_mem_cons.mpr ⟨m_k156, List.forall_mem_cons.mpr ⟨m_k157, List.forall_mem_cons.mpr ⟨m_k158, List.forall_mem_cons.mpr ⟨m_k159, List.forall_mem_cons.mpr ⟨m_k160, List.forall_mem_cons.mpr ⟨m_k161, List.forall_mem_cons.mpr ⟨m_k162, List.forall_mem_cons.mpr ⟨m_k163, List.forall_mem_cons.mpr ⟨m_k164, List.forall_mem_cons.mpr ⟨m_k165, List.forall_mem_cons.mpr ⟨m_k166, List.forall_mem_cons.mpr ⟨m_k167, fun _ h => absurd h List.not_mem_nil⟩⟩⟩⟩⟩⟩⟩⟩⟩⟩⟩⟩⟩⟩⟩⟩⟩⟩⟩⟩⟩⟩⟩⟩
theorem m_kk_7 : ∀ q ∈ m_meths_7, m_dok q = true := List.forall_mem_cons.mpr ⟨m_k168, List.forall_mem_cons.mpr ⟨m_k169, List.forall_mem_cons.mpr ⟨m_k170, List.forall_mem_cons.mpr ⟨m_k171, List.forall_mem_cons.mpr ⟨m_k172, List.forall_mem_cons.mpr ⟨m_k173, List.forall_mem_cons.mpr ⟨m_k174, List.forall_mem_cons.mpr ⟨m_k175, List.forall_mem_cons.mpr ⟨m_k176, List.forall_mem_cons.mpr ⟨m_k177, List.forall_mem_cons.mpr ⟨m_k178, List.forall_mem_cons.mpr ⟨m_k179, List.forall_mem_cons.mpr ⟨m_k180, List.forall_mem_cons.mpr ⟨m_k181, List.forall_mem_cons.mpr ⟨m_k182, List.forall_mem_cons.mpr ⟨m_k183, List.forall_mem_cons.mpr ⟨m_k184, List.forall_mem_cons.mpr ⟨m_k185, List.forall_mem_cons.mpr ⟨m_k186, List.forall_mem_cons.mpr ⟨m_k187, List.forall_mem_cons.mpr ⟨m_k188, List.forall_mem_cons.mpr ⟨m_k189, List.forall_mem_cons.mpr ⟨m_k190, List.forall_mem_cons.mpr ⟨m_k191, fun _ h => absurd h List.not_mem_nil⟩⟩⟩⟩⟩⟩⟩⟩⟩⟩⟩⟩⟩⟩⟩⟩⟩⟩⟩⟩⟩⟩⟩⟩
theorem m_kk_8 : ∀ q ∈ m_meths_8, m_dok q = true := List.forall_mem_cons.mpr ⟨m_k192, List.forall_mem_cons.mpr ⟨m_k193, List.forall_mem_cons.mpr ⟨m_k194, List.forall_mem_cons.mpr ⟨m_k195, List.forall_mem_cons.mpr ⟨m_k196, List.forall_mem_cons.mpr ⟨m_k197, List.forall_mem_cons.mpr ⟨m_k198, List.forall_mem_cons.mpr ⟨m_k199, List.forall_mem_cons.mpr ⟨m_k200, List.forall_mem_cons.mpr ⟨m_k201, List.forall_mem_cons.mpr ⟨m_k202, List.forall_mem_cons.mpr ⟨m_k203, List.forall_mem_cons.mpr ⟨m_k204, List.forall_mem_cons.mpr ⟨m_k205, List.forall_mem_cons.mpr ⟨m_k206, List.forall_mem_cons.mpr ⟨m_k207, List.forall_mem_cons.mpr ⟨m_k208, List.forall_mem_cons.mpr ⟨m_k209, List.forall_mem_cons.mpr ⟨m_k210, List.forall_mem_cons.mpr ⟨m_k211, List.forall_mem_cons.mpr ⟨m_k212, List.forall_mem_cons.mpr ⟨m_k213, List.forall_mem_cons.mpr ⟨m_k214, List.forall_mem_cons.mpr ⟨m_k215, fun _ h => absurd h List.not_mem_nil⟩⟩⟩⟩⟩⟩⟩⟩⟩⟩⟩⟩⟩⟩⟩⟩⟩⟩⟩⟩⟩⟩⟩⟩
theorem m_kk_9 : ∀ q ∈ m_meths_9, m_dok q = true := List.forall_mem_cons.mpr ⟨m_k216, List.forall_mem_cons.mpr ⟨m_k217, List.forall_mem_cons.mpr ⟨m_k218, List.forall_mem_cons.mpr ⟨m_k219, List.forall_mem_cons.mpr ⟨m_k220, List.forall_mem_cons.mpr ⟨m_k221, List.forall_mem_cons.mpr ⟨m_k222, List.forall_mem_cons.mpr ⟨m_k223, List.forall_mem_cons.mpr ⟨m_k224, List.forall_mem_cons.mpr ⟨m_k225, List.forall_mem_cons.mpr ⟨m_k226, List.forall_mem_cons.mpr ⟨m_k227, List.forall_mem_cons.mpr ⟨m_k228, List.forall_mem_cons.mpr ⟨m_k229, List.forall_mem_cons.mpr ⟨m_k230, List.forall_mem_cons.mpr ⟨m_k231, List.forall_mem_cons.mpr ⟨m_k232, List.forall_mem_cons.mpr ⟨m_k233, List.forall_mem_cons.mpr ⟨m_k234, List.forall_mem_cons.mpr ⟨m_k235, List.forall_mem_cons.mpr ⟨m_k236, List.forall_mem_cons.mpr ⟨m_k237, List.forall_mem_cons.mpr ⟨m_k238, List.forall_mem_cons.mpr ⟨m_k239, fun _ h => absurd h List.not_mem_nil⟩⟩⟩⟩⟩⟩⟩⟩⟩⟩⟩⟩⟩⟩⟩⟩⟩⟩⟩⟩⟩⟩⟩⟩
theorem m_kk_10 : ∀ q ∈ m_meths_10, m_dok q = true := List.forall_mem_cons.mpr ⟨m_k240, List.forall_mem_cons.mpr ⟨m_k241, List.forall_mem_cons.mpr ⟨m_k242, List.forall_mem_cons.mpr ⟨m_k243, List.forall_mem_cons.mpr ⟨m_k244, List.forall_mem_cons.mpr ⟨m_k245, List.forall_mem_cons.mpr ⟨m_k246, List.forall_mem_cons.mpr ⟨m_k247, List.forall_mem_cons.mpr ⟨m_k248, List.forall_mem_cons.mpr ⟨m_k249, List.forall_mem_cons.mpr ⟨m_k250, List.forall_mem_cons.mpr ⟨m_k251, List.forall_mem_cons.mpr ⟨m_k252, List.forall_mem_cons.mpr ⟨m_k253, List.forall_mem_cons.mpr ⟨m_k254, List.forall_mem_cons.mpr ⟨m_k255, List.forall_mem_cons.mpr ⟨m_k256, List.forall_mem_cons.mpr ⟨m_k257, List.forall_mem_cons.mpr ⟨m_k258, List.forall_mem_cons.mpr ⟨m_k259, List.forall_mem_cons.mpr ⟨m_k260, List.forall_mem_cons.mpr ⟨m_k261, List.forall_mem_cons.mpr ⟨m_k262, List.forall_mem_cons.mpr ⟨m_k263, fun _ h => absurd h List.not_mem_nil⟩⟩⟩⟩⟩⟩⟩⟩⟩⟩⟩⟩⟩⟩⟩⟩⟩⟩⟩⟩⟩⟩⟩⟩
theorem m_kk_11 : ∀ q ∈ m_meths_11, m_dok q = true := List.forall_mem_cons.mpr ⟨m_k264, List.forall_mem_cons.mpr ⟨m_k265, List.forall_mem_cons.mpr ⟨m_k266, List.forall_mem_cons.mpr ⟨m_k267, List.forall_mem_cons.mpr ⟨m_k268, List.forall_mem_cons.mpr ⟨m_k269, List.forall_mem_cons.mpr ⟨m_k270, List.forall_mem_cons.mpr ⟨m_k271, List.forall_mem_cons.mpr ⟨m_k272, List.forall_mem_cons.mpr ⟨m_k273, List.forall_mem_cons.mpr ⟨m_k274, List.forall_mem_cons.mpr ⟨m_k275, List.forall_mem_cons.mpr ⟨m_k276, List.forall_mem_cons.mpr ⟨m_k277, List.forall_mem_cons.mpr ⟨m_k278, List.forall_mem_cons.mpr ⟨m_k279, List.forall_mem_cons.mpr ⟨m_k280, List.forall_mem_cons.mpr ⟨m_k281, List.forall_mem_cons.mpr ⟨m_k282, List.forall_mem_cons.mpr ⟨m_k283, List.forall_mem_cons.mpr ⟨m_k284, List.forall_mem_cons.mpr ⟨m_k285, List.forall_mem_cons.mpr ⟨m_k286, List.forall_mem_cons.mpr ⟨m_k287, fun _ h => absurd h List.not_mem_nil⟩⟩⟩⟩⟩⟩⟩⟩⟩⟩⟩⟩⟩⟩⟩⟩⟩⟩⟩⟩⟩⟩⟩⟩
theorem m_kk_12 : ∀ q ∈ m_meths_12, m_dok q = true := List.forall_mem_cons.mpr ⟨m_k288, List.forall_mem_cons.mpr ⟨m_k289, List.forall_mem_cons.mpr ⟨m_k290, List.forall_mem_cons.mpr ⟨m_k291, fun _ h => absurd h List.not_mem_nil⟩⟩⟩⟩
theorem m_kk : ∀ q ∈ m_meths, m_dok q = true := (fun q h => (List.mem_append.mp h).elim (m_kk_0 q) ((fun q h => (List.mem_append.mp h).elim (m_kk_1 q) ((fun q h => (List.mem_append.mp h).elim (m_kk_2 q) ((fun q h => (List.mem_append.mp h).elim (m_kk_3 q) ((fun q h => (List.mem_append.mp h).elim (m_kk_4 q) ((fun q h => (List.mem_append.mp h).elim (m_kk_5 q) ((fun q h => (List.mem_append.mp h).elim (m_kk_6 q) ((fun q h => (List.mem_append.mp h).elim (m_kk_7 q) ((fun q h => (List.mem_append.mp h).elim (m_kk_8 q) ((fun q h => (List.mem_append.mp h).elim (m_kk_9 q) ((fun q h => (List.mem_append.mp h).elim (m_kk_10 q) ((fun q h => (List.mem_append.mp h).elim (m_kk_11 q) (m_kk_12 q)) q)) q)) q)) q)) q)) q)) q)) q)) q)) q)) q))
def m_cw (q : m_M) : Cond := Cond.code q.2.1 q.2.2.1 q.2.2.2.1 q.2.2.2.2.1
set_option maxRecDepth 100000 in
theorem m_kc0 : ∀ w ∈ (m_meths_0.drop 1).map m_cw, w ∈ lw_tbl := m_memL [128, 136, 143, 191, 229, 276, 319, 323, 327, 331, 335, 339, 342, 346, 350, 354, 357, 361, 364, 374, 378, 382, 388] rfl
set_option maxRecDepth 100000 in
theorem m_kc1 : ∀ w ∈ m_meths_1.map m_cw, w ∈ lw_tbl := m_memL [392, 395, 398, 403, 406, 409, 412, 416, 425, 429, 433, 437, 441, 444, 447, 453, 457, 464, 468, 474, 510, 582, 586, 590] rfl
set_option maxRecDepth 100000 in
theorem m_kc2 : ∀ w ∈ m_meths_2.map m_cw, w ∈ lw_tbl := m_memL [593, 597, 602, 606, 609, 613, 617, 621, 625, 629, 633, 637, 640, 644, 647, 659, 669, 673, 677, 681, 686, 690, 694, 698] rfl
set_option maxRecDepth 100000 in
theorem m_kc3 : ∀ w ∈ m_meths_3.map m_cw, w ∈ lw_tbl := m_memL [702, 708, 712, 716, 723, 726, 729, 734, 738, 743, 746, 753, 757, 761, 767, 771, 775, 781, 785, 789, 794, 798, 802, 806] rfl
set_option maxRecDepth 100000 in
theorem m_kc4 : ∀ w ∈ m_meths_4.map m_cw, w ∈ lw_tbl := m_memL [812, 816, 824, 828, 832, 837, 841, 846, 850, 854, 859, 863, 869, 874, 878, 882, 886, 890, 894, 898, 902, 906, 910, 914] rfl
set_option maxRecDepth 100000 in
theorem m_kc5 : ∀ w ∈ m_meths_5.map m_cw, w ∈ lw_tbl := m_memL [918, 923, 927, 931, 935, 939, 942, 946, 950, 954, 958, 962, 966, 970, 974, 978, 982, 985, 988, 992, 995, 999, 1004, 1009] rfl
set_option maxRecDepth 100000 in
theorem m_kc6 : ∀ w ∈ m_meths_6.map m_cw, w ∈ lw_tbl := m_memL [1013, 1017, 1021, 1025, 1029, 1035, 1039, 1043, 1047, 1051, 1055, 1058, 1067, 1071, 1075, 1079, 1083, 1088, 1092, 1096, 1100, 1104, 1112, 1116] rfl
set_option maxRecDepth 100000 in
theorem m_kc7 : ∀ w ∈ m_meths_7.map m_cw, w ∈ lw_tbl := m_memL [1121, 1125, 1129, 1133, 1137, 1141, 1145, 1149, 1153, 1157, 1161, 1165, 1169, 1174, 1179, 1390, 1394, 1398, 1401, 1405, 1409, 1413, 1417, 1421] rfl
set_option maxRecDepth 100000 in
theorem m_kc8 : ∀ w ∈ m_meths_8.map m_cw, w ∈ lw_tbl := m_memL [1425, 1435, 1439, 1443, 1447, 1451, 1455, 1459, 1463, 1467, 1471, 1475, 1479, 1483, 1487, 1491, 1495, 1499, 1503, 1507, 1511, 1515, 1519, 1523] rfl
set_option maxRecDepth 100000 in
theorem m_kc9 : ∀ w ∈ m_meths_9.map m_cw, w ∈ lw_tbl := m_memL [1527, 1531, 1535, 1539, 1543, 1547, 1551, 1555, 1560, 1564, 1568, 1572, 1576, 1580, 1584, 1588, 1591, 1596, 1600, 1604, 1608, 1612, 1616, 1620] rfl
set_option maxRecDepth 100000 in
theorem m_kc10 : ∀ w ∈ m_meths_10.map m_cw, w ∈ lw_tbl := m_memL [1624, 1628, 1632, 1636, 1640, 1644, 1648, 1652, 1656, 1660, 1663, 1667, 1671, 1675, 1679, 1683, 1686, 1690, 1694, 1697, 1701, 1705, 1709, 1713] rfl
set_option maxRecDepth 100000 in
theorem m_kc11 : ∀ w ∈ m_meths_11.map m_cw, w ∈ lw_tbl := m_memL [1717, 1721, 1725, 1729, 1733, 1736, 1740, 1744, 1748, 1752, 1756, 1760, 1764, 1769, 1773, 1777, 1781, 1785, 1789, 1793, 1797, 1801, 1805, 1809] rfl
set_option maxRecDepth 100000 in
theorem m_kc12 : ∀ w ∈ m_meths_12.map m_cw, w ∈ lw_tbl := m_memL [1813, 1817, 1820, 1824] rfl
def m_kw (q : m_M) : List Cond := match q.2.2.2.2.2.1 with | 0 => [.initialized q.2.1.cls, .static q.2.1] | 1 => [.initialized q.2.1.cls, .instanceMethod q.2.1, .selects q.2.1.cls q.2.1 q.2.1] | _ => [.initialized q.2.1.cls, .instanceMethod q.2.1]
theorem m_kw0 : ∀ w ∈ (m_meths_0.drop 1).flatMap m_kw, w ∈ lw_tbl := m_memL [105, 127, 106, 135, 107, 142, 108, 190, 109, 228, 110, 275, 105, 317, 318, 106, 321, 322, 105, 325, 326, 105, 329, 330, 105, 334, 0, 108, 337, 338, 112, 341, 107, 344, 345, 108, 349, 1, 108, 353, 2, 108, 356, 108, 360, 3, 108, 363, 108, 373, 4, 113, 376, 377, 113, 380, 381, 113, 386, 387] (by decide +kernel)
theorem m_kw1 : ∀ w ∈ m_meths_1.flatMap m_kw, w ∈ lw_tbl := m_memL [113, 390, 391, 114, 394, 113, 397, 115, 402, 116, 405, 116, 408, 116, 411, 116, 415, 108, 424, 108, 428, 5, 108, 432, 6, 108, 436, 7, 107, 439, 440, 117, 443, 117, 446, 107, 451, 452, 107, 455, 456, 105, 463, 8, 119, 467, 120, 473, 121, 509, 119, 580, 581, 120, 584, 585, 112, 589] (by decide +kernel)
theorem m_kw2 : ∀ w ∈ m_meths_2.flatMap m_kw, w ∈ lw_tbl := m_memL [117, 592, 119, 596, 9, 119, 601, 10, 121, 604, 605, 105, 608, 121, 612, 11, 107, 615, 616, 107, 619, 620, 119, 624, 12, 119, 627, 628, 119, 632, 13, 119, 636, 14, 105, 639, 120, 642, 643, 117, 646, 117, 658, 120, 667, 668, 120, 672, 15, 120, 675, 676, 120, 679, 680, 120, 685, 16, 120, 688, 689, 119, 693, 17, 120, 696, 697] (by decide +kernel)
theorem m_kw3 : ∀ w ∈ m_meths_3.flatMap m_kw, w ∈ lw_tbl := m_memL [120, 700, 701, 120, 706, 707, 109, 710, 711, 109, 715, 18, 109, 721, 722, 105, 725, 105, 728, 120, 733, 19, 120, 736, 737, 119, 742, 20, 122, 745, 119, 751, 752, 119, 755, 756, 119, 760, 21, 120, 765, 766, 105, 769, 770, 105, 773, 774, 105, 779, 780, 105, 784, 22, 105, 787, 788, 105, 792, 793, 105, 796, 797, 105, 800, 801, 106, 804, 805] (by decide +kernel)
theorem m_kw4 : ∀ w ∈ m_meths_4.flatMap m_kw, w ∈ lw_tbl := m_memL [105, 810, 811, 105, 814, 815, 110, 822, 823, 120, 826, 827, 110, 830, 831, 110, 835, 836, 105, 840, 23, 109, 844, 845, 109, 848, 849, 109, 852, 853, 119, 857, 858, 105, 861, 862, 105, 867, 868, 105, 872, 873, 105, 876, 877, 109, 880, 881, 105, 884, 885, 109, 888, 889, 105, 892, 893, 109, 896, 897, 109, 900, 901, 109, 905, 24, 109, 909, 25, 105, 912, 913] (by decide +kernel)
theorem m_kw5 : ∀ w ∈ m_meths_5.flatMap m_kw, w ∈ lw_tbl := m_memL [121, 916, 917, 109, 921, 922, 105, 925, 926, 105, 930, 26, 109, 933, 934, 109, 938, 27, 109, 941, 105, 944, 945, 109, 948, 949, 109, 952, 953, 105, 956, 957, 121, 960, 961, 105, 964, 965, 121, 968, 969, 121, 973, 28, 117, 977, 121, 981, 29, 112, 984, 112, 987, 121, 990, 991, 105, 994, 105, 997, 998, 121, 1002, 1003, 121, 1007, 1008] (by decide +kernel)
theorem m_kw6 : ∀ w ∈ m_meths_6.flatMap m_kw, w ∈ lw_tbl := m_memL [105, 1011, 1012, 119, 1015, 1016, 105, 1019, 1020, 105, 1023, 1024, 110, 1027, 1028, 105, 1033, 1034, 119, 1037, 1038, 110, 1041, 1042, 105, 1045, 1046, 110, 1049, 1050, 105, 1054, 123, 1057, 105, 1065, 1066, 110, 1069, 1070, 110, 1074, 30, 110, 1078, 31, 110, 1082, 32, 110, 1087, 33, 105, 1090, 1091, 110, 1094, 1095, 105, 1098, 1099, 110, 1102, 1103, 105, 1110, 1111, 110, 1114, 1115] (by decide +kernel)
theorem m_kw7 : ∀ w ∈ m_meths_7.flatMap m_kw, w ∈ lw_tbl := m_memL [105, 1119, 1120, 119, 1123, 1124, 105, 1127, 1128, 119, 1131, 1132, 119, 1135, 1136, 119, 1140, 34, 119, 1144, 35, 119, 1148, 36, 105, 1151, 1152, 119, 1155, 1156, 105, 1159, 1160, 119, 1163, 1164, 119, 1168, 37, 119, 1173, 38, 111, 1178, 111, 1388, 1389, 111, 1393, 39, 111, 1396, 1397, 111, 1400, 111, 1403, 1404, 111, 1408, 40, 111, 1412, 41, 111, 1416, 42, 111, 1420, 43] (by decide +kernel)
theorem m_kw8 : ∀ w ∈ m_meths_8.flatMap m_kw, w ∈ lw_tbl := m_memL [111, 1424, 44, 111, 1434, 45, 111, 1438, 46, 111, 1442, 47, 111, 1445, 1446, 111, 1449, 1450, 111, 1454, 48, 111, 1458, 49, 111, 1461, 1462, 111, 1466, 50, 111, 1470, 51, 111, 1474, 52, 111, 1478, 53, 111, 1482, 54, 111, 1486, 55, 111, 1490, 56, 111, 1494, 57, 111, 1498, 58, 111, 1502, 59, 111, 1506, 60, 111, 1510, 61, 111, 1514, 62, 111, 1518, 63, 111, 1522, 64] (by decide +kernel)
theorem m_kw9 : ∀ w ∈ m_meths_9.flatMap m_kw, w ∈ lw_tbl := m_memL [111, 1526, 65, 111, 1530, 66, 111, 1534, 67, 111, 1538, 68, 111, 1542, 69, 111, 1546, 70, 111, 1550, 71, 111, 1553, 1554, 111, 1559, 72, 111, 1563, 73, 111, 1566, 1567, 111, 1570, 1571, 111, 1575, 74, 111, 1579, 75, 111, 1583, 76, 111, 1587, 77, 111, 1590, 111, 1595, 78, 111, 1599, 79, 111, 1602, 1603, 111, 1606, 1607, 111, 1610, 1611, 111, 1614, 1615, 111, 1618, 1619] (by decide +kernel)
theorem m_kw10 : ∀ w ∈ m_meths_10.flatMap m_kw, w ∈ lw_tbl := m_memL [111, 1623, 80, 111, 1626, 1627, 111, 1631, 81, 111, 1634, 1635, 111, 1638, 1639, 111, 1643, 82, 111, 1647, 83, 111, 1650, 1651, 111, 1654, 1655, 111, 1659, 84, 111, 1662, 111, 1666, 85, 111, 1670, 86, 111, 1673, 1674, 111, 1678, 87, 111, 1682, 88, 111, 1685, 111, 1689, 89, 111, 1693, 90, 111, 1696, 111, 1700, 91, 111, 1704, 92, 111, 1707, 1708, 111, 1712, 93] (by decide +kernel)
theorem m_kw11 : ∀ w ∈ m_meths_11.flatMap m_kw, w ∈ lw_tbl := m_memL [111, 1715, 1716, 111, 1719, 1720, 111, 1724, 94, 111, 1728, 95, 111, 1731, 1732, 111, 1735, 111, 1738, 1739, 111, 1742, 1743, 111, 1747, 96, 111, 1750, 1751, 111, 1754, 1755, 111, 1758, 1759, 111, 1763, 97, 111, 1767, 1768, 111, 1772, 98, 111, 1776, 99, 111, 1779, 1780, 111, 1784, 100, 111, 1787, 1788, 111, 1792, 101, 111, 1795, 1796, 111, 1799, 1800, 111, 1804, 102, 111, 1807, 1808] (by decide +kernel)
theorem m_kw12 : ∀ w ∈ m_meths_12.flatMap m_kw, w ∈ lw_tbl := m_memL [111, 1811, 1812, 111, 1816, 103, 111, 1819, 111, 1822, 1823] (by decide +kernel)
-- names: plain, no method handle; as many arguments as the table says
def m_nok (q : m_M) : Bool := (decide (q.2.1.cls = "java/lang/Math") || plainName q.2.1.cls) && decide (q.2.1.cls ≠ "java/lang/invoke/MethodHandle" ∧ q.2.1.cls ≠ "java/lang/invoke/VarHandle" ∧ (parseMethodDescriptor q.2.1.desc).map (fun d => d.parameters.length) = some q.2.2.2.2.2.2.2.2 ∧ (q.2.2.2.2.2.1 = 2 → q.2.1.name = "<init>" ∧ q.2.2.2.2.1 = none))
theorem m_kn0 : ∀ q ∈ m_meths_0, m_nok q = true := List.all_eq_true.mp (by decide +kernel)
theorem m_kn1 : ∀ q ∈ m_meths_1, m_nok q = true := List.all_eq_true.mp (by decide +kernel)
theorem m_kn2 : ∀ q ∈ m_meths_2, m_nok q = true := List.all_eq_true.mp (by decide +kernel)
theorem m_kn3 : ∀ q ∈ m_meths_3, m_nok q = true := List.all_eq_true.mp (by decide +kernel)
theorem m_kn4 : ∀ q ∈ m_meths_4, m_nok q = true := List.all_eq_true.mp (by decide +kernel)
theorem m_kn5 : ∀ q ∈ m_meths_5, m_nok q = true := List.all_eq_true.mp (by decide +kernel)
theorem m_kn6 : ∀ q ∈ m_meths_6, m_nok q = true := List.all_eq_true.mp (by decide +kernel)
theorem m_kn7 : ∀ q ∈ m_meths_7, m_nok q = true := List.all_eq_true.mp (by decide +kernel)
theorem m_kn8 : ∀ q ∈ m_meths_8, m_nok q = true := List.all_eq_true.mp (by decide +kernel)
theorem m_kn9 : ∀ q ∈ m_meths_9, m_nok q = true := List.all_eq_true.mp (by decide +kernel)
theorem m_kn10 : ∀ q ∈ m_meths_10, m_nok q = true := List.all_eq_true.mp (by decide +kernel)
theorem m_kn11 : ∀ q ∈ m_meths_11, m_nok q = true := List.all_eq_true.mp (by decide +kernel)
theorem m_kn12 : ∀ q ∈ m_meths_12, m_nok q = true := List.all_eq_true.mp (by decide +kernel)
theorem m_kn : ∀ q ∈ m_meths, m_nok q = true := (fun q h => (List.mem_append.mp h).elim (m_kn0 q) ((fun q h => (List.mem_append.mp h).elim (m_kn1 q) ((fun q h => (List.mem_append.mp h).elim (m_kn2 q) ((fun q h => (List.mem_append.mp h).elim (m_kn3 q) ((fun q h => (List.mem_append.mp h).elim (m_kn4 q) ((fun q h => (List.mem_append.mp h).elim (m_kn5 q) ((fun q h => (List.mem_append.mp h).elim (m_kn6 q) ((fun q h => (List.mem_append.mp h).elim (m_kn7 q) ((fun q h => (List.mem_append.mp h).elim (m_kn8 q) ((fun q h => (List.mem_append.mp h).elim (m_kn9 q) ((fun q h => (List.mem_append.mp h).elim (m_kn10 q) ((fun q h => (List.mem_append.mp h).elim (m_kn11 q) (m_kn12 q)) q)) q)) q)) q)) q)) q)) q)) q)) q)) q)) q))
def m_mw (o : String) (e : Nat × Nat × Nat) : Cond := if e.2.1 = 0 then .methodLink o e.1 (m_name e.2.2) else .methodLinkNest o e.1 (m_name e.2.2) "PastHeaps"
theorem m_kl0 : ∀ w ∈ m_mlk_0.map (m_mw "PastHeapsLaw"), w ∈ lw_tbl := m_memL [126, 1177, 316, 1387, 324, 1395, 328, 1402, 768, 1444, 772, 1448, 778, 1460, 786, 1552, 791, 1565, 813, 1569, 860, 1601, 866, 1605, 871, 1609, 875, 1613, 955, 1617, 963, 1625, 1018, 1633, 1032, 1637, 1044, 1649, 1064, 1653, 924, 1672, 943, 1706, 1118, 1714, 1126, 1718, 1150, 1730, 883, 1737, 1097, 1741, 1109, 1749, 1010, 1753, 1158, 1757, 891, 1766, 996, 1778, 911, 1786, 1022, 1794, 1089, 1798, 795, 1806, 799, 1810, 809, 1821] (by decide +kernel)
theorem m_kl1 : ∀ w ∈ m_mlk_1.map (m_mw "PastHeaps"), w ∈ lw_tbl := m_memL [129, 134, 189, 224, 227, 274, 320, 332, 336, 454, 461, 579, 776, 777, 782, 803, 817, 818, 819, 820, 821, 829, 838, 847, 851, 856, 864, 865, 870, 879, 887, 895, 899, 915, 919, 920, 928, 932, 947, 951, 959, 967, 989, 1001, 1006, 1014, 1026, 1036, 1040, 1048, 1056, 1068, 1093, 1101, 1107, 1108, 1113, 1122, 1130, 1134, 1154, 1162, 466, 842, 843] (by decide +kernel)
theorem m_kl2 : ∀ w ∈ m_mlk_2.map (m_mw "PastHeaps$Told"), w ∈ lw_tbl := m_memL [137, 141, 807, 808] (by decide +kernel)
theorem m_kl3 : ∀ w ∈ m_mlk_3.map (m_mw "PastHeaps$Acts"), w ∈ lw_tbl := m_memL [144, 442, 458] (by decide +kernel)
theorem m_kl4 : ∀ w ∈ m_mlk_4.map (m_mw "PastHeaps$Reader"), w ∈ lw_tbl := m_memL [192, 340, 343, 347, 434, 351, 430, 438, 450, 355, 358, 423, 426, 362, 371, 375, 385] (by decide +kernel)
theorem m_kl5 : ∀ w ∈ m_mlk_5.map (m_mw "PastHeaps$Walk"), w ∈ lw_tbl := m_memL [230, 713, 717, 718, 719, 724, 727, 855, 903, 907, 936, 940] (by decide +kernel)
theorem m_kl6 : ∀ w ∈ m_mlk_6.map (m_mw "PastHeaps$Shares"), w ∈ lw_tbl := m_memL [277, 825, 834, 1030, 1031, 1052, 1053, 1062, 1063, 1072, 1076, 1080, 1084, 1085, 1105, 1106, 1117] (by decide +kernel)
theorem m_kl7 : ∀ w ∈ m_mlk_7.map (m_mw "java/lang/Math"), w ∈ lw_tbl := m_memL [] (by decide +kernel)
theorem m_kl8 : ∀ w ∈ m_mlk_8.map (m_mw "java/lang/String"), w ∈ lw_tbl := m_memL [379, 389, 393, 404, 401] (by decide +kernel)
theorem m_kl9 : ∀ w ∈ m_mlk_9.map (m_mw "java/lang/StringLatin1"), w ∈ lw_tbl := m_memL [396] (by decide +kernel)
theorem m_kl10 : ∀ w ∈ m_mlk_10.map (m_mw "jdk/internal/util/Preconditions"), w ∈ lw_tbl := m_memL [] (by decide +kernel)
theorem m_kl11 : ∀ w ∈ m_mlk_11.map (m_mw "java/lang/StringUTF16"), w ∈ lw_tbl := m_memL [410, 407, 414, 413] (by decide +kernel)
theorem m_kl12 : ∀ w ∈ m_mlk_12.map (m_mw "java/util/Arrays"), w ∈ lw_tbl := m_memL [445, 656, 655] (by decide +kernel)
theorem m_kl13 : ∀ w ∈ m_mlk_13.map (m_mw "PastHeaps$Past"), w ∈ lw_tbl := m_memL [469, 472, 508, 763, 626, 754, 744, 583, 591, 594, 603, 614, 618, 622, 740, 758, 762, 764, 599, 750, 598, 630, 634, 691, 695, 705, 735, 638, 641, 666, 1138, 1142, 1146, 1166, 1171] (by decide +kernel)
theorem m_kl14 : ∀ w ∈ m_mlk_14.map (m_mw "PastHeaps$Nodes"), w ∈ lw_tbl := m_memL [475, 477, 587, 588, 645, 657, 665, 674, 678, 682, 683, 687, 670, 699, 739, 703, 704, 709, 720, 730, 731] (by decide +kernel)
theorem m_kl15 : ∀ w ∈ m_mlk_15.map (m_mw "PastHeaps$Lines"), w ∈ lw_tbl := m_memL [511, 607, 610, 993, 976, 971, 979, 983, 986, 1005] (by decide +kernel)
theorem m_kl16 : ∀ w ∈ m_mlk_16.map (m_mw "java/lang/Integer"), w ∈ lw_tbl := m_memL [] (by decide +kernel)
theorem m_kl17 : ∀ w ∈ m_mlk_17.map (m_mw "java/lang/Long"), w ∈ lw_tbl := m_memL [] (by decide +kernel)
theorem m_kl18 : ∀ w ∈ m_mlk_18.map (m_mw "PastHeapsModel"), w ∈ lw_tbl := m_memL [1180, 1818, 1399, 1391, 1418, 1432, 1436, 1414, 1440, 1422, 1406, 1410, 1452, 1456, 1504, 1508, 1500, 1516, 1520, 1496, 1528, 1524, 1540, 1536, 1544, 1480, 1488, 1492, 1468, 1484, 1512, 1532, 1548, 1472, 1476, 1464, 1561, 1557, 1589, 1573, 1577, 1581, 1585, 1593, 1597, 1621, 1629, 1641, 1645, 1657, 1661, 1664, 1668, 1695, 1698, 1684, 1687, 1691, 1702, 1676, 1680, 1710, 1722, 1726, 1734, 1745, 1761, 1774, 1770, 1782, 1790, 1802, 1814] (by decide +kernel)
def m_fw (o : String) (e : Nat × Nat × Nat × Nat) : Cond := match m_cl[e.2.2.1]? with | some q => (if e.2.1 = 0 then .fieldLink o e.1 q.1 (q.2.1 e.2.2.2).2.1 (q.2.1 e.2.2.2).2.2.1 else .fieldLinkNest o e.1 q.1 (q.2.1 e.2.2.2).2.1 (q.2.1 e.2.2.2).2.2.1 "PastHeaps") | none => (if e.2.2.2 = 0 then .fieldLink o e.1 "java/lang/String" "value" "[B" else .fieldLink o e.1 "java/lang/String" "coder" "B")
theorem m_kf0 : ∀ w ∈ m_flk_0.map (m_fw "PastHeapsLaw"), w ∈ lw_tbl := m_memL [] (by decide +kernel)
theorem m_kf1 : ∀ w ∈ m_flk_1.map (m_fw "PastHeaps"), w ∈ lw_tbl := m_memL [291, 292, 293, 294, 295, 296, 297, 298, 163, 166, 168, 170, 160, 201, 203, 162, 148, 546, 535, 537, 539, 548, 528, 487, 236, 243, 234, 241, 532, 530, 544] (by decide +kernel)
theorem m_kf2 : ∀ w ∈ m_flk_2.map (m_fw "PastHeaps$Told"), w ∈ lw_tbl := m_memL [159, 161, 167, 164, 165, 169] (by decide +kernel)
theorem m_kf3 : ∀ w ∈ m_flk_3.map (m_fw "PastHeaps$Acts"), w ∈ lw_tbl := m_memL [145, 146, 147] (by decide +kernel)
theorem m_kf4 : ∀ w ∈ m_flk_4.map (m_fw "PastHeaps$Reader"), w ∈ lw_tbl := m_memL [193, 194, 196, 199, 200, 202, 197, 198, 195] (by decide +kernel)
theorem m_kf5 : ∀ w ∈ m_flk_5.map (m_fw "PastHeaps$Walk"), w ∈ lw_tbl := m_memL [231, 235, 237, 239, 242, 244, 245, 246, 247, 249] (by decide +kernel)
theorem m_kf6 : ∀ w ∈ m_flk_6.map (m_fw "PastHeaps$Shares"), w ∈ lw_tbl := m_memL [278, 279, 280, 485, 281] (by decide +kernel)
theorem m_kf7 : ∀ w ∈ m_flk_7.map (m_fw "java/lang/Math"), w ∈ lw_tbl := m_memL [] (by decide +kernel)
theorem m_kf8 : ∀ w ∈ m_flk_8.map (m_fw "java/lang/String"), w ∈ lw_tbl := m_memL [1826, 1827] (by decide +kernel)
theorem m_kf9 : ∀ w ∈ m_flk_9.map (m_fw "java/lang/StringLatin1"), w ∈ lw_tbl := m_memL [] (by decide +kernel)
theorem m_kf10 : ∀ w ∈ m_flk_10.map (m_fw "jdk/internal/util/Preconditions"), w ∈ lw_tbl := m_memL [] (by decide +kernel)
theorem m_kf11 : ∀ w ∈ m_flk_11.map (m_fw "java/lang/StringUTF16"), w ∈ lw_tbl := m_memL [] (by decide +kernel)
theorem m_kf12 : ∀ w ∈ m_flk_12.map (m_fw "java/util/Arrays"), w ∈ lw_tbl := m_memL [] (by decide +kernel)
theorem m_kf13 : ∀ w ∈ m_flk_13.map (m_fw "PastHeaps$Past"), w ∈ lw_tbl := m_memL [527, 529, 531, 533, 534, 536, 538, 540, 541, 542, 543, 545, 547, 149, 486, 489, 483, 248, 232, 549] (by decide +kernel)
theorem m_kf14 : ∀ w ∈ m_flk_14.map (m_fw "PastHeaps$Nodes"), w ∈ lw_tbl := m_memL [478, 479, 480, 481, 482, 484, 488, 240, 233, 238] (by decide +kernel)
theorem m_kf15 : ∀ w ∈ m_flk_15.map (m_fw "PastHeaps$Lines"), w ∈ lw_tbl := m_memL [512, 513, 514, 515] (by decide +kernel)
theorem m_kf16 : ∀ w ∈ m_flk_16.map (m_fw "java/lang/Integer"), w ∈ lw_tbl := m_memL [] (by decide +kernel)
theorem m_kf17 : ∀ w ∈ m_flk_17.map (m_fw "java/lang/Long"), w ∈ lw_tbl := m_memL [] (by decide +kernel)
theorem m_kf18 : ∀ w ∈ m_flk_18.map (m_fw "PastHeapsModel"), w ∈ lw_tbl := m_memL [1183, 1184, 1185, 1186, 1187, 1188, 1198, 1202, 1203, 1204, 1205, 1206, 1207, 1209, 1210, 1211, 1212, 1213, 1214, 1215, 1216, 1218, 1219, 1220, 1221, 1222, 1223, 1224, 1226, 1227, 1228, 1230, 1232, 1234, 1235, 1236, 1237, 1238, 1240, 1241, 1242, 1243, 1245, 1246, 1247, 1248, 1249, 1182, 1189, 1190, 1191, 1194, 1192, 1193, 1195, 1196, 1197, 1199, 1201, 1200, 1208, 1217, 1225, 1229, 1231, 1233, 1239, 1244] (by decide +kernel)
def m_clw (o : String) (e : Nat × Nat) : Cond := .classLink o e.1 (m_cnm e.2)
def m_icw (o : String) (e : Nat × Int32) : Cond := .constant o e.1 e.2
def m_lcw (o : String) (e : Nat × Int64) : Cond := .constantLong o e.1 e.2
theorem m_kq0 : ∀ w ∈ m_clk_0.map (m_clw "PastHeapsLaw"), w ∈ lw_tbl := m_memL [124, 1175] (by decide +kernel)
theorem m_ki0 : ∀ w ∈ m_ick_0.map (m_icw "PastHeapsLaw"), w ∈ lw_tbl := m_memL [] (by decide +kernel)
theorem m_kj0 : ∀ w ∈ m_lck_0.map (m_lcw "PastHeapsLaw"), w ∈ lw_tbl := m_memL [1825] (by decide +kernel)
theorem m_kq1 : ∀ w ∈ m_clk_1.map (m_clw "PastHeaps"), w ∈ lw_tbl := m_memL [132, 185, 187, 223, 225, 272] (by decide +kernel)
theorem m_ki1 : ∀ w ∈ m_ick_1.map (m_icw "PastHeaps"), w ∈ lw_tbl := m_memL [790] (by decide +kernel)
theorem m_kj1 : ∀ w ∈ m_lck_1.map (m_lcw "PastHeaps"), w ∈ lw_tbl := m_memL [1000] (by decide +kernel)
theorem m_kq2 : ∀ w ∈ m_clk_2.map (m_clw "PastHeaps$Told"), w ∈ lw_tbl := m_memL [138] (by decide +kernel)
theorem m_ki2 : ∀ w ∈ m_ick_2.map (m_icw "PastHeaps$Told"), w ∈ lw_tbl := m_memL [] (by decide +kernel)
theorem m_kj2 : ∀ w ∈ m_lck_2.map (m_lcw "PastHeaps$Told"), w ∈ lw_tbl := m_memL [] (by decide +kernel)
theorem m_kq3 : ∀ w ∈ m_clk_3.map (m_clw "PastHeaps$Acts"), w ∈ lw_tbl := m_memL [] (by decide +kernel)
theorem m_ki3 : ∀ w ∈ m_ick_3.map (m_icw "PastHeaps$Acts"), w ∈ lw_tbl := m_memL [] (by decide +kernel)
theorem m_kj3 : ∀ w ∈ m_lck_3.map (m_lcw "PastHeaps$Acts"), w ∈ lw_tbl := m_memL [] (by decide +kernel)
theorem m_kq4 : ∀ w ∈ m_clk_4.map (m_clw "PastHeaps$Reader"), w ∈ lw_tbl := m_memL [] (by decide +kernel)
theorem m_ki4 : ∀ w ∈ m_ick_4.map (m_icw "PastHeaps$Reader"), w ∈ lw_tbl := m_memL [] (by decide +kernel)
theorem m_kj4 : ∀ w ∈ m_lck_4.map (m_lcw "PastHeaps$Reader"), w ∈ lw_tbl := m_memL [] (by decide +kernel)
theorem m_kq5 : ∀ w ∈ m_clk_5.map (m_clw "PastHeaps$Walk"), w ∈ lw_tbl := m_memL [] (by decide +kernel)
theorem m_ki5 : ∀ w ∈ m_ick_5.map (m_icw "PastHeaps$Walk"), w ∈ lw_tbl := m_memL [] (by decide +kernel)
theorem m_kj5 : ∀ w ∈ m_lck_5.map (m_lcw "PastHeaps$Walk"), w ∈ lw_tbl := m_memL [] (by decide +kernel)
theorem m_kq6 : ∀ w ∈ m_clk_6.map (m_clw "PastHeaps$Shares"), w ∈ lw_tbl := m_memL [] (by decide +kernel)
theorem m_ki6 : ∀ w ∈ m_ick_6.map (m_icw "PastHeaps$Shares"), w ∈ lw_tbl := m_memL [] (by decide +kernel)
theorem m_kj6 : ∀ w ∈ m_lck_6.map (m_lcw "PastHeaps$Shares"), w ∈ lw_tbl := m_memL [833] (by decide +kernel)
theorem m_kq7 : ∀ w ∈ m_clk_7.map (m_clw "java/lang/Math"), w ∈ lw_tbl := m_memL [] (by decide +kernel)
theorem m_ki7 : ∀ w ∈ m_ick_7.map (m_icw "java/lang/Math"), w ∈ lw_tbl := m_memL [] (by decide +kernel)
theorem m_kj7 : ∀ w ∈ m_lck_7.map (m_lcw "java/lang/Math"), w ∈ lw_tbl := m_memL [] (by decide +kernel)
theorem m_kq8 : ∀ w ∈ m_clk_8.map (m_clw "java/lang/String"), w ∈ lw_tbl := m_memL [] (by decide +kernel)
theorem m_ki8 : ∀ w ∈ m_ick_8.map (m_icw "java/lang/String"), w ∈ lw_tbl := m_memL [] (by decide +kernel)
theorem m_kj8 : ∀ w ∈ m_lck_8.map (m_lcw "java/lang/String"), w ∈ lw_tbl := m_memL [] (by decide +kernel)
theorem m_kq9 : ∀ w ∈ m_clk_9.map (m_clw "java/lang/StringLatin1"), w ∈ lw_tbl := m_memL [] (by decide +kernel)
theorem m_ki9 : ∀ w ∈ m_ick_9.map (m_icw "java/lang/StringLatin1"), w ∈ lw_tbl := m_memL [] (by decide +kernel)
theorem m_kj9 : ∀ w ∈ m_lck_9.map (m_lcw "java/lang/StringLatin1"), w ∈ lw_tbl := m_memL [] (by decide +kernel)
theorem m_kq10 : ∀ w ∈ m_clk_10.map (m_clw "jdk/internal/util/Preconditions"), w ∈ lw_tbl := m_memL [] (by decide +kernel)
theorem m_ki10 : ∀ w ∈ m_ick_10.map (m_icw "jdk/internal/util/Preconditions"), w ∈ lw_tbl := m_memL [] (by decide +kernel)
theorem m_kj10 : ∀ w ∈ m_lck_10.map (m_lcw "jdk/internal/util/Preconditions"), w ∈ lw_tbl := m_memL [] (by decide +kernel)
theorem m_kq11 : ∀ w ∈ m_clk_11.map (m_clw "java/lang/StringUTF16"), w ∈ lw_tbl := m_memL [] (by decide +kernel)
theorem m_ki11 : ∀ w ∈ m_ick_11.map (m_icw "java/lang/StringUTF16"), w ∈ lw_tbl := m_memL [] (by decide +kernel)
theorem m_kj11 : ∀ w ∈ m_lck_11.map (m_lcw "java/lang/StringUTF16"), w ∈ lw_tbl := m_memL [] (by decide +kernel)
theorem m_kq12 : ∀ w ∈ m_clk_12.map (m_clw "java/util/Arrays"), w ∈ lw_tbl := m_memL [] (by decide +kernel)
theorem m_ki12 : ∀ w ∈ m_ick_12.map (m_icw "java/util/Arrays"), w ∈ lw_tbl := m_memL [] (by decide +kernel)
theorem m_kj12 : ∀ w ∈ m_lck_12.map (m_lcw "java/util/Arrays"), w ∈ lw_tbl := m_memL [] (by decide +kernel)
theorem m_kq13 : ∀ w ∈ m_clk_13.map (m_clw "PastHeaps$Past"), w ∈ lw_tbl := m_memL [470, 506, 525] (by decide +kernel)
theorem m_ki13 : ∀ w ∈ m_ick_13.map (m_icw "PastHeaps$Past"), w ∈ lw_tbl := m_memL [1170] (by decide +kernel)
theorem m_kj13 : ∀ w ∈ m_lck_13.map (m_lcw "PastHeaps$Past"), w ∈ lw_tbl := m_memL [] (by decide +kernel)
theorem m_kq14 : ∀ w ∈ m_clk_14.map (m_clw "PastHeaps$Nodes"), w ∈ lw_tbl := m_memL [476] (by decide +kernel)
theorem m_ki14 : ∀ w ∈ m_ick_14.map (m_icw "PastHeaps$Nodes"), w ∈ lw_tbl := m_memL [] (by decide +kernel)
theorem m_kj14 : ∀ w ∈ m_lck_14.map (m_lcw "PastHeaps$Nodes"), w ∈ lw_tbl := m_memL [] (by decide +kernel)
theorem m_kq15 : ∀ w ∈ m_clk_15.map (m_clw "PastHeaps$Lines"), w ∈ lw_tbl := m_memL [] (by decide +kernel)
theorem m_ki15 : ∀ w ∈ m_ick_15.map (m_icw "PastHeaps$Lines"), w ∈ lw_tbl := m_memL [] (by decide +kernel)
theorem m_kj15 : ∀ w ∈ m_lck_15.map (m_lcw "PastHeaps$Lines"), w ∈ lw_tbl := m_memL [975] (by decide +kernel)
theorem m_kq16 : ∀ w ∈ m_clk_16.map (m_clw "java/lang/Integer"), w ∈ lw_tbl := m_memL [] (by decide +kernel)
theorem m_ki16 : ∀ w ∈ m_ick_16.map (m_icw "java/lang/Integer"), w ∈ lw_tbl := m_memL [747, 748, 749] (by decide +kernel)
theorem m_kj16 : ∀ w ∈ m_lck_16.map (m_lcw "java/lang/Integer"), w ∈ lw_tbl := m_memL [] (by decide +kernel)
theorem m_kq17 : ∀ w ∈ m_clk_17.map (m_clw "java/lang/Long"), w ∈ lw_tbl := m_memL [] (by decide +kernel)
theorem m_ki17 : ∀ w ∈ m_ick_17.map (m_icw "java/lang/Long"), w ∈ lw_tbl := m_memL [] (by decide +kernel)
theorem m_kj17 : ∀ w ∈ m_lck_17.map (m_lcw "java/lang/Long"), w ∈ lw_tbl := m_memL [1059, 1060, 1061] (by decide +kernel)
theorem m_kq18 : ∀ w ∈ m_clk_18.map (m_clw "PastHeapsModel"), w ∈ lw_tbl := m_memL [] (by decide +kernel)
theorem m_ki18 : ∀ w ∈ m_ick_18.map (m_icw "PastHeapsModel"), w ∈ lw_tbl := m_memL [1181, 1556, 1765] (by decide +kernel)
theorem m_kj18 : ∀ w ∈ m_lck_18.map (m_lcw "PastHeapsModel"), w ∈ lw_tbl := m_memL [1426, 1427, 1428, 1429, 1430, 1431, 1592] (by decide +kernel)
theorem m_ky0 : ∀ w ∈ u_ws RX0 TX0 3, w ∈ lw_tbl := m_memL [150, 152, 154] (by decide +kernel)
theorem nmX0 : ∀ a, a < 3 → ∀ b, b < 3 → a ≠ b → (TX0 a).2.1 ≠ (TX0 b).2.1 := by decide +kernel
theorem tyX0_ok : ∀ k, k < 3 → parseFieldDescriptor (TX0 k).2.2.1 = some (tyX0 k) := by decide +kernel
theorem m_ky1 : ∀ w ∈ u_ws RX1 TX1 4, w ∈ lw_tbl := m_memL [516, 518, 520, 522] (by decide +kernel)
theorem nmX1 : ∀ a, a < 4 → ∀ b, b < 4 → a ≠ b → (TX1 a).2.1 ≠ (TX1 b).2.1 := by decide +kernel
theorem tyX1_ok : ∀ k, k < 4 → parseFieldDescriptor (TX1 k).2.2.1 = some (tyX1 k) := by decide +kernel
theorem m_ky2 : ∀ w ∈ u_ws RX2 TX2 7, w ∈ lw_tbl := m_memL [490, 492, 494, 496, 498, 500, 502] (by decide +kernel)
theorem nmX2 : ∀ a, a < 7 → ∀ b, b < 7 → a ≠ b → (TX2 a).2.1 ≠ (TX2 b).2.1 := by decide +kernel
theorem tyX2_ok : ∀ k, k < 7 → parseFieldDescriptor (TX2 k).2.2.1 = some (tyX2 k) := by decide +kernel
theorem m_ky3 : ∀ w ∈ u_ws RX3 TX3 14, w ∈ lw_tbl := m_memL [550, 552, 554, 556, 558, 560, 562, 564, 566, 568, 570, 572, 574, 576] (by decide +kernel)
theorem nmX3 : ∀ a, a < 14 → ∀ b, b < 14 → a ≠ b → (TX3 a).2.1 ≠ (TX3 b).2.1 := by decide +kernel
theorem tyX3_ok : ∀ k, k < 14 → parseFieldDescriptor (TX3 k).2.2.1 = some (tyX3 k) := by decide +kernel
theorem m_ky4 : ∀ w ∈ u_ws RX4 TX4 9, w ∈ lw_tbl := m_memL [204, 206, 208, 210, 212, 214, 216, 218, 220] (by decide +kernel)
theorem nmX4 : ∀ a, a < 9 → ∀ b, b < 9 → a ≠ b → (TX4 a).2.1 ≠ (TX4 b).2.1 := by decide +kernel
theorem tyX4_ok : ∀ k, k < 9 → parseFieldDescriptor (TX4 k).2.2.1 = some (tyX4 k) := by decide +kernel
theorem m_ky5 : ∀ w ∈ u_ws RX5 TX5 4, w ∈ lw_tbl := m_memL [282, 284, 286, 288] (by decide +kernel)
theorem nmX5 : ∀ a, a < 4 → ∀ b, b < 4 → a ≠ b → (TX5 a).2.1 ≠ (TX5 b).2.1 := by decide +kernel
theorem tyX5_ok : ∀ k, k < 4 → parseFieldDescriptor (TX5 k).2.2.1 = some (tyX5 k) := by decide +kernel
theorem m_ky6 : ∀ w ∈ u_ws RX6 TX6 6, w ∈ lw_tbl := m_memL [171, 173, 175, 177, 179, 181] (by decide +kernel)
theorem nmX6 : ∀ a, a < 6 → ∀ b, b < 6 → a ≠ b → (TX6 a).2.1 ≠ (TX6 b).2.1 := by decide +kernel
theorem tyX6_ok : ∀ k, k < 6 → parseFieldDescriptor (TX6 k).2.2.1 = some (tyX6 k) := by decide +kernel
theorem m_ky7 : ∀ w ∈ u_ws RX7 TX7 10, w ∈ lw_tbl := m_memL [250, 252, 254, 256, 258, 260, 262, 264, 266, 268] (by decide +kernel)
theorem nmX7 : ∀ a, a < 10 → ∀ b, b < 10 → a ≠ b → (TX7 a).2.1 ≠ (TX7 b).2.1 := by decide +kernel
theorem tyX7_ok : ∀ k, k < 10 → parseFieldDescriptor (TX7 k).2.2.1 = some (tyX7 k) := by decide +kernel
theorem m_ky8 : ∀ w ∈ u_ws RX8 TX8 8, w ∈ lw_tbl := m_memL [299, 301, 303, 305, 307, 309, 311, 313] (by decide +kernel)
theorem nmX8 : ∀ a, a < 8 → ∀ b, b < 8 → a ≠ b → (TX8 a).2.1 ≠ (TX8 b).2.1 := by decide +kernel
theorem tyX8_ok : ∀ k, k < 8 → parseFieldDescriptor (TX8 k).2.2.1 = some (tyX8 k) := by decide +kernel
theorem m_ky9 : ∀ w ∈ u_ws RX9 TX9 68, w ∈ lw_tbl := m_memL [1250, 1252, 1254, 1256, 1258, 1260, 1262, 1264, 1266, 1268, 1270, 1272, 1274, 1276, 1278, 1280, 1282, 1284, 1286, 1288, 1290, 1292, 1294, 1296, 1298, 1300, 1302, 1304, 1306, 1308, 1310, 1312, 1314, 1316, 1318, 1320, 1322, 1324, 1326, 1328, 1330, 1332, 1334, 1336, 1338, 1340, 1342, 1344, 1346, 1348, 1350, 1352, 1354, 1356, 1358, 1360, 1362, 1364, 1366, 1368, 1370, 1372, 1374, 1376, 1378, 1380, 1382, 1384] (by decide +kernel)
theorem nmX9 : ∀ a, a < 68 → ∀ b, b < 68 → a ≠ b → (TX9 a).2.1 ≠ (TX9 b).2.1 := by decide +kernel
theorem tyX9_ok : ∀ k, k < 68 → parseFieldDescriptor (TX9 k).2.2.1 = some (tyX9 k) := by decide +kernel
theorem m_kinst : ∀ w ∈ m_cl.flatMap (fun q => [Cond.instantiable q.1 q.2.2, Cond.initialized q.1]), w ∈ lw_tbl := m_memL [140, 107, 507, 121, 471, 120, 465, 119, 188, 108, 273, 110, 133, 106, 226, 109, 125, 105, 1176, 111] (by decide +kernel)
theorem m_karr : ∀ w ∈ [Cond.arrayClass .int, .arrayClass .byte, .arrayClass .boolean, .arrayClass .long, .arrayOver (.object RX6), .arrayOver (.object RX3), .arrayOver (.object RX0), .arrayOver (.array .int), .native arraycopyName, .static arraycopyName, .initialized "java/lang/System", .instanceMethod objectInit, .initialized "java/lang/String"], w ∈ lw_tbl := m_memL [158, 157, 271, 505, 184, 186, 139, 526, 460, 459, 118, 130, 113] (by decide +kernel)
set_option maxRecDepth 100000 in
theorem m_kobj : Cond.code objectInit ⟨#[0xb1]⟩ 1 none ∈ lw_tbl := List.mem_of_getElem? (i := 131) rfl
theorem m_KL : ∀ (k : Nat) (o : String) (l : List (Nat × Nat × Nat)), m_own[k]? = some o → m_mlk[k]? = some l → ∀ w ∈ l.map (m_mw o), w ∈ lw_tbl
  | 0, _, _, h1, h2 => by cases h1; cases h2; exact m_kl0
  | 1, _, _, h1, h2 => by cases h1; cases h2; exact m_kl1
  | 2, _, _, h1, h2 => by cases h1; cases h2; exact m_kl2
  | 3, _, _, h1, h2 => by cases h1; cases h2; exact m_kl3
  | 4, _, _, h1, h2 => by cases h1; cases h2; exact m_kl4
  | 5, _, _, h1, h2 => by cases h1; cases h2; exact m_kl5
  | 6, _, _, h1, h2 => by cases h1; cases h2; exact m_kl6
  | 7, _, _, h1, h2 => by cases h1; cases h2; exact m_kl7
  | 8, _, _, h1, h2 => by cases h1; cases h2; exact m_kl8
  | 9, _, _, h1, h2 => by cases h1; cases h2; exact m_kl9
  | 10, _, _, h1, h2 => by cases h1; cases h2; exact m_kl10
  | 11, _, _, h1, h2 => by cases h1; cases h2; exact m_kl11
  | 12, _, _, h1, h2 => by cases h1; cases h2; exact m_kl12
  | 13, _, _, h1, h2 => by cases h1; cases h2; exact m_kl13
  | 14, _, _, h1, h2 => by cases h1; cases h2; exact m_kl14
  | 15, _, _, h1, h2 => by cases h1; cases h2; exact m_kl15
  | 16, _, _, h1, h2 => by cases h1; cases h2; exact m_kl16
  | 17, _, _, h1, h2 => by cases h1; cases h2; exact m_kl17
  | 18, _, _, h1, h2 => by cases h1; cases h2; exact m_kl18
  | k + 19, _, _, h1, h2 => by simp [m_own] at h1
theorem m_KF : ∀ (k : Nat) (o : String) (l : List (Nat × Nat × Nat × Nat)), m_own[k]? = some o → m_flk[k]? = some l → ∀ w ∈ l.map (m_fw o), w ∈ lw_tbl
  | 0, _, _, h1, h2 => by cases h1; cases h2; exact m_kf0
  | 1, _, _, h1, h2 => by cases h1; cases h2; exact m_kf1
  | 2, _, _, h1, h2 => by cases h1; cases h2; exact m_kf2
  | 3, _, _, h1, h2 => by cases h1; cases h2; exact m_kf3
  | 4, _, _, h1, h2 => by cases h1; cases h2; exact m_kf4
  | 5, _, _, h1, h2 => by cases h1; cases h2; exact m_kf5
  | 6, _, _, h1, h2 => by cases h1; cases h2; exact m_kf6
  | 7, _, _, h1, h2 => by cases h1; cases h2; exact m_kf7
  | 8, _, _, h1, h2 => by cases h1; cases h2; exact m_kf8
  | 9, _, _, h1, h2 => by cases h1; cases h2; exact m_kf9
  | 10, _, _, h1, h2 => by cases h1; cases h2; exact m_kf10
  | 11, _, _, h1, h2 => by cases h1; cases h2; exact m_kf11
  | 12, _, _, h1, h2 => by cases h1; cases h2; exact m_kf12
  | 13, _, _, h1, h2 => by cases h1; cases h2; exact m_kf13
  | 14, _, _, h1, h2 => by cases h1; cases h2; exact m_kf14
  | 15, _, _, h1, h2 => by cases h1; cases h2; exact m_kf15
  | 16, _, _, h1, h2 => by cases h1; cases h2; exact m_kf16
  | 17, _, _, h1, h2 => by cases h1; cases h2; exact m_kf17
  | 18, _, _, h1, h2 => by cases h1; cases h2; exact m_kf18
  | k + 19, _, _, h1, h2 => by simp [m_own] at h1
theorem m_KQ : ∀ (k : Nat) (o : String) (l : List (Nat × Nat)), m_own[k]? = some o → m_clk[k]? = some l → ∀ w ∈ l.map (m_clw o), w ∈ lw_tbl
  | 0, _, _, h1, h2 => by cases h1; cases h2; exact m_kq0
  | 1, _, _, h1, h2 => by cases h1; cases h2; exact m_kq1
  | 2, _, _, h1, h2 => by cases h1; cases h2; exact m_kq2
  | 3, _, _, h1, h2 => by cases h1; cases h2; exact m_kq3
  | 4, _, _, h1, h2 => by cases h1; cases h2; exact m_kq4
  | 5, _, _, h1, h2 => by cases h1; cases h2; exact m_kq5
  | 6, _, _, h1, h2 => by cases h1; cases h2; exact m_kq6
  | 7, _, _, h1, h2 => by cases h1; cases h2; exact m_kq7
  | 8, _, _, h1, h2 => by cases h1; cases h2; exact m_kq8
  | 9, _, _, h1, h2 => by cases h1; cases h2; exact m_kq9
  | 10, _, _, h1, h2 => by cases h1; cases h2; exact m_kq10
  | 11, _, _, h1, h2 => by cases h1; cases h2; exact m_kq11
  | 12, _, _, h1, h2 => by cases h1; cases h2; exact m_kq12
  | 13, _, _, h1, h2 => by cases h1; cases h2; exact m_kq13
  | 14, _, _, h1, h2 => by cases h1; cases h2; exact m_kq14
  | 15, _, _, h1, h2 => by cases h1; cases h2; exact m_kq15
  | 16, _, _, h1, h2 => by cases h1; cases h2; exact m_kq16
  | 17, _, _, h1, h2 => by cases h1; cases h2; exact m_kq17
  | 18, _, _, h1, h2 => by cases h1; cases h2; exact m_kq18
  | k + 19, _, _, h1, h2 => by simp [m_own] at h1
theorem m_KI : ∀ (k : Nat) (o : String) (l : List (Nat × Int32)), m_own[k]? = some o → m_ick[k]? = some l → ∀ w ∈ l.map (m_icw o), w ∈ lw_tbl
  | 0, _, _, h1, h2 => by cases h1; cases h2; exact m_ki0
  | 1, _, _, h1, h2 => by cases h1; cases h2; exact m_ki1
  | 2, _, _, h1, h2 => by cases h1; cases h2; exact m_ki2
  | 3, _, _, h1, h2 => by cases h1; cases h2; exact m_ki3
  | 4, _, _, h1, h2 => by cases h1; cases h2; exact m_ki4
  | 5, _, _, h1, h2 => by cases h1; cases h2; exact m_ki5
  | 6, _, _, h1, h2 => by cases h1; cases h2; exact m_ki6
  | 7, _, _, h1, h2 => by cases h1; cases h2; exact m_ki7
  | 8, _, _, h1, h2 => by cases h1; cases h2; exact m_ki8
  | 9, _, _, h1, h2 => by cases h1; cases h2; exact m_ki9
  | 10, _, _, h1, h2 => by cases h1; cases h2; exact m_ki10
  | 11, _, _, h1, h2 => by cases h1; cases h2; exact m_ki11
  | 12, _, _, h1, h2 => by cases h1; cases h2; exact m_ki12
  | 13, _, _, h1, h2 => by cases h1; cases h2; exact m_ki13
  | 14, _, _, h1, h2 => by cases h1; cases h2; exact m_ki14
  | 15, _, _, h1, h2 => by cases h1; cases h2; exact m_ki15
  | 16, _, _, h1, h2 => by cases h1; cases h2; exact m_ki16
  | 17, _, _, h1, h2 => by cases h1; cases h2; exact m_ki17
  | 18, _, _, h1, h2 => by cases h1; cases h2; exact m_ki18
  | k + 19, _, _, h1, h2 => by simp [m_own] at h1
theorem m_KJ : ∀ (k : Nat) (o : String) (l : List (Nat × Int64)), m_own[k]? = some o → m_lck[k]? = some l → ∀ w ∈ l.map (m_lcw o), w ∈ lw_tbl
  | 0, _, _, h1, h2 => by cases h1; cases h2; exact m_kj0
  | 1, _, _, h1, h2 => by cases h1; cases h2; exact m_kj1
  | 2, _, _, h1, h2 => by cases h1; cases h2; exact m_kj2
  | 3, _, _, h1, h2 => by cases h1; cases h2; exact m_kj3
  | 4, _, _, h1, h2 => by cases h1; cases h2; exact m_kj4
  | 5, _, _, h1, h2 => by cases h1; cases h2; exact m_kj5
  | 6, _, _, h1, h2 => by cases h1; cases h2; exact m_kj6
  | 7, _, _, h1, h2 => by cases h1; cases h2; exact m_kj7
  | 8, _, _, h1, h2 => by cases h1; cases h2; exact m_kj8
  | 9, _, _, h1, h2 => by cases h1; cases h2; exact m_kj9
  | 10, _, _, h1, h2 => by cases h1; cases h2; exact m_kj10
  | 11, _, _, h1, h2 => by cases h1; cases h2; exact m_kj11
  | 12, _, _, h1, h2 => by cases h1; cases h2; exact m_kj12
  | 13, _, _, h1, h2 => by cases h1; cases h2; exact m_kj13
  | 14, _, _, h1, h2 => by cases h1; cases h2; exact m_kj14
  | 15, _, _, h1, h2 => by cases h1; cases h2; exact m_kj15
  | 16, _, _, h1, h2 => by cases h1; cases h2; exact m_kj16
  | 17, _, _, h1, h2 => by cases h1; cases h2; exact m_kj17
  | 18, _, _, h1, h2 => by cases h1; cases h2; exact m_kj18
  | k + 19, _, _, h1, h2 => by simp [m_own] at h1
theorem m_kfok : ∀ l ∈ m_flk, ∀ e ∈ l, decide (e.2.2.1 = 39 ∧ e.2.1 = 0 ∧ e.2.2.2 < 2 ∨ e.2.2.1 < 10 ∧ e.2.2.2 < m_nf e.2.2.1 ∧ e.2.1 < 2) = true := by decide +kernel
def m_cf (c : Nat) (q : vw_C) (ty : Nat → FieldType) : Prop := m_cl[c]? = some q ∧ m_nf c = q.2.2 ∧ (∀ w ∈ u_ws q.1 q.2.1 q.2.2, w ∈ lw_tbl) ∧ (∀ a, a < q.2.2 → ∀ b, b < q.2.2 → a ≠ b → (q.2.1 a).2.1 ≠ (q.2.1 b).2.1) ∧ (∀ k, k < q.2.2 → parseFieldDescriptor (q.2.1 k).2.2.1 = some (ty k)) ∧ (∀ k, k < q.2.2 → (q.2.1 k).1 = q.1 ∧ (q.2.1 k).2.2.2 = (m_ty c k).2 ∧ ((m_ty c k).1 = 0 → ty k = .int) ∧ ((m_ty c k).1 = 1 → ty k = .long) ∧ ((m_ty c k).1 ≠ 0 → (m_ty c k).1 ≠ 1 → m_rr (some (ty k)) = true)) ∧ Cond.instantiable q.1 q.2.2 ∈ lw_tbl ∧ Cond.initialized q.1 ∈ lw_tbl
theorem m_cf0 : m_cf 0 (RX0, TX0, 3) tyX0 := ⟨rfl, by decide +kernel, m_ky0, nmX0, tyX0_ok, by decide +kernel, m_kinst _ (List.mem_of_getElem? (i := 0) rfl), m_kinst _ (List.mem_of_getElem? (i := 1) rfl)⟩
theorem m_cf1 : m_cf 1 (RX1, TX1, 4) tyX1 := ⟨rfl, by decide +kernel, m_ky1, nmX1, tyX1_ok, by decide +kernel, m_kinst _ (List.mem_of_getElem? (i := 2) rfl), m_kinst _ (List.mem_of_getElem? (i := 3) rfl)⟩
theorem m_cf2 : m_cf 2 (RX2, TX2, 7) tyX2 := ⟨rfl, by decide +kernel, m_ky2, nmX2, tyX2_ok, by decide +kernel, m_kinst _ (List.mem_of_getElem? (i := 4) rfl), m_kinst _ (List.mem_of_getElem? (i := 5) rfl)⟩
theorem m_cf3 : m_cf 3 (RX3, TX3, 14) tyX3 := ⟨rfl, by decide +kernel, m_ky3, nmX3, tyX3_ok, by decide +kernel, m_kinst _ (List.mem_of_getElem? (i := 6) rfl), m_kinst _ (List.mem_of_getElem? (i := 7) rfl)⟩
theorem m_cf4 : m_cf 4 (RX4, TX4, 9) tyX4 := ⟨rfl, by decide +kernel, m_ky4, nmX4, tyX4_ok, by decide +kernel, m_kinst _ (List.mem_of_getElem? (i := 8) rfl), m_kinst _ (List.mem_of_getElem? (i := 9) rfl)⟩
theorem m_cf5 : m_cf 5 (RX5, TX5, 4) tyX5 := ⟨rfl, by decide +kernel, m_ky5, nmX5, tyX5_ok, by decide +kernel, m_kinst _ (List.mem_of_getElem? (i := 10) rfl), m_kinst _ (List.mem_of_getElem? (i := 11) rfl)⟩
theorem m_cf6 : m_cf 6 (RX6, TX6, 6) tyX6 := ⟨rfl, by decide +kernel, m_ky6, nmX6, tyX6_ok, by decide +kernel, m_kinst _ (List.mem_of_getElem? (i := 12) rfl), m_kinst _ (List.mem_of_getElem? (i := 13) rfl)⟩
theorem m_cf7 : m_cf 7 (RX7, TX7, 10) tyX7 := ⟨rfl, by decide +kernel, m_ky7, nmX7, tyX7_ok, by decide +kernel, m_kinst _ (List.mem_of_getElem? (i := 14) rfl), m_kinst _ (List.mem_of_getElem? (i := 15) rfl)⟩
theorem m_cf8 : m_cf 8 (RX8, TX8, 8) tyX8 := ⟨rfl, by decide +kernel, m_ky8, nmX8, tyX8_ok, by decide +kernel, m_kinst _ (List.mem_of_getElem? (i := 16) rfl), m_kinst _ (List.mem_of_getElem? (i := 17) rfl)⟩
theorem m_cf9 : m_cf 9 (RX9, TX9, 68) tyX9 := ⟨rfl, by decide +kernel, m_ky9, nmX9, tyX9_ok, by decide +kernel, m_kinst _ (List.mem_of_getElem? (i := 18) rfl), m_kinst _ (List.mem_of_getElem? (i := 19) rfl)⟩
theorem m_cfs : ∀ c, c < 10 → ∃ (q : vw_C) (ty : Nat → FieldType), m_cf c q ty
  | 0, _ => ⟨_, _, m_cf0⟩
  | 1, _ => ⟨_, _, m_cf1⟩
  | 2, _ => ⟨_, _, m_cf2⟩
  | 3, _ => ⟨_, _, m_cf3⟩
  | 4, _ => ⟨_, _, m_cf4⟩
  | 5, _ => ⟨_, _, m_cf5⟩
  | 6, _ => ⟨_, _, m_cf6⟩
  | 7, _ => ⟨_, _, m_cf7⟩
  | 8, _ => ⟨_, _, m_cf8⟩
  | 9, _ => ⟨_, _, m_cf9⟩
  | c + 10, h => absurd h (by omega)
