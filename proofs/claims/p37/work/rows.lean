section
-- ===== PART A: goes FIRST, ahead of the names: the tables' words, and 'selects' of the private methods out of them =====
/-- a private method of a class that the tables say can be made, by its rows of tables_1 -/
def lw_okq (q : MethodName × Nat) : Prop := (q.1.cls ≠ "java/lang/invoke/MethodHandle" ∧ q.1.cls ≠ "java/lang/invoke/VarHandle") ∧ Cond.instantiable q.1.cls q.2 ∈ tables_1 ∧ Cond.privateMethod q.1 ∈ tables_1 ∧ Cond.instanceMethod q.1 ∈ tables_1
theorem lw_p0 : lw_okq (⟨"PastHeaps", "isRow", "(I)Z"⟩, 8) := ⟨⟨by decide +kernel, by decide +kernel⟩, List.mem_of_getElem? (i := 21) (by decide +kernel), List.mem_of_getElem? (i := 229) (by decide +kernel), List.mem_of_getElem? (i := 230) (by decide +kernel)⟩
theorem lw_p1 : lw_okq (⟨"PastHeaps$Reader", "readLine", "(LPastHeaps$Acts;)Z"⟩, 9) := ⟨⟨by decide +kernel, by decide +kernel⟩, List.mem_of_getElem? (i := 84) (by decide +kernel), List.mem_of_getElem? (i := 244) (by decide +kernel), List.mem_of_getElem? (i := 245) (by decide +kernel)⟩
theorem lw_p2 : lw_okq (⟨"PastHeaps$Reader", "nextToken", "()V"⟩, 9) := ⟨⟨by decide +kernel, by decide +kernel⟩, List.mem_of_getElem? (i := 84) (by decide +kernel), List.mem_of_getElem? (i := 248) (by decide +kernel), List.mem_of_getElem? (i := 249) (by decide +kernel)⟩
theorem lw_p3 : lw_okq (⟨"PastHeaps$Reader", "readWord", "()V"⟩, 9) := ⟨⟨by decide +kernel, by decide +kernel⟩, List.mem_of_getElem? (i := 84) (by decide +kernel), List.mem_of_getElem? (i := 255) (by decide +kernel), List.mem_of_getElem? (i := 256) (by decide +kernel)⟩
theorem lw_p4 : lw_okq (⟨"PastHeaps$Reader", "tells", "(Ljava/lang/String;)Z"⟩, 9) := ⟨⟨by decide +kernel, by decide +kernel⟩, List.mem_of_getElem? (i := 84) (by decide +kernel), List.mem_of_getElem? (i := 268) (by decide +kernel), List.mem_of_getElem? (i := 269) (by decide +kernel)⟩
theorem lw_p5 : lw_okq (⟨"PastHeaps$Reader", "readNumber", "()V"⟩, 9) := ⟨⟨by decide +kernel, by decide +kernel⟩, List.mem_of_getElem? (i := 84) (by decide +kernel), List.mem_of_getElem? (i := 323) (by decide +kernel), List.mem_of_getElem? (i := 324) (by decide +kernel)⟩
theorem lw_p6 : lw_okq (⟨"PastHeaps$Reader", "goesNoFurther", "()Z"⟩, 9) := ⟨⟨by decide +kernel, by decide +kernel⟩, List.mem_of_getElem? (i := 84) (by decide +kernel), List.mem_of_getElem? (i := 327) (by decide +kernel), List.mem_of_getElem? (i := 328) (by decide +kernel)⟩
theorem lw_p7 : lw_okq (⟨"PastHeaps$Reader", "note", "(II)V"⟩, 9) := ⟨⟨by decide +kernel, by decide +kernel⟩, List.mem_of_getElem? (i := 84) (by decide +kernel), List.mem_of_getElem? (i := 331) (by decide +kernel), List.mem_of_getElem? (i := 332) (by decide +kernel)⟩
theorem lw_p8 : lw_okq (⟨"PastHeaps", "pastFor", "(I)LPastHeaps$Past;"⟩, 8) := ⟨⟨by decide +kernel, by decide +kernel⟩, List.mem_of_getElem? (i := 21) (by decide +kernel), List.mem_of_getElem? (i := 358) (by decide +kernel), List.mem_of_getElem? (i := 359) (by decide +kernel)⟩
theorem lw_p9 : lw_okq (⟨"PastHeaps$Past", "keepHeap", "()V"⟩, 14) := ⟨⟨by decide +kernel, by decide +kernel⟩, List.mem_of_getElem? (i := 361) (by decide +kernel), List.mem_of_getElem? (i := 491) (by decide +kernel), List.mem_of_getElem? (i := 492) (by decide +kernel)⟩
theorem lw_p10 : lw_okq (⟨"PastHeaps$Past", "heapSize", "()I"⟩, 14) := ⟨⟨by decide +kernel, by decide +kernel⟩, List.mem_of_getElem? (i := 361) (by decide +kernel), List.mem_of_getElem? (i := 496) (by decide +kernel), List.mem_of_getElem? (i := 497) (by decide +kernel)⟩
theorem lw_p11 : lw_okq (⟨"PastHeaps$Lines", "fromsOf", "(I)J"⟩, 4) := ⟨⟨by decide +kernel, by decide +kernel⟩, List.mem_of_getElem? (i := 403) (by decide +kernel), List.mem_of_getElem? (i := 507) (by decide +kernel), List.mem_of_getElem? (i := 508) (by decide +kernel)⟩
theorem lw_p12 : lw_okq (⟨"PastHeaps$Past", "perform", "(IIII)Z"⟩, 14) := ⟨⟨by decide +kernel, by decide +kernel⟩, List.mem_of_getElem? (i := 361) (by decide +kernel), List.mem_of_getElem? (i := 519) (by decide +kernel), List.mem_of_getElem? (i := 520) (by decide +kernel)⟩
theorem lw_p13 : lw_okq (⟨"PastHeaps$Past", "load", "(I[I)V"⟩, 14) := ⟨⟨by decide +kernel, by decide +kernel⟩, List.mem_of_getElem? (i := 361) (by decide +kernel), List.mem_of_getElem? (i := 527) (by decide +kernel), List.mem_of_getElem? (i := 528) (by decide +kernel)⟩
theorem lw_p14 : lw_okq (⟨"PastHeaps$Past", "putIn", "(I)Z"⟩, 14) := ⟨⟨by decide +kernel, by decide +kernel⟩, List.mem_of_getElem? (i := 361) (by decide +kernel), List.mem_of_getElem? (i := 531) (by decide +kernel), List.mem_of_getElem? (i := 532) (by decide +kernel)⟩
theorem lw_p15 : lw_okq (⟨"PastHeaps$Nodes", "linked", "(II)I"⟩, 7) := ⟨⟨by decide +kernel, by decide +kernel⟩, List.mem_of_getElem? (i := 367) (by decide +kernel), List.mem_of_getElem? (i := 567) (by decide +kernel), List.mem_of_getElem? (i := 568) (by decide +kernel)⟩
def lw_privs_1 : List (MethodName × Nat) := [(⟨"PastHeaps", "isRow", "(I)Z"⟩, 8), (⟨"PastHeaps$Reader", "readLine", "(LPastHeaps$Acts;)Z"⟩, 9), (⟨"PastHeaps$Reader", "nextToken", "()V"⟩, 9), (⟨"PastHeaps$Reader", "readWord", "()V"⟩, 9), (⟨"PastHeaps$Reader", "tells", "(Ljava/lang/String;)Z"⟩, 9), (⟨"PastHeaps$Reader", "readNumber", "()V"⟩, 9), (⟨"PastHeaps$Reader", "goesNoFurther", "()Z"⟩, 9), (⟨"PastHeaps$Reader", "note", "(II)V"⟩, 9), (⟨"PastHeaps", "pastFor", "(I)LPastHeaps$Past;"⟩, 8), (⟨"PastHeaps$Past", "keepHeap", "()V"⟩, 14), (⟨"PastHeaps$Past", "heapSize", "()I"⟩, 14), (⟨"PastHeaps$Lines", "fromsOf", "(I)J"⟩, 4), (⟨"PastHeaps$Past", "perform", "(IIII)Z"⟩, 14), (⟨"PastHeaps$Past", "load", "(I[I)V"⟩, 14), (⟨"PastHeaps$Past", "putIn", "(I)Z"⟩, 14), (⟨"PastHeaps$Nodes", "linked", "(II)I"⟩, 7)]
theorem lw_r1 : ∀ q ∈ lw_privs_1, lw_okq q := List.forall_mem_cons.mpr ⟨lw_p0, List.forall_mem_cons.mpr ⟨lw_p1, List.forall_mem_cons.mpr ⟨lw_p2, List.forall_mem_cons.mpr ⟨lw_p3, List.forall_mem_cons.mpr ⟨lw_p4, List.forall_mem_cons.mpr ⟨lw_p5, List.forall_mem_cons.mpr ⟨lw_p6, List.forall_mem_cons.mpr ⟨lw_p7, List.forall_mem_cons.mpr ⟨lw_p8, List.forall_mem_cons.mpr ⟨lw_p9, List.forall_mem_cons.mpr ⟨lw_p10, List.forall_mem_cons.mpr ⟨lw_p11, List.forall_mem_cons.mpr ⟨lw_p12, List.forall_mem_cons.mpr ⟨lw_p13, List.forall_mem_cons.mpr ⟨lw_p14, List.forall_mem_cons.mpr ⟨lw_p15, fun _ h => absurd h List.not_mem_nil⟩⟩⟩⟩⟩⟩⟩⟩⟩⟩⟩⟩⟩⟩⟩⟩
theorem lw_p16 : lw_okq (⟨"PastHeaps$Nodes", "setChild", "(III)V"⟩, 7) := ⟨⟨by decide +kernel, by decide +kernel⟩, List.mem_of_getElem? (i := 367) (by decide +kernel), List.mem_of_getElem? (i := 580) (by decide +kernel), List.mem_of_getElem? (i := 581) (by decide +kernel)⟩
theorem lw_p17 : lw_okq (⟨"PastHeaps$Past", "meldWith", "(I)Z"⟩, 14) := ⟨⟨by decide +kernel, by decide +kernel⟩, List.mem_of_getElem? (i := 361) (by decide +kernel), List.mem_of_getElem? (i := 588) (by decide +kernel), List.mem_of_getElem? (i := 589) (by decide +kernel)⟩
theorem lw_p18 : lw_okq (⟨"PastHeaps$Walk", "push", "(II)V"⟩, 10) := ⟨⟨by decide +kernel, by decide +kernel⟩, List.mem_of_getElem? (i := 122) (by decide +kernel), List.mem_of_getElem? (i := 610) (by decide +kernel), List.mem_of_getElem? (i := 611) (by decide +kernel)⟩
theorem lw_p19 : lw_okq (⟨"PastHeaps$Nodes", "remake", "(II)V"⟩, 7) := ⟨⟨by decide +kernel, by decide +kernel⟩, List.mem_of_getElem? (i := 367) (by decide +kernel), List.mem_of_getElem? (i := 628) (by decide +kernel), List.mem_of_getElem? (i := 629) (by decide +kernel)⟩
theorem lw_p20 : lw_okq (⟨"PastHeaps$Past", "keepAct", "(LPastHeaps$Acts;II)V"⟩, 14) := ⟨⟨by decide +kernel, by decide +kernel⟩, List.mem_of_getElem? (i := 361) (by decide +kernel), List.mem_of_getElem? (i := 637) (by decide +kernel), List.mem_of_getElem? (i := 638) (by decide +kernel)⟩
theorem lw_p21 : lw_okq (⟨"PastHeaps$Past", "markNodes", "(I)V"⟩, 14) := ⟨⟨by decide +kernel, by decide +kernel⟩, List.mem_of_getElem? (i := 361) (by decide +kernel), List.mem_of_getElem? (i := 655) (by decide +kernel), List.mem_of_getElem? (i := 656) (by decide +kernel)⟩
theorem lw_p22 : lw_okq (⟨"PastHeaps", "pastOf", "(I)LPastHeaps$Past;"⟩, 8) := ⟨⟨by decide +kernel, by decide +kernel⟩, List.mem_of_getElem? (i := 21) (by decide +kernel), List.mem_of_getElem? (i := 679) (by decide +kernel), List.mem_of_getElem? (i := 680) (by decide +kernel)⟩
theorem lw_p23 : lw_okq (⟨"PastHeaps", "seen", "(LPastHeaps$Past;I)LPastHeaps$Walk;"⟩, 8) := ⟨⟨by decide +kernel, by decide +kernel⟩, List.mem_of_getElem? (i := 21) (by decide +kernel), List.mem_of_getElem? (i := 735) (by decide +kernel), List.mem_of_getElem? (i := 736) (by decide +kernel)⟩
theorem lw_p24 : lw_okq (⟨"PastHeaps$Walk", "list", "(I)I"⟩, 10) := ⟨⟨by decide +kernel, by decide +kernel⟩, List.mem_of_getElem? (i := 122) (by decide +kernel), List.mem_of_getElem? (i := 800) (by decide +kernel), List.mem_of_getElem? (i := 801) (by decide +kernel)⟩
theorem lw_p25 : lw_okq (⟨"PastHeaps$Walk", "leastListed", "()I"⟩, 10) := ⟨⟨by decide +kernel, by decide +kernel⟩, List.mem_of_getElem? (i := 122) (by decide +kernel), List.mem_of_getElem? (i := 804) (by decide +kernel), List.mem_of_getElem? (i := 805) (by decide +kernel)⟩
theorem lw_p26 : lw_okq (⟨"PastHeaps", "seeBoth", "(LPastHeaps$Past;II)V"⟩, 8) := ⟨⟨by decide +kernel, by decide +kernel⟩, List.mem_of_getElem? (i := 21) (by decide +kernel), List.mem_of_getElem? (i := 825) (by decide +kernel), List.mem_of_getElem? (i := 826) (by decide +kernel)⟩
theorem lw_p27 : lw_okq (⟨"PastHeaps$Walk", "keyOfThing", "(I)I"⟩, 10) := ⟨⟨by decide +kernel, by decide +kernel⟩, List.mem_of_getElem? (i := 122) (by decide +kernel), List.mem_of_getElem? (i := 833) (by decide +kernel), List.mem_of_getElem? (i := 834) (by decide +kernel)⟩
theorem lw_p28 : lw_okq (⟨"PastHeaps$Lines", "start", "(I)V"⟩, 4) := ⟨⟨by decide +kernel, by decide +kernel⟩, List.mem_of_getElem? (i := 403) (by decide +kernel), List.mem_of_getElem? (i := 868) (by decide +kernel), List.mem_of_getElem? (i := 869) (by decide +kernel)⟩
theorem lw_p29 : lw_okq (⟨"PastHeaps$Lines", "tallyOf", "(I)J"⟩, 4) := ⟨⟨by decide +kernel, by decide +kernel⟩, List.mem_of_getElem? (i := 403) (by decide +kernel), List.mem_of_getElem? (i := 876) (by decide +kernel), List.mem_of_getElem? (i := 877) (by decide +kernel)⟩
theorem lw_p30 : lw_okq (⟨"PastHeaps$Shares", "choose", "(J)V"⟩, 4) := ⟨⟨by decide +kernel, by decide +kernel⟩, List.mem_of_getElem? (i := 169) (by decide +kernel), List.mem_of_getElem? (i := 969) (by decide +kernel), List.mem_of_getElem? (i := 970) (by decide +kernel)⟩
theorem lw_p31 : lw_okq (⟨"PastHeaps$Shares", "packed", "(J)I"⟩, 4) := ⟨⟨by decide +kernel, by decide +kernel⟩, List.mem_of_getElem? (i := 169) (by decide +kernel), List.mem_of_getElem? (i := 973) (by decide +kernel), List.mem_of_getElem? (i := 974) (by decide +kernel)⟩
def lw_privs_2 : List (MethodName × Nat) := [(⟨"PastHeaps$Nodes", "setChild", "(III)V"⟩, 7), (⟨"PastHeaps$Past", "meldWith", "(I)Z"⟩, 14), (⟨"PastHeaps$Walk", "push", "(II)V"⟩, 10), (⟨"PastHeaps$Nodes", "remake", "(II)V"⟩, 7), (⟨"PastHeaps$Past", "keepAct", "(LPastHeaps$Acts;II)V"⟩, 14), (⟨"PastHeaps$Past", "markNodes", "(I)V"⟩, 14), (⟨"PastHeaps", "pastOf", "(I)LPastHeaps$Past;"⟩, 8), (⟨"PastHeaps", "seen", "(LPastHeaps$Past;I)LPastHeaps$Walk;"⟩, 8), (⟨"PastHeaps$Walk", "list", "(I)I"⟩, 10), (⟨"PastHeaps$Walk", "leastListed", "()I"⟩, 10), (⟨"PastHeaps", "seeBoth", "(LPastHeaps$Past;II)V"⟩, 8), (⟨"PastHeaps$Walk", "keyOfThing", "(I)I"⟩, 10), (⟨"PastHeaps$Lines", "start", "(I)V"⟩, 4), (⟨"PastHeaps$Lines", "tallyOf", "(I)J"⟩, 4), (⟨"PastHeaps$Shares", "choose", "(J)V"⟩, 4), (⟨"PastHeaps$Shares", "packed", "(J)I"⟩, 4)]
theorem lw_r2 : ∀ q ∈ lw_privs_2, lw_okq q := List.forall_mem_cons.mpr ⟨lw_p16, List.forall_mem_cons.mpr ⟨lw_p17, List.forall_mem_cons.mpr ⟨lw_p18, List.forall_mem_cons.mpr ⟨lw_p19, List.forall_mem_cons.mpr ⟨lw_p20, List.forall_mem_cons.mpr ⟨lw_p21, List.forall_mem_cons.mpr ⟨lw_p22, List.forall_mem_cons.mpr ⟨lw_p23, List.forall_mem_cons.mpr ⟨lw_p24, List.forall_mem_cons.mpr ⟨lw_p25, List.forall_mem_cons.mpr ⟨lw_p26, List.forall_mem_cons.mpr ⟨lw_p27, List.forall_mem_cons.mpr ⟨lw_p28, List.forall_mem_cons.mpr ⟨lw_p29, List.forall_mem_cons.mpr ⟨lw_p30, List.forall_mem_cons.mpr ⟨lw_p31, fun _ h => absurd h List.not_mem_nil⟩⟩⟩⟩⟩⟩⟩⟩⟩⟩⟩⟩⟩⟩⟩⟩
theorem lw_p32 : lw_okq (⟨"PastHeaps$Shares", "sumBelow", "()V"⟩, 4) := ⟨⟨by decide +kernel, by decide +kernel⟩, List.mem_of_getElem? (i := 169) (by decide +kernel), List.mem_of_getElem? (i := 977) (by decide +kernel), List.mem_of_getElem? (i := 978) (by decide +kernel)⟩
theorem lw_p33 : lw_okq (⟨"PastHeaps$Shares", "unpacked", "(I)J"⟩, 4) := ⟨⟨by decide +kernel, by decide +kernel⟩, List.mem_of_getElem? (i := 169) (by decide +kernel), List.mem_of_getElem? (i := 982) (by decide +kernel), List.mem_of_getElem? (i := 983) (by decide +kernel)⟩
theorem lw_p34 : lw_okq (⟨"PastHeaps$Past", "foldedMakes", "(I)I"⟩, 14) := ⟨⟨by decide +kernel, by decide +kernel⟩, List.mem_of_getElem? (i := 361) (by decide +kernel), List.mem_of_getElem? (i := 1035) (by decide +kernel), List.mem_of_getElem? (i := 1036) (by decide +kernel)⟩
theorem lw_p35 : lw_okq (⟨"PastHeaps$Past", "nextTurn", "(I)Z"⟩, 14) := ⟨⟨by decide +kernel, by decide +kernel⟩, List.mem_of_getElem? (i := 361) (by decide +kernel), List.mem_of_getElem? (i := 1039) (by decide +kernel), List.mem_of_getElem? (i := 1040) (by decide +kernel)⟩
theorem lw_p36 : lw_okq (⟨"PastHeaps$Past", "swapTurns", "(II)V"⟩, 14) := ⟨⟨by decide +kernel, by decide +kernel⟩, List.mem_of_getElem? (i := 361) (by decide +kernel), List.mem_of_getElem? (i := 1043) (by decide +kernel), List.mem_of_getElem? (i := 1044) (by decide +kernel)⟩
theorem lw_p37 : lw_okq (⟨"PastHeaps$Past", "drawBelow", "(I)I"⟩, 14) := ⟨⟨by decide +kernel, by decide +kernel⟩, List.mem_of_getElem? (i := 361) (by decide +kernel), List.mem_of_getElem? (i := 1063) (by decide +kernel), List.mem_of_getElem? (i := 1064) (by decide +kernel)⟩
theorem lw_p38 : lw_okq (⟨"PastHeaps$Past", "drawnAnswer", "(II)I"⟩, 14) := ⟨⟨by decide +kernel, by decide +kernel⟩, List.mem_of_getElem? (i := 361) (by decide +kernel), List.mem_of_getElem? (i := 1068) (by decide +kernel), List.mem_of_getElem? (i := 1069) (by decide +kernel)⟩
theorem lw_p39 : lw_okq (⟨"PastHeapsModel", "four", "(I)V"⟩, 68) := ⟨⟨by decide +kernel, by decide +kernel⟩, List.mem_of_getElem? (i := 1072) (by decide +kernel), List.mem_of_getElem? (i := 1288) (by decide +kernel), List.mem_of_getElem? (i := 1289) (by decide +kernel)⟩
theorem lw_p40 : lw_okq (⟨"PastHeapsModel", "isRow", "(I)Z"⟩, 68) := ⟨⟨by decide +kernel, by decide +kernel⟩, List.mem_of_getElem? (i := 1072) (by decide +kernel), List.mem_of_getElem? (i := 1303) (by decide +kernel), List.mem_of_getElem? (i := 1304) (by decide +kernel)⟩
theorem lw_p41 : lw_okq (⟨"PastHeapsModel", "readText", "()Z"⟩, 68) := ⟨⟨by decide +kernel, by decide +kernel⟩, List.mem_of_getElem? (i := 1072) (by decide +kernel), List.mem_of_getElem? (i := 1307) (by decide +kernel), List.mem_of_getElem? (i := 1308) (by decide +kernel)⟩
theorem lw_p42 : lw_okq (⟨"PastHeapsModel", "token", "()V"⟩, 68) := ⟨⟨by decide +kernel, by decide +kernel⟩, List.mem_of_getElem? (i := 1072) (by decide +kernel), List.mem_of_getElem? (i := 1311) (by decide +kernel), List.mem_of_getElem? (i := 1312) (by decide +kernel)⟩
theorem lw_p43 : lw_okq (⟨"PastHeapsModel", "see", "()I"⟩, 68) := ⟨⟨by decide +kernel, by decide +kernel⟩, List.mem_of_getElem? (i := 1072) (by decide +kernel), List.mem_of_getElem? (i := 1315) (by decide +kernel), List.mem_of_getElem? (i := 1316) (by decide +kernel)⟩
theorem lw_p44 : lw_okq (⟨"PastHeapsModel", "actLine", "(I)Z"⟩, 68) := ⟨⟨by decide +kernel, by decide +kernel⟩, List.mem_of_getElem? (i := 1072) (by decide +kernel), List.mem_of_getElem? (i := 1319) (by decide +kernel), List.mem_of_getElem? (i := 1320) (by decide +kernel)⟩
theorem lw_p45 : lw_okq (⟨"PastHeapsModel", "stops", "()Z"⟩, 68) := ⟨⟨by decide +kernel, by decide +kernel⟩, List.mem_of_getElem? (i := 1072) (by decide +kernel), List.mem_of_getElem? (i := 1329) (by decide +kernel), List.mem_of_getElem? (i := 1330) (by decide +kernel)⟩
theorem lw_p46 : lw_okq (⟨"PastHeapsModel", "later", "(II)V"⟩, 68) := ⟨⟨by decide +kernel, by decide +kernel⟩, List.mem_of_getElem? (i := 1072) (by decide +kernel), List.mem_of_getElem? (i := 1333) (by decide +kernel), List.mem_of_getElem? (i := 1334) (by decide +kernel)⟩
theorem lw_p47 : lw_okq (⟨"PastHeapsModel", "take", "(II)Z"⟩, 68) := ⟨⟨by decide +kernel, by decide +kernel⟩, List.mem_of_getElem? (i := 1072) (by decide +kernel), List.mem_of_getElem? (i := 1337) (by decide +kernel), List.mem_of_getElem? (i := 1338) (by decide +kernel)⟩
def lw_privs_3 : List (MethodName × Nat) := [(⟨"PastHeaps$Shares", "sumBelow", "()V"⟩, 4), (⟨"PastHeaps$Shares", "unpacked", "(I)J"⟩, 4), (⟨"PastHeaps$Past", "foldedMakes", "(I)I"⟩, 14), (⟨"PastHeaps$Past", "nextTurn", "(I)Z"⟩, 14), (⟨"PastHeaps$Past", "swapTurns", "(II)V"⟩, 14), (⟨"PastHeaps$Past", "drawBelow", "(I)I"⟩, 14), (⟨"PastHeaps$Past", "drawnAnswer", "(II)I"⟩, 14), (⟨"PastHeapsModel", "four", "(I)V"⟩, 68), (⟨"PastHeapsModel", "isRow", "(I)Z"⟩, 68), (⟨"PastHeapsModel", "readText", "()Z"⟩, 68), (⟨"PastHeapsModel", "token", "()V"⟩, 68), (⟨"PastHeapsModel", "see", "()I"⟩, 68), (⟨"PastHeapsModel", "actLine", "(I)Z"⟩, 68), (⟨"PastHeapsModel", "stops", "()Z"⟩, 68), (⟨"PastHeapsModel", "later", "(II)V"⟩, 68), (⟨"PastHeapsModel", "take", "(II)Z"⟩, 68)]
theorem lw_r3 : ∀ q ∈ lw_privs_3, lw_okq q := List.forall_mem_cons.mpr ⟨lw_p32, List.forall_mem_cons.mpr ⟨lw_p33, List.forall_mem_cons.mpr ⟨lw_p34, List.forall_mem_cons.mpr ⟨lw_p35, List.forall_mem_cons.mpr ⟨lw_p36, List.forall_mem_cons.mpr ⟨lw_p37, List.forall_mem_cons.mpr ⟨lw_p38, List.forall_mem_cons.mpr ⟨lw_p39, List.forall_mem_cons.mpr ⟨lw_p40, List.forall_mem_cons.mpr ⟨lw_p41, List.forall_mem_cons.mpr ⟨lw_p42, List.forall_mem_cons.mpr ⟨lw_p43, List.forall_mem_cons.mpr ⟨lw_p44, List.forall_mem_cons.mpr ⟨lw_p45, List.forall_mem_cons.mpr ⟨lw_p46, List.forall_mem_cons.mpr ⟨lw_p47, fun _ h => absurd h List.not_mem_nil⟩⟩⟩⟩⟩⟩⟩⟩⟩⟩⟩⟩⟩⟩⟩⟩
theorem lw_p48 : lw_okq (⟨"PastHeapsModel", "actsOf", "(I)I"⟩, 68) := ⟨⟨by decide +kernel, by decide +kernel⟩, List.mem_of_getElem? (i := 1072) (by decide +kernel), List.mem_of_getElem? (i := 1349) (by decide +kernel), List.mem_of_getElem? (i := 1350) (by decide +kernel)⟩
theorem lw_p49 : lw_okq (⟨"PastHeapsModel", "actOf", "(III)I"⟩, 68) := ⟨⟨by decide +kernel, by decide +kernel⟩, List.mem_of_getElem? (i := 1072) (by decide +kernel), List.mem_of_getElem? (i := 1353) (by decide +kernel), List.mem_of_getElem? (i := 1354) (by decide +kernel)⟩
theorem lw_p50 : lw_okq (⟨"PastHeapsModel", "lay", "(I)Z"⟩, 68) := ⟨⟨by decide +kernel, by decide +kernel⟩, List.mem_of_getElem? (i := 1072) (by decide +kernel), List.mem_of_getElem? (i := 1361) (by decide +kernel), List.mem_of_getElem? (i := 1362) (by decide +kernel)⟩
theorem lw_p51 : lw_okq (⟨"PastHeapsModel", "empty", "()V"⟩, 68) := ⟨⟨by decide +kernel, by decide +kernel⟩, List.mem_of_getElem? (i := 1072) (by decide +kernel), List.mem_of_getElem? (i := 1365) (by decide +kernel), List.mem_of_getElem? (i := 1366) (by decide +kernel)⟩
theorem lw_p52 : lw_okq (⟨"PastHeapsModel", "keep", "(II)V"⟩, 68) := ⟨⟨by decide +kernel, by decide +kernel⟩, List.mem_of_getElem? (i := 1072) (by decide +kernel), List.mem_of_getElem? (i := 1369) (by decide +kernel), List.mem_of_getElem? (i := 1370) (by decide +kernel)⟩
theorem lw_p53 : lw_okq (⟨"PastHeapsModel", "does", "(IIII)Z"⟩, 68) := ⟨⟨by decide +kernel, by decide +kernel⟩, List.mem_of_getElem? (i := 1072) (by decide +kernel), List.mem_of_getElem? (i := 1373) (by decide +kernel), List.mem_of_getElem? (i := 1374) (by decide +kernel)⟩
theorem lw_p54 : lw_okq (⟨"PastHeapsModel", "isVersion", "(I)Z"⟩, 68) := ⟨⟨by decide +kernel, by decide +kernel⟩, List.mem_of_getElem? (i := 1072) (by decide +kernel), List.mem_of_getElem? (i := 1377) (by decide +kernel), List.mem_of_getElem? (i := 1378) (by decide +kernel)⟩
theorem lw_p55 : lw_okq (⟨"PastHeapsModel", "melds", "(II)Z"⟩, 68) := ⟨⟨by decide +kernel, by decide +kernel⟩, List.mem_of_getElem? (i := 1072) (by decide +kernel), List.mem_of_getElem? (i := 1381) (by decide +kernel), List.mem_of_getElem? (i := 1382) (by decide +kernel)⟩
theorem lw_p56 : lw_okq (⟨"PastHeapsModel", "sizeAt", "(I)I"⟩, 68) := ⟨⟨by decide +kernel, by decide +kernel⟩, List.mem_of_getElem? (i := 1072) (by decide +kernel), List.mem_of_getElem? (i := 1385) (by decide +kernel), List.mem_of_getElem? (i := 1386) (by decide +kernel)⟩
theorem lw_p57 : lw_okq (⟨"PastHeapsModel", "hand", "(I)V"⟩, 68) := ⟨⟨by decide +kernel, by decide +kernel⟩, List.mem_of_getElem? (i := 1072) (by decide +kernel), List.mem_of_getElem? (i := 1389) (by decide +kernel), List.mem_of_getElem? (i := 1390) (by decide +kernel)⟩
theorem lw_p58 : lw_okq (⟨"PastHeapsModel", "meld", "()V"⟩, 68) := ⟨⟨by decide +kernel, by decide +kernel⟩, List.mem_of_getElem? (i := 1072) (by decide +kernel), List.mem_of_getElem? (i := 1393) (by decide +kernel), List.mem_of_getElem? (i := 1394) (by decide +kernel)⟩
theorem lw_p59 : lw_okq (⟨"PastHeapsModel", "link", "(II)I"⟩, 68) := ⟨⟨by decide +kernel, by decide +kernel⟩, List.mem_of_getElem? (i := 1072) (by decide +kernel), List.mem_of_getElem? (i := 1397) (by decide +kernel), List.mem_of_getElem? (i := 1398) (by decide +kernel)⟩
theorem lw_p60 : lw_okq (⟨"PastHeapsModel", "isLesser", "(II)Z"⟩, 68) := ⟨⟨by decide +kernel, by decide +kernel⟩, List.mem_of_getElem? (i := 1072) (by decide +kernel), List.mem_of_getElem? (i := 1401) (by decide +kernel), List.mem_of_getElem? (i := 1402) (by decide +kernel)⟩
theorem lw_p61 : lw_okq (⟨"PastHeapsModel", "make", "(III)I"⟩, 68) := ⟨⟨by decide +kernel, by decide +kernel⟩, List.mem_of_getElem? (i := 1072) (by decide +kernel), List.mem_of_getElem? (i := 1405) (by decide +kernel), List.mem_of_getElem? (i := 1406) (by decide +kernel)⟩
theorem lw_p62 : lw_okq (⟨"PastHeapsModel", "puts", "(I)Z"⟩, 68) := ⟨⟨by decide +kernel, by decide +kernel⟩, List.mem_of_getElem? (i := 1072) (by decide +kernel), List.mem_of_getElem? (i := 1409) (by decide +kernel), List.mem_of_getElem? (i := 1410) (by decide +kernel)⟩
theorem lw_p63 : lw_okq (⟨"PastHeapsModel", "sizeOf", "()I"⟩, 68) := ⟨⟨by decide +kernel, by decide +kernel⟩, List.mem_of_getElem? (i := 1072) (by decide +kernel), List.mem_of_getElem? (i := 1413) (by decide +kernel), List.mem_of_getElem? (i := 1414) (by decide +kernel)⟩
def lw_privs_4 : List (MethodName × Nat) := [(⟨"PastHeapsModel", "actsOf", "(I)I"⟩, 68), (⟨"PastHeapsModel", "actOf", "(III)I"⟩, 68), (⟨"PastHeapsModel", "lay", "(I)Z"⟩, 68), (⟨"PastHeapsModel", "empty", "()V"⟩, 68), (⟨"PastHeapsModel", "keep", "(II)V"⟩, 68), (⟨"PastHeapsModel", "does", "(IIII)Z"⟩, 68), (⟨"PastHeapsModel", "isVersion", "(I)Z"⟩, 68), (⟨"PastHeapsModel", "melds", "(II)Z"⟩, 68), (⟨"PastHeapsModel", "sizeAt", "(I)I"⟩, 68), (⟨"PastHeapsModel", "hand", "(I)V"⟩, 68), (⟨"PastHeapsModel", "meld", "()V"⟩, 68), (⟨"PastHeapsModel", "link", "(II)I"⟩, 68), (⟨"PastHeapsModel", "isLesser", "(II)Z"⟩, 68), (⟨"PastHeapsModel", "make", "(III)I"⟩, 68), (⟨"PastHeapsModel", "puts", "(I)Z"⟩, 68), (⟨"PastHeapsModel", "sizeOf", "()I"⟩, 68)]
theorem lw_r4 : ∀ q ∈ lw_privs_4, lw_okq q := List.forall_mem_cons.mpr ⟨lw_p48, List.forall_mem_cons.mpr ⟨lw_p49, List.forall_mem_cons.mpr ⟨lw_p50, List.forall_mem_cons.mpr ⟨lw_p51, List.forall_mem_cons.mpr ⟨lw_p52, List.forall_mem_cons.mpr ⟨lw_p53, List.forall_mem_cons.mpr ⟨lw_p54, List.forall_mem_cons.mpr ⟨lw_p55, List.forall_mem_cons.mpr ⟨lw_p56, List.forall_mem_cons.mpr ⟨lw_p57, List.forall_mem_cons.mpr ⟨lw_p58, List.forall_mem_cons.mpr ⟨lw_p59, List.forall_mem_cons.mpr ⟨lw_p60, List.forall_mem_cons.mpr ⟨lw_p61, List.forall_mem_cons.mpr ⟨lw_p62, List.forall_mem_cons.mpr ⟨lw_p63, fun _ h => absurd h List.not_mem_nil⟩⟩⟩⟩⟩⟩⟩⟩⟩⟩⟩⟩⟩⟩⟩⟩
theorem lw_p64 : lw_okq (⟨"PastHeapsModel", "clear", "()V"⟩, 68) := ⟨⟨by decide +kernel, by decide +kernel⟩, List.mem_of_getElem? (i := 1072) (by decide +kernel), List.mem_of_getElem? (i := 1417) (by decide +kernel), List.mem_of_getElem? (i := 1418) (by decide +kernel)⟩
theorem lw_p65 : lw_okq (⟨"PastHeapsModel", "lessens", "()Z"⟩, 68) := ⟨⟨by decide +kernel, by decide +kernel⟩, List.mem_of_getElem? (i := 1072) (by decide +kernel), List.mem_of_getElem? (i := 1421) (by decide +kernel), List.mem_of_getElem? (i := 1422) (by decide +kernel)⟩
theorem lw_p66 : lw_okq (⟨"PastHeapsModel", "least", "()I"⟩, 68) := ⟨⟨by decide +kernel, by decide +kernel⟩, List.mem_of_getElem? (i := 1072) (by decide +kernel), List.mem_of_getElem? (i := 1425) (by decide +kernel), List.mem_of_getElem? (i := 1426) (by decide +kernel)⟩
theorem lw_p67 : lw_okq (⟨"PastHeapsModel", "lowers", "(II)Z"⟩, 68) := ⟨⟨by decide +kernel, by decide +kernel⟩, List.mem_of_getElem? (i := 1072) (by decide +kernel), List.mem_of_getElem? (i := 1429) (by decide +kernel), List.mem_of_getElem? (i := 1430) (by decide +kernel)⟩
theorem lw_p68 : lw_okq (⟨"PastHeapsModel", "walkAll", "()V"⟩, 68) := ⟨⟨by decide +kernel, by decide +kernel⟩, List.mem_of_getElem? (i := 1072) (by decide +kernel), List.mem_of_getElem? (i := 1433) (by decide +kernel), List.mem_of_getElem? (i := 1434) (by decide +kernel)⟩
theorem lw_p69 : lw_okq (⟨"PastHeapsModel", "walkTree", "(I)V"⟩, 68) := ⟨⟨by decide +kernel, by decide +kernel⟩, List.mem_of_getElem? (i := 1072) (by decide +kernel), List.mem_of_getElem? (i := 1437) (by decide +kernel), List.mem_of_getElem? (i := 1438) (by decide +kernel)⟩
theorem lw_p70 : lw_okq (⟨"PastHeapsModel", "renew", "(I)V"⟩, 68) := ⟨⟨by decide +kernel, by decide +kernel⟩, List.mem_of_getElem? (i := 1072) (by decide +kernel), List.mem_of_getElem? (i := 1441) (by decide +kernel), List.mem_of_getElem? (i := 1442) (by decide +kernel)⟩
theorem lw_p71 : lw_okq (⟨"PastHeapsModel", "cuts", "(I)Z"⟩, 68) := ⟨⟨by decide +kernel, by decide +kernel⟩, List.mem_of_getElem? (i := 1072) (by decide +kernel), List.mem_of_getElem? (i := 1445) (by decide +kernel), List.mem_of_getElem? (i := 1446) (by decide +kernel)⟩
theorem lw_p72 : lw_okq (⟨"PastHeapsModel", "paid", "(I)I"⟩, 68) := ⟨⟨by decide +kernel, by decide +kernel⟩, List.mem_of_getElem? (i := 1072) (by decide +kernel), List.mem_of_getElem? (i := 1454) (by decide +kernel), List.mem_of_getElem? (i := 1455) (by decide +kernel)⟩
theorem lw_p73 : lw_okq (⟨"PastHeapsModel", "credit", "(I)I"⟩, 68) := ⟨⟨by decide +kernel, by decide +kernel⟩, List.mem_of_getElem? (i := 1072) (by decide +kernel), List.mem_of_getElem? (i := 1458) (by decide +kernel), List.mem_of_getElem? (i := 1459) (by decide +kernel)⟩
theorem lw_p74 : lw_okq (⟨"PastHeapsModel", "layOne", "(II)Z"⟩, 68) := ⟨⟨by decide +kernel, by decide +kernel⟩, List.mem_of_getElem? (i := 1072) (by decide +kernel), List.mem_of_getElem? (i := 1470) (by decide +kernel), List.mem_of_getElem? (i := 1471) (by decide +kernel)⟩
theorem lw_p75 : lw_okq (⟨"PastHeapsModel", "hold", "()V"⟩, 68) := ⟨⟨by decide +kernel, by decide +kernel⟩, List.mem_of_getElem? (i := 1072) (by decide +kernel), List.mem_of_getElem? (i := 1474) (by decide +kernel), List.mem_of_getElem? (i := 1475) (by decide +kernel)⟩
theorem lw_p76 : lw_okq (⟨"PastHeapsModel", "sortAll", "(I)V"⟩, 68) := ⟨⟨by decide +kernel, by decide +kernel⟩, List.mem_of_getElem? (i := 1072) (by decide +kernel), List.mem_of_getElem? (i := 1478) (by decide +kernel), List.mem_of_getElem? (i := 1479) (by decide +kernel)⟩
theorem lw_p77 : lw_okq (⟨"PastHeapsModel", "holds", "(IJ)I"⟩, 68) := ⟨⟨by decide +kernel, by decide +kernel⟩, List.mem_of_getElem? (i := 1072) (by decide +kernel), List.mem_of_getElem? (i := 1482) (by decide +kernel), List.mem_of_getElem? (i := 1483) (by decide +kernel)⟩
theorem lw_p78 : lw_okq (⟨"PastHeapsModel", "gap", "()I"⟩, 68) := ⟨⟨by decide +kernel, by decide +kernel⟩, List.mem_of_getElem? (i := 1072) (by decide +kernel), List.mem_of_getElem? (i := 1490) (by decide +kernel), List.mem_of_getElem? (i := 1491) (by decide +kernel)⟩
theorem lw_p79 : lw_okq (⟨"PastHeapsModel", "greatestRank", "(I)I"⟩, 68) := ⟨⟨by decide +kernel, by decide +kernel⟩, List.mem_of_getElem? (i := 1072) (by decide +kernel), List.mem_of_getElem? (i := 1494) (by decide +kernel), List.mem_of_getElem? (i := 1495) (by decide +kernel)⟩
def lw_privs_5 : List (MethodName × Nat) := [(⟨"PastHeapsModel", "clear", "()V"⟩, 68), (⟨"PastHeapsModel", "lessens", "()Z"⟩, 68), (⟨"PastHeapsModel", "least", "()I"⟩, 68), (⟨"PastHeapsModel", "lowers", "(II)Z"⟩, 68), (⟨"PastHeapsModel", "walkAll", "()V"⟩, 68), (⟨"PastHeapsModel", "walkTree", "(I)V"⟩, 68), (⟨"PastHeapsModel", "renew", "(I)V"⟩, 68), (⟨"PastHeapsModel", "cuts", "(I)Z"⟩, 68), (⟨"PastHeapsModel", "paid", "(I)I"⟩, 68), (⟨"PastHeapsModel", "credit", "(I)I"⟩, 68), (⟨"PastHeapsModel", "layOne", "(II)Z"⟩, 68), (⟨"PastHeapsModel", "hold", "()V"⟩, 68), (⟨"PastHeapsModel", "sortAll", "(I)V"⟩, 68), (⟨"PastHeapsModel", "holds", "(IJ)I"⟩, 68), (⟨"PastHeapsModel", "gap", "()I"⟩, 68), (⟨"PastHeapsModel", "greatestRank", "(I)I"⟩, 68)]
theorem lw_r5 : ∀ q ∈ lw_privs_5, lw_okq q := List.forall_mem_cons.mpr ⟨lw_p64, List.forall_mem_cons.mpr ⟨lw_p65, List.forall_mem_cons.mpr ⟨lw_p66, List.forall_mem_cons.mpr ⟨lw_p67, List.forall_mem_cons.mpr ⟨lw_p68, List.forall_mem_cons.mpr ⟨lw_p69, List.forall_mem_cons.mpr ⟨lw_p70, List.forall_mem_cons.mpr ⟨lw_p71, List.forall_mem_cons.mpr ⟨lw_p72, List.forall_mem_cons.mpr ⟨lw_p73, List.forall_mem_cons.mpr ⟨lw_p74, List.forall_mem_cons.mpr ⟨lw_p75, List.forall_mem_cons.mpr ⟨lw_p76, List.forall_mem_cons.mpr ⟨lw_p77, List.forall_mem_cons.mpr ⟨lw_p78, List.forall_mem_cons.mpr ⟨lw_p79, fun _ h => absurd h List.not_mem_nil⟩⟩⟩⟩⟩⟩⟩⟩⟩⟩⟩⟩⟩⟩⟩⟩
theorem lw_p80 : lw_okq (⟨"PastHeapsModel", "layTwo", "(III)Z"⟩, 68) := ⟨⟨by decide +kernel, by decide +kernel⟩, List.mem_of_getElem? (i := 1072) (by decide +kernel), List.mem_of_getElem? (i := 1518) (by decide +kernel), List.mem_of_getElem? (i := 1519) (by decide +kernel)⟩
theorem lw_p81 : lw_okq (⟨"PastHeapsModel", "awayOf", "(II)I"⟩, 68) := ⟨⟨by decide +kernel, by decide +kernel⟩, List.mem_of_getElem? (i := 1072) (by decide +kernel), List.mem_of_getElem? (i := 1526) (by decide +kernel), List.mem_of_getElem? (i := 1527) (by decide +kernel)⟩
theorem lw_p82 : lw_okq (⟨"PastHeapsModel", "areVersions", "(J)Z"⟩, 68) := ⟨⟨by decide +kernel, by decide +kernel⟩, List.mem_of_getElem? (i := 1072) (by decide +kernel), List.mem_of_getElem? (i := 1538) (by decide +kernel), List.mem_of_getElem? (i := 1539) (by decide +kernel)⟩
theorem lw_p83 : lw_okq (⟨"PastHeapsModel", "keptBy", "(J)I"⟩, 68) := ⟨⟨by decide +kernel, by decide +kernel⟩, List.mem_of_getElem? (i := 1072) (by decide +kernel), List.mem_of_getElem? (i := 1542) (by decide +kernel), List.mem_of_getElem? (i := 1543) (by decide +kernel)⟩
theorem lw_p84 : lw_okq (⟨"PastHeapsModel", "list", "(J)Z"⟩, 68) := ⟨⟨by decide +kernel, by decide +kernel⟩, List.mem_of_getElem? (i := 1072) (by decide +kernel), List.mem_of_getElem? (i := 1554) (by decide +kernel), List.mem_of_getElem? (i := 1555) (by decide +kernel)⟩
theorem lw_p85 : lw_okq (⟨"PastHeapsModel", "setOf", "(I)J"⟩, 68) := ⟨⟨by decide +kernel, by decide +kernel⟩, List.mem_of_getElem? (i := 1072) (by decide +kernel), List.mem_of_getElem? (i := 1561) (by decide +kernel), List.mem_of_getElem? (i := 1562) (by decide +kernel)⟩
theorem lw_p86 : lw_okq (⟨"PastHeapsModel", "covers", "(J)Z"⟩, 68) := ⟨⟨by decide +kernel, by decide +kernel⟩, List.mem_of_getElem? (i := 1072) (by decide +kernel), List.mem_of_getElem? (i := 1565) (by decide +kernel), List.mem_of_getElem? (i := 1566) (by decide +kernel)⟩
theorem lw_p87 : lw_okq (⟨"PastHeapsModel", "hasTwice", "()Z"⟩, 68) := ⟨⟨by decide +kernel, by decide +kernel⟩, List.mem_of_getElem? (i := 1072) (by decide +kernel), List.mem_of_getElem? (i := 1573) (by decide +kernel), List.mem_of_getElem? (i := 1574) (by decide +kernel)⟩
theorem lw_p88 : lw_okq (⟨"PastHeapsModel", "fewestSteps", "()I"⟩, 68) := ⟨⟨by decide +kernel, by decide +kernel⟩, List.mem_of_getElem? (i := 1072) (by decide +kernel), List.mem_of_getElem? (i := 1577) (by decide +kernel), List.mem_of_getElem? (i := 1578) (by decide +kernel)⟩
theorem lw_p89 : lw_okq (⟨"PastHeapsModel", "comesTo", "(II)V"⟩, 68) := ⟨⟨by decide +kernel, by decide +kernel⟩, List.mem_of_getElem? (i := 1072) (by decide +kernel), List.mem_of_getElem? (i := 1584) (by decide +kernel), List.mem_of_getElem? (i := 1585) (by decide +kernel)⟩
theorem lw_p90 : lw_okq (⟨"PastHeapsModel", "isThere", "(I)Z"⟩, 68) := ⟨⟨by decide +kernel, by decide +kernel⟩, List.mem_of_getElem? (i := 1072) (by decide +kernel), List.mem_of_getElem? (i := 1588) (by decide +kernel), List.mem_of_getElem? (i := 1589) (by decide +kernel)⟩
theorem lw_p91 : lw_okq (⟨"PastHeapsModel", "keyOf", "(II)I"⟩, 68) := ⟨⟨by decide +kernel, by decide +kernel⟩, List.mem_of_getElem? (i := 1072) (by decide +kernel), List.mem_of_getElem? (i := 1595) (by decide +kernel), List.mem_of_getElem? (i := 1596) (by decide +kernel)⟩
theorem lw_p92 : lw_okq (⟨"PastHeapsModel", "lessOf", "(I)I"⟩, 68) := ⟨⟨by decide +kernel, by decide +kernel⟩, List.mem_of_getElem? (i := 1072) (by decide +kernel), List.mem_of_getElem? (i := 1599) (by decide +kernel), List.mem_of_getElem? (i := 1600) (by decide +kernel)⟩
theorem lw_p93 : lw_okq (⟨"PastHeapsModel", "isAsOther", "(IZ)Z"⟩, 68) := ⟨⟨by decide +kernel, by decide +kernel⟩, List.mem_of_getElem? (i := 1072) (by decide +kernel), List.mem_of_getElem? (i := 1607) (by decide +kernel), List.mem_of_getElem? (i := 1608) (by decide +kernel)⟩
theorem lw_p94 : lw_okq (⟨"PastHeapsModel", "isTurn", "(I)Z"⟩, 68) := ⟨⟨by decide +kernel, by decide +kernel⟩, List.mem_of_getElem? (i := 1072) (by decide +kernel), List.mem_of_getElem? (i := 1619) (by decide +kernel), List.mem_of_getElem? (i := 1620) (by decide +kernel)⟩
theorem lw_p95 : lw_okq (⟨"PastHeapsModel", "madeBehind", "()I"⟩, 68) := ⟨⟨by decide +kernel, by decide +kernel⟩, List.mem_of_getElem? (i := 1072) (by decide +kernel), List.mem_of_getElem? (i := 1623) (by decide +kernel), List.mem_of_getElem? (i := 1624) (by decide +kernel)⟩
def lw_privs_6 : List (MethodName × Nat) := [(⟨"PastHeapsModel", "layTwo", "(III)Z"⟩, 68), (⟨"PastHeapsModel", "awayOf", "(II)I"⟩, 68), (⟨"PastHeapsModel", "areVersions", "(J)Z"⟩, 68), (⟨"PastHeapsModel", "keptBy", "(J)I"⟩, 68), (⟨"PastHeapsModel", "list", "(J)Z"⟩, 68), (⟨"PastHeapsModel", "setOf", "(I)J"⟩, 68), (⟨"PastHeapsModel", "covers", "(J)Z"⟩, 68), (⟨"PastHeapsModel", "hasTwice", "()Z"⟩, 68), (⟨"PastHeapsModel", "fewestSteps", "()I"⟩, 68), (⟨"PastHeapsModel", "comesTo", "(II)V"⟩, 68), (⟨"PastHeapsModel", "isThere", "(I)Z"⟩, 68), (⟨"PastHeapsModel", "keyOf", "(II)I"⟩, 68), (⟨"PastHeapsModel", "lessOf", "(I)I"⟩, 68), (⟨"PastHeapsModel", "isAsOther", "(IZ)Z"⟩, 68), (⟨"PastHeapsModel", "isTurn", "(I)Z"⟩, 68), (⟨"PastHeapsModel", "madeBehind", "()I"⟩, 68)]
theorem lw_r6 : ∀ q ∈ lw_privs_6, lw_okq q := List.forall_mem_cons.mpr ⟨lw_p80, List.forall_mem_cons.mpr ⟨lw_p81, List.forall_mem_cons.mpr ⟨lw_p82, List.forall_mem_cons.mpr ⟨lw_p83, List.forall_mem_cons.mpr ⟨lw_p84, List.forall_mem_cons.mpr ⟨lw_p85, List.forall_mem_cons.mpr ⟨lw_p86, List.forall_mem_cons.mpr ⟨lw_p87, List.forall_mem_cons.mpr ⟨lw_p88, List.forall_mem_cons.mpr ⟨lw_p89, List.forall_mem_cons.mpr ⟨lw_p90, List.forall_mem_cons.mpr ⟨lw_p91, List.forall_mem_cons.mpr ⟨lw_p92, List.forall_mem_cons.mpr ⟨lw_p93, List.forall_mem_cons.mpr ⟨lw_p94, List.forall_mem_cons.mpr ⟨lw_p95, fun _ h => absurd h List.not_mem_nil⟩⟩⟩⟩⟩⟩⟩⟩⟩⟩⟩⟩⟩⟩⟩⟩
theorem lw_p96 : lw_okq (⟨"PastHeapsModel", "leastKey", "(II)I"⟩, 68) := ⟨⟨by decide +kernel, by decide +kernel⟩, List.mem_of_getElem? (i := 1072) (by decide +kernel), List.mem_of_getElem? (i := 1642) (by decide +kernel), List.mem_of_getElem? (i := 1643) (by decide +kernel)⟩
theorem lw_p97 : lw_okq (⟨"PastHeapsModel", "draw", "(I)I"⟩, 68) := ⟨⟨by decide +kernel, by decide +kernel⟩, List.mem_of_getElem? (i := 1072) (by decide +kernel), List.mem_of_getElem? (i := 1658) (by decide +kernel), List.mem_of_getElem? (i := 1659) (by decide +kernel)⟩
theorem lw_p98 : lw_okq (⟨"PastHeapsModel", "lookedFor", "(I)I"⟩, 68) := ⟨⟨by decide +kernel, by decide +kernel⟩, List.mem_of_getElem? (i := 1072) (by decide +kernel), List.mem_of_getElem? (i := 1667) (by decide +kernel), List.mem_of_getElem? (i := 1668) (by decide +kernel)⟩
theorem lw_p99 : lw_okq (⟨"PastHeapsModel", "nextOnList", "()I"⟩, 68) := ⟨⟨by decide +kernel, by decide +kernel⟩, List.mem_of_getElem? (i := 1072) (by decide +kernel), List.mem_of_getElem? (i := 1671) (by decide +kernel), List.mem_of_getElem? (i := 1672) (by decide +kernel)⟩
theorem lw_p100 : lw_okq (⟨"PastHeapsModel", "waysTo", "(II)V"⟩, 68) := ⟨⟨by decide +kernel, by decide +kernel⟩, List.mem_of_getElem? (i := 1072) (by decide +kernel), List.mem_of_getElem? (i := 1679) (by decide +kernel), List.mem_of_getElem? (i := 1680) (by decide +kernel)⟩
theorem lw_p101 : lw_okq (⟨"PastHeapsModel", "twiceIn", "()I"⟩, 68) := ⟨⟨by decide +kernel, by decide +kernel⟩, List.mem_of_getElem? (i := 1072) (by decide +kernel), List.mem_of_getElem? (i := 1687) (by decide +kernel), List.mem_of_getElem? (i := 1688) (by decide +kernel)⟩
theorem lw_p102 : lw_okq (⟨"PastHeapsModel", "lostBy", "(J)I"⟩, 68) := ⟨⟨by decide +kernel, by decide +kernel⟩, List.mem_of_getElem? (i := 1072) (by decide +kernel), List.mem_of_getElem? (i := 1699) (by decide +kernel), List.mem_of_getElem? (i := 1700) (by decide +kernel)⟩
theorem lw_p103 : lw_okq (⟨"PastHeapsModel", "copyAll", "(II)V"⟩, 68) := ⟨⟨by decide +kernel, by decide +kernel⟩, List.mem_of_getElem? (i := 1072) (by decide +kernel), List.mem_of_getElem? (i := 1711) (by decide +kernel), List.mem_of_getElem? (i := 1712) (by decide +kernel)⟩
def lw_privs_7 : List (MethodName × Nat) := [(⟨"PastHeapsModel", "leastKey", "(II)I"⟩, 68), (⟨"PastHeapsModel", "draw", "(I)I"⟩, 68), (⟨"PastHeapsModel", "lookedFor", "(I)I"⟩, 68), (⟨"PastHeapsModel", "nextOnList", "()I"⟩, 68), (⟨"PastHeapsModel", "waysTo", "(II)V"⟩, 68), (⟨"PastHeapsModel", "twiceIn", "()I"⟩, 68), (⟨"PastHeapsModel", "lostBy", "(J)I"⟩, 68), (⟨"PastHeapsModel", "copyAll", "(II)V"⟩, 68)]
theorem lw_r7 : ∀ q ∈ lw_privs_7, lw_okq q := List.forall_mem_cons.mpr ⟨lw_p96, List.forall_mem_cons.mpr ⟨lw_p97, List.forall_mem_cons.mpr ⟨lw_p98, List.forall_mem_cons.mpr ⟨lw_p99, List.forall_mem_cons.mpr ⟨lw_p100, List.forall_mem_cons.mpr ⟨lw_p101, List.forall_mem_cons.mpr ⟨lw_p102, List.forall_mem_cons.mpr ⟨lw_p103, fun _ h => absurd h List.not_mem_nil⟩⟩⟩⟩⟩⟩⟩⟩
def lw_privs : List (MethodName × Nat) := lw_privs_1 ++ (lw_privs_2 ++ (lw_privs_3 ++ (lw_privs_4 ++ (lw_privs_5 ++ (lw_privs_6 ++ (lw_privs_7))))))
def lw_tbl : List Cond := k2_sels lw_privs ++ tables_1
theorem lw_privs_ok : ∀ q ∈ lw_privs, lw_okq q := by
  show ∀ q ∈ lw_privs_1 ++ (lw_privs_2 ++ (lw_privs_3 ++ (lw_privs_4 ++ (lw_privs_5 ++ (lw_privs_6 ++ (lw_privs_7)))))), lw_okq q
  exact List.forall_mem_append.mpr ⟨lw_r1, List.forall_mem_append.mpr ⟨lw_r2, List.forall_mem_append.mpr ⟨lw_r3, List.forall_mem_append.mpr ⟨lw_r4, List.forall_mem_append.mpr ⟨lw_r5, List.forall_mem_append.mpr ⟨lw_r6, lw_r7⟩⟩⟩⟩⟩⟩
-- ===== end of PART A; then your names; then what follows =====
end
section
-- THE PROGRAM AS DATA: printed by wip/gen/gen.py out of the Statement (the words of its tables) and of the decode rows: names, bytes, code tables, links.
abbrev m_I : Type := Nat × Instr × Nat
abbrev m_M : Type := List m_I × MethodName × ByteArray × Nat × Option FieldType × Nat × Nat × Nat × Nat
def m_c0_0 : List m_I := [(0, .new 7, 3), (3, .dup, 1), (4, .invokespecial 9, 3), (7, .astore_n 1, 1), (8, .new 10, 3), (11, .dup, 1), (12, .invokespecial 12, 3), (15, .astore_n 2, 1), (16, .iconst 0, 1), (17, .istore_n 3, 1), (18, .iload_n 3, 1), (19, .aload_n 0, 1), (20, .arraylength, 1), (21, .bipush 7, 2), (23, .isub, 1), (24, .if_icmp .gt 2017, 3), (27, .aload_n 0, 1), (28, .iload_n 3, 1), (29, .iaload, 1), (30, .bipush 63, 2), (32, .iand, 1), (33, .tableswitch 2002 0 36 #[163, 226, 249, 272, 295, 338, 361, 404, 453, 496, 565, 618, 661, 704, 747, 816, 859, 948, 1011, 1074, 1117, 1186, 1277, 1350, 1399, 1442, 1501, 1534, 1567, 1630, 1699, 1768, 1827, 1870, 1943, 1956, 1979], 163), (196, .aload_n 1, 1), (197, .aload_n 0, 1), (198, .iload_n 3, 1), (199, .iconst 1, 1), (200, .iadd, 1), (201, .iaload, 1), (202, .aload_n 0, 1), (203, .iload_n 3, 1), (204, .iconst 2, 1), (205, .iadd, 1), (206, .iaload, 1), (207, .aload_n 0, 1), (208, .iload_n 3, 1), (209, .iconst 3, 1), (210, .iadd, 1), (211, .iaload, 1), (212, .aload_n 0, 1), (213, .iload_n 3, 1), (214, .iconst 4, 1), (215, .iadd, 1), (216, .iaload, 1), (217, .aload_n 0, 1), (218, .iload_n 3, 1), (219, .iconst 5, 1), (220, .iadd, 1), (221, .iaload, 1), (222, .invokevirtual 13, 3), (225, .pop, 1)]
def m_c0_1 : List m_I := [(226, .aload_n 2, 1), (227, .aload_n 0, 1), (228, .iload_n 3, 1), (229, .iconst 1, 1), (230, .iadd, 1), (231, .iaload, 1), (232, .aload_n 0, 1), (233, .iload_n 3, 1), (234, .iconst 2, 1), (235, .iadd, 1), (236, .iaload, 1), (237, .aload_n 0, 1), (238, .iload_n 3, 1), (239, .iconst 3, 1), (240, .iadd, 1), (241, .iaload, 1), (242, .aload_n 0, 1), (243, .iload_n 3, 1), (244, .iconst 4, 1), (245, .iadd, 1), (246, .iaload, 1), (247, .aload_n 0, 1), (248, .iload_n 3, 1), (249, .iconst 5, 1), (250, .iadd, 1), (251, .iaload, 1), (252, .invokevirtual 17, 3), (255, .pop, 1), (256, .goto 1779, 3), (259, .aload_n 1, 1), (260, .aload_n 0, 1), (261, .iload_n 3, 1), (262, .iconst 1, 1), (263, .iadd, 1), (264, .iaload, 1), (265, .invokevirtual 18, 3), (268, .pop, 1), (269, .aload_n 2, 1), (270, .aload_n 0, 1), (271, .iload_n 3, 1), (272, .iconst 1, 1), (273, .iadd, 1), (274, .iaload, 1), (275, .invokevirtual 22, 3), (278, .pop, 1), (279, .goto 1756, 3), (282, .aload_n 1, 1), (283, .aload_n 0, 1), (284, .iload_n 3, 1), (285, .iconst 1, 1)]
def m_c0_2 : List m_I := [(286, .iadd, 1), (287, .iaload, 1), (288, .invokevirtual 23, 3), (291, .pop, 1), (292, .aload_n 2, 1), (293, .aload_n 0, 1), (294, .iload_n 3, 1), (295, .iconst 1, 1), (296, .iadd, 1), (297, .iaload, 1), (298, .invokevirtual 26, 3), (301, .pop, 1), (302, .goto 1733, 3), (305, .aload_n 1, 1), (306, .aload_n 0, 1), (307, .iload_n 3, 1), (308, .iconst 1, 1), (309, .iadd, 1), (310, .iaload, 1), (311, .invokevirtual 27, 3), (314, .pop, 1), (315, .aload_n 2, 1), (316, .aload_n 0, 1), (317, .iload_n 3, 1), (318, .iconst 1, 1), (319, .iadd, 1), (320, .iaload, 1), (321, .invokevirtual 30, 3), (324, .pop, 1), (325, .goto 1710, 3), (328, .aload_n 1, 1), (329, .aload_n 0, 1), (330, .iload_n 3, 1), (331, .iconst 1, 1), (332, .iadd, 1), (333, .iaload, 1), (334, .aload_n 0, 1), (335, .iload_n 3, 1), (336, .iconst 2, 1), (337, .iadd, 1), (338, .iaload, 1), (339, .aload_n 0, 1), (340, .iload_n 3, 1), (341, .iconst 3, 1), (342, .iadd, 1), (343, .iaload, 1), (344, .invokevirtual 31, 3), (347, .pop, 1), (348, .aload_n 2, 1), (349, .aload_n 0, 1)]
def m_c0_3 : List m_I := [(350, .iload_n 3, 1), (351, .iconst 1, 1), (352, .iadd, 1), (353, .iaload, 1), (354, .aload_n 0, 1), (355, .iload_n 3, 1), (356, .iconst 2, 1), (357, .iadd, 1), (358, .iaload, 1), (359, .aload_n 0, 1), (360, .iload_n 3, 1), (361, .iconst 3, 1), (362, .iadd, 1), (363, .iaload, 1), (364, .invokevirtual 35, 3), (367, .pop, 1), (368, .goto 1667, 3), (371, .aload_n 1, 1), (372, .aload_n 0, 1), (373, .iload_n 3, 1), (374, .iconst 1, 1), (375, .iadd, 1), (376, .iaload, 1), (377, .invokevirtual 36, 3), (380, .pop, 1), (381, .aload_n 2, 1), (382, .aload_n 0, 1), (383, .iload_n 3, 1), (384, .iconst 1, 1), (385, .iadd, 1), (386, .iaload, 1), (387, .invokevirtual 39, 3), (390, .pop, 1), (391, .goto 1644, 3), (394, .aload_n 1, 1), (395, .aload_n 0, 1), (396, .iload_n 3, 1), (397, .iconst 1, 1), (398, .iadd, 1), (399, .iaload, 1), (400, .aload_n 0, 1), (401, .iload_n 3, 1), (402, .iconst 2, 1), (403, .iadd, 1), (404, .iaload, 1), (405, .aload_n 0, 1), (406, .iload_n 3, 1), (407, .iconst 3, 1), (408, .iadd, 1), (409, .iaload, 1)]
def m_c0_4 : List m_I := [(410, .invokevirtual 40, 3), (413, .pop, 1), (414, .aload_n 2, 1), (415, .aload_n 0, 1), (416, .iload_n 3, 1), (417, .iconst 1, 1), (418, .iadd, 1), (419, .iaload, 1), (420, .aload_n 0, 1), (421, .iload_n 3, 1), (422, .iconst 2, 1), (423, .iadd, 1), (424, .iaload, 1), (425, .aload_n 0, 1), (426, .iload_n 3, 1), (427, .iconst 3, 1), (428, .iadd, 1), (429, .iaload, 1), (430, .invokevirtual 43, 3), (433, .pop, 1), (434, .goto 1601, 3), (437, .aload_n 1, 1), (438, .aload_n 0, 1), (439, .iload_n 3, 1), (440, .iconst 1, 1), (441, .iadd, 1), (442, .iaload, 1), (443, .aload_n 0, 1), (444, .iload_n 3, 1), (445, .iconst 2, 1), (446, .iadd, 1), (447, .iaload, 1), (448, .ifCond .eq 7, 3), (451, .iconst 1, 1), (452, .goto 4, 3), (455, .iconst 0, 1), (456, .invokevirtual 44, 3), (459, .pop, 1), (460, .aload_n 2, 1), (461, .aload_n 0, 1), (462, .iload_n 3, 1), (463, .iconst 1, 1), (464, .iadd, 1), (465, .iaload, 1), (466, .aload_n 0, 1), (467, .iload_n 3, 1), (468, .iconst 2, 1), (469, .iadd, 1), (470, .iaload, 1), (471, .ifCond .eq 7, 3)]
def m_c0_5 : List m_I := [(474, .iconst 1, 1), (475, .goto 4, 3), (478, .iconst 0, 1), (479, .invokevirtual 48, 3), (482, .pop, 1), (483, .goto 1552, 3), (486, .aload_n 1, 1), (487, .aload_n 0, 1), (488, .iload_n 3, 1), (489, .iconst 1, 1), (490, .iadd, 1), (491, .iaload, 1), (492, .aload_n 0, 1), (493, .iload_n 3, 1), (494, .iconst 2, 1), (495, .iadd, 1), (496, .iaload, 1), (497, .aload_n 0, 1), (498, .iload_n 3, 1), (499, .iconst 3, 1), (500, .iadd, 1), (501, .iaload, 1), (502, .invokevirtual 49, 3), (505, .pop, 1), (506, .aload_n 2, 1), (507, .aload_n 0, 1), (508, .iload_n 3, 1), (509, .iconst 1, 1), (510, .iadd, 1), (511, .iaload, 1), (512, .aload_n 0, 1), (513, .iload_n 3, 1), (514, .iconst 2, 1), (515, .iadd, 1), (516, .iaload, 1), (517, .aload_n 0, 1), (518, .iload_n 3, 1), (519, .iconst 3, 1), (520, .iadd, 1), (521, .iaload, 1), (522, .invokevirtual 52, 3), (525, .pop, 1), (526, .goto 1509, 3), (529, .aload_n 1, 1), (530, .aload_n 0, 1), (531, .iload_n 3, 1), (532, .iconst 1, 1), (533, .iadd, 1), (534, .iaload, 1), (535, .aload_n 0, 1)]
def m_c0_6 : List m_I := [(536, .iload_n 3, 1), (537, .iconst 2, 1), (538, .iadd, 1), (539, .iaload, 1), (540, .aload_n 0, 1), (541, .iload_n 3, 1), (542, .iconst 3, 1), (543, .iadd, 1), (544, .iaload, 1), (545, .aload_n 0, 1), (546, .iload_n 3, 1), (547, .iconst 4, 1), (548, .iadd, 1), (549, .iaload, 1), (550, .ifCond .eq 7, 3), (553, .iconst 1, 1), (554, .goto 4, 3), (557, .iconst 0, 1), (558, .invokevirtual 53, 3), (561, .pop, 1), (562, .aload_n 2, 1), (563, .aload_n 0, 1), (564, .iload_n 3, 1), (565, .iconst 1, 1), (566, .iadd, 1), (567, .iaload, 1), (568, .aload_n 0, 1), (569, .iload_n 3, 1), (570, .iconst 2, 1), (571, .iadd, 1), (572, .iaload, 1), (573, .aload_n 0, 1), (574, .iload_n 3, 1), (575, .iconst 3, 1), (576, .iadd, 1), (577, .iaload, 1), (578, .aload_n 0, 1), (579, .iload_n 3, 1), (580, .iconst 4, 1), (581, .iadd, 1), (582, .iaload, 1), (583, .ifCond .eq 7, 3), (586, .iconst 1, 1), (587, .goto 4, 3), (590, .iconst 0, 1), (591, .invokevirtual 57, 3), (594, .pop, 1), (595, .goto 1440, 3), (598, .aload_n 1, 1), (599, .aload_n 0, 1)]
def m_c0_7 : List m_I := [(600, .iload_n 3, 1), (601, .iconst 1, 1), (602, .iadd, 1), (603, .iaload, 1), (604, .aload_n 0, 1), (605, .iload_n 3, 1), (606, .iconst 2, 1), (607, .iadd, 1), (608, .iaload, 1), (609, .aload_n 0, 1), (610, .iload_n 3, 1), (611, .iconst 3, 1), (612, .iadd, 1), (613, .iaload, 1), (614, .aload_n 0, 1), (615, .iload_n 3, 1), (616, .iconst 4, 1), (617, .iadd, 1), (618, .iaload, 1), (619, .invokevirtual 58, 3), (622, .pop, 1), (623, .aload_n 2, 1), (624, .aload_n 0, 1), (625, .iload_n 3, 1), (626, .iconst 1, 1), (627, .iadd, 1), (628, .iaload, 1), (629, .aload_n 0, 1), (630, .iload_n 3, 1), (631, .iconst 2, 1), (632, .iadd, 1), (633, .iaload, 1), (634, .aload_n 0, 1), (635, .iload_n 3, 1), (636, .iconst 3, 1), (637, .iadd, 1), (638, .iaload, 1), (639, .aload_n 0, 1), (640, .iload_n 3, 1), (641, .iconst 4, 1), (642, .iadd, 1), (643, .iaload, 1), (644, .invokevirtual 62, 3), (647, .pop, 1), (648, .goto 1387, 3), (651, .aload_n 1, 1), (652, .aload_n 0, 1), (653, .iload_n 3, 1), (654, .iconst 1, 1), (655, .iadd, 1)]
def m_c0_8 : List m_I := [(656, .iaload, 1), (657, .aload_n 0, 1), (658, .iload_n 3, 1), (659, .iconst 2, 1), (660, .iadd, 1), (661, .iaload, 1), (662, .aload_n 0, 1), (663, .iload_n 3, 1), (664, .iconst 3, 1), (665, .iadd, 1), (666, .iaload, 1), (667, .invokevirtual 63, 3), (670, .pop, 1), (671, .aload_n 2, 1), (672, .aload_n 0, 1), (673, .iload_n 3, 1), (674, .iconst 1, 1), (675, .iadd, 1), (676, .iaload, 1), (677, .aload_n 0, 1), (678, .iload_n 3, 1), (679, .iconst 2, 1), (680, .iadd, 1), (681, .iaload, 1), (682, .aload_n 0, 1), (683, .iload_n 3, 1), (684, .iconst 3, 1), (685, .iadd, 1), (686, .iaload, 1), (687, .invokevirtual 66, 3), (690, .pop, 1), (691, .goto 1344, 3), (694, .aload_n 1, 1), (695, .aload_n 0, 1), (696, .iload_n 3, 1), (697, .iconst 1, 1), (698, .iadd, 1), (699, .iaload, 1), (700, .aload_n 0, 1), (701, .iload_n 3, 1), (702, .iconst 2, 1), (703, .iadd, 1), (704, .iaload, 1), (705, .aload_n 0, 1), (706, .iload_n 3, 1), (707, .iconst 3, 1), (708, .iadd, 1), (709, .iaload, 1), (710, .invokevirtual 67, 3), (713, .pop, 1)]
def m_c0_9 : List m_I := [(714, .aload_n 2, 1), (715, .aload_n 0, 1), (716, .iload_n 3, 1), (717, .iconst 1, 1), (718, .iadd, 1), (719, .iaload, 1), (720, .aload_n 0, 1), (721, .iload_n 3, 1), (722, .iconst 2, 1), (723, .iadd, 1), (724, .iaload, 1), (725, .aload_n 0, 1), (726, .iload_n 3, 1), (727, .iconst 3, 1), (728, .iadd, 1), (729, .iaload, 1), (730, .invokevirtual 70, 3), (733, .pop, 1), (734, .goto 1301, 3), (737, .aload_n 1, 1), (738, .aload_n 0, 1), (739, .iload_n 3, 1), (740, .iconst 1, 1), (741, .iadd, 1), (742, .iaload, 1), (743, .aload_n 0, 1), (744, .iload_n 3, 1), (745, .iconst 2, 1), (746, .iadd, 1), (747, .iaload, 1), (748, .aload_n 0, 1), (749, .iload_n 3, 1), (750, .iconst 3, 1), (751, .iadd, 1), (752, .iaload, 1), (753, .invokevirtual 71, 3), (756, .pop, 1), (757, .aload_n 2, 1), (758, .aload_n 0, 1), (759, .iload_n 3, 1), (760, .iconst 1, 1), (761, .iadd, 1), (762, .iaload, 1), (763, .aload_n 0, 1), (764, .iload_n 3, 1), (765, .iconst 2, 1), (766, .iadd, 1), (767, .iaload, 1), (768, .aload_n 0, 1), (769, .iload_n 3, 1)]
def m_c0_10 : List m_I := [(770, .iconst 3, 1), (771, .iadd, 1), (772, .iaload, 1), (773, .invokevirtual 75, 3), (776, .pop, 1), (777, .goto 1258, 3), (780, .aload_n 1, 1), (781, .aload_n 0, 1), (782, .iload_n 3, 1), (783, .iconst 1, 1), (784, .iadd, 1), (785, .iaload, 1), (786, .aload_n 0, 1), (787, .iload_n 3, 1), (788, .iconst 2, 1), (789, .iadd, 1), (790, .iaload, 1), (791, .aload_n 0, 1), (792, .iload_n 3, 1), (793, .iconst 3, 1), (794, .iadd, 1), (795, .iaload, 1), (796, .aload_n 0, 1), (797, .iload_n 3, 1), (798, .iconst 4, 1), (799, .iadd, 1), (800, .iaload, 1), (801, .ifCond .eq 7, 3), (804, .iconst 1, 1), (805, .goto 4, 3), (808, .iconst 0, 1), (809, .invokevirtual 76, 3), (812, .pop, 1), (813, .aload_n 2, 1), (814, .aload_n 0, 1), (815, .iload_n 3, 1), (816, .iconst 1, 1), (817, .iadd, 1), (818, .iaload, 1), (819, .aload_n 0, 1), (820, .iload_n 3, 1), (821, .iconst 2, 1), (822, .iadd, 1), (823, .iaload, 1), (824, .aload_n 0, 1), (825, .iload_n 3, 1), (826, .iconst 3, 1), (827, .iadd, 1), (828, .iaload, 1), (829, .aload_n 0, 1)]
def m_c0_11 : List m_I := [(830, .iload_n 3, 1), (831, .iconst 4, 1), (832, .iadd, 1), (833, .iaload, 1), (834, .ifCond .eq 7, 3), (837, .iconst 1, 1), (838, .goto 4, 3), (841, .iconst 0, 1), (842, .invokevirtual 79, 3), (845, .pop, 1), (846, .goto 1189, 3), (849, .aload_n 1, 1), (850, .aload_n 0, 1), (851, .iload_n 3, 1), (852, .iconst 1, 1), (853, .iadd, 1), (854, .iaload, 1), (855, .aload_n 0, 1), (856, .iload_n 3, 1), (857, .iconst 2, 1), (858, .iadd, 1), (859, .iaload, 1), (860, .aload_n 0, 1), (861, .iload_n 3, 1), (862, .iconst 3, 1), (863, .iadd, 1), (864, .iaload, 1), (865, .invokevirtual 80, 3), (868, .pop, 1), (869, .aload_n 2, 1), (870, .aload_n 0, 1), (871, .iload_n 3, 1), (872, .iconst 1, 1), (873, .iadd, 1), (874, .iaload, 1), (875, .aload_n 0, 1), (876, .iload_n 3, 1), (877, .iconst 2, 1), (878, .iadd, 1), (879, .iaload, 1), (880, .aload_n 0, 1), (881, .iload_n 3, 1), (882, .iconst 3, 1), (883, .iadd, 1), (884, .iaload, 1), (885, .invokevirtual 83, 3), (888, .pop, 1), (889, .goto 1146, 3), (892, .aload_n 1, 1), (893, .aload_n 0, 1)]
def m_c0_12 : List m_I := [(894, .iload_n 3, 1), (895, .iconst 1, 1), (896, .iadd, 1), (897, .iaload, 1), (898, .aload_n 0, 1), (899, .iload_n 3, 1), (900, .iconst 2, 1), (901, .iadd, 1), (902, .iaload, 1), (903, .i2l, 1), (904, .bipush 32, 2), (906, .lshl, 1), (907, .aload_n 0, 1), (908, .iload_n 3, 1), (909, .iconst 3, 1), (910, .iadd, 1), (911, .iaload, 1), (912, .i2l, 1), (913, .ldc2_w 84, 3), (916, .land, 1), (917, .lor, 1), (918, .aload_n 0, 1), (919, .iload_n 3, 1), (920, .iconst 4, 1), (921, .iadd, 1), (922, .iaload, 1), (923, .ifCond .eq 7, 3), (926, .iconst 1, 1), (927, .goto 4, 3), (930, .iconst 0, 1), (931, .invokevirtual 86, 3), (934, .pop, 1), (935, .aload_n 2, 1), (936, .aload_n 0, 1), (937, .iload_n 3, 1), (938, .iconst 1, 1), (939, .iadd, 1), (940, .iaload, 1), (941, .aload_n 0, 1), (942, .iload_n 3, 1), (943, .iconst 2, 1), (944, .iadd, 1), (945, .iaload, 1), (946, .i2l, 1), (947, .bipush 32, 2), (949, .lshl, 1), (950, .aload_n 0, 1), (951, .iload_n 3, 1), (952, .iconst 3, 1), (953, .iadd, 1)]
def m_c0_13 : List m_I := [(954, .iaload, 1), (955, .i2l, 1), (956, .ldc2_w 84, 3), (959, .land, 1), (960, .lor, 1), (961, .aload_n 0, 1), (962, .iload_n 3, 1), (963, .iconst 4, 1), (964, .iadd, 1), (965, .iaload, 1), (966, .ifCond .eq 7, 3), (969, .iconst 1, 1), (970, .goto 4, 3), (973, .iconst 0, 1), (974, .invokevirtual 90, 3), (977, .pop, 1), (978, .goto 1057, 3), (981, .aload_n 1, 1), (982, .aload_n 0, 1), (983, .iload_n 3, 1), (984, .iconst 1, 1), (985, .iadd, 1), (986, .iaload, 1), (987, .aload_n 0, 1), (988, .iload_n 3, 1), (989, .iconst 2, 1), (990, .iadd, 1), (991, .iaload, 1), (992, .i2l, 1), (993, .bipush 32, 2), (995, .lshl, 1), (996, .aload_n 0, 1), (997, .iload_n 3, 1), (998, .iconst 3, 1), (999, .iadd, 1), (1000, .iaload, 1), (1001, .i2l, 1), (1002, .ldc2_w 84, 3), (1005, .land, 1), (1006, .lor, 1), (1007, .invokevirtual 91, 3), (1010, .pop, 1), (1011, .aload_n 2, 1), (1012, .aload_n 0, 1), (1013, .iload_n 3, 1), (1014, .iconst 1, 1), (1015, .iadd, 1), (1016, .iaload, 1), (1017, .aload_n 0, 1), (1018, .iload_n 3, 1)]
def m_c0_14 : List m_I := [(1019, .iconst 2, 1), (1020, .iadd, 1), (1021, .iaload, 1), (1022, .i2l, 1), (1023, .bipush 32, 2), (1025, .lshl, 1), (1026, .aload_n 0, 1), (1027, .iload_n 3, 1), (1028, .iconst 3, 1), (1029, .iadd, 1), (1030, .iaload, 1), (1031, .i2l, 1), (1032, .ldc2_w 84, 3), (1035, .land, 1), (1036, .lor, 1), (1037, .invokevirtual 95, 3), (1040, .pop, 1), (1041, .goto 994, 3), (1044, .aload_n 1, 1), (1045, .aload_n 0, 1), (1046, .iload_n 3, 1), (1047, .iconst 1, 1), (1048, .iadd, 1), (1049, .iaload, 1), (1050, .aload_n 0, 1), (1051, .iload_n 3, 1), (1052, .iconst 2, 1), (1053, .iadd, 1), (1054, .iaload, 1), (1055, .i2l, 1), (1056, .bipush 32, 2), (1058, .lshl, 1), (1059, .aload_n 0, 1), (1060, .iload_n 3, 1), (1061, .iconst 3, 1), (1062, .iadd, 1), (1063, .iaload, 1), (1064, .i2l, 1), (1065, .ldc2_w 84, 3), (1068, .land, 1), (1069, .lor, 1), (1070, .invokevirtual 96, 3), (1073, .pop2, 1), (1074, .aload_n 2, 1), (1075, .aload_n 0, 1), (1076, .iload_n 3, 1), (1077, .iconst 1, 1), (1078, .iadd, 1), (1079, .iaload, 1), (1080, .aload_n 0, 1)]
def m_c0_15 : List m_I := [(1081, .iload_n 3, 1), (1082, .iconst 2, 1), (1083, .iadd, 1), (1084, .iaload, 1), (1085, .i2l, 1), (1086, .bipush 32, 2), (1088, .lshl, 1), (1089, .aload_n 0, 1), (1090, .iload_n 3, 1), (1091, .iconst 3, 1), (1092, .iadd, 1), (1093, .iaload, 1), (1094, .i2l, 1), (1095, .ldc2_w 84, 3), (1098, .land, 1), (1099, .lor, 1), (1100, .invokevirtual 100, 3), (1103, .pop2, 1), (1104, .goto 931, 3), (1107, .aload_n 1, 1), (1108, .aload_n 0, 1), (1109, .iload_n 3, 1), (1110, .iconst 1, 1), (1111, .iadd, 1), (1112, .iaload, 1), (1113, .aload_n 0, 1), (1114, .iload_n 3, 1), (1115, .iconst 2, 1), (1116, .iadd, 1), (1117, .iaload, 1), (1118, .aload_n 0, 1), (1119, .iload_n 3, 1), (1120, .iconst 3, 1), (1121, .iadd, 1), (1122, .iaload, 1), (1123, .invokevirtual 101, 3), (1126, .pop, 1), (1127, .aload_n 2, 1), (1128, .aload_n 0, 1), (1129, .iload_n 3, 1), (1130, .iconst 1, 1), (1131, .iadd, 1), (1132, .iaload, 1), (1133, .aload_n 0, 1), (1134, .iload_n 3, 1), (1135, .iconst 2, 1), (1136, .iadd, 1), (1137, .iaload, 1), (1138, .aload_n 0, 1), (1139, .iload_n 3, 1)]
def m_c0_16 : List m_I := [(1140, .iconst 3, 1), (1141, .iadd, 1), (1142, .iaload, 1), (1143, .invokevirtual 104, 3), (1146, .pop, 1), (1147, .goto 888, 3), (1150, .aload_n 1, 1), (1151, .aload_n 0, 1), (1152, .iload_n 3, 1), (1153, .iconst 1, 1), (1154, .iadd, 1), (1155, .iaload, 1), (1156, .aload_n 0, 1), (1157, .iload_n 3, 1), (1158, .iconst 2, 1), (1159, .iadd, 1), (1160, .iaload, 1), (1161, .aload_n 0, 1), (1162, .iload_n 3, 1), (1163, .iconst 3, 1), (1164, .iadd, 1), (1165, .iaload, 1), (1166, .aload_n 0, 1), (1167, .iload_n 3, 1), (1168, .iconst 4, 1), (1169, .iadd, 1), (1170, .iaload, 1), (1171, .ifCond .eq 7, 3), (1174, .iconst 1, 1), (1175, .goto 4, 3), (1178, .iconst 0, 1), (1179, .invokevirtual 105, 3), (1182, .pop, 1), (1183, .aload_n 2, 1), (1184, .aload_n 0, 1), (1185, .iload_n 3, 1), (1186, .iconst 1, 1), (1187, .iadd, 1), (1188, .iaload, 1), (1189, .aload_n 0, 1), (1190, .iload_n 3, 1), (1191, .iconst 2, 1), (1192, .iadd, 1), (1193, .iaload, 1), (1194, .aload_n 0, 1), (1195, .iload_n 3, 1), (1196, .iconst 3, 1), (1197, .iadd, 1), (1198, .iaload, 1), (1199, .aload_n 0, 1)]
def m_c0_17 : List m_I := [(1200, .iload_n 3, 1), (1201, .iconst 4, 1), (1202, .iadd, 1), (1203, .iaload, 1), (1204, .ifCond .eq 7, 3), (1207, .iconst 1, 1), (1208, .goto 4, 3), (1211, .iconst 0, 1), (1212, .invokevirtual 109, 3), (1215, .pop, 1), (1216, .goto 819, 3), (1219, .aload_n 1, 1), (1220, .aload_n 0, 1), (1221, .iload_n 3, 1), (1222, .iconst 1, 1), (1223, .iadd, 1), (1224, .iaload, 1), (1225, .aload_n 0, 1), (1226, .iload_n 3, 1), (1227, .iconst 2, 1), (1228, .iadd, 1), (1229, .iaload, 1), (1230, .aload_n 0, 1), (1231, .iload_n 3, 1), (1232, .iconst 3, 1), (1233, .iadd, 1), (1234, .iaload, 1), (1235, .aload_n 0, 1), (1236, .iload_n 3, 1), (1237, .iconst 4, 1), (1238, .iadd, 1), (1239, .iaload, 1), (1240, .aload_n 0, 1), (1241, .iload_n 3, 1), (1242, .iconst 5, 1), (1243, .iadd, 1), (1244, .iaload, 1), (1245, .aload_n 0, 1), (1246, .iload_n 3, 1), (1247, .bipush 6, 2), (1249, .iadd, 1), (1250, .iaload, 1), (1251, .ifCond .eq 7, 3), (1254, .iconst 1, 1), (1255, .goto 4, 3), (1258, .iconst 0, 1), (1259, .invokevirtual 110, 3), (1262, .pop, 1), (1263, .aload_n 2, 1), (1264, .aload_n 0, 1)]
def m_c0_18 : List m_I := [(1265, .iload_n 3, 1), (1266, .iconst 1, 1), (1267, .iadd, 1), (1268, .iaload, 1), (1269, .aload_n 0, 1), (1270, .iload_n 3, 1), (1271, .iconst 2, 1), (1272, .iadd, 1), (1273, .iaload, 1), (1274, .aload_n 0, 1), (1275, .iload_n 3, 1), (1276, .iconst 3, 1), (1277, .iadd, 1), (1278, .iaload, 1), (1279, .aload_n 0, 1), (1280, .iload_n 3, 1), (1281, .iconst 4, 1), (1282, .iadd, 1), (1283, .iaload, 1), (1284, .aload_n 0, 1), (1285, .iload_n 3, 1), (1286, .iconst 5, 1), (1287, .iadd, 1), (1288, .iaload, 1), (1289, .aload_n 0, 1), (1290, .iload_n 3, 1), (1291, .bipush 6, 2), (1293, .iadd, 1), (1294, .iaload, 1), (1295, .ifCond .eq 7, 3), (1298, .iconst 1, 1), (1299, .goto 4, 3), (1302, .iconst 0, 1), (1303, .invokevirtual 114, 3), (1306, .pop, 1), (1307, .goto 728, 3), (1310, .aload_n 1, 1), (1311, .aload_n 0, 1), (1312, .iload_n 3, 1), (1313, .iconst 1, 1), (1314, .iadd, 1), (1315, .iaload, 1), (1316, .aload_n 0, 1), (1317, .iload_n 3, 1), (1318, .iconst 2, 1), (1319, .iadd, 1), (1320, .iaload, 1), (1321, .i2l, 1), (1322, .bipush 32, 2), (1324, .lshl, 1)]
def m_c0_19 : List m_I := [(1325, .aload_n 0, 1), (1326, .iload_n 3, 1), (1327, .iconst 3, 1), (1328, .iadd, 1), (1329, .iaload, 1), (1330, .i2l, 1), (1331, .ldc2_w 84, 3), (1334, .land, 1), (1335, .lor, 1), (1336, .aload_n 0, 1), (1337, .iload_n 3, 1), (1338, .iconst 4, 1), (1339, .iadd, 1), (1340, .iaload, 1), (1341, .invokevirtual 115, 3), (1344, .pop, 1), (1345, .aload_n 2, 1), (1346, .aload_n 0, 1), (1347, .iload_n 3, 1), (1348, .iconst 1, 1), (1349, .iadd, 1), (1350, .iaload, 1), (1351, .aload_n 0, 1), (1352, .iload_n 3, 1), (1353, .iconst 2, 1), (1354, .iadd, 1), (1355, .iaload, 1), (1356, .i2l, 1), (1357, .bipush 32, 2), (1359, .lshl, 1), (1360, .aload_n 0, 1), (1361, .iload_n 3, 1), (1362, .iconst 3, 1), (1363, .iadd, 1), (1364, .iaload, 1), (1365, .i2l, 1), (1366, .ldc2_w 84, 3), (1369, .land, 1), (1370, .lor, 1), (1371, .aload_n 0, 1), (1372, .iload_n 3, 1), (1373, .iconst 4, 1), (1374, .iadd, 1), (1375, .iaload, 1), (1376, .invokevirtual 119, 3), (1379, .pop, 1), (1380, .goto 655, 3), (1383, .aload_n 1, 1), (1384, .aload_n 0, 1), (1385, .iload_n 3, 1)]
def m_c0_20 : List m_I := [(1386, .iconst 1, 1), (1387, .iadd, 1), (1388, .iaload, 1), (1389, .aload_n 0, 1), (1390, .iload_n 3, 1), (1391, .iconst 2, 1), (1392, .iadd, 1), (1393, .iaload, 1), (1394, .ifCond .eq 7, 3), (1397, .iconst 1, 1), (1398, .goto 4, 3), (1401, .iconst 0, 1), (1402, .invokevirtual 120, 3), (1405, .pop, 1), (1406, .aload_n 2, 1), (1407, .aload_n 0, 1), (1408, .iload_n 3, 1), (1409, .iconst 1, 1), (1410, .iadd, 1), (1411, .iaload, 1), (1412, .aload_n 0, 1), (1413, .iload_n 3, 1), (1414, .iconst 2, 1), (1415, .iadd, 1), (1416, .iaload, 1), (1417, .ifCond .eq 7, 3), (1420, .iconst 1, 1), (1421, .goto 4, 3), (1424, .iconst 0, 1), (1425, .invokevirtual 123, 3), (1428, .pop, 1), (1429, .goto 606, 3), (1432, .aload_n 1, 1), (1433, .aload_n 0, 1), (1434, .iload_n 3, 1), (1435, .iconst 1, 1), (1436, .iadd, 1), (1437, .iaload, 1), (1438, .aload_n 0, 1), (1439, .iload_n 3, 1), (1440, .iconst 2, 1), (1441, .iadd, 1), (1442, .iaload, 1), (1443, .aload_n 0, 1), (1444, .iload_n 3, 1), (1445, .iconst 3, 1), (1446, .iadd, 1), (1447, .iaload, 1), (1448, .invokevirtual 124, 3), (1451, .pop, 1)]
def m_c0_21 : List m_I := [(1452, .aload_n 2, 1), (1453, .aload_n 0, 1), (1454, .iload_n 3, 1), (1455, .iconst 1, 1), (1456, .iadd, 1), (1457, .iaload, 1), (1458, .aload_n 0, 1), (1459, .iload_n 3, 1), (1460, .iconst 2, 1), (1461, .iadd, 1), (1462, .iaload, 1), (1463, .aload_n 0, 1), (1464, .iload_n 3, 1), (1465, .iconst 3, 1), (1466, .iadd, 1), (1467, .iaload, 1), (1468, .invokevirtual 127, 3), (1471, .pop, 1), (1472, .goto 563, 3), (1475, .aload_n 1, 1), (1476, .aload_n 0, 1), (1477, .iload_n 3, 1), (1478, .iconst 1, 1), (1479, .iadd, 1), (1480, .iaload, 1), (1481, .aload_n 0, 1), (1482, .iload_n 3, 1), (1483, .iconst 2, 1), (1484, .iadd, 1), (1485, .iaload, 1), (1486, .aload_n 0, 1), (1487, .iload_n 3, 1), (1488, .iconst 3, 1), (1489, .iadd, 1), (1490, .iaload, 1), (1491, .ifCond .eq 7, 3), (1494, .iconst 1, 1), (1495, .goto 4, 3), (1498, .iconst 0, 1), (1499, .invokevirtual 128, 3), (1502, .pop, 1), (1503, .aload_n 2, 1), (1504, .aload_n 0, 1), (1505, .iload_n 3, 1), (1506, .iconst 1, 1), (1507, .iadd, 1), (1508, .iaload, 1), (1509, .aload_n 0, 1), (1510, .iload_n 3, 1), (1511, .iconst 2, 1)]
def m_c0_22 : List m_I := [(1512, .iadd, 1), (1513, .iaload, 1), (1514, .aload_n 0, 1), (1515, .iload_n 3, 1), (1516, .iconst 3, 1), (1517, .iadd, 1), (1518, .iaload, 1), (1519, .ifCond .eq 7, 3), (1522, .iconst 1, 1), (1523, .goto 4, 3), (1526, .iconst 0, 1), (1527, .invokevirtual 132, 3), (1530, .pop, 1), (1531, .goto 504, 3), (1534, .aload_n 1, 1), (1535, .aload_n 0, 1), (1536, .iload_n 3, 1), (1537, .iconst 1, 1), (1538, .iadd, 1), (1539, .iaload, 1), (1540, .aload_n 0, 1), (1541, .iload_n 3, 1), (1542, .iconst 2, 1), (1543, .iadd, 1), (1544, .iaload, 1), (1545, .invokevirtual 133, 3), (1548, .pop, 1), (1549, .aload_n 2, 1), (1550, .aload_n 0, 1), (1551, .iload_n 3, 1), (1552, .iconst 1, 1), (1553, .iadd, 1), (1554, .iaload, 1), (1555, .aload_n 0, 1), (1556, .iload_n 3, 1), (1557, .iconst 2, 1), (1558, .iadd, 1), (1559, .iaload, 1), (1560, .invokevirtual 137, 3), (1563, .pop, 1), (1564, .goto 471, 3), (1567, .aload_n 1, 1), (1568, .aload_n 0, 1), (1569, .iload_n 3, 1), (1570, .iconst 1, 1), (1571, .iadd, 1), (1572, .iaload, 1), (1573, .aload_n 0, 1), (1574, .iload_n 3, 1), (1575, .iconst 2, 1)]
def m_c0_23 : List m_I := [(1576, .iadd, 1), (1577, .iaload, 1), (1578, .invokevirtual 138, 3), (1581, .pop, 1), (1582, .aload_n 2, 1), (1583, .aload_n 0, 1), (1584, .iload_n 3, 1), (1585, .iconst 1, 1), (1586, .iadd, 1), (1587, .iaload, 1), (1588, .aload_n 0, 1), (1589, .iload_n 3, 1), (1590, .iconst 2, 1), (1591, .iadd, 1), (1592, .iaload, 1), (1593, .invokevirtual 141, 3), (1596, .pop, 1), (1597, .goto 438, 3), (1600, .aload_n 1, 1), (1601, .aload_n 0, 1), (1602, .iload_n 3, 1), (1603, .iconst 1, 1), (1604, .iadd, 1), (1605, .iaload, 1), (1606, .aload_n 0, 1), (1607, .iload_n 3, 1), (1608, .iconst 2, 1), (1609, .iadd, 1), (1610, .iaload, 1), (1611, .aload_n 0, 1), (1612, .iload_n 3, 1), (1613, .iconst 3, 1), (1614, .iadd, 1), (1615, .iaload, 1), (1616, .aload_n 0, 1), (1617, .iload_n 3, 1), (1618, .iconst 4, 1), (1619, .iadd, 1), (1620, .iaload, 1), (1621, .aload_n 0, 1), (1622, .iload_n 3, 1), (1623, .iconst 5, 1), (1624, .iadd, 1), (1625, .iaload, 1), (1626, .invokevirtual 142, 3), (1629, .pop, 1), (1630, .aload_n 2, 1), (1631, .aload_n 0, 1), (1632, .iload_n 3, 1), (1633, .iconst 1, 1)]
def m_c0_24 : List m_I := [(1634, .iadd, 1), (1635, .iaload, 1), (1636, .aload_n 0, 1), (1637, .iload_n 3, 1), (1638, .iconst 2, 1), (1639, .iadd, 1), (1640, .iaload, 1), (1641, .aload_n 0, 1), (1642, .iload_n 3, 1), (1643, .iconst 3, 1), (1644, .iadd, 1), (1645, .iaload, 1), (1646, .aload_n 0, 1), (1647, .iload_n 3, 1), (1648, .iconst 4, 1), (1649, .iadd, 1), (1650, .iaload, 1), (1651, .aload_n 0, 1), (1652, .iload_n 3, 1), (1653, .iconst 5, 1), (1654, .iadd, 1), (1655, .iaload, 1), (1656, .invokevirtual 145, 3), (1659, .pop, 1), (1660, .goto 375, 3), (1663, .aload_n 1, 1), (1664, .aload_n 0, 1), (1665, .iload_n 3, 1), (1666, .iconst 1, 1), (1667, .iadd, 1), (1668, .iaload, 1), (1669, .aload_n 0, 1), (1670, .iload_n 3, 1), (1671, .iconst 2, 1), (1672, .iadd, 1), (1673, .iaload, 1), (1674, .aload_n 0, 1), (1675, .iload_n 3, 1), (1676, .iconst 3, 1), (1677, .iadd, 1), (1678, .iaload, 1), (1679, .aload_n 0, 1), (1680, .iload_n 3, 1), (1681, .iconst 4, 1), (1682, .iadd, 1), (1683, .iaload, 1), (1684, .ifCond .eq 7, 3), (1687, .iconst 1, 1), (1688, .goto 4, 3), (1691, .iconst 0, 1)]
def m_c0_25 : List m_I := [(1692, .invokevirtual 146, 3), (1695, .pop, 1), (1696, .aload_n 2, 1), (1697, .aload_n 0, 1), (1698, .iload_n 3, 1), (1699, .iconst 1, 1), (1700, .iadd, 1), (1701, .iaload, 1), (1702, .aload_n 0, 1), (1703, .iload_n 3, 1), (1704, .iconst 2, 1), (1705, .iadd, 1), (1706, .iaload, 1), (1707, .aload_n 0, 1), (1708, .iload_n 3, 1), (1709, .iconst 3, 1), (1710, .iadd, 1), (1711, .iaload, 1), (1712, .aload_n 0, 1), (1713, .iload_n 3, 1), (1714, .iconst 4, 1), (1715, .iadd, 1), (1716, .iaload, 1), (1717, .ifCond .eq 7, 3), (1720, .iconst 1, 1), (1721, .goto 4, 3), (1724, .iconst 0, 1), (1725, .invokevirtual 149, 3), (1728, .pop, 1), (1729, .goto 306, 3), (1732, .aload_n 1, 1), (1733, .aload_n 0, 1), (1734, .iload_n 3, 1), (1735, .iconst 1, 1), (1736, .iadd, 1), (1737, .iaload, 1), (1738, .aload_n 0, 1), (1739, .iload_n 3, 1), (1740, .iconst 2, 1), (1741, .iadd, 1), (1742, .iaload, 1), (1743, .aload_n 0, 1), (1744, .iload_n 3, 1), (1745, .iconst 3, 1), (1746, .iadd, 1), (1747, .iaload, 1), (1748, .aload_n 0, 1), (1749, .iload_n 3, 1), (1750, .iconst 4, 1), (1751, .iadd, 1)]
def m_c0_26 : List m_I := [(1752, .iaload, 1), (1753, .ifCond .eq 7, 3), (1756, .iconst 1, 1), (1757, .goto 4, 3), (1760, .iconst 0, 1), (1761, .invokevirtual 150, 3), (1764, .pop2, 1), (1765, .aload_n 2, 1), (1766, .aload_n 0, 1), (1767, .iload_n 3, 1), (1768, .iconst 1, 1), (1769, .iadd, 1), (1770, .iaload, 1), (1771, .aload_n 0, 1), (1772, .iload_n 3, 1), (1773, .iconst 2, 1), (1774, .iadd, 1), (1775, .iaload, 1), (1776, .aload_n 0, 1), (1777, .iload_n 3, 1), (1778, .iconst 3, 1), (1779, .iadd, 1), (1780, .iaload, 1), (1781, .aload_n 0, 1), (1782, .iload_n 3, 1), (1783, .iconst 4, 1), (1784, .iadd, 1), (1785, .iaload, 1), (1786, .ifCond .eq 7, 3), (1789, .iconst 1, 1), (1790, .goto 4, 3), (1793, .iconst 0, 1), (1794, .invokevirtual 154, 3), (1797, .pop2, 1), (1798, .goto 237, 3), (1801, .aload_n 1, 1), (1802, .aload_n 0, 1), (1803, .iload_n 3, 1), (1804, .iconst 1, 1), (1805, .iadd, 1), (1806, .iaload, 1), (1807, .aload_n 0, 1), (1808, .iload_n 3, 1), (1809, .iconst 2, 1), (1810, .iadd, 1), (1811, .iaload, 1), (1812, .aload_n 0, 1), (1813, .iload_n 3, 1), (1814, .iconst 3, 1), (1815, .iadd, 1)]
def m_c0_27 : List m_I := [(1816, .iaload, 1), (1817, .ifCond .eq 7, 3), (1820, .iconst 1, 1), (1821, .goto 4, 3), (1824, .iconst 0, 1), (1825, .invokevirtual 155, 3), (1828, .pop, 1), (1829, .aload_n 2, 1), (1830, .aload_n 0, 1), (1831, .iload_n 3, 1), (1832, .iconst 1, 1), (1833, .iadd, 1), (1834, .iaload, 1), (1835, .aload_n 0, 1), (1836, .iload_n 3, 1), (1837, .iconst 2, 1), (1838, .iadd, 1), (1839, .iaload, 1), (1840, .aload_n 0, 1), (1841, .iload_n 3, 1), (1842, .iconst 3, 1), (1843, .iadd, 1), (1844, .iaload, 1), (1845, .ifCond .eq 7, 3), (1848, .iconst 1, 1), (1849, .goto 4, 3), (1852, .iconst 0, 1), (1853, .invokevirtual 158, 3), (1856, .pop, 1), (1857, .goto 178, 3), (1860, .aload_n 1, 1), (1861, .aload_n 0, 1), (1862, .iload_n 3, 1), (1863, .iconst 1, 1), (1864, .iadd, 1), (1865, .iaload, 1), (1866, .aload_n 0, 1), (1867, .iload_n 3, 1), (1868, .iconst 2, 1), (1869, .iadd, 1), (1870, .iaload, 1), (1871, .aload_n 0, 1), (1872, .iload_n 3, 1), (1873, .iconst 3, 1), (1874, .iadd, 1), (1875, .iaload, 1), (1876, .invokevirtual 159, 3), (1879, .pop, 1), (1880, .aload_n 2, 1), (1881, .aload_n 0, 1)]
def m_c0_28 : List m_I := [(1882, .iload_n 3, 1), (1883, .iconst 1, 1), (1884, .iadd, 1), (1885, .iaload, 1), (1886, .aload_n 0, 1), (1887, .iload_n 3, 1), (1888, .iconst 2, 1), (1889, .iadd, 1), (1890, .iaload, 1), (1891, .aload_n 0, 1), (1892, .iload_n 3, 1), (1893, .iconst 3, 1), (1894, .iadd, 1), (1895, .iaload, 1), (1896, .invokevirtual 162, 3), (1899, .pop, 1), (1900, .goto 135, 3), (1903, .aload_n 1, 1), (1904, .aload_n 0, 1), (1905, .iload_n 3, 1), (1906, .iconst 1, 1), (1907, .iadd, 1), (1908, .iaload, 1), (1909, .aload_n 0, 1), (1910, .iload_n 3, 1), (1911, .iconst 2, 1), (1912, .iadd, 1), (1913, .iaload, 1), (1914, .i2l, 1), (1915, .bipush 32, 2), (1917, .lshl, 1), (1918, .aload_n 0, 1), (1919, .iload_n 3, 1), (1920, .iconst 3, 1), (1921, .iadd, 1), (1922, .iaload, 1), (1923, .i2l, 1), (1924, .ldc2_w 84, 3), (1927, .land, 1), (1928, .lor, 1), (1929, .aload_n 0, 1), (1930, .iload_n 3, 1), (1931, .iconst 4, 1), (1932, .iadd, 1), (1933, .iaload, 1), (1934, .invokevirtual 163, 3), (1937, .pop2, 1), (1938, .aload_n 2, 1), (1939, .aload_n 0, 1), (1940, .iload_n 3, 1)]
def m_c0_29 : List m_I := [(1941, .iconst 1, 1), (1942, .iadd, 1), (1943, .iaload, 1), (1944, .aload_n 0, 1), (1945, .iload_n 3, 1), (1946, .iconst 2, 1), (1947, .iadd, 1), (1948, .iaload, 1), (1949, .i2l, 1), (1950, .bipush 32, 2), (1952, .lshl, 1), (1953, .aload_n 0, 1), (1954, .iload_n 3, 1), (1955, .iconst 3, 1), (1956, .iadd, 1), (1957, .iaload, 1), (1958, .i2l, 1), (1959, .ldc2_w 84, 3), (1962, .land, 1), (1963, .lor, 1), (1964, .aload_n 0, 1), (1965, .iload_n 3, 1), (1966, .iconst 4, 1), (1967, .iadd, 1), (1968, .iaload, 1), (1969, .invokevirtual 167, 3), (1972, .pop2, 1), (1973, .goto 62, 3), (1976, .aload_n 1, 1), (1977, .invokevirtual 168, 3), (1980, .pop, 1), (1981, .aload_n 2, 1), (1982, .invokevirtual 172, 3), (1985, .pop, 1), (1986, .goto 49, 3), (1989, .aload_n 1, 1), (1990, .aload_n 0, 1), (1991, .iload_n 3, 1), (1992, .iconst 1, 1), (1993, .iadd, 1), (1994, .iaload, 1), (1995, .invokevirtual 173, 3), (1998, .aload_n 2, 1), (1999, .aload_n 0, 1), (2000, .iload_n 3, 1), (2001, .iconst 1, 1), (2002, .iadd, 1), (2003, .iaload, 1), (2004, .invokevirtual 177, 3), (2007, .if_icmp .eq 28, 3)]
def m_c0_30 : List m_I := [(2010, .iconst 0, 1), (2011, .ireturn, 1), (2012, .aload_n 1, 1), (2013, .aload_n 0, 1), (2014, .iload_n 3, 1), (2015, .iconst 1, 1), (2016, .iadd, 1), (2017, .iaload, 1), (2018, .invokevirtual 178, 3), (2021, .pop, 1), (2022, .aload_n 2, 1), (2023, .aload_n 0, 1), (2024, .iload_n 3, 1), (2025, .iconst 1, 1), (2026, .iadd, 1), (2027, .iaload, 1), (2028, .invokevirtual 181, 3), (2031, .pop, 1), (2032, .goto 3, 3), (2035, .iinc 3 7, 3), (2038, .goto (-2020), 3), (2041, .iconst 1, 1), (2042, .ireturn, 1)]
def m_c0 : List m_I := m_c0_0 ++ (m_c0_1 ++ (m_c0_2 ++ (m_c0_3 ++ (m_c0_4 ++ (m_c0_5 ++ (m_c0_6 ++ (m_c0_7 ++ (m_c0_8 ++ (m_c0_9 ++ (m_c0_10 ++ (m_c0_11 ++ (m_c0_12 ++ (m_c0_13 ++ (m_c0_14 ++ (m_c0_15 ++ (m_c0_16 ++ (m_c0_17 ++ (m_c0_18 ++ (m_c0_19 ++ (m_c0_20 ++ (m_c0_21 ++ (m_c0_22 ++ (m_c0_23 ++ (m_c0_24 ++ (m_c0_25 ++ (m_c0_26 ++ (m_c0_27 ++ (m_c0_28 ++ (m_c0_29 ++ (m_c0_30))))))))))))))))))))))))))))))
def m_c1 : List m_I := [(0, .aload_n 0, 1), (1, .invokespecial 3, 3), (4, .aload_n 0, 1), (5, .new 9, 3), (8, .dup, 1), (9, .invokespecial 11, 3), (12, .putfield 12, 3), (15, .aload_n 0, 1), (16, .iconst 3, 1), (17, .anewarray 9, 3), (20, .putfield 16, 3), (23, .aload_n 0, 1), (24, .iconst 4, 1), (25, .anewarray 20, 3), (28, .putfield 22, 3), (31, .aload_n 0, 1), (32, .new 26, 3), (35, .dup, 1), (36, .invokespecial 28, 3), (39, .putfield 29, 3), (42, .aload_n 0, 1), (43, .new 33, 3), (46, .dup, 1), (47, .invokespecial 35, 3), (50, .putfield 36, 3), (53, .aload_n 0, 1), (54, .new 40, 3), (57, .dup, 1), (58, .invokespecial 42, 3), (61, .putfield 43, 3), (64, .aload_n 0, 1), (65, .new 40, 3), (68, .dup, 1), (69, .invokespecial 42, 3), (72, .putfield 47, 3), (75, .aload_n 0, 1), (76, .new 50, 3), (79, .dup, 1), (80, .invokespecial 52, 3), (83, .putfield 53, 3), (86, .return_, 1)]
def m_c2 : List m_I := [(0, .aload_n 0, 1), (1, .invokespecial 3, 3), (4, .aload_n 0, 1), (5, .sipush 600, 3), (8, .newarray .byte, 2), (10, .putfield 9, 3), (13, .aload_n 0, 1), (14, .iconst 4, 1), (15, .anewarray 15, 3), (18, .putfield 17, 3), (21, .aload_n 0, 1), (22, .iconst (-1), 1), (23, .putfield 21, 3), (26, .iconst 0, 1), (27, .istore_n 1, 1), (28, .iload_n 1, 1), (29, .iconst 4, 1), (30, .if_icmp .ge 22, 3), (33, .aload_n 0, 1), (34, .getfield 17, 3), (37, .iload_n 1, 1), (38, .new 15, 3), (41, .dup, 1), (42, .invokespecial 25, 3), (45, .aastore, 1), (46, .iinc 1 1, 3), (49, .goto (-21), 3), (52, .return_, 1)]
def m_c3 : List m_I := [(0, .aload_n 0, 1), (1, .invokespecial 3, 3), (4, .aload_n 0, 1), (5, .bipush 40, 2), (7, .newarray .int, 2), (9, .putfield 9, 3), (12, .aload_n 0, 1), (13, .bipush 120, 2), (15, .newarray .int, 2), (17, .putfield 15, 3), (20, .return_, 1)]
def m_c4 : List m_I := [(0, .aload_n 0, 1), (1, .invokespecial 3, 3), (4, .aload_n 0, 1), (5, .iconst 0, 1), (6, .newarray .byte, 2), (8, .putfield 9, 3), (11, .return_, 1)]
def m_c5 : List m_I := [(0, .aload_n 0, 1), (1, .invokespecial 3, 3), (4, .aload_n 0, 1), (5, .bipush 63, 2), (7, .newarray .int, 2), (9, .putfield 9, 3), (12, .aload_n 0, 1), (13, .bipush 63, 2), (15, .newarray .int, 2), (17, .putfield 15, 3), (20, .aload_n 0, 1), (21, .bipush 63, 2), (23, .newarray .int, 2), (25, .putfield 18, 3), (28, .aload_n 0, 1), (29, .bipush 63, 2), (31, .newarray .int, 2), (33, .putfield 21, 3), (36, .aload_n 0, 1), (37, .bipush 63, 2), (39, .newarray .int, 2), (41, .putfield 24, 3), (44, .aload_n 0, 1), (45, .bipush 63, 2), (47, .newarray .int, 2), (49, .putfield 27, 3), (52, .aload_n 0, 1), (53, .bipush 63, 2), (55, .newarray .int, 2), (57, .putfield 30, 3), (60, .aload_n 0, 1), (61, .bipush 63, 2), (63, .newarray .boolean, 2), (65, .putfield 33, 3), (68, .return_, 1)]
def m_c6 : List m_I := [(0, .aload_n 0, 1), (1, .invokespecial 3, 3), (4, .aload_n 0, 1), (5, .iconst 1, 1), (6, .newarray .int, 2), (8, .putfield 9, 3), (11, .aload_n 0, 1), (12, .bipush 12, 2), (14, .newarray .int, 2), (16, .putfield 15, 3), (19, .aload_n 0, 1), (20, .bipush 41, 2), (22, .newarray .int, 2), (24, .putfield 18, 3), (27, .return_, 1)]
def m_c7 : List m_I := [(0, .aload_n 0, 1), (1, .getfield 12, 3), (4, .getfield 57, 3), (7, .bipush 20, 2), (9, .iadd, 1), (10, .sipush 600, 3), (13, .if_icmp .le 5, 3), (16, .iconst (-1), 1), (17, .ireturn, 1), (18, .aload_n 0, 1), (19, .getfield 12, 3), (22, .iload_n 1, 1), (23, .invokevirtual 61, 3), (26, .aload_n 0, 1), (27, .getfield 12, 3), (30, .iload_n 2, 1), (31, .invokevirtual 61, 3), (34, .aload_n 0, 1), (35, .getfield 12, 3), (38, .iload_n 3, 1), (39, .invokevirtual 61, 3), (42, .aload_n 0, 1), (43, .getfield 12, 3), (46, .iload 4, 2), (48, .invokevirtual 61, 3), (51, .aload_n 0, 1), (52, .getfield 12, 3), (55, .iload 5, 2), (57, .invokevirtual 61, 3), (60, .aload_n 0, 1), (61, .getfield 12, 3), (64, .getfield 57, 3), (67, .ireturn, 1)]
def m_c8 : List m_I := [(0, .bipush 24, 2), (2, .istore_n 2, 1), (3, .iload_n 2, 1), (4, .ifCond .lt 42, 3), (7, .aload_n 0, 1), (8, .getfield 26, 3), (11, .sipush 600, 3), (14, .if_icmp .ge 32, 3), (17, .aload_n 0, 1), (18, .getfield 9, 3), (21, .aload_n 0, 1), (22, .getfield 26, 3), (25, .iload_n 1, 1), (26, .iload_n 2, 1), (27, .iushr, 1), (28, .i2b, 1), (29, .bastore, 1), (30, .aload_n 0, 1), (31, .dup, 1), (32, .getfield 26, 3), (35, .iconst 1, 1), (36, .iadd, 1), (37, .putfield 26, 3), (40, .iinc 2 (-8), 3), (43, .goto (-40), 3), (46, .return_, 1)]
def m_c9 : List m_I := [(0, .iload_n 1, 1), (1, .ifCond .lt 14, 3), (4, .iload_n 1, 1), (5, .aload_n 0, 1), (6, .getfield 12, 3), (9, .getfield 57, 3), (12, .if_icmp .le 5, 3), (15, .iconst (-1), 1), (16, .ireturn, 1), (17, .aload_n 0, 1), (18, .getfield 12, 3), (21, .iload_n 1, 1), (22, .putfield 57, 3), (25, .iload_n 1, 1), (26, .ireturn, 1)]
def m_c10_0 : List m_I := [(0, .aload_n 0, 1), (1, .getfield 12, 3), (4, .getfield 57, 3), (7, .istore_n 2, 1), (8, .aload_n 0, 1), (9, .getfield 12, 3), (12, .iconst 0, 1), (13, .putfield 57, 3), (16, .aload_n 0, 1), (17, .getfield 12, 3), (20, .iconst 0, 1), (21, .putfield 65, 3), (24, .aload_n 0, 1), (25, .getfield 12, 3), (28, .iconst (-1), 1), (29, .putfield 68, 3), (32, .iload_n 1, 1), (33, .iconst (-1), 1), (34, .if_icmp .ne 13, 3), (37, .aload_n 0, 1), (38, .getfield 12, 3), (41, .getfield 71, 3), (44, .goto 4, 3), (47, .iload_n 1, 1), (48, .istore_n 3, 1), (49, .iload_n 1, 1), (50, .iconst (-1), 1), (51, .if_icmp .ne 22, 3), (54, .aload_n 0, 1), (55, .getfield 12, 3), (58, .getfield 71, 3), (61, .iconst 4, 1), (62, .if_icmp .ge 7, 3), (65, .iconst 1, 1), (66, .goto 12, 3), (69, .iconst 0, 1), (70, .goto 8, 3), (73, .aload_n 0, 1), (74, .iload_n 1, 1), (75, .invokevirtual 74, 3), (78, .istore 4, 2), (80, .iload 4, 2), (82, .ifCond .eq 12, 3), (85, .iload_n 3, 1), (86, .ifCond .lt 8, 3), (89, .iload_n 3, 1), (90, .iconst 4, 1), (91, .if_icmp .lt 6, 3), (94, .bipush (-2), 2), (96, .ireturn, 1)]
def m_c10_1 : List m_I := [(97, .aload_n 0, 1), (98, .getfield 29, 3), (101, .aload_n 0, 1), (102, .getfield 12, 3), (105, .getfield 78, 3), (108, .iload_n 2, 1), (109, .aload_n 0, 1), (110, .getfield 36, 3), (113, .invokevirtual 82, 3), (116, .aload_n 0, 1), (117, .getfield 12, 3), (120, .aload_n 0, 1), (121, .getfield 29, 3), (124, .getfield 86, 3), (127, .putfield 65, 3), (130, .aload_n 0, 1), (131, .getfield 12, 3), (134, .aload_n 0, 1), (135, .getfield 29, 3), (138, .getfield 87, 3), (141, .putfield 68, 3), (144, .aload_n 0, 1), (145, .getfield 12, 3), (148, .getfield 65, 3), (151, .ifCond .eq 5, 3), (154, .iconst (-1), 1), (155, .ireturn, 1), (156, .aload_n 0, 1), (157, .getfield 12, 3), (160, .getfield 88, 3), (163, .iload_n 3, 1), (164, .aaload, 1), (165, .aload_n 0, 1), (166, .getfield 36, 3), (169, .invokevirtual 92, 3), (172, .aload_n 0, 1), (173, .iload_n 3, 1), (174, .invokevirtual 96, 3), (177, .aload_n 0, 1), (178, .getfield 36, 3), (181, .invokevirtual 100, 3), (184, .iload_n 3, 1), (185, .aload_n 0, 1), (186, .getfield 12, 3), (189, .getfield 71, 3), (192, .if_icmp .ne 16, 3), (195, .aload_n 0, 1), (196, .getfield 12, 3), (199, .dup, 1), (200, .getfield 71, 3)]
def m_c10_2 : List m_I := [(203, .iconst 1, 1), (204, .iadd, 1), (205, .putfield 71, 3), (208, .iload_n 3, 1), (209, .ireturn, 1)]
def m_c10 : List m_I := m_c10_0 ++ (m_c10_1 ++ (m_c10_2))
def m_c11 : List m_I := [(0, .iload_n 1, 1), (1, .ifCond .lt 23, 3), (4, .iload_n 1, 1), (5, .aload_n 0, 1), (6, .getfield 12, 3), (9, .getfield 71, 3), (12, .if_icmp .ge 12, 3), (15, .iload_n 1, 1), (16, .iconst 4, 1), (17, .if_icmp .ge 7, 3), (20, .iconst 1, 1), (21, .goto 4, 3), (24, .iconst 0, 1), (25, .ireturn, 1)]
def m_c12 : List m_I := [(0, .aload_n 0, 1), (1, .aload_n 1, 1), (2, .putfield 9, 3), (5, .aload_n 0, 1), (6, .iload_n 2, 1), (7, .aload_n 1, 1), (8, .arraylength, 1), (9, .invokestatic 15, 3), (12, .putfield 21, 3), (15, .aload_n 0, 1), (16, .iconst 0, 1), (17, .putfield 25, 3), (20, .aload_n 0, 1), (21, .iconst 0, 1), (22, .putfield 28, 3), (25, .aload_n 0, 1), (26, .iconst 0, 1), (27, .putfield 31, 3), (30, .aload_n 0, 1), (31, .iconst (-1), 1), (32, .putfield 34, 3), (35, .aload_n 3, 1), (36, .invokevirtual 37, 3), (39, .iconst 1, 1), (40, .istore 4, 2), (42, .iconst 0, 1), (43, .istore 5, 2), (45, .iload 4, 2), (47, .ifCond .eq 24, 3), (50, .iload 5, 2), (52, .sipush 600, 3), (55, .if_icmp .gt 16, 3), (58, .aload_n 0, 1), (59, .aload_n 3, 1), (60, .invokevirtual 42, 3), (63, .istore 4, 2), (65, .iinc 5 1, 3), (68, .goto (-23), 3), (71, .aload_n 0, 1), (72, .getfield 28, 3), (75, .ifCond .ne 12, 3), (78, .aload_n 0, 1), (79, .iconst 4, 1), (80, .aload_n 0, 1), (81, .getfield 21, 3), (84, .invokevirtual 46, 3), (87, .return_, 1)]
def m_c13 : List m_I := [(0, .iload_n 0, 1), (1, .iload_n 1, 1), (2, .if_icmp .gt 7, 3), (5, .iload_n 0, 1), (6, .goto 4, 3), (9, .iload_n 1, 1), (10, .ireturn, 1)]
def m_c14 : List m_I := [(0, .aload_n 0, 1), (1, .iconst 0, 1), (2, .putfield 18, 3), (5, .return_, 1)]
def m_c15_0 : List m_I := [(0, .aload_n 0, 1), (1, .invokevirtual 50, 3), (4, .aload_n 0, 1), (5, .getfield 53, 3), (8, .ifCond .ne 5, 3), (11, .iconst 0, 1), (12, .ireturn, 1), (13, .aload_n 0, 1), (14, .getfield 53, 3), (17, .iconst 1, 1), (18, .if_icmp .ne 11, 3), (21, .aload_n 0, 1), (22, .getfield 56, 3), (25, .iconst (-1), 1), (26, .if_icmp .ne 8, 3), (29, .aload_n 0, 1), (30, .invokevirtual 59, 3), (33, .ireturn, 1), (34, .aload_n 0, 1), (35, .getfield 56, 3), (38, .istore_n 2, 1), (39, .aload_n 0, 1), (40, .getfield 28, 3), (43, .bipush 40, 2), (45, .if_icmp .lt 7, 3), (48, .iconst 1, 1), (49, .goto 4, 3), (52, .iconst 0, 1), (53, .istore_n 3, 1), (54, .aload_n 0, 1), (55, .dup, 1), (56, .getfield 28, 3), (59, .iconst 1, 1), (60, .iadd, 1), (61, .putfield 28, 3), (64, .iload_n 3, 1), (65, .ifCond .eq 15, 3), (68, .aload_n 0, 1), (69, .iconst 3, 1), (70, .aload_n 0, 1), (71, .getfield 63, 3), (74, .invokevirtual 46, 3), (77, .goto 8, 3), (80, .aload_n 1, 1), (81, .iload_n 2, 1), (82, .invokevirtual 66, 3), (85, .iconst 0, 1), (86, .istore 4, 2), (88, .iload 4, 2), (90, .iconst 3, 1)]
def m_c15_1 : List m_I := [(91, .if_icmp .ge 80, 3), (94, .getstatic 70, 3), (97, .iload_n 2, 1), (98, .iconst 3, 1), (99, .imul, 1), (100, .iload 4, 2), (102, .iadd, 1), (103, .iaload, 1), (104, .iconst (-1), 1), (105, .if_icmp .eq 66, 3), (108, .aload_n 0, 1), (109, .invokevirtual 50, 3), (112, .aload_n 0, 1), (113, .getfield 53, 3), (116, .iconst 2, 1), (117, .if_icmp .eq 8, 3), (120, .aload_n 0, 1), (121, .invokevirtual 59, 3), (124, .ireturn, 1), (125, .aload_n 0, 1), (126, .getfield 56, 3), (129, .getstatic 70, 3), (132, .iload_n 2, 1), (133, .iconst 3, 1), (134, .imul, 1), (135, .iload 4, 2), (137, .iadd, 1), (138, .iaload, 1), (139, .if_icmp .le 12, 3), (142, .aload_n 0, 1), (143, .iconst 2, 1), (144, .aload_n 0, 1), (145, .getfield 63, 3), (148, .invokevirtual 46, 3), (151, .iload_n 3, 1), (152, .ifCond .ne 13, 3), (155, .aload_n 1, 1), (156, .iload 4, 2), (158, .aload_n 0, 1), (159, .getfield 56, 3), (162, .invokevirtual 74, 3), (165, .iinc 4 1, 3), (168, .goto (-80), 3), (171, .aload_n 0, 1), (172, .invokevirtual 50, 3), (175, .aload_n 0, 1), (176, .getfield 53, 3), (179, .iconst 3, 1), (180, .if_icmp .eq 10, 3), (183, .aload_n 0, 1)]
def m_c15_2 : List m_I := [(184, .invokevirtual 59, 3), (187, .ifCond .eq 7, 3), (190, .iconst 1, 1), (191, .goto 4, 3), (194, .iconst 0, 1), (195, .ireturn, 1)]
def m_c15 : List m_I := m_c15_0 ++ (m_c15_1 ++ (m_c15_2))
def m_c16_0 : List m_I := [(0, .aload_n 0, 1), (1, .aload_n 0, 1), (2, .getfield 25, 3), (5, .putfield 63, 3), (8, .aload_n 0, 1), (9, .getfield 63, 3), (12, .aload_n 0, 1), (13, .getfield 21, 3), (16, .if_icmp .ge 44, 3), (19, .aload_n 0, 1), (20, .getfield 9, 3), (23, .aload_n 0, 1), (24, .getfield 63, 3), (27, .baload, 1), (28, .bipush 10, 2), (30, .if_icmp .eq 17, 3), (33, .aload_n 0, 1), (34, .getfield 9, 3), (37, .aload_n 0, 1), (38, .getfield 63, 3), (41, .baload, 1), (42, .bipush 32, 2), (44, .if_icmp .ne 16, 3), (47, .aload_n 0, 1), (48, .dup, 1), (49, .getfield 63, 3), (52, .iconst 1, 1), (53, .iadd, 1), (54, .putfield 63, 3), (57, .goto (-49), 3), (60, .aload_n 0, 1), (61, .aload_n 0, 1), (62, .getfield 63, 3), (65, .putfield 25, 3), (68, .aload_n 0, 1), (69, .iconst (-1), 1), (70, .putfield 56, 3), (73, .aload_n 0, 1), (74, .getfield 63, 3), (77, .aload_n 0, 1), (78, .getfield 21, 3), (81, .if_icmp .lt 11, 3), (84, .aload_n 0, 1), (85, .iconst 0, 1), (86, .putfield 53, 3), (89, .goto 80, 3), (92, .aload_n 0, 1), (93, .getfield 9, 3), (96, .aload_n 0, 1), (97, .getfield 63, 3)]
def m_c16_1 : List m_I := [(100, .baload, 1), (101, .invokestatic 77, 3), (104, .ifCond .eq 10, 3), (107, .aload_n 0, 1), (108, .invokevirtual 81, 3), (111, .goto 58, 3), (114, .aload_n 0, 1), (115, .getfield 9, 3), (118, .aload_n 0, 1), (119, .getfield 63, 3), (122, .baload, 1), (123, .invokestatic 84, 3), (126, .ifCond .eq 10, 3), (129, .aload_n 0, 1), (130, .invokevirtual 87, 3), (133, .goto 36, 3), (136, .aload_n 0, 1), (137, .aload_n 0, 1), (138, .getfield 63, 3), (141, .iconst 1, 1), (142, .iadd, 1), (143, .putfield 25, 3), (146, .aload_n 0, 1), (147, .aload_n 0, 1), (148, .getfield 9, 3), (151, .aload_n 0, 1), (152, .getfield 63, 3), (155, .baload, 1), (156, .bipush 59, 2), (158, .if_icmp .ne 7, 3), (161, .iconst 3, 1), (162, .goto 4, 3), (165, .iconst 4, 1), (166, .putfield 53, 3), (169, .return_, 1)]
def m_c16 : List m_I := m_c16_0 ++ (m_c16_1)
def m_c17 : List m_I := [(0, .iload_n 0, 1), (1, .bipush 97, 2), (3, .if_icmp .lt 13, 3), (6, .iload_n 0, 1), (7, .bipush 122, 2), (9, .if_icmp .gt 7, 3), (12, .iconst 1, 1), (13, .goto 4, 3), (16, .iconst 0, 1), (17, .ireturn, 1)]
def m_c18 : List m_I := [(0, .aload_n 0, 1), (1, .getfield 25, 3), (4, .aload_n 0, 1), (5, .getfield 21, 3), (8, .if_icmp .ge 31, 3), (11, .aload_n 0, 1), (12, .getfield 9, 3), (15, .aload_n 0, 1), (16, .getfield 25, 3), (19, .baload, 1), (20, .invokestatic 77, 3), (23, .ifCond .eq 16, 3), (26, .aload_n 0, 1), (27, .dup, 1), (28, .getfield 25, 3), (31, .iconst 1, 1), (32, .iadd, 1), (33, .putfield 25, 3), (36, .goto (-36), 3), (39, .aload_n 0, 1), (40, .iconst 1, 1), (41, .putfield 53, 3), (44, .iconst 0, 1), (45, .istore_n 1, 1), (46, .iload_n 1, 1), (47, .bipush 6, 2), (49, .if_icmp .ge 25, 3), (52, .aload_n 0, 1), (53, .iload_n 1, 1), (54, .invokestatic 90, 3), (57, .invokevirtual 94, 3), (60, .ifCond .eq 8, 3), (63, .aload_n 0, 1), (64, .iload_n 1, 1), (65, .putfield 56, 3), (68, .iinc 1 1, 3), (71, .goto (-25), 3), (74, .return_, 1)]
def m_c19 : List m_I := [(0, .iload_n 0, 1), (1, .tableswitch 50 0 4 #[35, 38, 41, 44, 47], 35), (36, .ldc 108, 2), (38, .areturn, 1), (39, .ldc 110, 2), (41, .areturn, 1), (42, .ldc 112, 2), (44, .areturn, 1), (45, .ldc 114, 2), (47, .areturn, 1), (48, .ldc 116, 2), (50, .areturn, 1), (51, .ldc 118, 2), (53, .areturn, 1)]
def m_c20 : List m_I := [(0, .aload_n 1, 1), (1, .invokevirtual 98, 3), (4, .aload_n 0, 1), (5, .getfield 25, 3), (8, .aload_n 0, 1), (9, .getfield 63, 3), (12, .isub, 1), (13, .if_icmp .ne 7, 3), (16, .iconst 1, 1), (17, .goto 4, 3), (20, .iconst 0, 1), (21, .istore_n 2, 1), (22, .iconst 0, 1), (23, .istore_n 3, 1), (24, .iload_n 2, 1), (25, .ifCond .eq 42, 3), (28, .iload_n 3, 1), (29, .aload_n 1, 1), (30, .invokevirtual 98, 3), (33, .if_icmp .ge 34, 3), (36, .aload_n 0, 1), (37, .getfield 9, 3), (40, .aload_n 0, 1), (41, .getfield 63, 3), (44, .iload_n 3, 1), (45, .iadd, 1), (46, .baload, 1), (47, .aload_n 1, 1), (48, .iload_n 3, 1), (49, .invokevirtual 104, 3), (52, .if_icmp .ne 7, 3), (55, .iconst 1, 1), (56, .goto 4, 3), (59, .iconst 0, 1), (60, .istore_n 2, 1), (61, .iinc 3 1, 3), (64, .goto (-40), 3), (67, .iload_n 2, 1), (68, .ireturn, 1)]
def m_c21 : List m_I := [(0, .aload_n 0, 1), (1, .getfield 9, 3), (4, .arraylength, 1), (5, .aload_n 0, 1), (6, .invokevirtual 335, 3), (9, .ishr, 1), (10, .ireturn, 1)]
def m_c22 : List m_I := [(0, .getstatic 38, 3), (3, .ifCond .eq 10, 3), (6, .aload_n 0, 1), (7, .getfield 15, 3), (10, .goto 4, 3), (13, .iconst 1, 1), (14, .ireturn, 1)]
def m_c23 : List m_I := [(0, .aload_n 0, 1), (1, .invokevirtual 492, 3), (4, .ifCond .eq 12, 3), (7, .aload_n 0, 1), (8, .getfield 9, 3), (11, .iload_n 1, 1), (12, .invokestatic 495, 3), (15, .ireturn, 1), (16, .aload_n 0, 1), (17, .getfield 9, 3), (20, .iload_n 1, 1), (21, .invokestatic 498, 3), (24, .ireturn, 1)]
def m_c24 : List m_I := [(0, .getstatic 38, 3), (3, .ifCond .eq 14, 3), (6, .aload_n 0, 1), (7, .getfield 15, 3), (10, .ifCond .ne 7, 3), (13, .iconst 1, 1), (14, .goto 4, 3), (17, .iconst 0, 1), (18, .ireturn, 1)]
def m_c25 : List m_I := [(0, .iload_n 1, 1), (1, .aload_n 0, 1), (2, .arraylength, 1), (3, .invokestatic 9, 3), (6, .aload_n 0, 1), (7, .iload_n 1, 1), (8, .baload, 1), (9, .sipush 255, 3), (12, .iand, 1), (13, .i2c, 1), (14, .ireturn, 1)]
def m_c26 : List m_I := [(0, .iload_n 0, 1), (1, .iload_n 1, 1), (2, .getstatic 1053, 3), (5, .invokestatic 1059, 3), (8, .pop, 1), (9, .return_, 1)]
def m_c27 : List m_I := [(0, .iload_n 0, 1), (1, .ifCond .lt 8, 3), (4, .iload_n 0, 1), (5, .iload_n 1, 1), (6, .if_icmp .lt 10, 3), (9, .aload_n 2, 1), (10, .iload_n 0, 1), (11, .iload_n 1, 1), (12, .invokestatic 95, 3), (15, .athrow, 1), (16, .iload_n 0, 1), (17, .ireturn, 1)]
def m_c28 : List m_I := [(0, .iload_n 1, 1), (1, .aload_n 0, 1), (2, .invokestatic 67, 3), (5, .aload_n 0, 1), (6, .iload_n 1, 1), (7, .invokestatic 71, 3), (10, .ireturn, 1)]
def m_c29 : List m_I := [(0, .iload_n 0, 1), (1, .aload_n 1, 1), (2, .invokestatic 48, 3), (5, .invokestatic 414, 3), (8, .return_, 1)]
def m_c30 : List m_I := [(0, .aload_n 0, 1), (1, .arraylength, 1), (2, .iconst 1, 1), (3, .ishr, 1), (4, .ireturn, 1)]
def m_c31 : List m_I := [(0, .getstatic 44, 3), (3, .ifCond .ne 25, 3), (6, .iload_n 1, 1), (7, .ifCond .lt 11, 3), (10, .iload_n 1, 1), (11, .aload_n 0, 1), (12, .invokestatic 48, 3), (15, .if_icmp .lt 13, 3), (18, .new 52, 3), (21, .dup, 1), (22, .ldc 54, 2), (24, .invokespecial 56, 3), (27, .athrow, 1), (28, .iload_n 1, 1), (29, .iconst 1, 1), (30, .ishl, 1), (31, .istore_n 1, 1), (32, .aload_n 0, 1), (33, .iload_n 1, 1), (34, .iinc 1 1, 3), (37, .baload, 1), (38, .sipush 255, 3), (41, .iand, 1), (42, .getstatic 59, 3), (45, .ishl, 1), (46, .aload_n 0, 1), (47, .iload_n 1, 1), (48, .baload, 1), (49, .sipush 255, 3), (52, .iand, 1), (53, .getstatic 63, 3), (56, .ishl, 1), (57, .ior, 1), (58, .i2c, 1), (59, .ireturn, 1)]
def m_c32 : List m_I := [(0, .iload_n 0, 1), (1, .bipush 48, 2), (3, .if_icmp .lt 13, 3), (6, .iload_n 0, 1), (7, .bipush 57, 2), (9, .if_icmp .gt 7, 3), (12, .iconst 1, 1), (13, .goto 4, 3), (16, .iconst 0, 1), (17, .ireturn, 1)]
def m_c33 : List m_I := [(0, .aload_n 0, 1), (1, .iconst 0, 1), (2, .putfield 56, 3), (5, .aload_n 0, 1), (6, .getfield 25, 3), (9, .aload_n 0, 1), (10, .getfield 21, 3), (13, .if_icmp .ge 55, 3), (16, .aload_n 0, 1), (17, .getfield 9, 3), (20, .aload_n 0, 1), (21, .getfield 25, 3), (24, .baload, 1), (25, .invokestatic 84, 3), (28, .ifCond .eq 40, 3), (31, .aload_n 0, 1), (32, .aload_n 0, 1), (33, .getfield 56, 3), (36, .bipush 10, 2), (38, .imul, 1), (39, .aload_n 0, 1), (40, .getfield 9, 3), (43, .aload_n 0, 1), (44, .getfield 25, 3), (47, .baload, 1), (48, .iadd, 1), (49, .bipush 48, 2), (51, .isub, 1), (52, .putfield 56, 3), (55, .aload_n 0, 1), (56, .dup, 1), (57, .getfield 25, 3), (60, .iconst 1, 1), (61, .iadd, 1), (62, .putfield 25, 3), (65, .goto (-60), 3), (68, .aload_n 0, 1), (69, .aload_n 0, 1), (70, .getfield 25, 3), (73, .aload_n 0, 1), (74, .getfield 63, 3), (77, .isub, 1), (78, .iconst 2, 1), (79, .if_icmp .gt 7, 3), (82, .iconst 2, 1), (83, .goto 4, 3), (86, .iconst 4, 1), (87, .putfield 53, 3), (90, .return_, 1)]
def m_c34 : List m_I := [(0, .aload_n 0, 1), (1, .iconst 1, 1), (2, .putfield 31, 3), (5, .aload_n 0, 1), (6, .aload_n 0, 1), (7, .getfield 63, 3), (10, .putfield 34, 3), (13, .iconst 0, 1), (14, .ireturn, 1)]
def m_c35 : List m_I := [(0, .aload_n 0, 1), (1, .getfield 31, 3), (4, .ifCond .ne 13, 3), (7, .aload_n 0, 1), (8, .iload_n 1, 1), (9, .putfield 31, 3), (12, .aload_n 0, 1), (13, .iload_n 2, 1), (14, .putfield 34, 3), (17, .return_, 1)]
def m_c36 : List m_I := [(0, .aload_n 0, 1), (1, .getfield 18, 3), (4, .bipush 40, 2), (6, .if_icmp .ge 45, 3), (9, .aload_n 0, 1), (10, .getfield 9, 3), (13, .aload_n 0, 1), (14, .getfield 18, 3), (17, .iload_n 1, 1), (18, .iastore, 1), (19, .aload_n 0, 1), (20, .getfield 15, 3), (23, .aload_n 0, 1), (24, .getfield 18, 3), (27, .iconst 3, 1), (28, .imul, 1), (29, .aload_n 0, 1), (30, .getfield 18, 3), (33, .iconst 3, 1), (34, .imul, 1), (35, .iconst 3, 1), (36, .iadd, 1), (37, .iconst (-1), 1), (38, .invokestatic 22, 3), (41, .aload_n 0, 1), (42, .dup, 1), (43, .getfield 18, 3), (46, .iconst 1, 1), (47, .iadd, 1), (48, .putfield 18, 3), (51, .return_, 1)]
def m_c37 : List m_I := [(0, .aload_n 0, 1), (1, .arraylength, 1), (2, .iload_n 1, 1), (3, .iload_n 2, 1), (4, .invokestatic 13, 3), (7, .iload_n 1, 1), (8, .istore 4, 2), (10, .iload 4, 2), (12, .iload_n 2, 1), (13, .if_icmp .ge 14, 3), (16, .aload_n 0, 1), (17, .iload 4, 2), (19, .iload_n 3, 1), (20, .iastore, 1), (21, .iinc 4 1, 3), (24, .goto (-14), 3), (27, .return_, 1)]
def m_c38 : List m_I := [(0, .iload_n 1, 1), (1, .iload_n 2, 1), (2, .if_icmp .le 44, 3), (5, .new 43, 3), (8, .dup, 1), (9, .new 45, 3), (12, .dup, 1), (13, .invokespecial 47, 3), (16, .ldc 48, 2), (18, .invokevirtual 50, 3), (21, .iload_n 1, 1), (22, .invokevirtual 54, 3), (25, .ldc 57, 2), (27, .invokevirtual 50, 3), (30, .iload_n 2, 1), (31, .invokevirtual 54, 3), (34, .ldc 59, 2), (36, .invokevirtual 50, 3), (39, .invokevirtual 61, 3), (42, .invokespecial 65, 3), (45, .athrow, 1), (46, .iload_n 1, 1), (47, .ifCond .ge 12, 3), (50, .new 68, 3), (53, .dup, 1), (54, .iload_n 1, 1), (55, .invokespecial 70, 3), (58, .athrow, 1), (59, .iload_n 2, 1), (60, .iload_n 0, 1), (61, .if_icmp .le 12, 3), (64, .new 68, 3), (67, .dup, 1), (68, .iload_n 2, 1), (69, .invokespecial 70, 3), (72, .athrow, 1), (73, .return_, 1)]
def m_c39 : List m_I := [(0, .aload_n 0, 1), (1, .getfield 18, 3), (4, .ifCond .le 28, 3), (7, .iload_n 1, 1), (8, .ifCond .lt 24, 3), (11, .iload_n 1, 1), (12, .iconst 3, 1), (13, .if_icmp .ge 19, 3), (16, .aload_n 0, 1), (17, .getfield 15, 3), (20, .aload_n 0, 1), (21, .getfield 18, 3), (24, .iconst 1, 1), (25, .isub, 1), (26, .iconst 3, 1), (27, .imul, 1), (28, .iload_n 1, 1), (29, .iadd, 1), (30, .iload_n 2, 1), (31, .iastore, 1), (32, .return_, 1)]
def m_c40 : List m_I := [(0, .aload_n 0, 1), (1, .aload_n 1, 1), (2, .getfield 18, 3), (5, .putfield 18, 3), (8, .aload_n 1, 1), (9, .getfield 9, 3), (12, .iconst 0, 1), (13, .aload_n 0, 1), (14, .getfield 9, 3), (17, .iconst 0, 1), (18, .bipush 40, 2), (20, .invokestatic 28, 3), (23, .aload_n 1, 1), (24, .getfield 15, 3), (27, .iconst 0, 1), (28, .aload_n 0, 1), (29, .getfield 15, 3), (32, .iconst 0, 1), (33, .bipush 120, 2), (35, .invokestatic 28, 3), (38, .return_, 1)]
def m_c41 : List m_I := [(0, .aload_n 0, 1), (1, .getfield 22, 3), (4, .iload_n 1, 1), (5, .aaload, 1), (6, .ifnonnull 16, 3), (9, .aload_n 0, 1), (10, .getfield 22, 3), (13, .iload_n 1, 1), (14, .new 20, 3), (17, .dup, 1), (18, .invokespecial 333, 3), (21, .aastore, 1), (22, .aload_n 0, 1), (23, .getfield 22, 3), (26, .iload_n 1, 1), (27, .aaload, 1), (28, .areturn, 1)]
def m_c42 : List m_I := [(0, .aload_n 0, 1), (1, .invokespecial 3, 3), (4, .aload_n 0, 1), (5, .new 9, 3), (8, .dup, 1), (9, .invokespecial 11, 3), (12, .putfield 12, 3), (15, .aload_n 0, 1), (16, .new 18, 3), (19, .dup, 1), (20, .invokespecial 20, 3), (23, .putfield 21, 3), (26, .aload_n 0, 1), (27, .bipush 41, 2), (29, .bipush 6, 2), (31, .multianewarray 25 2, 4), (35, .putfield 27, 3), (38, .aload_n 0, 1), (39, .bipush 41, 2), (41, .newarray .int, 2), (43, .putfield 30, 3), (46, .aload_n 0, 1), (47, .bipush 40, 2), (49, .newarray .int, 2), (51, .putfield 34, 3), (54, .aload_n 0, 1), (55, .bipush 40, 2), (57, .newarray .int, 2), (59, .putfield 37, 3), (62, .aload_n 0, 1), (63, .bipush 40, 2), (65, .newarray .int, 2), (67, .putfield 40, 3), (70, .aload_n 0, 1), (71, .bipush 6, 2), (73, .newarray .int, 2), (75, .putfield 43, 3), (78, .aload_n 0, 1), (79, .bipush 6, 2), (81, .newarray .int, 2), (83, .putfield 46, 3), (86, .aload_n 0, 1), (87, .iconst 5, 1), (88, .newarray .int, 2), (90, .putfield 49, 3), (93, .aload_n 0, 1), (94, .iconst 5, 1), (95, .newarray .int, 2), (97, .putfield 52, 3), (100, .return_, 1)]
def m_c43 : List m_I := [(0, .aload_n 0, 1), (1, .invokespecial 5, 3), (4, .aload_n 0, 1), (5, .sipush 448, 3), (8, .newarray .int, 2), (10, .putfield 11, 3), (13, .aload_n 0, 1), (14, .bipush 64, 2), (16, .newarray .long, 2), (18, .putfield 15, 3), (21, .aload_n 0, 1), (22, .bipush 6, 2), (24, .newarray .int, 2), (26, .putfield 19, 3), (29, .aload_n 0, 1), (30, .bipush 6, 2), (32, .newarray .int, 2), (34, .putfield 22, 3), (37, .aload_n 0, 1), (38, .new 25, 3), (41, .dup, 1), (42, .invokespecial 27, 3), (45, .putfield 28, 3), (48, .return_, 1)]
def m_c44 : List m_I := [(0, .aload_n 0, 1), (1, .invokespecial 3, 3), (4, .aload_n 0, 1), (5, .bipush 41, 2), (7, .newarray .int, 2), (9, .putfield 9, 3), (12, .aload_n 0, 1), (13, .bipush 41, 2), (15, .newarray .int, 2), (17, .putfield 15, 3), (20, .aload_n 0, 1), (21, .bipush 41, 2), (23, .newarray .long, 2), (25, .putfield 18, 3), (28, .aload_n 0, 1), (29, .bipush 41, 2), (31, .newarray .long, 2), (33, .putfield 22, 3), (36, .return_, 1)]
def m_c45_0 : List m_I := [(0, .aload_n 0, 1), (1, .getfield 12, 3), (4, .iconst 0, 1), (5, .invokevirtual 76, 3), (8, .aload_n 0, 1), (9, .iconst 0, 1), (10, .putfield 80, 3), (13, .aload_n 0, 1), (14, .iconst 0, 1), (15, .putfield 55, 3), (18, .aload_n 0, 1), (19, .getfield 43, 3), (22, .iconst (-1), 1), (23, .invokestatic 83, 3), (26, .aload_n 0, 1), (27, .invokevirtual 89, 3), (30, .aload_n 0, 1), (31, .getfield 21, 3), (34, .iconst 0, 1), (35, .iconst (-1), 1), (36, .iconst (-1), 1), (37, .invokevirtual 92, 3), (40, .iconst 1, 1), (41, .istore_n 2, 1), (42, .iconst 0, 1), (43, .istore_n 3, 1), (44, .iload_n 2, 1), (45, .ifCond .eq 80, 3), (48, .iload_n 3, 1), (49, .aload_n 1, 1), (50, .getfield 96, 3), (53, .if_icmp .ge 72, 3), (56, .iload_n 3, 1), (57, .bipush 40, 2), (59, .if_icmp .ge 66, 3), (62, .aload_n 0, 1), (63, .getfield 12, 3), (66, .getfield 101, 3), (69, .istore 4, 2), (71, .aload_n 0, 1), (72, .getfield 12, 3), (75, .iconst 0, 1), (76, .putfield 103, 3), (79, .aload_n 0, 1), (80, .aload_n 1, 1), (81, .iload_n 3, 1), (82, .invokevirtual 105, 3), (85, .aload_n 1, 1), (86, .iload_n 3, 1), (87, .iconst 0, 1)]
def m_c45_1 : List m_I := [(88, .invokevirtual 108, 3), (91, .aload_n 1, 1), (92, .iload_n 3, 1), (93, .iconst 1, 1), (94, .invokevirtual 108, 3), (97, .aload_n 1, 1), (98, .iload_n 3, 1), (99, .iconst 2, 1), (100, .invokevirtual 108, 3), (103, .invokevirtual 112, 3), (106, .istore_n 2, 1), (107, .iload_n 2, 1), (108, .ifCond .eq 11, 3), (111, .aload_n 0, 1), (112, .aload_n 1, 1), (113, .iload_n 3, 1), (114, .iload 4, 2), (116, .invokevirtual 116, 3), (119, .iinc 3 1, 3), (122, .goto (-78), 3), (125, .iconst 0, 1), (126, .istore_n 3, 1), (127, .iload_n 3, 1), (128, .aload_n 0, 1), (129, .getfield 55, 3), (132, .if_icmp .gt 14, 3), (135, .aload_n 0, 1), (136, .iload_n 3, 1), (137, .invokevirtual 120, 3), (140, .iinc 3 1, 3), (143, .goto (-16), 3), (146, .return_, 1)]
def m_c45 : List m_I := m_c45_0 ++ (m_c45_1)
def m_c46 : List m_I := [(0, .aload_n 0, 1), (1, .iconst 0, 1), (2, .aload_n 0, 1), (3, .getfield 32, 3), (6, .iload_n 1, 1), (7, .invokestatic 36, 3), (10, .invokestatic 42, 3), (13, .putfield 32, 3), (16, .aload_n 0, 1), (17, .iconst 0, 1), (18, .putfield 45, 3), (21, .return_, 1)]
def m_c47 : List m_I := [(0, .iload_n 0, 1), (1, .iload_n 1, 1), (2, .if_icmp .lt 7, 3), (5, .iload_n 0, 1), (6, .goto 4, 3), (9, .iload_n 1, 1), (10, .ireturn, 1)]
def m_c48 : List m_I := [(0, .iconst 0, 1), (1, .istore_n 2, 1), (2, .aload_n 0, 1), (3, .arraylength, 1), (4, .istore_n 3, 1), (5, .iload_n 2, 1), (6, .iload_n 3, 1), (7, .if_icmp .ge 13, 3), (10, .aload_n 0, 1), (11, .iload_n 2, 1), (12, .iload_n 1, 1), (13, .iastore, 1), (14, .iinc 2 1, 3), (17, .goto (-12), 3), (20, .return_, 1)]
def m_c49 : List m_I := [(0, .aload_n 0, 1), (1, .getfield 43, 3), (4, .iconst 0, 1), (5, .aload_n 0, 1), (6, .getfield 27, 3), (9, .aload_n 0, 1), (10, .getfield 55, 3), (13, .aaload, 1), (14, .iconst 0, 1), (15, .bipush 6, 2), (17, .invokestatic 148, 3), (20, .aload_n 0, 1), (21, .getfield 30, 3), (24, .aload_n 0, 1), (25, .getfield 55, 3), (28, .aload_n 0, 1), (29, .invokevirtual 141, 3), (32, .iastore, 1), (33, .return_, 1)]
def m_c50 : List m_I := [(0, .iconst 0, 1), (1, .istore_n 1, 1), (2, .iconst 0, 1), (3, .istore_n 2, 1), (4, .iload_n 2, 1), (5, .bipush 6, 2), (7, .if_icmp .ge 25, 3), (10, .aload_n 0, 1), (11, .getfield 43, 3), (14, .iload_n 2, 1), (15, .iaload, 1), (16, .iconst (-1), 1), (17, .if_icmp .eq 9, 3), (20, .iload_n 1, 1), (21, .iconst 1, 1), (22, .iload_n 2, 1), (23, .ishl, 1), (24, .iadd, 1), (25, .istore_n 1, 1), (26, .iinc 2 1, 3), (29, .goto (-25), 3), (32, .iload_n 1, 1), (33, .ireturn, 1)]
def m_c51 : List m_I := [(0, .iload_n 1, 1), (1, .ifCond .lt 63, 3), (4, .iload_n 1, 1), (5, .bipush 41, 2), (7, .if_icmp .ge 57, 3), (10, .aload_n 0, 1), (11, .getfield 9, 3), (14, .iload_n 1, 1), (15, .iload_n 2, 1), (16, .iload_n 1, 1), (17, .if_icmp .ge 7, 3), (20, .iload_n 2, 1), (21, .goto 4, 3), (24, .iconst (-1), 1), (25, .iastore, 1), (26, .aload_n 0, 1), (27, .getfield 15, 3), (30, .iload_n 1, 1), (31, .iload_n 3, 1), (32, .iload_n 1, 1), (33, .if_icmp .ge 7, 3), (36, .iload_n 3, 1), (37, .goto 4, 3), (40, .iconst (-1), 1), (41, .iastore, 1), (42, .aload_n 0, 1), (43, .getfield 18, 3), (46, .iload_n 1, 1), (47, .iload_n 1, 1), (48, .invokestatic 25, 3), (51, .aload_n 0, 1), (52, .iload_n 2, 1), (53, .invokevirtual 29, 3), (56, .lor, 1), (57, .aload_n 0, 1), (58, .iload_n 3, 1), (59, .invokevirtual 29, 3), (62, .lor, 1), (63, .lastore, 1), (64, .return_, 1)]
def m_c52 : List m_I := [(0, .lconst 1, 1), (1, .iload_n 0, 1), (2, .lshl, 1), (3, .lreturn, 1)]
def m_c53 : List m_I := [(0, .iload_n 1, 1), (1, .ifCond .lt 18, 3), (4, .iload_n 1, 1), (5, .bipush 41, 2), (7, .if_icmp .ge 12, 3), (10, .aload_n 0, 1), (11, .getfield 18, 3), (14, .iload_n 1, 1), (15, .laload, 1), (16, .goto 4, 3), (19, .lconst 0, 1), (20, .lreturn, 1)]
def m_c54 : List m_I := [(0, .iload_n 1, 1), (1, .ifCond .lt 20, 3), (4, .iload_n 1, 1), (5, .aload_n 0, 1), (6, .getfield 18, 3), (9, .if_icmp .ge 12, 3), (12, .aload_n 0, 1), (13, .getfield 9, 3), (16, .iload_n 1, 1), (17, .iaload, 1), (18, .goto 4, 3), (21, .iconst (-1), 1), (22, .ireturn, 1)]
def m_c55 : List m_I := [(0, .iload_n 1, 1), (1, .ifCond .lt 33, 3), (4, .iload_n 1, 1), (5, .aload_n 0, 1), (6, .getfield 18, 3), (9, .if_icmp .ge 25, 3), (12, .iload_n 2, 1), (13, .ifCond .lt 21, 3), (16, .iload_n 2, 1), (17, .iconst 3, 1), (18, .if_icmp .ge 16, 3), (21, .aload_n 0, 1), (22, .getfield 15, 3), (25, .iload_n 1, 1), (26, .iconst 3, 1), (27, .imul, 1), (28, .iload_n 2, 1), (29, .iadd, 1), (30, .iaload, 1), (31, .goto 4, 3), (34, .iconst (-1), 1), (35, .ireturn, 1)]
def m_c56_0 : List m_I := [(0, .iload_n 1, 1), (1, .ifCond .ne 13, 3), (4, .aload_n 0, 1), (5, .getfield 43, 3), (8, .iconst (-1), 1), (9, .invokestatic 83, 3), (12, .iconst 1, 1), (13, .ireturn, 1), (14, .aload_n 0, 1), (15, .iload_n 2, 1), (16, .invokevirtual 63, 3), (19, .ifCond .ne 5, 3), (22, .iconst 0, 1), (23, .ireturn, 1), (24, .aload_n 0, 1), (25, .iload_n 2, 1), (26, .aload_n 0, 1), (27, .getfield 43, 3), (30, .invokevirtual 154, 3), (33, .iload_n 1, 1), (34, .tableswitch 118 1 5 #[34, 40, 46, 58, 73], 34), (68, .aload_n 0, 1), (69, .iload_n 3, 1), (70, .invokevirtual 158, 3), (73, .ireturn, 1), (74, .aload_n 0, 1), (75, .iload_n 3, 1), (76, .invokevirtual 161, 3), (79, .ireturn, 1), (80, .aload_n 0, 1), (81, .getfield 12, 3), (84, .aload_n 0, 1), (85, .getfield 43, 3), (88, .invokevirtual 164, 3), (91, .ireturn, 1), (92, .aload_n 0, 1), (93, .getfield 12, 3), (96, .aload_n 0, 1), (97, .getfield 43, 3), (100, .iload_n 3, 1), (101, .iload 4, 2), (103, .invokevirtual 168, 3), (106, .ireturn, 1), (107, .iconst 0, 1), (108, .istore 5, 2), (110, .iload 5, 2), (112, .bipush 63, 2), (114, .if_icmp .ge 36, 3), (117, .aload_n 0, 1), (118, .getfield 12, 3)]
def m_c56_1 : List m_I := [(121, .aload_n 0, 1), (122, .getfield 43, 3), (125, .invokevirtual 172, 3), (128, .iload_n 3, 1), (129, .if_icmp .ge 21, 3), (132, .aload_n 0, 1), (133, .getfield 12, 3), (136, .aload_n 0, 1), (137, .getfield 43, 3), (140, .invokevirtual 164, 3), (143, .pop, 1), (144, .iinc 5 1, 3), (147, .goto (-37), 3), (150, .iconst 1, 1), (151, .ireturn, 1), (152, .iconst 0, 1), (153, .ireturn, 1)]
def m_c56 : List m_I := m_c56_0 ++ (m_c56_1)
def m_c57 : List m_I := [(0, .iload_n 1, 1), (1, .ifCond .lt 15, 3), (4, .iload_n 1, 1), (5, .aload_n 0, 1), (6, .getfield 55, 3), (9, .if_icmp .gt 7, 3), (12, .iconst 1, 1), (13, .goto 4, 3), (16, .iconst 0, 1), (17, .ireturn, 1)]
def m_c58 : List m_I := [(0, .aload_n 0, 1), (1, .iload_n 1, 1), (2, .invokevirtual 63, 3), (5, .ifCond .eq 17, 3), (8, .aload_n 0, 1), (9, .getfield 27, 3), (12, .iload_n 1, 1), (13, .aaload, 1), (14, .iconst 0, 1), (15, .aload_n 2, 1), (16, .iconst 0, 1), (17, .bipush 6, 2), (19, .invokestatic 148, 3), (22, .return_, 1)]
def m_c59 : List m_I := [(0, .aload_n 0, 1), (1, .invokevirtual 141, 3), (4, .bipush 63, 2), (6, .if_icmp .lt 5, 3), (9, .iconst 0, 1), (10, .ireturn, 1), (11, .aload_n 0, 1), (12, .getfield 46, 3), (15, .iconst (-1), 1), (16, .invokestatic 83, 3), (19, .aload_n 0, 1), (20, .getfield 46, 3), (23, .iconst 0, 1), (24, .aload_n 0, 1), (25, .getfield 12, 3), (28, .aload_n 0, 1), (29, .getfield 80, 3), (32, .iload_n 1, 1), (33, .invokestatic 176, 3), (36, .iconst 0, 1), (37, .invokevirtual 179, 3), (40, .iastore, 1), (41, .aload_n 0, 1), (42, .dup, 1), (43, .getfield 80, 3), (46, .iconst 1, 1), (47, .iadd, 1), (48, .putfield 80, 3), (51, .aload_n 0, 1), (52, .getfield 12, 3), (55, .aload_n 0, 1), (56, .getfield 43, 3), (59, .aload_n 0, 1), (60, .getfield 46, 3), (63, .invokevirtual 182, 3), (66, .iconst 1, 1), (67, .ireturn, 1)]
def m_c60 : List m_I := [(0, .iload_n 1, 1), (1, .sipush 128, 3), (4, .imul, 1), (5, .iload_n 0, 1), (6, .iadd, 1), (7, .ireturn, 1)]
def m_c61_0 : List m_I := [(0, .aload_n 0, 1), (1, .getfield 32, 3), (4, .aload_n 0, 1), (5, .getfield 15, 3), (8, .arraylength, 1), (9, .if_icmp .lt 39, 3), (12, .aload_n 0, 1), (13, .aload_n 0, 1), (14, .getfield 11, 3), (17, .aload_n 0, 1), (18, .getfield 11, 3), (21, .arraylength, 1), (22, .iconst 2, 1), (23, .imul, 1), (24, .invokestatic 48, 3), (27, .putfield 11, 3), (30, .aload_n 0, 1), (31, .aload_n 0, 1), (32, .getfield 15, 3), (35, .aload_n 0, 1), (36, .getfield 15, 3), (39, .arraylength, 1), (40, .iconst 2, 1), (41, .imul, 1), (42, .invokestatic 54, 3), (45, .putfield 15, 3), (48, .aload_n 0, 1), (49, .getfield 32, 3), (52, .istore_n 3, 1), (53, .aload_n 0, 1), (54, .dup, 1), (55, .getfield 32, 3), (58, .iconst 1, 1), (59, .iadd, 1), (60, .putfield 32, 3), (63, .aload_n 0, 1), (64, .getfield 15, 3), (67, .iload_n 3, 1), (68, .lconst 0, 1), (69, .lastore, 1), (70, .iload_n 3, 1), (71, .bipush 7, 2), (73, .imul, 1), (74, .istore 4, 2), (76, .aload_n 0, 1), (77, .getfield 11, 3), (80, .iload 4, 2), (82, .iconst 0, 1), (83, .iadd, 1), (84, .iload_n 1, 1)]
def m_c61_1 : List m_I := [(85, .iastore, 1), (86, .aload_n 0, 1), (87, .getfield 11, 3), (90, .iload 4, 2), (92, .iconst 1, 1), (93, .iadd, 1), (94, .iload_n 2, 1), (95, .iastore, 1), (96, .aload_n 0, 1), (97, .getfield 11, 3), (100, .iload 4, 2), (102, .iconst 2, 1), (103, .iadd, 1), (104, .iload 4, 2), (106, .bipush 7, 2), (108, .iadd, 1), (109, .iconst (-1), 1), (110, .invokestatic 57, 3), (113, .iload_n 3, 1), (114, .ireturn, 1)]
def m_c61 : List m_I := m_c61_0 ++ (m_c61_1)
def m_c62 : List m_I := [(0, .iload_n 1, 1), (1, .aload_n 0, 1), (2, .arraylength, 1), (3, .if_icmp .ne 11, 3), (6, .aload_n 0, 1), (7, .invokevirtual 316, 3), (10, .checkcast 317, 3), (13, .areturn, 1), (14, .iload_n 1, 1), (15, .newarray .int, 2), (17, .astore_n 2, 1), (18, .aload_n 0, 1), (19, .iconst 0, 1), (20, .aload_n 2, 1), (21, .iconst 0, 1), (22, .aload_n 0, 1), (23, .arraylength, 1), (24, .iload_n 1, 1), (25, .invokestatic 304, 3), (28, .invokestatic 150, 3), (31, .aload_n 2, 1), (32, .areturn, 1)]
def m_c63 : List m_I := [(0, .iload_n 1, 1), (1, .aload_n 0, 1), (2, .arraylength, 1), (3, .if_icmp .ne 11, 3), (6, .aload_n 0, 1), (7, .invokevirtual 319, 3), (10, .checkcast 320, 3), (13, .areturn, 1), (14, .iload_n 1, 1), (15, .newarray .long, 2), (17, .astore_n 2, 1), (18, .aload_n 0, 1), (19, .iconst 0, 1), (20, .aload_n 2, 1), (21, .iconst 0, 1), (22, .aload_n 0, 1), (23, .arraylength, 1), (24, .iload_n 1, 1), (25, .invokestatic 304, 3), (28, .invokestatic 150, 3), (31, .aload_n 2, 1), (32, .areturn, 1)]
def m_c64_0 : List m_I := [(0, .iconst (-1), 1), (1, .istore_n 3, 1), (2, .iconst 0, 1), (3, .istore 4, 2), (5, .iload 4, 2), (7, .bipush 6, 2), (9, .if_icmp .ge 124, 3), (12, .aload_n 1, 1), (13, .iload 4, 2), (15, .iaload, 1), (16, .istore 5, 2), (18, .aload_n 2, 1), (19, .iload 4, 2), (21, .iaload, 1), (22, .istore 6, 2), (24, .iload 5, 2), (26, .iconst (-1), 1), (27, .if_icmp .eq 26, 3), (30, .iload 6, 2), (32, .iconst (-1), 1), (33, .if_icmp .eq 20, 3), (36, .aload_n 1, 1), (37, .iload 4, 2), (39, .iload_n 3, 1), (40, .iastore, 1), (41, .aload_n 0, 1), (42, .iload 5, 2), (44, .iload 6, 2), (46, .invokevirtual 78, 3), (49, .istore_n 3, 1), (50, .goto 77, 3), (53, .iload 5, 2), (55, .iconst (-1), 1), (56, .if_icmp .ne 8, 3), (59, .iload 6, 2), (61, .goto 5, 3), (64, .iload 5, 2), (66, .istore 7, 2), (68, .iload_n 3, 1), (69, .iconst (-1), 1), (70, .if_icmp .eq 13, 3), (73, .iload 7, 2), (75, .iconst (-1), 1), (76, .if_icmp .eq 7, 3), (79, .iconst 1, 1), (80, .goto 4, 3), (83, .iconst 0, 1), (84, .istore 8, 2), (86, .aload_n 1, 1), (87, .iload 4, 2)]
def m_c64_1 : List m_I := [(89, .iload 8, 2), (91, .ifCond .eq 7, 3), (94, .iconst (-1), 1), (95, .goto 14, 3), (98, .iload_n 3, 1), (99, .iconst (-1), 1), (100, .if_icmp .ne 8, 3), (103, .iload 7, 2), (105, .goto 4, 3), (108, .iload_n 3, 1), (109, .iastore, 1), (110, .iload 8, 2), (112, .ifCond .eq 13, 3), (115, .aload_n 0, 1), (116, .iload_n 3, 1), (117, .iload 7, 2), (119, .invokevirtual 78, 3), (122, .goto 4, 3), (125, .iconst (-1), 1), (126, .istore_n 3, 1), (127, .iinc 4 1, 3), (130, .goto (-125), 3), (133, .return_, 1)]
def m_c64 : List m_I := m_c64_0 ++ (m_c64_1)
def m_c65_0 : List m_I := [(0, .aload_n 0, 1), (1, .iload_n 2, 1), (2, .invokevirtual 61, 3), (5, .aload_n 0, 1), (6, .iload_n 1, 1), (7, .invokevirtual 61, 3), (10, .if_icmp .ge 7, 3), (13, .iconst 1, 1), (14, .goto 4, 3), (17, .iconst 0, 1), (18, .istore_n 3, 1), (19, .iload_n 3, 1), (20, .ifCond .eq 7, 3), (23, .iload_n 2, 1), (24, .goto 4, 3), (27, .iload_n 1, 1), (28, .istore 4, 2), (30, .aload_n 0, 1), (31, .iload 4, 2), (33, .invokevirtual 65, 3), (36, .istore 5, 2), (38, .aload_n 0, 1), (39, .aload_n 0, 1), (40, .iload 4, 2), (42, .invokevirtual 61, 3), (45, .iload 5, 2), (47, .iconst 1, 1), (48, .iadd, 1), (49, .invokevirtual 68, 3), (52, .istore 6, 2), (54, .aload_n 0, 1), (55, .iload 6, 2), (57, .iconst 0, 1), (58, .iload_n 3, 1), (59, .ifCond .eq 7, 3), (62, .iload_n 1, 1), (63, .goto 4, 3), (66, .iload_n 2, 1), (67, .invokevirtual 71, 3), (70, .iconst 0, 1), (71, .istore 7, 2), (73, .iload 7, 2), (75, .iload 5, 2), (77, .if_icmp .ge 27, 3), (80, .aload_n 0, 1), (81, .iload 6, 2), (83, .iload 7, 2), (85, .iconst 1, 1), (86, .iadd, 1), (87, .aload_n 0, 1)]
def m_c65_1 : List m_I := [(88, .iload 4, 2), (90, .iload 7, 2), (92, .invokevirtual 75, 3), (95, .invokevirtual 71, 3), (98, .iinc 7 1, 3), (101, .goto (-28), 3), (104, .aload_n 0, 1), (105, .dup, 1), (106, .getfield 45, 3), (109, .iconst 1, 1), (110, .iadd, 1), (111, .putfield 45, 3), (114, .iload 6, 2), (116, .ireturn, 1)]
def m_c65 : List m_I := m_c65_0 ++ (m_c65_1)
def m_c66 : List m_I := [(0, .iload_n 1, 1), (1, .ifCond .lt 25, 3), (4, .iload_n 1, 1), (5, .aload_n 0, 1), (6, .getfield 32, 3), (9, .if_icmp .ge 17, 3), (12, .aload_n 0, 1), (13, .getfield 11, 3), (16, .iload_n 1, 1), (17, .bipush 7, 2), (19, .imul, 1), (20, .iconst 0, 1), (21, .iadd, 1), (22, .iaload, 1), (23, .goto 4, 3), (26, .iconst (-1), 1), (27, .ireturn, 1)]
def m_c67 : List m_I := [(0, .iload_n 1, 1), (1, .ifCond .lt 25, 3), (4, .iload_n 1, 1), (5, .aload_n 0, 1), (6, .getfield 32, 3), (9, .if_icmp .ge 17, 3), (12, .aload_n 0, 1), (13, .getfield 11, 3), (16, .iload_n 1, 1), (17, .bipush 7, 2), (19, .imul, 1), (20, .iconst 1, 1), (21, .iadd, 1), (22, .iaload, 1), (23, .goto 4, 3), (26, .iconst (-1), 1), (27, .ireturn, 1)]
def m_c68 : List m_I := [(0, .iload_n 1, 1), (1, .ifCond .lt 34, 3), (4, .iload_n 1, 1), (5, .aload_n 0, 1), (6, .getfield 32, 3), (9, .if_icmp .ge 26, 3), (12, .iload_n 2, 1), (13, .ifCond .lt 22, 3), (16, .iload_n 2, 1), (17, .iconst 5, 1), (18, .if_icmp .ge 17, 3), (21, .aload_n 0, 1), (22, .getfield 11, 3), (25, .iload_n 1, 1), (26, .bipush 7, 2), (28, .imul, 1), (29, .iconst 2, 1), (30, .iadd, 1), (31, .iload_n 2, 1), (32, .iadd, 1), (33, .iload_n 3, 1), (34, .iastore, 1), (35, .return_, 1)]
def m_c69 : List m_I := [(0, .iload_n 1, 1), (1, .ifCond .lt 24, 3), (4, .iload_n 1, 1), (5, .aload_n 0, 1), (6, .getfield 32, 3), (9, .if_icmp .ge 16, 3), (12, .iload_n 2, 1), (13, .ifCond .lt 12, 3), (16, .iload_n 2, 1), (17, .iconst 5, 1), (18, .if_icmp .ge 7, 3), (21, .iconst 1, 1), (22, .goto 4, 3), (25, .iconst 0, 1), (26, .istore_n 3, 1), (27, .iload_n 3, 1), (28, .ifCond .eq 19, 3), (31, .aload_n 0, 1), (32, .getfield 11, 3), (35, .iload_n 1, 1), (36, .bipush 7, 2), (38, .imul, 1), (39, .iconst 2, 1), (40, .iadd, 1), (41, .iload_n 2, 1), (42, .iadd, 1), (43, .iaload, 1), (44, .goto 4, 3), (47, .iconst (-1), 1), (48, .ireturn, 1)]
def m_c70 : List m_I := [(0, .aload_n 0, 1), (1, .iload_n 1, 1), (2, .invokevirtual 63, 3), (5, .ifCond .eq 19, 3), (8, .aload_n 0, 1), (9, .invokevirtual 141, 3), (12, .aload_n 0, 1), (13, .getfield 30, 3), (16, .iload_n 1, 1), (17, .iaload, 1), (18, .iadd, 1), (19, .bipush 63, 2), (21, .if_icmp .le 5, 3), (24, .iconst 0, 1), (25, .ireturn, 1), (26, .aload_n 0, 1), (27, .iload_n 1, 1), (28, .aload_n 0, 1), (29, .getfield 46, 3), (32, .invokevirtual 154, 3), (35, .aload_n 0, 1), (36, .getfield 12, 3), (39, .aload_n 0, 1), (40, .getfield 43, 3), (43, .aload_n 0, 1), (44, .getfield 46, 3), (47, .invokevirtual 182, 3), (50, .iconst 1, 1), (51, .ireturn, 1)]
def m_c71 : List m_I := [(0, .aload_n 0, 1), (1, .aload_n 1, 1), (2, .invokevirtual 81, 3), (5, .istore_n 2, 1), (6, .iload_n 2, 1), (7, .iconst (-1), 1), (8, .if_icmp .ne 5, 3), (11, .iconst 0, 1), (12, .ireturn, 1), (13, .aload_n 1, 1), (14, .iload_n 2, 1), (15, .iaload, 1), (16, .istore_n 3, 1), (17, .aload_n 1, 1), (18, .iload_n 2, 1), (19, .iconst (-1), 1), (20, .iastore, 1), (21, .aload_n 0, 1), (22, .getfield 19, 3), (25, .iconst (-1), 1), (26, .invokestatic 88, 3), (29, .iconst 0, 1), (30, .istore 4, 2), (32, .iload 4, 2), (34, .iload_n 2, 1), (35, .if_icmp .ge 27, 3), (38, .aload_n 0, 1), (39, .getfield 19, 3), (42, .iload 4, 2), (44, .aload_n 0, 1), (45, .iload_n 3, 1), (46, .iload_n 2, 1), (47, .iconst 1, 1), (48, .isub, 1), (49, .iload 4, 2), (51, .isub, 1), (52, .invokevirtual 75, 3), (55, .iastore, 1), (56, .iinc 4 1, 3), (59, .goto (-27), 3), (62, .aload_n 0, 1), (63, .aload_n 1, 1), (64, .aload_n 0, 1), (65, .getfield 19, 3), (68, .invokevirtual 91, 3), (71, .iconst 1, 1), (72, .ireturn, 1)]
def m_c72 : List m_I := [(0, .iconst (-1), 1), (1, .istore_n 2, 1), (2, .iconst 0, 1), (3, .istore_n 3, 1), (4, .iload_n 3, 1), (5, .bipush 6, 2), (7, .if_icmp .ge 40, 3), (10, .aload_n 1, 1), (11, .iload_n 3, 1), (12, .iaload, 1), (13, .iconst (-1), 1), (14, .if_icmp .eq 27, 3), (17, .iload_n 2, 1), (18, .iconst (-1), 1), (19, .if_icmp .eq 20, 3), (22, .aload_n 0, 1), (23, .aload_n 1, 1), (24, .iload_n 3, 1), (25, .iaload, 1), (26, .invokevirtual 61, 3), (29, .aload_n 0, 1), (30, .aload_n 1, 1), (31, .iload_n 2, 1), (32, .iaload, 1), (33, .invokevirtual 61, 3), (36, .if_icmp .ge 5, 3), (39, .iload_n 3, 1), (40, .istore_n 2, 1), (41, .iinc 3 1, 3), (44, .goto (-40), 3), (47, .iload_n 2, 1), (48, .ireturn, 1)]
def m_c73_0 : List m_I := [(0, .aload_n 0, 1), (1, .getfield 28, 3), (4, .aload_n 0, 1), (5, .aload_n 1, 1), (6, .invokevirtual 95, 3), (9, .aload_n 0, 1), (10, .getfield 28, 3), (13, .iload_n 2, 1), (14, .iload_n 3, 1), (15, .invokevirtual 99, 3), (18, .istore 4, 2), (20, .iload 4, 2), (22, .iconst (-1), 1), (23, .if_icmp .ne 7, 3), (26, .iconst (-1), 1), (27, .goto 13, 3), (30, .aload_n 0, 1), (31, .getfield 28, 3), (34, .getfield 102, 3), (37, .iload 4, 2), (39, .iaload, 1), (40, .istore 5, 2), (42, .iload 5, 2), (44, .ifCond .lt 10, 3), (47, .iload 5, 2), (49, .bipush 6, 2), (51, .if_icmp .lt 5, 3), (54, .iconst 0, 1), (55, .ireturn, 1), (56, .iload 5, 2), (58, .istore 6, 2), (60, .iload 6, 2), (62, .ifCond .lt 44, 3), (65, .iload 4, 2), (67, .iconst (-1), 1), (68, .if_icmp .eq 38, 3), (71, .aload_n 0, 1), (72, .getfield 22, 3), (75, .iload 6, 2), (77, .aload_n 0, 1), (78, .getfield 28, 3), (81, .getfield 105, 3), (84, .iload 4, 2), (86, .iaload, 1), (87, .iastore, 1), (88, .aload_n 0, 1), (89, .getfield 28, 3), (92, .getfield 108, 3), (95, .iload 4, 2), (97, .iaload, 1)]
def m_c73_1 : List m_I := [(98, .istore 4, 2), (100, .iinc 6 (-1), 3), (103, .goto (-43), 3), (106, .iload_n 2, 1), (107, .iload_n 3, 1), (108, .invokestatic 111, 3), (111, .istore 6, 2), (113, .iload 5, 2), (115, .istore 7, 2), (117, .iload 7, 2), (119, .ifCond .le 27, 3), (122, .iload 6, 2), (124, .aload_n 0, 1), (125, .aload_n 0, 1), (126, .getfield 22, 3), (129, .iload 7, 2), (131, .iconst 1, 1), (132, .isub, 1), (133, .iaload, 1), (134, .invokevirtual 61, 3), (137, .if_icmp .ge 9, 3), (140, .iinc 7 (-1), 3), (143, .goto (-26), 3), (146, .aload_n 0, 1), (147, .getfield 32, 3), (150, .istore 8, 2), (152, .iconst 0, 1), (153, .istore 9, 2), (155, .iload 9, 2), (157, .iload 5, 2), (159, .if_icmp .gt 107, 3), (162, .aload_n 0, 1), (163, .aload_n 0, 1), (164, .getfield 22, 3), (167, .iload 9, 2), (169, .iaload, 1), (170, .iload 9, 2), (172, .iload 7, 2), (174, .if_icmp .ne 8, 3), (177, .iload 6, 2), (179, .goto 28, 3), (182, .aload_n 0, 1), (183, .aload_n 0, 1), (184, .getfield 22, 3), (187, .iload 9, 2), (189, .iload 7, 2), (191, .if_icmp .le 10, 3), (194, .iload 9, 2), (196, .iconst 1, 1), (197, .isub, 1)]
def m_c73_2 : List m_I := [(198, .goto 5, 3), (201, .iload 9, 2), (203, .iaload, 1), (204, .invokevirtual 61, 3), (207, .invokevirtual 114, 3), (210, .iload 9, 2), (212, .iload 5, 2), (214, .if_icmp .ge 46, 3), (217, .aload_n 0, 1), (218, .iload 8, 2), (220, .iload 9, 2), (222, .iadd, 1), (223, .aload_n 0, 1), (224, .aload_n 0, 1), (225, .getfield 22, 3), (228, .iload 9, 2), (230, .iaload, 1), (231, .invokevirtual 65, 3), (234, .iconst 1, 1), (235, .isub, 1), (236, .aload_n 0, 1), (237, .aload_n 0, 1), (238, .getfield 22, 3), (241, .iload 9, 2), (243, .iconst 1, 1), (244, .iadd, 1), (245, .iaload, 1), (246, .invokevirtual 65, 3), (249, .isub, 1), (250, .iload 8, 2), (252, .iload 9, 2), (254, .iadd, 1), (255, .iconst 1, 1), (256, .iadd, 1), (257, .invokevirtual 71, 3), (260, .iinc 9 1, 3), (263, .goto (-108), 3), (266, .aload_n 0, 1), (267, .aload_n 0, 1), (268, .getfield 22, 3), (271, .iconst 0, 1), (272, .iaload, 1), (273, .invokevirtual 65, 3), (276, .istore 9, 2), (278, .iload 9, 2), (280, .ifCond .lt 16, 3), (283, .iload 9, 2), (285, .bipush 6, 2), (287, .if_icmp .ge 9, 3), (290, .aload_n 1, 1)]
def m_c73_3 : List m_I := [(291, .iload 9, 2), (293, .iload 8, 2), (295, .iastore, 1), (296, .iconst 1, 1), (297, .ireturn, 1)]
def m_c73 : List m_I := m_c73_0 ++ (m_c73_1 ++ (m_c73_2 ++ (m_c73_3)))
def m_c74_0 : List m_I := [(0, .aload_n 0, 1), (1, .iconst 0, 1), (2, .putfield 37, 3), (5, .aload_n 0, 1), (6, .iconst 0, 1), (7, .putfield 41, 3), (10, .iconst 5, 1), (11, .istore_n 3, 1), (12, .iload_n 3, 1), (13, .ifCond .lt 17, 3), (16, .aload_n 0, 1), (17, .aload_n 2, 1), (18, .iload_n 3, 1), (19, .iaload, 1), (20, .iconst (-1), 1), (21, .invokevirtual 44, 3), (24, .iinc 3 (-1), 3), (27, .goto (-15), 3), (30, .aload_n 0, 1), (31, .getfield 41, 3), (34, .ifCond .le 150, 3), (37, .aload_n 0, 1), (38, .getfield 37, 3), (41, .bipush 63, 2), (43, .if_icmp .ge 141, 3), (46, .aload_n 0, 1), (47, .dup, 1), (48, .getfield 41, 3), (51, .iconst 1, 1), (52, .isub, 1), (53, .putfield 41, 3), (56, .aload_n 0, 1), (57, .getfield 27, 3), (60, .aload_n 0, 1), (61, .getfield 41, 3), (64, .iaload, 1), (65, .istore_n 3, 1), (66, .aload_n 0, 1), (67, .getfield 30, 3), (70, .aload_n 0, 1), (71, .getfield 41, 3), (74, .iaload, 1), (75, .istore 4, 2), (77, .aload_n 0, 1), (78, .getfield 37, 3), (81, .istore 5, 2), (83, .aload_n 0, 1), (84, .dup, 1), (85, .getfield 37, 3), (88, .iconst 1, 1)]
def m_c74_1 : List m_I := [(89, .iadd, 1), (90, .putfield 37, 3), (93, .aload_n 0, 1), (94, .getfield 9, 3), (97, .iload 5, 2), (99, .iload_n 3, 1), (100, .iastore, 1), (101, .aload_n 0, 1), (102, .getfield 15, 3), (105, .iload 5, 2), (107, .aload_n 1, 1), (108, .iload_n 3, 1), (109, .invokevirtual 48, 3), (112, .iastore, 1), (113, .aload_n 0, 1), (114, .getfield 18, 3), (117, .iload 5, 2), (119, .iload 4, 2), (121, .iastore, 1), (122, .aload_n 0, 1), (123, .getfield 21, 3), (126, .iload 5, 2), (128, .iload 4, 2), (130, .iconst (-1), 1), (131, .if_icmp .ne 7, 3), (134, .iconst 0, 1), (135, .goto 12, 3), (138, .aload_n 0, 1), (139, .getfield 21, 3), (142, .iload 4, 2), (144, .iaload, 1), (145, .iconst 1, 1), (146, .iadd, 1), (147, .iastore, 1), (148, .aload_n 1, 1), (149, .iload_n 3, 1), (150, .invokevirtual 54, 3), (153, .iconst 1, 1), (154, .isub, 1), (155, .istore 6, 2), (157, .iload 6, 2), (159, .ifCond .lt 22, 3), (162, .aload_n 0, 1), (163, .aload_n 1, 1), (164, .iload_n 3, 1), (165, .iload 6, 2), (167, .invokevirtual 57, 3), (170, .iload 5, 2), (172, .invokevirtual 44, 3), (175, .iinc 6 (-1), 3)]
def m_c74_2 : List m_I := [(178, .goto (-21), 3), (181, .goto (-151), 3), (184, .return_, 1)]
def m_c74 : List m_I := m_c74_0 ++ (m_c74_1 ++ (m_c74_2))
def m_c75 : List m_I := [(0, .iload_n 1, 1), (1, .iconst (-1), 1), (2, .if_icmp .eq 42, 3), (5, .aload_n 0, 1), (6, .getfield 41, 3), (9, .bipush 63, 2), (11, .if_icmp .ge 33, 3), (14, .aload_n 0, 1), (15, .getfield 27, 3), (18, .aload_n 0, 1), (19, .getfield 41, 3), (22, .iload_n 1, 1), (23, .iastore, 1), (24, .aload_n 0, 1), (25, .getfield 30, 3), (28, .aload_n 0, 1), (29, .getfield 41, 3), (32, .iload_n 2, 1), (33, .iastore, 1), (34, .aload_n 0, 1), (35, .dup, 1), (36, .getfield 41, 3), (39, .iconst 1, 1), (40, .iadd, 1), (41, .putfield 41, 3), (44, .return_, 1)]
def m_c76 : List m_I := [(0, .iconst 0, 1), (1, .istore_n 3, 1), (2, .iload_n 3, 1), (3, .aload_n 0, 1), (4, .getfield 37, 3), (7, .if_icmp .ge 37, 3), (10, .aload_n 0, 1), (11, .getfield 15, 3), (14, .iload_n 3, 1), (15, .iaload, 1), (16, .invokestatic 61, 3), (19, .iload_n 1, 1), (20, .if_icmp .ne 18, 3), (23, .aload_n 0, 1), (24, .getfield 15, 3), (27, .iload_n 3, 1), (28, .iaload, 1), (29, .invokestatic 64, 3), (32, .iload_n 2, 1), (33, .if_icmp .lt 5, 3), (36, .iload_n 3, 1), (37, .ireturn, 1), (38, .iinc 3 1, 3), (41, .goto (-39), 3), (44, .iconst (-1), 1), (45, .ireturn, 1)]
def m_c77 : List m_I := [(0, .iload_n 0, 1), (1, .sipush 128, 3), (4, .irem, 1), (5, .ireturn, 1)]
def m_c78 : List m_I := [(0, .iload_n 0, 1), (1, .sipush 128, 3), (4, .idiv, 1), (5, .ireturn, 1)]
def m_c79 : List m_I := [(0, .aload_n 0, 1), (1, .iload_n 1, 1), (2, .invokevirtual 65, 3), (5, .istore_n 3, 1), (6, .aload_n 0, 1), (7, .iload_n 2, 1), (8, .iload_n 3, 1), (9, .invokevirtual 68, 3), (12, .istore 4, 2), (14, .iconst 0, 1), (15, .istore 5, 2), (17, .iload 5, 2), (19, .iload_n 3, 1), (20, .if_icmp .ge 24, 3), (23, .aload_n 0, 1), (24, .iload 4, 2), (26, .iload 5, 2), (28, .aload_n 0, 1), (29, .iload_n 1, 1), (30, .iload 5, 2), (32, .invokevirtual 75, 3), (35, .invokevirtual 71, 3), (38, .iinc 5 1, 3), (41, .goto (-24), 3), (44, .return_, 1)]
def m_c80 : List m_I := [(0, .aload_n 0, 1), (1, .aload_n 1, 1), (2, .invokevirtual 81, 3), (5, .istore_n 2, 1), (6, .iload_n 2, 1), (7, .iconst (-1), 1), (8, .if_icmp .ne 7, 3), (11, .iconst (-1), 1), (12, .goto 13, 3), (15, .aload_n 0, 1), (16, .aload_n 1, 1), (17, .iload_n 2, 1), (18, .iaload, 1), (19, .invokevirtual 61, 3), (22, .invokestatic 85, 3), (25, .ireturn, 1)]
def m_c81_0 : List m_I := [(0, .aload_n 1, 1), (1, .iload_n 2, 1), (2, .iconst 0, 1), (3, .invokevirtual 108, 3), (6, .istore 4, 2), (8, .aload_n 1, 1), (9, .iload_n 2, 1), (10, .invokevirtual 105, 3), (13, .iconst 2, 1), (14, .if_icmp .ne 12, 3), (17, .aload_n 1, 1), (18, .iload_n 2, 1), (19, .iconst 1, 1), (20, .invokevirtual 108, 3), (23, .goto 4, 3), (26, .iconst (-1), 1), (27, .istore 5, 2), (29, .aload_n 0, 1), (30, .getfield 34, 3), (33, .iload_n 2, 1), (34, .aload_n 0, 1), (35, .getfield 12, 3), (38, .getfield 101, 3), (41, .iload_n 3, 1), (42, .isub, 1), (43, .iastore, 1), (44, .aload_n 0, 1), (45, .getfield 37, 3), (48, .iload_n 2, 1), (49, .aload_n 0, 1), (50, .getfield 12, 3), (53, .getfield 103, 3), (56, .iastore, 1), (57, .aload_n 0, 1), (58, .getfield 40, 3), (61, .iload_n 2, 1), (62, .aload_n 0, 1), (63, .getfield 37, 3), (66, .iload_n 2, 1), (67, .iaload, 1), (68, .aload_n 0, 1), (69, .invokevirtual 141, 3), (72, .invokestatic 71, 3), (75, .iadd, 1), (76, .aload_n 0, 1), (77, .iload 4, 2), (79, .invokevirtual 145, 3), (82, .isub, 1), (83, .aload_n 0, 1), (84, .iload 5, 2)]
def m_c81_1 : List m_I := [(86, .invokevirtual 145, 3), (89, .isub, 1), (90, .iastore, 1), (91, .aload_n 0, 1), (92, .iload_n 2, 1), (93, .iconst 1, 1), (94, .iadd, 1), (95, .putfield 55, 3), (98, .aload_n 0, 1), (99, .invokevirtual 89, 3), (102, .aload_n 0, 1), (103, .getfield 21, 3), (106, .aload_n 0, 1), (107, .getfield 55, 3), (110, .iload 4, 2), (112, .iload 5, 2), (114, .invokevirtual 92, 3), (117, .return_, 1)]
def m_c81 : List m_I := m_c81_0 ++ (m_c81_1)
def m_c82 : List m_I := [(0, .iload_n 0, 1), (1, .iload_n 0, 1), (2, .iconst 1, 1), (3, .iushr, 1), (4, .ldc_w 265, 3), (7, .iand, 1), (8, .isub, 1), (9, .istore_n 0, 1), (10, .iload_n 0, 1), (11, .ldc_w 266, 3), (14, .iand, 1), (15, .iload_n 0, 1), (16, .iconst 2, 1), (17, .iushr, 1), (18, .ldc_w 266, 3), (21, .iand, 1), (22, .iadd, 1), (23, .istore_n 0, 1), (24, .iload_n 0, 1), (25, .iload_n 0, 1), (26, .iconst 4, 1), (27, .iushr, 1), (28, .iadd, 1), (29, .ldc_w 267, 3), (32, .iand, 1), (33, .istore_n 0, 1), (34, .iload_n 0, 1), (35, .iload_n 0, 1), (36, .bipush 8, 2), (38, .iushr, 1), (39, .iadd, 1), (40, .istore_n 0, 1), (41, .iload_n 0, 1), (42, .iload_n 0, 1), (43, .bipush 16, 2), (45, .iushr, 1), (46, .iadd, 1), (47, .istore_n 0, 1), (48, .iload_n 0, 1), (49, .bipush 63, 2), (51, .iand, 1), (52, .ireturn, 1)]
def m_c83 : List m_I := [(0, .aload_n 0, 1), (1, .iload_n 1, 1), (2, .invokevirtual 67, 3), (5, .invokestatic 71, 3), (8, .ireturn, 1)]
def m_c84 : List m_I := [(0, .aload_n 0, 1), (1, .iload_n 1, 1), (2, .invokevirtual 63, 3), (5, .ifCond .eq 12, 3), (8, .aload_n 0, 1), (9, .getfield 30, 3), (12, .iload_n 1, 1), (13, .iaload, 1), (14, .goto 4, 3), (17, .iconst 0, 1), (18, .ireturn, 1)]
def m_c85 : List m_I := [(0, .aload_n 0, 1), (1, .getfield 12, 3), (4, .getfield 123, 3), (7, .astore_n 2, 1), (8, .aload_n 2, 1), (9, .aload_n 0, 1), (10, .getfield 12, 3), (13, .aload_n 0, 1), (14, .getfield 27, 3), (17, .iload_n 1, 1), (18, .aaload, 1), (19, .invokevirtual 127, 3), (22, .iconst 0, 1), (23, .istore_n 3, 1), (24, .iload_n 3, 1), (25, .aload_n 2, 1), (26, .getfield 133, 3), (29, .if_icmp .ge 26, 3), (32, .aload_n 0, 1), (33, .getfield 12, 3), (36, .aload_n 2, 1), (37, .getfield 134, 3), (40, .iload_n 3, 1), (41, .iaload, 1), (42, .iload_n 1, 1), (43, .invokestatic 59, 3), (46, .invokevirtual 137, 3), (49, .iinc 3 1, 3), (52, .goto (-28), 3), (55, .return_, 1)]
def m_c86 : List m_I := [(0, .iload_n 1, 1), (1, .ifCond .lt 21, 3), (4, .iload_n 1, 1), (5, .aload_n 0, 1), (6, .getfield 32, 3), (9, .if_icmp .ge 13, 3), (12, .aload_n 0, 1), (13, .getfield 15, 3), (16, .iload_n 1, 1), (17, .dup2, 1), (18, .laload, 1), (19, .lload_n 2, 1), (20, .lor, 1), (21, .lastore, 1), (22, .return_, 1)]
def m_c87 : List m_I := [(0, .iload_n 1, 1), (1, .ifCond .ne 11, 3), (4, .aload_n 0, 1), (5, .getfield 12, 3), (8, .getfield 65, 3), (11, .ireturn, 1), (12, .iload_n 1, 1), (13, .iconst 1, 1), (14, .if_icmp .ne 13, 3), (17, .aload_n 0, 1), (18, .getfield 12, 3), (21, .getfield 68, 3), (24, .goto 4, 3), (27, .iconst (-1), 1), (28, .ireturn, 1)]
def m_c88 : List m_I := [(0, .aload_n 0, 1), (1, .iload_n 1, 1), (2, .invokevirtual 74, 3), (5, .ifCond .ne 6, 3), (8, .bipush (-2), 2), (10, .ireturn, 1), (11, .aload_n 0, 1), (12, .getfield 12, 3), (15, .getfield 88, 3), (18, .iload_n 1, 1), (19, .aaload, 1), (20, .astore 4, 2), (22, .iload_n 2, 1), (23, .iconst (-1), 1), (24, .if_icmp .ne 18, 3), (27, .iload_n 3, 1), (28, .ifCond .ne 11, 3), (31, .aload 4, 2), (33, .getfield 103, 3), (36, .goto 5, 3), (39, .bipush (-2), 2), (41, .ireturn, 1), (42, .iload_n 2, 1), (43, .ifCond .lt 21, 3), (46, .iload_n 2, 1), (47, .aload 4, 2), (49, .getfield 103, 3), (52, .if_icmp .ge 12, 3), (55, .iload_n 3, 1), (56, .ifCond .lt 8, 3), (59, .iload_n 3, 1), (60, .iconst 3, 1), (61, .if_icmp .le 6, 3), (64, .bipush (-2), 2), (66, .ireturn, 1), (67, .iload_n 3, 1), (68, .ifCond .ne 12, 3), (71, .aload 4, 2), (73, .iload_n 2, 1), (74, .invokevirtual 106, 3), (77, .goto 12, 3), (80, .aload 4, 2), (82, .iload_n 2, 1), (83, .iload_n 3, 1), (84, .iconst 1, 1), (85, .isub, 1), (86, .invokevirtual 110, 3), (89, .ireturn, 1)]
def m_c89 : List m_I := [(0, .aload_n 0, 1), (1, .iload_n 1, 1), (2, .invokevirtual 114, 3), (5, .astore_n 2, 1), (6, .aload_n 2, 1), (7, .ifnonnull 7, 3), (10, .iconst (-1), 1), (11, .goto 7, 3), (14, .aload_n 2, 1), (15, .getfield 117, 3), (18, .ireturn, 1)]
def m_c90 : List m_I := [(0, .aload_n 0, 1), (1, .iload_n 1, 1), (2, .invokevirtual 74, 3), (5, .ifCond .eq 12, 3), (8, .aload_n 0, 1), (9, .getfield 22, 3), (12, .iload_n 1, 1), (13, .aaload, 1), (14, .goto 4, 3), (17, .aconst_null, 1), (18, .areturn, 1)]
def m_c91 : List m_I := [(0, .aload_n 0, 1), (1, .iload_n 1, 1), (2, .invokevirtual 114, 3), (5, .astore 4, 2), (7, .aload 4, 2), (9, .ifnull 16, 3), (12, .iload_n 2, 1), (13, .ifCond .lt 12, 3), (16, .iload_n 2, 1), (17, .aload 4, 2), (19, .getfield 117, 3), (22, .if_icmp .lt 6, 3), (25, .ldc 120, 2), (27, .ireturn, 1), (28, .iload_n 3, 1), (29, .tableswitch 51 0 2 #[27, 35, 43], 27), (56, .aload 4, 2), (58, .getfield 121, 3), (61, .iload_n 2, 1), (62, .iaload, 1), (63, .ireturn, 1), (64, .aload 4, 2), (66, .getfield 125, 3), (69, .iload_n 2, 1), (70, .iaload, 1), (71, .ireturn, 1), (72, .aload 4, 2), (74, .getfield 128, 3), (77, .iload_n 2, 1), (78, .iaload, 1), (79, .ireturn, 1), (80, .ldc 120, 2), (82, .ireturn, 1)]
def m_c92 : List m_I := [(0, .aload_n 0, 1), (1, .iload_n 1, 1), (2, .invokevirtual 114, 3), (5, .astore_n 3, 1), (6, .aload_n 3, 1), (7, .ifnonnull 5, 3), (10, .iconst (-1), 1), (11, .ireturn, 1), (12, .iload_n 2, 1), (13, .ifCond .eq 10, 3), (16, .aload_n 3, 1), (17, .getfield 131, 3), (20, .goto 10, 3), (23, .aload_n 3, 1), (24, .getfield 134, 3), (27, .getfield 138, 3), (30, .ireturn, 1)]
def m_c93 : List m_I := [(0, .aload_n 0, 1), (1, .getfield 12, 3), (4, .getfield 71, 3), (7, .ireturn, 1)]
def m_c94 : List m_I := [(0, .iload_n 1, 1), (1, .ifCond .lt 8, 3), (4, .iload_n 1, 1), (5, .iconst 3, 1), (6, .if_icmp .lt 5, 3), (9, .iconst 0, 1), (10, .ireturn, 1), (11, .aload_n 0, 1), (12, .getfield 16, 3), (15, .iload_n 1, 1), (16, .aaload, 1), (17, .ifnonnull 16, 3), (20, .aload_n 0, 1), (21, .getfield 16, 3), (24, .iload_n 1, 1), (25, .new 9, 3), (28, .dup, 1), (29, .invokespecial 11, 3), (32, .aastore, 1), (33, .aload_n 0, 1), (34, .getfield 16, 3), (37, .iload_n 1, 1), (38, .aaload, 1), (39, .aload_n 0, 1), (40, .getfield 12, 3), (43, .invokevirtual 142, 3), (46, .iconst 1, 1), (47, .ireturn, 1)]
def m_c95 : List m_I := [(0, .aload_n 1, 1), (1, .getfield 9, 3), (4, .iconst 0, 1), (5, .aload_n 0, 1), (6, .getfield 9, 3), (9, .iconst 0, 1), (10, .sipush 600, 3), (13, .invokestatic 29, 3), (16, .aload_n 0, 1), (17, .aload_n 1, 1), (18, .getfield 26, 3), (21, .putfield 26, 3), (24, .aload_n 0, 1), (25, .aload_n 1, 1), (26, .getfield 35, 3), (29, .putfield 35, 3), (32, .aload_n 0, 1), (33, .aload_n 1, 1), (34, .getfield 21, 3), (37, .putfield 21, 3), (40, .aload_n 0, 1), (41, .aload_n 1, 1), (42, .getfield 38, 3), (45, .putfield 38, 3), (48, .iconst 0, 1), (49, .istore_n 2, 1), (50, .iload_n 2, 1), (51, .iconst 4, 1), (52, .if_icmp .ge 24, 3), (55, .aload_n 0, 1), (56, .getfield 17, 3), (59, .iload_n 2, 1), (60, .aaload, 1), (61, .aload_n 1, 1), (62, .getfield 17, 3), (65, .iload_n 2, 1), (66, .aaload, 1), (67, .invokevirtual 41, 3), (70, .iinc 2 1, 3), (73, .goto (-23), 3), (76, .return_, 1)]
def m_c96 : List m_I := [(0, .iload_n 1, 1), (1, .ifCond .lt 17, 3), (4, .iload_n 1, 1), (5, .iconst 3, 1), (6, .if_icmp .ge 12, 3), (9, .aload_n 0, 1), (10, .getfield 16, 3), (13, .iload_n 1, 1), (14, .aaload, 1), (15, .ifnonnull 5, 3), (18, .iconst 0, 1), (19, .ireturn, 1), (20, .aload_n 0, 1), (21, .getfield 12, 3), (24, .aload_n 0, 1), (25, .getfield 16, 3), (28, .iload_n 1, 1), (29, .aaload, 1), (30, .invokevirtual 142, 3), (33, .iconst 0, 1), (34, .istore_n 2, 1), (35, .iload_n 2, 1), (36, .aload_n 0, 1), (37, .getfield 12, 3), (40, .getfield 71, 3), (43, .if_icmp .ge 31, 3), (46, .iload_n 2, 1), (47, .iconst 4, 1), (48, .if_icmp .ge 26, 3), (51, .aload_n 0, 1), (52, .iload_n 2, 1), (53, .invokevirtual 96, 3), (56, .aload_n 0, 1), (57, .getfield 12, 3), (60, .getfield 88, 3), (63, .iload_n 2, 1), (64, .aaload, 1), (65, .invokevirtual 100, 3), (68, .iinc 2 1, 3), (71, .goto (-36), 3), (74, .iconst 1, 1), (75, .ireturn, 1)]
def m_c97 : List m_I := [(0, .aload_n 0, 1), (1, .iload_n 1, 1), (2, .invokevirtual 114, 3), (5, .astore 4, 2), (7, .aload 4, 2), (9, .ifnull 12, 3), (12, .aload 4, 2), (14, .iload_n 2, 1), (15, .invokevirtual 146, 3), (18, .ifCond .ne 6, 3), (21, .bipush (-2), 2), (23, .ireturn, 1), (24, .iload_n 3, 1), (25, .tableswitch 120 0 6 #[43, 50, 57, 74, 91, 102, 113], 43), (68, .aload 4, 2), (70, .iload_n 2, 1), (71, .invokevirtual 149, 3), (74, .ireturn, 1), (75, .aload 4, 2), (77, .iload_n 2, 1), (78, .invokevirtual 152, 3), (81, .ireturn, 1), (82, .aload_n 0, 1), (83, .getfield 53, 3), (86, .aload 4, 2), (88, .getfield 134, 3), (91, .iload_n 2, 1), (92, .invokestatic 155, 3), (95, .invokevirtual 159, 3), (98, .ireturn, 1), (99, .aload_n 0, 1), (100, .getfield 53, 3), (103, .aload 4, 2), (105, .getfield 134, 3), (108, .iload_n 2, 1), (109, .invokestatic 155, 3), (112, .invokevirtual 163, 3), (115, .ireturn, 1), (116, .aload_n 0, 1), (117, .aload 4, 2), (119, .iload_n 2, 1), (120, .invokevirtual 166, 3), (123, .invokevirtual 170, 3), (126, .ireturn, 1), (127, .aload_n 0, 1), (128, .aload 4, 2), (130, .iload_n 2, 1), (131, .invokevirtual 166, 3), (134, .invokevirtual 174, 3), (137, .ireturn, 1), (138, .aload 4, 2), (140, .iload_n 2, 1), (141, .invokevirtual 177, 3), (144, .ireturn, 1), (145, .bipush (-2), 2), (147, .ireturn, 1)]
def m_c98 : List m_I := [(0, .iconst 0, 1), (1, .istore 4, 2), (3, .iconst 0, 1), (4, .istore 5, 2), (6, .iload 5, 2), (8, .aload_n 1, 1), (9, .getfield 21, 3), (12, .if_icmp .ge 25, 3), (15, .aload_n 1, 1), (16, .iload 5, 2), (18, .invokevirtual 27, 3), (21, .lload_n 2, 1), (22, .land, 1), (23, .lload_n 2, 1), (24, .lcmp, 1), (25, .ifCond .ne 6, 3), (28, .iinc 4 1, 3), (31, .iinc 5 1, 3), (34, .goto (-28), 3), (37, .iload 4, 2), (39, .ireturn, 1)]
def m_c99 : List m_I := [(0, .iload_n 1, 1), (1, .ifCond .lt 20, 3), (4, .iload_n 1, 1), (5, .aload_n 0, 1), (6, .getfield 32, 3), (9, .if_icmp .ge 12, 3), (12, .aload_n 0, 1), (13, .getfield 15, 3), (16, .iload_n 1, 1), (17, .laload, 1), (18, .goto 4, 3), (21, .lconst 0, 1), (22, .lreturn, 1)]
def m_c100 : List m_I := [(0, .aload_n 0, 1), (1, .aload_n 1, 1), (2, .lload_n 2, 1), (3, .lload_n 2, 1), (4, .ldc2_w 31, 3), (7, .lxor, 1), (8, .invokevirtual 33, 3), (11, .ireturn, 1)]
def m_c101 : List m_I := [(0, .iconst 0, 1), (1, .istore 6, 2), (3, .iconst 0, 1), (4, .istore 7, 2), (6, .iload 7, 2), (8, .aload_n 1, 1), (9, .getfield 21, 3), (12, .if_icmp .ge 39, 3), (15, .aload_n 1, 1), (16, .iload 7, 2), (18, .invokevirtual 27, 3), (21, .lstore 8, 2), (23, .lload 8, 2), (25, .lload_n 2, 1), (26, .land, 1), (27, .lconst 0, 1), (28, .lcmp, 1), (29, .ifCond .eq 16, 3), (32, .lload 8, 2), (34, .lload 4, 2), (36, .land, 1), (37, .lconst 0, 1), (38, .lcmp, 1), (39, .ifCond .ne 6, 3), (42, .iinc 6 1, 3), (45, .iinc 7 1, 3), (48, .goto (-42), 3), (51, .iload 6, 2), (53, .ireturn, 1)]
def m_c102 : List m_I := [(0, .aload_n 0, 1), (1, .getfield 43, 3), (4, .aload_n 1, 1), (5, .getfield 134, 3), (8, .aload_n 1, 1), (9, .getfield 201, 3), (12, .iload_n 2, 1), (13, .aaload, 1), (14, .invokevirtual 334, 3), (17, .aload_n 0, 1), (18, .getfield 43, 3), (21, .invokevirtual 338, 3), (24, .aload_n 0, 1), (25, .getfield 43, 3), (28, .areturn, 1)]
def m_c103 : List m_I := [(0, .iconst 0, 1), (1, .istore_n 1, 1), (2, .iload_n 1, 1), (3, .aload_n 0, 1), (4, .getfield 37, 3), (7, .if_icmp .ge 64, 3), (10, .iload_n 1, 1), (11, .istore_n 2, 1), (12, .iload_n 2, 1), (13, .ifCond .le 45, 3), (16, .aload_n 0, 1), (17, .getfield 15, 3), (20, .iload_n 1, 1), (21, .iaload, 1), (22, .aload_n 0, 1), (23, .getfield 15, 3), (26, .aload_n 0, 1), (27, .getfield 24, 3), (30, .iload_n 2, 1), (31, .iconst 1, 1), (32, .isub, 1), (33, .iaload, 1), (34, .iaload, 1), (35, .if_icmp .ge 23, 3), (38, .aload_n 0, 1), (39, .getfield 24, 3), (42, .iload_n 2, 1), (43, .aload_n 0, 1), (44, .getfield 24, 3), (47, .iload_n 2, 1), (48, .iconst 1, 1), (49, .isub, 1), (50, .iaload, 1), (51, .iastore, 1), (52, .iinc 2 (-1), 3), (55, .goto (-43), 3), (58, .aload_n 0, 1), (59, .getfield 24, 3), (62, .iload_n 2, 1), (63, .iload_n 1, 1), (64, .iastore, 1), (65, .iinc 1 1, 3), (68, .goto (-66), 3), (71, .return_, 1)]
def m_c104 : List m_I := [(0, .aload_n 0, 1), (1, .getfield 37, 3), (4, .ifCond .ne 7, 3), (7, .iconst (-1), 1), (8, .goto 22, 3), (11, .aload_n 0, 1), (12, .getfield 15, 3), (15, .aload_n 0, 1), (16, .getfield 24, 3), (19, .aload_n 0, 1), (20, .getfield 37, 3), (23, .iconst 2, 1), (24, .idiv, 1), (25, .iaload, 1), (26, .iaload, 1), (27, .invokestatic 61, 3), (30, .ireturn, 1)]
def m_c105 : List m_I := [(0, .iconst 0, 1), (1, .istore_n 1, 1), (2, .iconst 1, 1), (3, .istore_n 2, 1), (4, .iload_n 2, 1), (5, .aload_n 0, 1), (6, .getfield 37, 3), (9, .if_icmp .ge 45, 3), (12, .iload_n 1, 1), (13, .aload_n 0, 1), (14, .getfield 15, 3), (17, .aload_n 0, 1), (18, .getfield 24, 3), (21, .iload_n 2, 1), (22, .iaload, 1), (23, .iaload, 1), (24, .invokestatic 64, 3), (27, .aload_n 0, 1), (28, .getfield 15, 3), (31, .aload_n 0, 1), (32, .getfield 24, 3), (35, .iload_n 2, 1), (36, .iconst 1, 1), (37, .isub, 1), (38, .iaload, 1), (39, .iaload, 1), (40, .invokestatic 64, 3), (43, .isub, 1), (44, .invokestatic 67, 3), (47, .istore_n 1, 1), (48, .iinc 2 1, 3), (51, .goto (-47), 3), (54, .iload_n 1, 1), (55, .ireturn, 1)]
def m_c106 : List m_I := [(0, .iconst (-1), 1), (1, .istore_n 2, 1), (2, .iconst 0, 1), (3, .istore_n 3, 1), (4, .iload_n 3, 1), (5, .bipush 6, 2), (7, .if_icmp .ge 31, 3), (10, .aload_n 0, 1), (11, .iload_n 1, 1), (12, .invokevirtual 63, 3), (15, .ifCond .eq 23, 3), (18, .aload_n 0, 1), (19, .getfield 27, 3), (22, .iload_n 1, 1), (23, .aaload, 1), (24, .iload_n 3, 1), (25, .iaload, 1), (26, .iconst (-1), 1), (27, .if_icmp .eq 5, 3), (30, .iload_n 3, 1), (31, .istore_n 2, 1), (32, .iinc 3 1, 3), (35, .goto (-31), 3), (38, .iload_n 2, 1), (39, .ireturn, 1)]
def m_c107 : List m_I := [(0, .aload_n 0, 1), (1, .iload_n 1, 1), (2, .invokevirtual 114, 3), (5, .astore 5, 2), (7, .aload 5, 2), (9, .ifnull 26, 3), (12, .aload 5, 2), (14, .iload_n 2, 1), (15, .invokevirtual 146, 3), (18, .ifCond .eq 17, 3), (21, .iload_n 3, 1), (22, .ifCond .lt 13, 3), (25, .iload_n 3, 1), (26, .aload 5, 2), (28, .iload_n 2, 1), (29, .invokevirtual 149, 3), (32, .if_icmp .lt 5, 3), (35, .iconst (-1), 1), (36, .ireturn, 1), (37, .aload_n 0, 1), (38, .getfield 43, 3), (41, .getfield 180, 3), (44, .aload_n 0, 1), (45, .aload 5, 2), (47, .iload_n 2, 1), (48, .invokevirtual 166, 3), (51, .getfield 183, 3), (54, .iload_n 3, 1), (55, .iaload, 1), (56, .iaload, 1), (57, .istore 6, 2), (59, .iload 4, 2), (61, .ifCond .eq 11, 3), (64, .iload 6, 2), (66, .invokestatic 186, 3), (69, .goto 8, 3), (72, .iload 6, 2), (74, .invokestatic 189, 3), (77, .ireturn, 1)]
def m_c108_0 : List m_I := [(0, .aload_n 0, 1), (1, .iload_n 1, 1), (2, .invokevirtual 114, 3), (5, .astore 5, 2), (7, .aload 5, 2), (9, .ifnull 26, 3), (12, .aload 5, 2), (14, .iload_n 2, 1), (15, .invokevirtual 146, 3), (18, .ifCond .eq 17, 3), (21, .iload_n 3, 1), (22, .ifCond .lt 13, 3), (25, .iload_n 3, 1), (26, .aload 5, 2), (28, .iload_n 2, 1), (29, .invokevirtual 149, 3), (32, .if_icmp .lt 5, 3), (35, .iconst (-1), 1), (36, .ireturn, 1), (37, .aload_n 0, 1), (38, .aload 5, 2), (40, .iload_n 2, 1), (41, .invokevirtual 166, 3), (44, .pop, 1), (45, .iload 4, 2), (47, .tableswitch 97 0 4 #[33, 46, 59, 77, 87], 33), (80, .aload_n 0, 1), (81, .getfield 43, 3), (84, .getfield 180, 3), (87, .iload_n 3, 1), (88, .iaload, 1), (89, .invokestatic 189, 3), (92, .ireturn, 1), (93, .aload_n 0, 1), (94, .getfield 43, 3), (97, .getfield 180, 3), (100, .iload_n 3, 1), (101, .iaload, 1), (102, .invokestatic 186, 3), (105, .ireturn, 1), (106, .aload 5, 2), (108, .getfield 134, 3), (111, .aload_n 0, 1), (112, .getfield 43, 3), (115, .getfield 192, 3), (118, .iload_n 3, 1), (119, .iaload, 1), (120, .invokevirtual 195, 3), (123, .ireturn, 1), (124, .aload_n 0, 1)]
def m_c108_1 : List m_I := [(125, .getfield 43, 3), (128, .getfield 192, 3), (131, .iload_n 3, 1), (132, .iaload, 1), (133, .ireturn, 1), (134, .aload_n 0, 1), (135, .getfield 43, 3), (138, .getfield 198, 3), (141, .iload_n 3, 1), (142, .iaload, 1), (143, .ireturn, 1), (144, .iconst (-1), 1), (145, .ireturn, 1)]
def m_c108 : List m_I := m_c108_0 ++ (m_c108_1)
def m_c109 : List m_I := [(0, .aload_n 0, 1), (1, .iload_n 1, 1), (2, .invokevirtual 114, 3), (5, .astore 4, 2), (7, .aload 4, 2), (9, .ifnull 22, 3), (12, .aload 4, 2), (14, .iload_n 2, 1), (15, .invokevirtual 146, 3), (18, .ifCond .eq 13, 3), (21, .iload_n 3, 1), (22, .ifCond .lt 9, 3), (25, .iload_n 3, 1), (26, .bipush 6, 2), (28, .if_icmp .lt 5, 3), (31, .iconst (-1), 1), (32, .ireturn, 1), (33, .aload 4, 2), (35, .getfield 201, 3), (38, .iload_n 2, 1), (39, .aaload, 1), (40, .iload_n 3, 1), (41, .iaload, 1), (42, .ireturn, 1)]
def m_c110 : List m_I := [(0, .aload_n 0, 1), (1, .iload_n 1, 1), (2, .invokevirtual 114, 3), (5, .astore 4, 2), (7, .aload 4, 2), (9, .ifnull 12, 3), (12, .aload 4, 2), (14, .iload_n 2, 1), (15, .invokevirtual 146, 3), (18, .ifCond .ne 5, 3), (21, .iconst (-1), 1), (22, .ireturn, 1), (23, .aload_n 0, 1), (24, .aload 4, 2), (26, .iload_n 2, 1), (27, .invokevirtual 166, 3), (30, .iload_n 3, 1), (31, .invokevirtual 205, 3), (34, .ireturn, 1)]
def m_c111 : List m_I := [(0, .iconst (-1), 1), (1, .istore_n 2, 1), (2, .iconst 0, 1), (3, .istore_n 3, 1), (4, .iload_n 3, 1), (5, .aload_n 0, 1), (6, .getfield 37, 3), (9, .if_icmp .ge 44, 3), (12, .aload_n 0, 1), (13, .getfield 15, 3), (16, .iload_n 3, 1), (17, .iaload, 1), (18, .invokestatic 61, 3), (21, .iload_n 1, 1), (22, .if_icmp .ne 25, 3), (25, .iload_n 2, 1), (26, .iconst (-1), 1), (27, .if_icmp .eq 13, 3), (30, .aload_n 0, 1), (31, .getfield 21, 3), (34, .iload_n 3, 1), (35, .iaload, 1), (36, .iload_n 2, 1), (37, .if_icmp .ge 10, 3), (40, .aload_n 0, 1), (41, .getfield 21, 3), (44, .iload_n 3, 1), (45, .iaload, 1), (46, .istore_n 2, 1), (47, .iinc 3 1, 3), (50, .goto (-46), 3), (53, .iload_n 2, 1), (54, .ireturn, 1)]
def m_c112 : List m_I := [(0, .aload_n 0, 1), (1, .iload_n 1, 1), (2, .invokevirtual 114, 3), (5, .astore 4, 2), (7, .aload 4, 2), (9, .ifnull 12, 3), (12, .aload 4, 2), (14, .iload_n 2, 1), (15, .invokevirtual 146, 3), (18, .ifCond .ne 5, 3), (21, .iconst (-1), 1), (22, .ireturn, 1), (23, .aload_n 0, 1), (24, .aload 4, 2), (26, .iload_n 2, 1), (27, .invokevirtual 166, 3), (30, .iload_n 3, 1), (31, .invokevirtual 208, 3), (34, .ireturn, 1)]
def m_c113 : List m_I := [(0, .iconst 0, 1), (1, .istore_n 2, 1), (2, .iconst 0, 1), (3, .istore_n 3, 1), (4, .iload_n 3, 1), (5, .aload_n 0, 1), (6, .getfield 37, 3), (9, .if_icmp .ge 25, 3), (12, .aload_n 0, 1), (13, .getfield 15, 3), (16, .iload_n 3, 1), (17, .iaload, 1), (18, .invokestatic 64, 3), (21, .iload_n 1, 1), (22, .if_icmp .ge 6, 3), (25, .iinc 2 1, 3), (28, .iinc 3 1, 3), (31, .goto (-27), 3), (34, .iload_n 2, 1), (35, .ireturn, 1)]
def m_c114 : List m_I := [(0, .aload_n 0, 1), (1, .iload_n 1, 1), (2, .invokevirtual 114, 3), (5, .astore 5, 2), (7, .aload 5, 2), (9, .ifnull 26, 3), (12, .aload 5, 2), (14, .iload_n 2, 1), (15, .invokevirtual 146, 3), (18, .ifCond .eq 17, 3), (21, .iload_n 3, 1), (22, .ifCond .lt 13, 3), (25, .iload_n 3, 1), (26, .aload 5, 2), (28, .iload_n 2, 1), (29, .invokevirtual 149, 3), (32, .if_icmp .le 5, 3), (35, .iconst (-1), 1), (36, .ireturn, 1), (37, .aload_n 0, 1), (38, .aload 5, 2), (40, .iload_n 2, 1), (41, .invokevirtual 166, 3), (44, .pop, 1), (45, .iload 4, 2), (47, .ifCond .eq 14, 3), (50, .aload_n 0, 1), (51, .getfield 43, 3), (54, .iload_n 3, 1), (55, .invokevirtual 211, 3), (58, .goto 11, 3), (61, .aload_n 0, 1), (62, .getfield 43, 3), (65, .iload_n 3, 1), (66, .invokevirtual 214, 3), (69, .ireturn, 1)]
def m_c115 : List m_I := [(0, .iconst 0, 1), (1, .istore_n 2, 1), (2, .iconst 0, 1), (3, .istore_n 3, 1), (4, .iload_n 3, 1), (5, .iload_n 1, 1), (6, .if_icmp .ge 34, 3), (9, .iload_n 3, 1), (10, .aload_n 0, 1), (11, .getfield 37, 3), (14, .if_icmp .ge 26, 3), (17, .iload_n 2, 1), (18, .aload_n 0, 1), (19, .getfield 15, 3), (22, .aload_n 0, 1), (23, .getfield 24, 3), (26, .iload_n 3, 1), (27, .iaload, 1), (28, .iaload, 1), (29, .invokestatic 64, 3), (32, .iadd, 1), (33, .istore_n 2, 1), (34, .iinc 3 1, 3), (37, .goto (-33), 3), (40, .iload_n 2, 1), (41, .ireturn, 1)]
def m_c116 : List m_I := [(0, .aload_n 0, 1), (1, .iconst (-1), 1), (2, .invokevirtual 72, 3), (5, .istore_n 2, 1), (6, .iconst 0, 1), (7, .istore_n 3, 1), (8, .iload_n 3, 1), (9, .iload_n 1, 1), (10, .if_icmp .ge 46, 3), (13, .iload_n 3, 1), (14, .aload_n 0, 1), (15, .getfield 37, 3), (18, .if_icmp .ge 38, 3), (21, .aload_n 0, 1), (22, .invokevirtual 75, 3), (25, .istore 4, 2), (27, .iload 4, 2), (29, .iconst (-1), 1), (30, .if_icmp .eq 20, 3), (33, .aload_n 0, 1), (34, .getfield 33, 3), (37, .iload 4, 2), (39, .iconst 0, 1), (40, .bastore, 1), (41, .iload_n 2, 1), (42, .aload_n 0, 1), (43, .iload 4, 2), (45, .invokevirtual 72, 3), (48, .iadd, 1), (49, .istore_n 2, 1), (50, .iinc 3 1, 3), (53, .goto (-45), 3), (56, .iload_n 2, 1), (57, .ireturn, 1)]
def m_c117 : List m_I := [(0, .iconst 0, 1), (1, .istore_n 2, 1), (2, .iconst 0, 1), (3, .istore_n 3, 1), (4, .iload_n 3, 1), (5, .aload_n 0, 1), (6, .getfield 37, 3), (9, .if_icmp .ge 41, 3), (12, .iload_n 1, 1), (13, .iconst (-1), 1), (14, .if_icmp .ne 10, 3), (17, .aload_n 0, 1), (18, .getfield 33, 3), (21, .iload_n 3, 1), (22, .iconst 0, 1), (23, .bastore, 1), (24, .aload_n 0, 1), (25, .getfield 18, 3), (28, .iload_n 3, 1), (29, .iaload, 1), (30, .iload_n 1, 1), (31, .if_icmp .ne 13, 3), (34, .aload_n 0, 1), (35, .getfield 33, 3), (38, .iload_n 3, 1), (39, .iconst 1, 1), (40, .bastore, 1), (41, .iinc 2 1, 3), (44, .iinc 3 1, 3), (47, .goto (-43), 3), (50, .iload_n 2, 1), (51, .ireturn, 1)]
def m_c118 : List m_I := [(0, .iconst (-1), 1), (1, .istore_n 1, 1), (2, .iconst 0, 1), (3, .istore_n 2, 1), (4, .iload_n 2, 1), (5, .aload_n 0, 1), (6, .getfield 37, 3), (9, .if_icmp .ge 40, 3), (12, .aload_n 0, 1), (13, .getfield 33, 3), (16, .iload_n 2, 1), (17, .baload, 1), (18, .ifCond .eq 25, 3), (21, .iload_n 1, 1), (22, .iconst (-1), 1), (23, .if_icmp .eq 18, 3), (26, .aload_n 0, 1), (27, .getfield 15, 3), (30, .iload_n 2, 1), (31, .iaload, 1), (32, .aload_n 0, 1), (33, .getfield 15, 3), (36, .iload_n 1, 1), (37, .iaload, 1), (38, .if_icmp .ge 5, 3), (41, .iload_n 2, 1), (42, .istore_n 1, 1), (43, .iinc 2 1, 3), (46, .goto (-42), 3), (49, .iload_n 1, 1), (50, .ireturn, 1)]
def m_c119 : List m_I := [(0, .aload_n 0, 1), (1, .iload_n 1, 1), (2, .invokevirtual 114, 3), (5, .astore 4, 2), (7, .aload 4, 2), (9, .ifnull 12, 3), (12, .aload 4, 2), (14, .iload_n 2, 1), (15, .invokevirtual 146, 3), (18, .ifCond .ne 5, 3), (21, .iconst (-1), 1), (22, .ireturn, 1), (23, .iload_n 3, 1), (24, .ifCond .eq 29, 3), (27, .aload_n 0, 1), (28, .getfield 53, 3), (31, .aload 4, 2), (33, .getfield 134, 3), (36, .iload_n 2, 1), (37, .invokestatic 155, 3), (40, .aload 4, 2), (42, .getfield 217, 3), (45, .iload_n 2, 1), (46, .invokevirtual 221, 3), (49, .invokevirtual 226, 3), (52, .ireturn, 1), (53, .aload_n 0, 1), (54, .aload 4, 2), (56, .iload_n 2, 1), (57, .invokevirtual 166, 3), (60, .invokevirtual 230, 3), (63, .ireturn, 1)]
def m_c120 : List m_I := [(0, .iload_n 1, 1), (1, .ifCond .lt 9, 3), (4, .iload_n 1, 1), (5, .bipush 41, 2), (7, .if_icmp .lt 5, 3), (10, .lconst 0, 1), (11, .lreturn, 1), (12, .aload_n 0, 1), (13, .getfield 9, 3), (16, .iload_n 1, 1), (17, .iaload, 1), (18, .iconst (-1), 1), (19, .if_icmp .ne 7, 3), (22, .lconst 0, 1), (23, .goto 12, 3), (26, .aload_n 0, 1), (27, .getfield 9, 3), (30, .iload_n 1, 1), (31, .iaload, 1), (32, .invokestatic 25, 3), (35, .lstore_n 2, 1), (36, .aload_n 0, 1), (37, .getfield 15, 3), (40, .iload_n 1, 1), (41, .iaload, 1), (42, .iconst (-1), 1), (43, .if_icmp .ne 7, 3), (46, .lload_n 2, 1), (47, .goto 14, 3), (50, .lload_n 2, 1), (51, .aload_n 0, 1), (52, .getfield 15, 3), (55, .iload_n 1, 1), (56, .iaload, 1), (57, .invokestatic 25, 3), (60, .lor, 1), (61, .lreturn, 1)]
def m_c121 : List m_I := [(0, .iconst 0, 1), (1, .istore_n 1, 1), (2, .iconst 0, 1), (3, .istore_n 2, 1), (4, .iload_n 2, 1), (5, .aload_n 0, 1), (6, .getfield 37, 3), (9, .if_icmp .ge 59, 3), (12, .iconst 0, 1), (13, .istore_n 3, 1), (14, .iconst 0, 1), (15, .istore 4, 2), (17, .iload 4, 2), (19, .iload_n 2, 1), (20, .if_icmp .ge 34, 3), (23, .aload_n 0, 1), (24, .getfield 15, 3), (27, .iload 4, 2), (29, .iaload, 1), (30, .invokestatic 61, 3), (33, .aload_n 0, 1), (34, .getfield 15, 3), (37, .iload_n 2, 1), (38, .iaload, 1), (39, .invokestatic 61, 3), (42, .if_icmp .ne 6, 3), (45, .iinc 3 1, 3), (48, .iinc 4 1, 3), (51, .goto (-34), 3), (54, .iload_n 3, 1), (55, .iconst 1, 1), (56, .if_icmp .ne 6, 3), (59, .iinc 1 1, 3), (62, .iinc 2 1, 3), (65, .goto (-61), 3), (68, .iload_n 1, 1), (69, .ireturn, 1)]
def m_c122 : List m_I := [(0, .aload_n 0, 1), (1, .iload_n 1, 1), (2, .invokevirtual 114, 3), (5, .astore 4, 2), (7, .aload 4, 2), (9, .ifnull 43, 3), (12, .aload 4, 2), (14, .iload_n 2, 1), (15, .invokevirtual 146, 3), (18, .ifCond .eq 34, 3), (21, .aload 4, 2), (23, .iload_n 3, 1), (24, .invokevirtual 146, 3), (27, .ifCond .eq 25, 3), (30, .aload 4, 2), (32, .iload_n 2, 1), (33, .invokevirtual 149, 3), (36, .bipush 6, 2), (38, .if_icmp .gt 14, 3), (41, .aload 4, 2), (43, .iload_n 3, 1), (44, .invokevirtual 149, 3), (47, .bipush 6, 2), (49, .if_icmp .le 5, 3), (52, .iconst (-1), 1), (53, .ireturn, 1), (54, .aload_n 0, 1), (55, .aload 4, 2), (57, .iload_n 2, 1), (58, .iload_n 3, 1), (59, .invokevirtual 233, 3), (62, .aload_n 0, 1), (63, .getfield 43, 3), (66, .invokevirtual 230, 3), (69, .ifCond .gt 13, 3), (72, .aload_n 0, 1), (73, .getfield 47, 3), (76, .invokevirtual 230, 3), (79, .ifCond .le 5, 3), (82, .iconst (-1), 1), (83, .ireturn, 1), (84, .aload_n 0, 1), (85, .getfield 43, 3), (88, .aload_n 0, 1), (89, .getfield 47, 3), (92, .invokevirtual 237, 3), (95, .ireturn, 1)]
def m_c123 : List m_I := [(0, .aload_n 0, 1), (1, .aload_n 1, 1), (2, .iload_n 2, 1), (3, .invokevirtual 166, 3), (6, .pop, 1), (7, .aload_n 0, 1), (8, .getfield 47, 3), (11, .aload_n 1, 1), (12, .getfield 134, 3), (15, .aload_n 1, 1), (16, .getfield 201, 3), (19, .iload_n 3, 1), (20, .aaload, 1), (21, .invokevirtual 334, 3), (24, .aload_n 0, 1), (25, .getfield 47, 3), (28, .invokevirtual 338, 3), (31, .return_, 1)]
def m_c124_0 : List m_I := [(0, .iconst 0, 1), (1, .istore_n 2, 1), (2, .iconst 0, 1), (3, .istore_n 3, 1), (4, .iload_n 3, 1), (5, .aload_n 1, 1), (6, .getfield 37, 3), (9, .if_icmp .ge 29, 3), (12, .aload_n 0, 1), (13, .aload_n 1, 1), (14, .getfield 15, 3), (17, .iload_n 3, 1), (18, .iaload, 1), (19, .invokestatic 61, 3), (22, .invokevirtual 79, 3), (25, .iconst (-1), 1), (26, .if_icmp .ne 6, 3), (29, .iinc 2 1, 3), (32, .iinc 3 1, 3), (35, .goto (-31), 3), (38, .iconst (-1), 1), (39, .istore_n 3, 1), (40, .iconst 0, 1), (41, .istore 4, 2), (43, .iload 4, 2), (45, .aload_n 0, 1), (46, .getfield 37, 3), (49, .if_icmp .gt 92, 3), (52, .iload_n 2, 1), (53, .istore 5, 2), (55, .iconst 0, 1), (56, .istore 6, 2), (58, .iload 6, 2), (60, .aload_n 0, 1), (61, .getfield 37, 3), (64, .if_icmp .ge 57, 3), (67, .aload_n 0, 1), (68, .getfield 15, 3), (71, .aload_n 0, 1), (72, .getfield 24, 3), (75, .iload 6, 2), (77, .iaload, 1), (78, .iaload, 1), (79, .istore 7, 2), (81, .iload 5, 2), (83, .iload 7, 2), (85, .invokestatic 64, 3), (88, .aload_n 1, 1), (89, .iload 7, 2), (91, .invokestatic 61, 3)]
def m_c124_1 : List m_I := [(94, .invokevirtual 79, 3), (97, .iload 6, 2), (99, .iload 4, 2), (101, .if_icmp .ge 7, 3), (104, .iconst 1, 1), (105, .goto 4, 3), (108, .iconst 0, 1), (109, .invokestatic 82, 3), (112, .iadd, 1), (113, .istore 5, 2), (115, .iinc 6 1, 3), (118, .goto (-60), 3), (121, .iload_n 3, 1), (122, .iconst (-1), 1), (123, .if_icmp .eq 9, 3), (126, .iload 5, 2), (128, .iload_n 3, 1), (129, .if_icmp .ge 6, 3), (132, .iload 5, 2), (134, .istore_n 3, 1), (135, .iinc 4 1, 3), (138, .goto (-95), 3), (141, .iload_n 3, 1), (142, .ireturn, 1)]
def m_c124 : List m_I := m_c124_0 ++ (m_c124_1)
def m_c125 : List m_I := [(0, .iconst 0, 1), (1, .istore_n 2, 1), (2, .iload_n 2, 1), (3, .aload_n 0, 1), (4, .getfield 37, 3), (7, .if_icmp .ge 32, 3), (10, .aload_n 0, 1), (11, .getfield 15, 3), (14, .iload_n 2, 1), (15, .iaload, 1), (16, .invokestatic 61, 3), (19, .iload_n 1, 1), (20, .if_icmp .ne 13, 3), (23, .aload_n 0, 1), (24, .getfield 15, 3), (27, .iload_n 2, 1), (28, .iaload, 1), (29, .invokestatic 64, 3), (32, .ireturn, 1), (33, .iinc 2 1, 3), (36, .goto (-34), 3), (39, .iconst (-1), 1), (40, .ireturn, 1)]
def m_c126 : List m_I := [(0, .iload_n 1, 1), (1, .iconst (-1), 1), (2, .if_icmp .ne 7, 3), (5, .iconst 0, 1), (6, .goto 4, 3), (9, .iconst 1, 1), (10, .istore_n 3, 1), (11, .iload_n 2, 1), (12, .ifCond .eq 7, 3), (15, .iconst 1, 1), (16, .iload_n 3, 1), (17, .iadd, 1), (18, .ireturn, 1), (19, .iload_n 1, 1), (20, .iconst (-1), 1), (21, .if_icmp .eq 8, 3), (24, .iload_n 1, 1), (25, .iload_n 0, 1), (26, .if_icmp .le 7, 3), (29, .iconst 2, 1), (30, .iload_n 3, 1), (31, .iadd, 1), (32, .ireturn, 1), (33, .iload_n 1, 1), (34, .iload_n 0, 1), (35, .if_icmp .ge 7, 3), (38, .iconst 1, 1), (39, .goto 4, 3), (42, .iconst 0, 1), (43, .ireturn, 1)]
def m_c127 : List m_I := [(0, .aload_n 0, 1), (1, .iload_n 1, 1), (2, .invokevirtual 114, 3), (5, .astore 5, 2), (7, .aload 5, 2), (9, .ifnull 21, 3), (12, .aload 5, 2), (14, .iload_n 2, 1), (15, .invokevirtual 146, 3), (18, .ifCond .eq 12, 3), (21, .aload 5, 2), (23, .iload_n 3, 1), (24, .invokevirtual 146, 3), (27, .ifCond .ne 5, 3), (30, .iconst 0, 1), (31, .ireturn, 1), (32, .aload_n 0, 1), (33, .aload 5, 2), (35, .iload_n 2, 1), (36, .iload_n 3, 1), (37, .invokevirtual 233, 3), (40, .iload 4, 2), (42, .ifCond .eq 17, 3), (45, .aload_n 0, 1), (46, .getfield 43, 3), (49, .aload_n 0, 1), (50, .getfield 47, 3), (53, .invokevirtual 241, 3), (56, .goto 14, 3), (59, .aload_n 0, 1), (60, .getfield 43, 3), (63, .aload_n 0, 1), (64, .getfield 47, 3), (67, .invokevirtual 245, 3), (70, .ireturn, 1)]
def m_c128 : List m_I := [(0, .aload_n 0, 1), (1, .getfield 37, 3), (4, .aload_n 1, 1), (5, .getfield 37, 3), (8, .if_icmp .ne 7, 3), (11, .iconst 1, 1), (12, .goto 4, 3), (15, .iconst 0, 1), (16, .istore_n 2, 1), (17, .iconst 0, 1), (18, .istore_n 3, 1), (19, .iload_n 2, 1), (20, .ifCond .eq 38, 3), (23, .iload_n 3, 1), (24, .aload_n 0, 1), (25, .getfield 37, 3), (28, .if_icmp .ge 30, 3), (31, .aload_n 0, 1), (32, .getfield 15, 3), (35, .iload_n 3, 1), (36, .iaload, 1), (37, .aload_n 1, 1), (38, .getfield 15, 3), (41, .iload_n 3, 1), (42, .iaload, 1), (43, .if_icmp .ne 7, 3), (46, .iconst 1, 1), (47, .goto 4, 3), (50, .iconst 0, 1), (51, .istore_n 2, 1), (52, .iinc 3 1, 3), (55, .goto (-36), 3), (58, .iload_n 2, 1), (59, .ireturn, 1)]
def m_c129 : List m_I := [(0, .aload_n 0, 1), (1, .getfield 37, 3), (4, .aload_n 1, 1), (5, .getfield 37, 3), (8, .if_icmp .ne 7, 3), (11, .iconst 1, 1), (12, .goto 4, 3), (15, .iconst 0, 1), (16, .istore_n 2, 1), (17, .iconst 0, 1), (18, .istore_n 3, 1), (19, .iload_n 2, 1), (20, .ifCond .eq 48, 3), (23, .iload_n 3, 1), (24, .aload_n 0, 1), (25, .getfield 37, 3), (28, .if_icmp .ge 40, 3), (31, .aload_n 0, 1), (32, .getfield 15, 3), (35, .aload_n 0, 1), (36, .getfield 24, 3), (39, .iload_n 3, 1), (40, .iaload, 1), (41, .iaload, 1), (42, .aload_n 1, 1), (43, .getfield 15, 3), (46, .aload_n 1, 1), (47, .getfield 24, 3), (50, .iload_n 3, 1), (51, .iaload, 1), (52, .iaload, 1), (53, .if_icmp .ne 7, 3), (56, .iconst 1, 1), (57, .goto 4, 3), (60, .iconst 0, 1), (61, .istore_n 2, 1), (62, .iinc 3 1, 3), (65, .goto (-46), 3), (68, .iload_n 2, 1), (69, .ireturn, 1)]
def m_c130 : List m_I := [(0, .aload_n 0, 1), (1, .iload_n 1, 1), (2, .invokevirtual 114, 3), (5, .astore 4, 2), (7, .aload 4, 2), (9, .ifnull 38, 3), (12, .aload 4, 2), (14, .iload_n 2, 1), (15, .invokevirtual 146, 3), (18, .ifCond .eq 29, 3), (21, .aload 4, 2), (23, .iload_n 3, 1), (24, .invokevirtual 146, 3), (27, .ifCond .eq 20, 3), (30, .aload 4, 2), (32, .getfield 217, 3), (35, .iload_n 2, 1), (36, .iload_n 3, 1), (37, .invokevirtual 248, 3), (40, .ifCond .eq 7, 3), (43, .iconst 1, 1), (44, .goto 4, 3), (47, .iconst 0, 1), (48, .ireturn, 1)]
def m_c131 : List m_I := [(0, .iload_n 2, 1), (1, .ifCond .lt 28, 3), (4, .iload_n 2, 1), (5, .bipush 41, 2), (7, .if_icmp .ge 22, 3), (10, .aload_n 0, 1), (11, .iload_n 1, 1), (12, .invokevirtual 29, 3), (15, .iload_n 2, 1), (16, .invokestatic 25, 3), (19, .land, 1), (20, .lconst 0, 1), (21, .lcmp, 1), (22, .ifCond .eq 7, 3), (25, .iconst 1, 1), (26, .goto 4, 3), (29, .iconst 0, 1), (30, .ireturn, 1)]
def m_c132 : List m_I := [(0, .aload_n 0, 1), (1, .iload_n 1, 1), (2, .invokevirtual 114, 3), (5, .astore 5, 2), (7, .aload 5, 2), (9, .ifnull 21, 3), (12, .aload 5, 2), (14, .iload_n 2, 1), (15, .invokevirtual 146, 3), (18, .ifCond .eq 12, 3), (21, .aload 5, 2), (23, .iload_n 3, 1), (24, .invokevirtual 146, 3), (27, .ifCond .ne 5, 3), (30, .iconst (-1), 1), (31, .ireturn, 1), (32, .iload 4, 2), (34, .ifCond .eq 16, 3), (37, .aload 5, 2), (39, .getfield 217, 3), (42, .iload_n 2, 1), (43, .iload_n 3, 1), (44, .invokevirtual 252, 3), (47, .goto 13, 3), (50, .aload 5, 2), (52, .getfield 217, 3), (55, .iload_n 2, 1), (56, .iload_n 3, 1), (57, .invokevirtual 255, 3), (60, .ireturn, 1)]
def m_c133_0 : List m_I := [(0, .aload_n 0, 1), (1, .iload_n 1, 1), (2, .invokevirtual 44, 3), (5, .iload_n 1, 1), (6, .iconst 1, 1), (7, .iadd, 1), (8, .istore_n 3, 1), (9, .iload_n 3, 1), (10, .iload_n 2, 1), (11, .if_icmp .gt 101, 3), (14, .iload_n 3, 1), (15, .bipush 41, 2), (17, .if_icmp .ge 95, 3), (20, .aload_n 0, 1), (21, .aload_n 0, 1), (22, .getfield 9, 3), (25, .iload_n 3, 1), (26, .iaload, 1), (27, .invokevirtual 48, 3), (30, .lstore 4, 2), (32, .aload_n 0, 1), (33, .aload_n 0, 1), (34, .getfield 15, 3), (37, .iload_n 3, 1), (38, .iaload, 1), (39, .invokevirtual 48, 3), (42, .lstore 6, 2), (44, .lload 4, 2), (46, .ldc2_w 36, 3), (49, .lcmp, 1), (50, .ifCond .eq 12, 3), (53, .lload 6, 2), (55, .ldc2_w 36, 3), (58, .lcmp, 1), (59, .ifCond .ne 13, 3), (62, .lload 4, 2), (64, .lload 6, 2), (66, .invokestatic 51, 3), (69, .goto 10, 3), (72, .lload 4, 2), (74, .lload 6, 2), (76, .invokestatic 57, 3), (79, .lstore 8, 2), (81, .aload_n 0, 1), (82, .getfield 22, 3), (85, .iload_n 3, 1), (86, .lload 8, 2), (88, .ldc2_w 36, 3), (91, .lcmp, 1), (92, .ifCond .ne 9, 3)]
def m_c133_1 : List m_I := [(95, .ldc2_w 36, 3), (98, .goto 7, 3), (101, .lload 8, 2), (103, .lconst 1, 1), (104, .ladd, 1), (105, .lastore, 1), (106, .iinc 3 1, 3), (109, .goto (-100), 3), (112, .aload_n 0, 1), (113, .iload_n 2, 1), (114, .invokevirtual 48, 3), (117, .l2i, 1), (118, .ireturn, 1)]
def m_c133 : List m_I := m_c133_0 ++ (m_c133_1)
def m_c134 : List m_I := [(0, .aload_n 0, 1), (1, .getfield 22, 3), (4, .ldc2_w 36, 3), (7, .invokestatic 38, 3), (10, .iload_n 1, 1), (11, .ifCond .lt 16, 3), (14, .iload_n 1, 1), (15, .bipush 41, 2), (17, .if_icmp .ge 10, 3), (20, .aload_n 0, 1), (21, .getfield 22, 3), (24, .iload_n 1, 1), (25, .lconst 0, 1), (26, .lastore, 1), (27, .return_, 1)]
def m_c135 : List m_I := [(0, .iconst 0, 1), (1, .istore_n 3, 1), (2, .aload_n 0, 1), (3, .arraylength, 1), (4, .istore 4, 2), (6, .iload_n 3, 1), (7, .iload 4, 2), (9, .if_icmp .ge 13, 3), (12, .aload_n 0, 1), (13, .iload_n 3, 1), (14, .lload_n 1, 1), (15, .lastore, 1), (16, .iinc 3 1, 3), (19, .goto (-13), 3), (22, .return_, 1)]
def m_c136 : List m_I := [(0, .iload_n 1, 1), (1, .ifCond .lt 18, 3), (4, .iload_n 1, 1), (5, .bipush 41, 2), (7, .if_icmp .ge 12, 3), (10, .aload_n 0, 1), (11, .getfield 22, 3), (14, .iload_n 1, 1), (15, .laload, 1), (16, .goto 6, 3), (19, .ldc2_w 36, 3), (22, .lreturn, 1)]
def m_c137 : List m_I := [(0, .lload_n 0, 1), (1, .lload_n 2, 1), (2, .lcmp, 1), (3, .ifCond .lt 7, 3), (6, .lload_n 0, 1), (7, .goto 4, 3), (10, .lload_n 2, 1), (11, .lreturn, 1)]
def m_c138 : List m_I := [(0, .lload_n 0, 1), (1, .lload_n 2, 1), (2, .lcmp, 1), (3, .ifCond .gt 7, 3), (6, .lload_n 0, 1), (7, .goto 4, 3), (10, .lload_n 2, 1), (11, .lreturn, 1)]
def m_c139 : List m_I := [(0, .aload_n 0, 1), (1, .iload_n 1, 1), (2, .invokevirtual 29, 3), (5, .aload_n 0, 1), (6, .iload_n 2, 1), (7, .invokevirtual 29, 3), (10, .land, 1), (11, .invokestatic 32, 3), (14, .ireturn, 1)]
def m_c140 : List m_I := [(0, .iconst (-1), 1), (1, .istore_n 2, 1), (2, .iconst 0, 1), (3, .istore_n 3, 1), (4, .iload_n 3, 1), (5, .bipush 41, 2), (7, .if_icmp .ge 22, 3), (10, .lload_n 0, 1), (11, .iload_n 3, 1), (12, .invokestatic 155, 3), (15, .land, 1), (16, .lconst 0, 1), (17, .lcmp, 1), (18, .ifCond .eq 5, 3), (21, .iload_n 3, 1), (22, .istore_n 2, 1), (23, .iinc 3 1, 3), (26, .goto (-22), 3), (29, .iload_n 2, 1), (30, .ireturn, 1)]
def m_c141 : List m_I := [(0, .aload_n 0, 1), (1, .iload_n 1, 1), (2, .invokevirtual 114, 3), (5, .astore 5, 2), (7, .aload 5, 2), (9, .ifnull 21, 3), (12, .aload 5, 2), (14, .iload_n 2, 1), (15, .invokevirtual 146, 3), (18, .ifCond .eq 12, 3), (21, .aload 5, 2), (23, .iload_n 3, 1), (24, .invokevirtual 146, 3), (27, .ifCond .ne 7, 3), (30, .ldc2_w 258, 3), (33, .lreturn, 1), (34, .iload 4, 2), (36, .ifCond .eq 16, 3), (39, .aload 5, 2), (41, .getfield 217, 3), (44, .iload_n 2, 1), (45, .iload_n 3, 1), (46, .invokevirtual 260, 3), (49, .goto 18, 3), (52, .aload 5, 2), (54, .getfield 217, 3), (57, .iload_n 2, 1), (58, .iload_n 3, 1), (59, .aload 5, 2), (61, .getfield 125, 3), (64, .invokevirtual 264, 3), (67, .lreturn, 1)]
def m_c142 : List m_I := [(0, .aload_n 0, 1), (1, .iload_n 2, 1), (2, .iload_n 1, 1), (3, .invokevirtual 60, 3), (6, .ifCond .ne 7, 3), (9, .ldc2_w 36, 3), (12, .lreturn, 1), (13, .aload_n 0, 1), (14, .iload_n 1, 1), (15, .invokevirtual 44, 3), (18, .aload_n 0, 1), (19, .getfield 22, 3), (22, .iload_n 1, 1), (23, .lconst 1, 1), (24, .lastore, 1), (25, .iload_n 1, 1), (26, .iconst 1, 1), (27, .iadd, 1), (28, .istore_n 3, 1), (29, .iload_n 3, 1), (30, .iload_n 2, 1), (31, .if_icmp .gt 50, 3), (34, .iload_n 3, 1), (35, .bipush 41, 2), (37, .if_icmp .ge 44, 3), (40, .aload_n 0, 1), (41, .getfield 22, 3), (44, .iload_n 3, 1), (45, .lconst 0, 1), (46, .aload_n 0, 1), (47, .aload_n 0, 1), (48, .getfield 9, 3), (51, .iload_n 3, 1), (52, .iaload, 1), (53, .invokevirtual 48, 3), (56, .invokestatic 51, 3), (59, .lconst 0, 1), (60, .aload_n 0, 1), (61, .aload_n 0, 1), (62, .getfield 15, 3), (65, .iload_n 3, 1), (66, .iaload, 1), (67, .invokevirtual 48, 3), (70, .invokestatic 51, 3), (73, .ladd, 1), (74, .lastore, 1), (75, .iinc 3 1, 3), (78, .goto (-49), 3), (81, .aload_n 0, 1), (82, .iload_n 2, 1), (83, .invokevirtual 48, 3), (86, .lreturn, 1)]
def m_c143 : List m_I := [(0, .aload_n 0, 1), (1, .iload_n 1, 1), (2, .invokevirtual 44, 3), (5, .iload_n 1, 1), (6, .iconst 1, 1), (7, .iadd, 1), (8, .istore 4, 2), (10, .iload 4, 2), (12, .iload_n 2, 1), (13, .if_icmp .gt 82, 3), (16, .iload 4, 2), (18, .bipush 41, 2), (20, .if_icmp .ge 75, 3), (23, .iload 4, 2), (25, .aload_n 3, 1), (26, .arraylength, 1), (27, .if_icmp .gt 68, 3), (30, .aload_n 0, 1), (31, .aload_n 0, 1), (32, .getfield 9, 3), (35, .iload 4, 2), (37, .iaload, 1), (38, .invokevirtual 48, 3), (41, .aload_n 0, 1), (42, .aload_n 0, 1), (43, .getfield 15, 3), (46, .iload 4, 2), (48, .iaload, 1), (49, .invokevirtual 48, 3), (52, .invokestatic 51, 3), (55, .lstore 5, 2), (57, .aload_n 0, 1), (58, .getfield 22, 3), (61, .iload 4, 2), (63, .lload 5, 2), (65, .ldc2_w 36, 3), (68, .lcmp, 1), (69, .ifCond .ne 9, 3), (72, .ldc2_w 36, 3), (75, .goto 13, 3), (78, .lload 5, 2), (80, .aload_n 3, 1), (81, .iload 4, 2), (83, .iconst 1, 1), (84, .isub, 1), (85, .iaload, 1), (86, .i2l, 1), (87, .ladd, 1), (88, .lastore, 1), (89, .iinc 4 1, 3), (92, .goto (-82), 3), (95, .aload_n 0, 1), (96, .iload_n 2, 1), (97, .invokevirtual 48, 3), (100, .lreturn, 1)]
def m_c144 : List m_I := [(0, .aload_n 0, 1), (1, .iload_n 1, 1), (2, .invokevirtual 114, 3), (5, .astore_n 3, 1), (6, .aload_n 3, 1), (7, .ifnonnull 7, 3), (10, .iconst (-1), 1), (11, .goto 8, 3), (14, .aload_n 3, 1), (15, .iload_n 2, 1), (16, .invokevirtual 268, 3), (19, .ireturn, 1)]
def m_c145 : List m_I := [(0, .iconst 0, 1), (1, .istore_n 2, 1), (2, .iload_n 2, 1), (3, .aload_n 0, 1), (4, .getfield 55, 3), (7, .if_icmp .ge 21, 3), (10, .aload_n 0, 1), (11, .getfield 40, 3), (14, .iload_n 2, 1), (15, .iaload, 1), (16, .iload_n 1, 1), (17, .if_icmp .le 5, 3), (20, .iload_n 2, 1), (21, .ireturn, 1), (22, .iinc 2 1, 3), (25, .goto (-23), 3), (28, .iconst (-1), 1), (29, .ireturn, 1)]
def m_c146 : List m_I := [(0, .aload_n 0, 1), (1, .iload_n 1, 1), (2, .invokevirtual 114, 3), (5, .astore 4, 2), (7, .aload 4, 2), (9, .ifnull 21, 3), (12, .aload 4, 2), (14, .iload_n 2, 1), (15, .invokevirtual 146, 3), (18, .ifCond .eq 12, 3), (21, .aload 4, 2), (23, .iload_n 3, 1), (24, .invokevirtual 146, 3), (27, .ifCond .ne 5, 3), (30, .iconst (-1), 1), (31, .ireturn, 1), (32, .aload_n 0, 1), (33, .getfield 53, 3), (36, .aload 4, 2), (38, .getfield 134, 3), (41, .iload_n 2, 1), (42, .invokestatic 155, 3), (45, .iload_n 3, 1), (46, .invokestatic 155, 3), (49, .lor, 1), (50, .invokevirtual 159, 3), (53, .ireturn, 1)]
def m_c147 : List m_I := [(0, .aload_n 0, 1), (1, .iload_n 1, 1), (2, .invokevirtual 114, 3), (5, .astore 4, 2), (7, .aload 4, 2), (9, .ifnull 21, 3), (12, .aload 4, 2), (14, .iload_n 2, 1), (15, .invokevirtual 146, 3), (18, .ifCond .eq 12, 3), (21, .aload 4, 2), (23, .iload_n 3, 1), (24, .invokevirtual 146, 3), (27, .ifCond .ne 5, 3), (30, .iconst (-1), 1), (31, .ireturn, 1), (32, .aload_n 0, 1), (33, .getfield 53, 3), (36, .aload 4, 2), (38, .getfield 134, 3), (41, .iload_n 2, 1), (42, .invokestatic 155, 3), (45, .iload_n 3, 1), (46, .invokestatic 155, 3), (49, .lor, 1), (50, .invokevirtual 271, 3), (53, .ireturn, 1)]
def m_c148 : List m_I := [(0, .iconst (-1), 1), (1, .istore 4, 2), (3, .iconst 0, 1), (4, .istore 5, 2), (6, .iload 5, 2), (8, .aload_n 1, 1), (9, .getfield 21, 3), (12, .if_icmp .ge 35, 3), (15, .aload_n 1, 1), (16, .iload 5, 2), (18, .invokevirtual 27, 3), (21, .lload_n 2, 1), (22, .land, 1), (23, .lload_n 2, 1), (24, .lcmp, 1), (25, .ifCond .ne 16, 3), (28, .iload 4, 2), (30, .aload_n 1, 1), (31, .iload 5, 2), (33, .invokevirtual 37, 3), (36, .invokestatic 41, 3), (39, .istore 4, 2), (41, .iinc 5 1, 3), (44, .goto (-38), 3), (47, .iload 4, 2), (49, .ireturn, 1)]
def m_c149 : List m_I := [(0, .aload_n 0, 1), (1, .iload_n 1, 1), (2, .invokevirtual 114, 3), (5, .astore 5, 2), (7, .aload 5, 2), (9, .ifnull 12, 3), (12, .aload 5, 2), (14, .lload_n 2, 1), (15, .invokevirtual 273, 3), (18, .ifCond .ne 5, 3), (21, .iconst (-1), 1), (22, .ireturn, 1), (23, .aload_n 0, 1), (24, .getfield 53, 3), (27, .aload 5, 2), (29, .getfield 134, 3), (32, .lload_n 2, 1), (33, .invokevirtual 277, 3), (36, .istore 6, 2), (38, .iload 4, 2), (40, .ifCond .eq 17, 3), (43, .aload 5, 2), (45, .getfield 134, 3), (48, .getfield 138, 3), (51, .iload 6, 2), (53, .isub, 1), (54, .goto 5, 3), (57, .iload 6, 2), (59, .ireturn, 1)]
def m_c150 : List m_I := [(0, .lload_n 1, 1), (1, .aload_n 0, 1), (2, .getfield 55, 3), (5, .iconst 1, 1), (6, .iadd, 1), (7, .invokestatic 59, 3), (10, .lneg, 1), (11, .land, 1), (12, .lconst 0, 1), (13, .lcmp, 1), (14, .ifCond .ne 7, 3), (17, .iconst 1, 1), (18, .goto 4, 3), (21, .iconst 0, 1), (22, .ireturn, 1)]
def m_c151 : List m_I := [(0, .iconst 0, 1), (1, .istore 4, 2), (3, .iconst 0, 1), (4, .istore 5, 2), (6, .iload 5, 2), (8, .aload_n 1, 1), (9, .getfield 21, 3), (12, .if_icmp .ge 25, 3), (15, .aload_n 1, 1), (16, .iload 5, 2), (18, .invokevirtual 27, 3), (21, .lload_n 2, 1), (22, .land, 1), (23, .lconst 0, 1), (24, .lcmp, 1), (25, .ifCond .eq 6, 3), (28, .iinc 4 1, 3), (31, .iinc 5 1, 3), (34, .goto (-28), 3), (37, .iload 4, 2), (39, .ireturn, 1)]
def m_c152 : List m_I := [(0, .aload_n 0, 1), (1, .iload_n 1, 1), (2, .invokevirtual 114, 3), (5, .astore 4, 2), (7, .aload 4, 2), (9, .ifnull 12, 3), (12, .aload 4, 2), (14, .lload_n 2, 1), (15, .invokevirtual 273, 3), (18, .ifCond .ne 5, 3), (21, .iconst (-1), 1), (22, .ireturn, 1), (23, .aload_n 0, 1), (24, .getfield 53, 3), (27, .aload 4, 2), (29, .getfield 134, 3), (32, .lload_n 2, 1), (33, .invokevirtual 280, 3), (36, .ireturn, 1)]
def m_c153_0 : List m_I := [(0, .aload_n 0, 1), (1, .getfield 18, 3), (4, .iconst 0, 1), (5, .invokestatic 47, 3), (8, .iconst 0, 1), (9, .istore 4, 2), (11, .iload 4, 2), (13, .aload_n 1, 1), (14, .getfield 21, 3), (17, .if_icmp .ge 53, 3), (20, .aload_n 1, 1), (21, .iload 4, 2), (23, .invokevirtual 27, 3), (26, .lload_n 2, 1), (27, .land, 1), (28, .lstore 5, 2), (30, .lload 5, 2), (32, .invokestatic 53, 3), (35, .istore 7, 2), (37, .lload 5, 2), (39, .invokestatic 57, 3), (42, .iconst 1, 1), (43, .if_icmp .ne 21, 3), (46, .iload 7, 2), (48, .bipush 41, 2), (50, .if_icmp .ge 14, 3), (53, .aload_n 0, 1), (54, .getfield 18, 3), (57, .iload 7, 2), (59, .dup2, 1), (60, .iaload, 1), (61, .iconst 1, 1), (62, .iadd, 1), (63, .iastore, 1), (64, .iinc 4 1, 3), (67, .goto (-56), 3), (70, .iconst (-1), 1), (71, .istore 4, 2), (73, .iconst 0, 1), (74, .istore 5, 2), (76, .iload 5, 2), (78, .bipush 41, 2), (80, .if_icmp .ge 48, 3), (83, .lload_n 2, 1), (84, .iload 5, 2), (86, .invokestatic 62, 3), (89, .land, 1), (90, .lconst 0, 1), (91, .lcmp, 1), (92, .ifCond .eq 30, 3)]
def m_c153_1 : List m_I := [(95, .iload 4, 2), (97, .iconst (-1), 1), (98, .if_icmp .eq 20, 3), (101, .aload_n 0, 1), (102, .getfield 18, 3), (105, .iload 5, 2), (107, .iaload, 1), (108, .aload_n 0, 1), (109, .getfield 18, 3), (112, .iload 4, 2), (114, .iaload, 1), (115, .if_icmp .le 7, 3), (118, .iload 5, 2), (120, .istore 4, 2), (122, .iinc 5 1, 3), (125, .goto (-49), 3), (128, .iload 4, 2), (130, .ireturn, 1)]
def m_c153 : List m_I := m_c153_0 ++ (m_c153_1)
def m_c154 : List m_I := [(0, .lload_n 0, 1), (1, .lconst 0, 1), (2, .lcmp, 1), (3, .ifCond .ne 7, 3), (6, .iconst (-1), 1), (7, .goto 12, 3), (10, .lload_n 0, 1), (11, .lload_n 0, 1), (12, .lneg, 1), (13, .land, 1), (14, .lconst 1, 1), (15, .lsub, 1), (16, .invokestatic 283, 3), (19, .ireturn, 1)]
def m_c155 : List m_I := [(0, .lload_n 0, 1), (1, .lload_n 0, 1), (2, .iconst 1, 1), (3, .lushr, 1), (4, .ldc2_w 314, 3), (7, .land, 1), (8, .lsub, 1), (9, .lstore_n 0, 1), (10, .lload_n 0, 1), (11, .ldc2_w 316, 3), (14, .land, 1), (15, .lload_n 0, 1), (16, .iconst 2, 1), (17, .lushr, 1), (18, .ldc2_w 316, 3), (21, .land, 1), (22, .ladd, 1), (23, .lstore_n 0, 1), (24, .lload_n 0, 1), (25, .lload_n 0, 1), (26, .iconst 4, 1), (27, .lushr, 1), (28, .ladd, 1), (29, .ldc2_w 318, 3), (32, .land, 1), (33, .lstore_n 0, 1), (34, .lload_n 0, 1), (35, .lload_n 0, 1), (36, .bipush 8, 2), (38, .lushr, 1), (39, .ladd, 1), (40, .lstore_n 0, 1), (41, .lload_n 0, 1), (42, .lload_n 0, 1), (43, .bipush 16, 2), (45, .lushr, 1), (46, .ladd, 1), (47, .lstore_n 0, 1), (48, .lload_n 0, 1), (49, .lload_n 0, 1), (50, .bipush 32, 2), (52, .lushr, 1), (53, .ladd, 1), (54, .lstore_n 0, 1), (55, .lload_n 0, 1), (56, .l2i, 1), (57, .bipush 127, 2), (59, .iand, 1), (60, .ireturn, 1)]
def m_c156 : List m_I := [(0, .aload_n 0, 1), (1, .iload_n 1, 1), (2, .invokevirtual 114, 3), (5, .astore 4, 2), (7, .aload 4, 2), (9, .ifnull 21, 3), (12, .aload 4, 2), (14, .lload_n 2, 1), (15, .invokevirtual 273, 3), (18, .ifCond .eq 12, 3), (21, .lload_n 2, 1), (22, .invokestatic 283, 3), (25, .bipush 12, 2), (27, .if_icmp .le 7, 3), (30, .ldc2_w 258, 3), (33, .lreturn, 1), (34, .aload_n 0, 1), (35, .getfield 53, 3), (38, .aload 4, 2), (40, .getfield 134, 3), (43, .lload_n 2, 1), (44, .invokevirtual 289, 3), (47, .lreturn, 1)]
def m_c157_0 : List m_I := [(0, .aload_n 0, 1), (1, .lload_n 2, 1), (2, .invokevirtual 68, 3), (5, .iconst 0, 1), (6, .istore 4, 2), (8, .iload 4, 2), (10, .aload_n 1, 1), (11, .getfield 21, 3), (14, .if_icmp .ge 37, 3), (17, .aload_n 0, 1), (18, .aload_n 1, 1), (19, .iload 4, 2), (21, .invokevirtual 27, 3), (24, .invokevirtual 72, 3), (27, .istore 5, 2), (29, .iload 5, 2), (31, .ifCond .eq 14, 3), (34, .aload_n 0, 1), (35, .getfield 9, 3), (38, .iload 5, 2), (40, .dup2, 1), (41, .iaload, 1), (42, .iconst 1, 1), (43, .iadd, 1), (44, .iastore, 1), (45, .iinc 4 1, 3), (48, .goto (-40), 3), (51, .aload_n 0, 1), (52, .invokevirtual 75, 3), (55, .iconst 1, 1), (56, .aload_n 0, 1), (57, .getfield 65, 3), (60, .ishl, 1), (61, .iconst 1, 1), (62, .isub, 1), (63, .istore 4, 2), (65, .iload 4, 2), (67, .istore 5, 2), (69, .iconst 0, 1), (70, .istore 6, 2), (72, .iload 6, 2), (74, .iload 4, 2), (76, .if_icmp .ge 39, 3), (79, .aload_n 0, 1), (80, .getfield 9, 3), (83, .iload 4, 2), (85, .iload 6, 2), (87, .ixor, 1), (88, .iaload, 1), (89, .ifCond .ne 20, 3)]
def m_c157_1 : List m_I := [(92, .iload 6, 2), (94, .invokestatic 78, 3), (97, .iload 5, 2), (99, .invokestatic 78, 3), (102, .if_icmp .ge 7, 3), (105, .iload 6, 2), (107, .istore 5, 2), (109, .iinc 6 1, 3), (112, .goto (-40), 3), (115, .aload_n 0, 1), (116, .iload 5, 2), (118, .invokevirtual 82, 3), (121, .lreturn, 1)]
def m_c157 : List m_I := m_c157_0 ++ (m_c157_1)
def m_c158 : List m_I := [(0, .aload_n 0, 1), (1, .iconst 0, 1), (2, .putfield 65, 3), (5, .iconst 0, 1), (6, .istore_n 3, 1), (7, .iload_n 3, 1), (8, .bipush 41, 2), (10, .if_icmp .ge 49, 3), (13, .aload_n 0, 1), (14, .getfield 65, 3), (17, .bipush 12, 2), (19, .if_icmp .ge 40, 3), (22, .lload_n 1, 1), (23, .iload_n 3, 1), (24, .invokestatic 62, 3), (27, .land, 1), (28, .lconst 0, 1), (29, .lcmp, 1), (30, .ifCond .eq 23, 3), (33, .aload_n 0, 1), (34, .getfield 15, 3), (37, .aload_n 0, 1), (38, .getfield 65, 3), (41, .iload_n 3, 1), (42, .iastore, 1), (43, .aload_n 0, 1), (44, .dup, 1), (45, .getfield 65, 3), (48, .iconst 1, 1), (49, .iadd, 1), (50, .putfield 65, 3), (53, .iinc 3 1, 3), (56, .goto (-49), 3), (59, .aload_n 0, 1), (60, .getfield 9, 3), (63, .arraylength, 1), (64, .iconst 1, 1), (65, .aload_n 0, 1), (66, .getfield 65, 3), (69, .ishl, 1), (70, .if_icmp .ge 15, 3), (73, .aload_n 0, 1), (74, .iconst 1, 1), (75, .aload_n 0, 1), (76, .getfield 65, 3), (79, .ishl, 1), (80, .newarray .int, 2), (82, .putfield 9, 3), (85, .aload_n 0, 1), (86, .getfield 9, 3), (89, .iconst 0, 1), (90, .invokestatic 47, 3), (93, .return_, 1)]
def m_c159 : List m_I := [(0, .iconst 0, 1), (1, .istore_n 3, 1), (2, .iconst 0, 1), (3, .istore 4, 2), (5, .iload 4, 2), (7, .aload_n 0, 1), (8, .getfield 65, 3), (11, .if_icmp .ge 27, 3), (14, .iload_n 3, 1), (15, .lload_n 1, 1), (16, .aload_n 0, 1), (17, .getfield 15, 3), (20, .iload 4, 2), (22, .iaload, 1), (23, .lushr, 1), (24, .lconst 1, 1), (25, .land, 1), (26, .l2i, 1), (27, .iload 4, 2), (29, .ishl, 1), (30, .ior, 1), (31, .istore_n 3, 1), (32, .iinc 4 1, 3), (35, .goto (-30), 3), (38, .iload_n 3, 1), (39, .ireturn, 1)]
def m_c160 : List m_I := [(0, .iconst 0, 1), (1, .istore_n 1, 1), (2, .iload_n 1, 1), (3, .aload_n 0, 1), (4, .getfield 65, 3), (7, .if_icmp .ge 54, 3), (10, .iconst 0, 1), (11, .istore_n 2, 1), (12, .iload_n 2, 1), (13, .iconst 1, 1), (14, .aload_n 0, 1), (15, .getfield 65, 3), (18, .ishl, 1), (19, .if_icmp .ge 36, 3), (22, .iload_n 2, 1), (23, .iload_n 1, 1), (24, .iushr, 1), (25, .iconst 1, 1), (26, .iand, 1), (27, .ifCond .eq 22, 3), (30, .aload_n 0, 1), (31, .getfield 9, 3), (34, .iload_n 2, 1), (35, .dup2, 1), (36, .iaload, 1), (37, .aload_n 0, 1), (38, .getfield 9, 3), (41, .iload_n 2, 1), (42, .iconst 1, 1), (43, .iload_n 1, 1), (44, .ishl, 1), (45, .ixor, 1), (46, .iaload, 1), (47, .iadd, 1), (48, .iastore, 1), (49, .iinc 2 1, 3), (52, .goto (-40), 3), (55, .iinc 1 1, 3), (58, .goto (-56), 3), (61, .return_, 1)]
def m_c161 : List m_I := [(0, .lconst 0, 1), (1, .lstore_n 2, 1), (2, .iconst 0, 1), (3, .istore 4, 2), (5, .iload 4, 2), (7, .aload_n 0, 1), (8, .getfield 65, 3), (11, .if_icmp .ge 31, 3), (14, .iload_n 1, 1), (15, .iload 4, 2), (17, .iushr, 1), (18, .iconst 1, 1), (19, .iand, 1), (20, .ifCond .eq 16, 3), (23, .lload_n 2, 1), (24, .aload_n 0, 1), (25, .getfield 15, 3), (28, .iload 4, 2), (30, .iaload, 1), (31, .invokestatic 62, 3), (34, .lor, 1), (35, .lstore_n 2, 1), (36, .iinc 4 1, 3), (39, .goto (-34), 3), (42, .lload_n 2, 1), (43, .lreturn, 1)]
def m_c162 : List m_I := [(0, .aload_n 0, 1), (1, .iload_n 1, 1), (2, .invokevirtual 114, 3), (5, .astore 5, 2), (7, .aload 5, 2), (9, .ifnull 26, 3), (12, .aload 5, 2), (14, .lload_n 2, 1), (15, .invokevirtual 273, 3), (18, .ifCond .eq 17, 3), (21, .lload_n 2, 1), (22, .invokestatic 283, 3), (25, .bipush 12, 2), (27, .if_icmp .gt 8, 3), (30, .iload 4, 2), (32, .ifCond .ge 7, 3), (35, .ldc2_w 258, 3), (38, .lreturn, 1), (39, .aload_n 0, 1), (40, .getfield 53, 3), (43, .aload 5, 2), (45, .getfield 134, 3), (48, .lload_n 2, 1), (49, .iload 4, 2), (51, .invokevirtual 293, 3), (54, .lreturn, 1)]
def m_c163_0 : List m_I := [(0, .aload_n 0, 1), (1, .lload_n 2, 1), (2, .invokevirtual 68, 3), (5, .iconst 0, 1), (6, .istore 5, 2), (8, .iload 5, 2), (10, .aload_n 1, 1), (11, .getfield 21, 3), (14, .if_icmp .ge 45, 3), (17, .aload_n 1, 1), (18, .iload 5, 2), (20, .invokevirtual 27, 3), (23, .lstore 6, 2), (25, .lload 6, 2), (27, .lload_n 2, 1), (28, .ldc2_w 31, 3), (31, .lxor, 1), (32, .land, 1), (33, .lconst 0, 1), (34, .lcmp, 1), (35, .ifCond .ne 18, 3), (38, .aload_n 0, 1), (39, .getfield 9, 3), (42, .aload_n 0, 1), (43, .lload 6, 2), (45, .invokevirtual 72, 3), (48, .dup2, 1), (49, .iaload, 1), (50, .iconst 1, 1), (51, .iadd, 1), (52, .iastore, 1), (53, .iinc 5 1, 3), (56, .goto (-48), 3), (59, .aload_n 0, 1), (60, .invokevirtual 75, 3), (63, .iconst (-1), 1), (64, .istore 5, 2), (66, .iconst 0, 1), (67, .istore 6, 2), (69, .iload 6, 2), (71, .iconst 1, 1), (72, .aload_n 0, 1), (73, .getfield 65, 3), (76, .ishl, 1), (77, .if_icmp .ge 44, 3), (80, .aload_n 0, 1), (81, .getfield 9, 3), (84, .iload 6, 2), (86, .iaload, 1), (87, .iload 4, 2)]
def m_c163_1 : List m_I := [(89, .if_icmp .lt 26, 3), (92, .iload 5, 2), (94, .iconst (-1), 1), (95, .if_icmp .eq 16, 3), (98, .iload 6, 2), (100, .invokestatic 78, 3), (103, .iload 5, 2), (105, .invokestatic 78, 3), (108, .if_icmp .ge 7, 3), (111, .iload 6, 2), (113, .istore 5, 2), (115, .iinc 6 1, 3), (118, .goto (-49), 3), (121, .iload 5, 2), (123, .iconst (-1), 1), (124, .if_icmp .ne 9, 3), (127, .ldc2_w 31, 3), (130, .goto 9, 3), (133, .aload_n 0, 1), (134, .iload 5, 2), (136, .invokevirtual 82, 3), (139, .lreturn, 1)]
def m_c163 : List m_I := m_c163_0 ++ (m_c163_1)
def m_c164 : List m_I := [(0, .aload_n 0, 1), (1, .iload_n 1, 1), (2, .invokevirtual 114, 3), (5, .astore 4, 2), (7, .aload 4, 2), (9, .ifnonnull 5, 3), (12, .iconst (-1), 1), (13, .ireturn, 1), (14, .aload_n 0, 1), (15, .getfield 53, 3), (18, .aload 4, 2), (20, .getfield 134, 3), (23, .iload_n 2, 1), (24, .invokevirtual 297, 3), (27, .lstore 5, 2), (29, .iload_n 3, 1), (30, .ifCond .eq 11, 3), (33, .lload 5, 2), (35, .invokestatic 301, 3), (38, .goto 8, 3), (41, .lload 5, 2), (43, .invokestatic 304, 3), (46, .ireturn, 1)]
def m_c165 : List m_I := [(0, .lconst 0, 1), (1, .lstore_n 3, 1), (2, .iconst 0, 1), (3, .istore 5, 2), (5, .iload 5, 2), (7, .aload_n 1, 1), (8, .getfield 21, 3), (11, .if_icmp .ge 31, 3), (14, .aload_n 1, 1), (15, .iload 5, 2), (17, .invokevirtual 85, 3), (20, .invokestatic 88, 3), (23, .iload_n 2, 1), (24, .if_icmp .ne 12, 3), (27, .lload_n 3, 1), (28, .aload_n 1, 1), (29, .iload 5, 2), (31, .invokevirtual 27, 3), (34, .lor, 1), (35, .lstore_n 3, 1), (36, .iinc 5 1, 3), (39, .goto (-34), 3), (42, .lload_n 3, 1), (43, .lreturn, 1)]
def m_c166 : List m_I := [(0, .aload_n 0, 1), (1, .iload_n 1, 1), (2, .invokevirtual 114, 3), (5, .astore_n 3, 1), (6, .aload_n 3, 1), (7, .ifnonnull 7, 3), (10, .iconst (-1), 1), (11, .goto 15, 3), (14, .aload_n 0, 1), (15, .getfield 53, 3), (18, .aload_n 3, 1), (19, .getfield 134, 3), (22, .iload_n 2, 1), (23, .invokevirtual 307, 3), (26, .ireturn, 1)]
def m_c167 : List m_I := [(0, .iconst (-1), 1), (1, .istore_n 3, 1), (2, .iconst 0, 1), (3, .istore 4, 2), (5, .iload 4, 2), (7, .aload_n 1, 1), (8, .getfield 21, 3), (11, .if_icmp .ge 70, 3), (14, .aload_n 1, 1), (15, .iload 4, 2), (17, .invokevirtual 85, 3), (20, .invokestatic 91, 3), (23, .istore 5, 2), (25, .aload_n 1, 1), (26, .iload 4, 2), (28, .invokevirtual 85, 3), (31, .invokestatic 88, 3), (34, .iload_n 2, 1), (35, .if_icmp .ne 18, 3), (38, .aload_n 1, 1), (39, .iload 4, 2), (41, .invokevirtual 27, 3), (44, .lconst 0, 1), (45, .lcmp, 1), (46, .ifCond .eq 7, 3), (49, .iconst 1, 1), (50, .goto 4, 3), (53, .iconst 0, 1), (54, .istore 6, 2), (56, .iload 6, 2), (58, .ifCond .eq 17, 3), (61, .iload_n 3, 1), (62, .iconst (-1), 1), (63, .if_icmp .eq 9, 3), (66, .iload 5, 2), (68, .iload_n 3, 1), (69, .if_icmp .ge 6, 3), (72, .iload 5, 2), (74, .istore_n 3, 1), (75, .iinc 4 1, 3), (78, .goto (-73), 3), (81, .iload_n 3, 1), (82, .ireturn, 1)]
def m_c168 : List m_I := [(0, .aload_n 0, 1), (1, .iload_n 1, 1), (2, .invokevirtual 114, 3), (5, .astore 7, 2), (7, .aload 7, 2), (9, .ifnull 13, 3), (12, .iload_n 3, 1), (13, .iconst 1, 1), (14, .if_icmp .lt 8, 3), (17, .iload_n 3, 1), (18, .iconst 5, 1), (19, .if_icmp .le 5, 3), (22, .iconst (-1), 1), (23, .ireturn, 1), (24, .iload_n 3, 1), (25, .iconst 1, 1), (26, .if_icmp .eq 13, 3), (29, .iload_n 3, 1), (30, .iconst 4, 1), (31, .if_icmp .eq 8, 3), (34, .iload_n 3, 1), (35, .iconst 5, 1), (36, .if_icmp .ne 7, 3), (39, .iconst 1, 1), (40, .goto 4, 3), (43, .iconst 0, 1), (44, .istore 8, 2), (46, .iload_n 3, 1), (47, .iconst 4, 1), (48, .if_icmp .ne 8, 3), (51, .iload 5, 2), (53, .goto 5, 3), (56, .iload 4, 2), (58, .istore 9, 2), (60, .iload 8, 2), (62, .ifCond .eq 17, 3), (65, .iload 9, 2), (67, .ifCond .lt 10, 3), (70, .iload 9, 2), (72, .bipush 99, 2), (74, .if_icmp .le 5, 3), (77, .iconst (-1), 1), (78, .ireturn, 1), (79, .aload 7, 2), (81, .iload_n 3, 1), (82, .iload_n 2, 1), (83, .iload 4, 2), (85, .iload 5, 2), (87, .iload 6, 2), (89, .invokevirtual 311, 3), (92, .ireturn, 1)]
def m_c169 : List m_I := [(0, .aload_n 0, 1), (1, .getfield 12, 3), (4, .getfield 101, 3), (7, .istore 6, 2), (9, .aload_n 0, 1), (10, .getfield 80, 3), (13, .istore 7, 2), (15, .aload_n 0, 1), (16, .getfield 12, 3), (19, .iconst 0, 1), (20, .putfield 103, 3), (23, .aload_n 0, 1), (24, .iload_n 1, 1), (25, .iload_n 2, 1), (26, .iload_n 3, 1), (27, .iload 4, 2), (29, .invokevirtual 112, 3), (32, .istore 8, 2), (34, .iload 5, 2), (36, .ifCond .eq 13, 3), (39, .aload_n 0, 1), (40, .getfield 12, 3), (43, .getfield 103, 3), (46, .goto 13, 3), (49, .aload_n 0, 1), (50, .getfield 12, 3), (53, .getfield 101, 3), (56, .iload 6, 2), (58, .isub, 1), (59, .istore 9, 2), (61, .aload_n 0, 1), (62, .getfield 12, 3), (65, .iload 6, 2), (67, .invokevirtual 76, 3), (70, .aload_n 0, 1), (71, .iload 7, 2), (73, .putfield 80, 3), (76, .iload 8, 2), (78, .ifCond .eq 8, 3), (81, .iload 9, 2), (83, .goto 4, 3), (86, .iconst (-1), 1), (87, .ireturn, 1)]
def m_c170 : List m_I := [(0, .aload_n 0, 1), (1, .iload_n 1, 1), (2, .invokevirtual 114, 3), (5, .astore 5, 2), (7, .lload_n 2, 1), (8, .invokestatic 283, 3), (11, .istore 6, 2), (13, .aload 5, 2), (15, .ifnull 24, 3), (18, .aload 5, 2), (20, .lload_n 2, 1), (21, .invokevirtual 273, 3), (24, .ifCond .eq 15, 3), (27, .iload 6, 2), (29, .iconst 2, 1), (30, .if_icmp .lt 9, 3), (33, .iload 6, 2), (35, .iconst 5, 1), (36, .if_icmp .le 5, 3), (39, .iconst (-1), 1), (40, .ireturn, 1), (41, .aload 5, 2), (43, .lload_n 2, 1), (44, .invokevirtual 315, 3), (47, .bipush 63, 2), (49, .if_icmp .le 5, 3), (52, .iconst (-1), 1), (53, .ireturn, 1), (54, .iload 4, 2), (56, .ifCond .eq 22, 3), (59, .iload 4, 2), (61, .bipush 10, 2), (63, .if_icmp .lt 13, 3), (66, .iload 4, 2), (68, .bipush 10, 2), (70, .iload 6, 2), (72, .iadd, 1), (73, .if_icmp .lt 5, 3), (76, .iconst (-1), 1), (77, .ireturn, 1), (78, .aload 5, 2), (80, .lload_n 2, 1), (81, .iload 6, 2), (83, .invokevirtual 318, 3), (86, .istore 7, 2), (88, .iload 4, 2), (90, .ifCond .ne 8, 3), (93, .iload 7, 2), (95, .goto 14, 3), (98, .aload 5, 2), (100, .getfield 322, 3), (103, .iload 4, 2), (105, .bipush 10, 2), (107, .isub, 1), (108, .iaload, 1), (109, .ireturn, 1)]
def m_c171 : List m_I := [(0, .iconst 0, 1), (1, .istore_n 3, 1), (2, .iconst 0, 1), (3, .istore 4, 2), (5, .iload 4, 2), (7, .aload_n 0, 1), (8, .getfield 55, 3), (11, .if_icmp .gt 31, 3), (14, .lload_n 1, 1), (15, .iload 4, 2), (17, .invokestatic 59, 3), (20, .land, 1), (21, .lconst 0, 1), (22, .lcmp, 1), (23, .ifCond .eq 13, 3), (26, .iload_n 3, 1), (27, .aload_n 0, 1), (28, .getfield 30, 3), (31, .iload 4, 2), (33, .iaload, 1), (34, .iadd, 1), (35, .istore_n 3, 1), (36, .iinc 4 1, 3), (39, .goto (-34), 3), (42, .iload_n 3, 1), (43, .ireturn, 1)]
def m_c172_0 : List m_I := [(0, .iconst 0, 1), (1, .istore 4, 2), (3, .iconst 0, 1), (4, .istore 5, 2), (6, .iload 5, 2), (8, .aload_n 0, 1), (9, .getfield 55, 3), (12, .if_icmp .gt 39, 3), (15, .iload 4, 2), (17, .iconst 5, 1), (18, .if_icmp .ge 33, 3), (21, .lload_n 1, 1), (22, .iload 5, 2), (24, .invokestatic 59, 3), (27, .land, 1), (28, .lconst 0, 1), (29, .lcmp, 1), (30, .ifCond .eq 15, 3), (33, .aload_n 0, 1), (34, .getfield 49, 3), (37, .iload 4, 2), (39, .iload 5, 2), (41, .iastore, 1), (42, .iinc 4 1, 3), (45, .iinc 5 1, 3), (48, .goto (-42), 3), (51, .iconst (-1), 1), (52, .istore 5, 2), (54, .iload 4, 2), (56, .iload_n 3, 1), (57, .if_icmp .ne 7, 3), (60, .iconst 1, 1), (61, .goto 4, 3), (64, .iconst 0, 1), (65, .istore 6, 2), (67, .iconst 0, 1), (68, .istore 7, 2), (70, .iload 6, 2), (72, .ifCond .eq 63, 3), (75, .iload 7, 2), (77, .bipush 120, 2), (79, .if_icmp .ge 56, 3), (82, .aload_n 0, 1), (83, .iload 4, 2), (85, .invokevirtual 186, 3), (88, .istore 8, 2), (90, .iload 5, 2), (92, .iconst (-1), 1), (93, .if_icmp .eq 10, 3), (96, .iload 8, 2)]
def m_c172_1 : List m_I := [(98, .iload 5, 2), (100, .if_icmp .ge 21, 3), (103, .iload 8, 2), (105, .istore 5, 2), (107, .aload_n 0, 1), (108, .getfield 49, 3), (111, .iconst 0, 1), (112, .aload_n 0, 1), (113, .getfield 52, 3), (116, .iconst 0, 1), (117, .iconst 5, 1), (118, .invokestatic 148, 3), (121, .aload_n 0, 1), (122, .iload 4, 2), (124, .invokevirtual 189, 3), (127, .istore 6, 2), (129, .iinc 7 1, 3), (132, .goto (-62), 3), (135, .iload 5, 2), (137, .ireturn, 1)]
def m_c172 : List m_I := m_c172_0 ++ (m_c172_1)
def m_c173 : List m_I := [(0, .aload_n 0, 1), (1, .getfield 12, 3), (4, .getfield 101, 3), (7, .istore_n 2, 1), (8, .aload_n 0, 1), (9, .aload_n 0, 1), (10, .getfield 49, 3), (13, .iconst 0, 1), (14, .iaload, 1), (15, .aload_n 0, 1), (16, .getfield 43, 3), (19, .invokevirtual 154, 3), (22, .iconst 1, 1), (23, .istore_n 3, 1), (24, .iload_n 3, 1), (25, .iload_n 1, 1), (26, .if_icmp .ge 20, 3), (29, .aload_n 0, 1), (30, .aload_n 0, 1), (31, .getfield 49, 3), (34, .iload_n 3, 1), (35, .iaload, 1), (36, .invokevirtual 161, 3), (39, .pop, 1), (40, .iinc 3 1, 3), (43, .goto (-19), 3), (46, .aload_n 0, 1), (47, .getfield 12, 3), (50, .getfield 101, 3), (53, .istore_n 3, 1), (54, .aload_n 0, 1), (55, .getfield 12, 3), (58, .aload_n 0, 1), (59, .getfield 43, 3), (62, .invokevirtual 164, 3), (65, .pop, 1), (66, .aload_n 0, 1), (67, .getfield 12, 3), (70, .getfield 101, 3), (73, .iload_n 3, 1), (74, .isub, 1), (75, .istore 4, 2), (77, .aload_n 0, 1), (78, .getfield 12, 3), (81, .iload_n 2, 1), (82, .invokevirtual 76, 3), (85, .iload 4, 2), (87, .ireturn, 1)]
def m_c174_0 : List m_I := [(0, .iload_n 1, 1), (1, .iconst 2, 1), (2, .isub, 1), (3, .istore_n 2, 1), (4, .iload_n 2, 1), (5, .ifCond .lt 26, 3), (8, .aload_n 0, 1), (9, .getfield 49, 3), (12, .iload_n 2, 1), (13, .iaload, 1), (14, .aload_n 0, 1), (15, .getfield 49, 3), (18, .iload_n 2, 1), (19, .iconst 1, 1), (20, .iadd, 1), (21, .iaload, 1), (22, .if_icmp .le 9, 3), (25, .iinc 2 (-1), 3), (28, .goto (-24), 3), (31, .iload_n 2, 1), (32, .ifCond .ge 5, 3), (35, .iconst 0, 1), (36, .ireturn, 1), (37, .iload_n 1, 1), (38, .iconst 1, 1), (39, .isub, 1), (40, .istore_n 3, 1), (41, .iload_n 3, 1), (42, .iload_n 2, 1), (43, .iconst 1, 1), (44, .iadd, 1), (45, .if_icmp .le 24, 3), (48, .aload_n 0, 1), (49, .getfield 49, 3), (52, .iload_n 3, 1), (53, .iaload, 1), (54, .aload_n 0, 1), (55, .getfield 49, 3), (58, .iload_n 2, 1), (59, .iaload, 1), (60, .if_icmp .ge 9, 3), (63, .iinc 3 (-1), 3), (66, .goto (-25), 3), (69, .aload_n 0, 1), (70, .iload_n 2, 1), (71, .iload_n 3, 1), (72, .invokevirtual 192, 3), (75, .iload_n 2, 1), (76, .iconst 1, 1), (77, .iadd, 1)]
def m_c174_1 : List m_I := [(78, .istore 4, 2), (80, .iload_n 1, 1), (81, .iconst 1, 1), (82, .isub, 1), (83, .istore 5, 2), (85, .iload 4, 2), (87, .iload 5, 2), (89, .if_icmp .ge 20, 3), (92, .aload_n 0, 1), (93, .iload 4, 2), (95, .iload 5, 2), (97, .invokevirtual 192, 3), (100, .iinc 4 1, 3), (103, .iinc 5 (-1), 3), (106, .goto (-21), 3), (109, .iconst 1, 1), (110, .ireturn, 1)]
def m_c174 : List m_I := m_c174_0 ++ (m_c174_1)
def m_c175 : List m_I := [(0, .aload_n 0, 1), (1, .getfield 49, 3), (4, .iload_n 1, 1), (5, .iaload, 1), (6, .istore_n 3, 1), (7, .aload_n 0, 1), (8, .getfield 49, 3), (11, .iload_n 1, 1), (12, .aload_n 0, 1), (13, .getfield 49, 3), (16, .iload_n 2, 1), (17, .iaload, 1), (18, .iastore, 1), (19, .aload_n 0, 1), (20, .getfield 49, 3), (23, .iload_n 2, 1), (24, .iload_n 3, 1), (25, .iastore, 1), (26, .return_, 1)]
def m_c176 : List m_I := [(0, .aload_n 0, 1), (1, .iload_n 1, 1), (2, .invokevirtual 114, 3), (5, .astore_n 3, 1), (6, .aload_n 3, 1), (7, .ifnonnull 7, 3), (10, .iconst (-1), 1), (11, .goto 8, 3), (14, .aload_n 3, 1), (15, .iload_n 2, 1), (16, .invokevirtual 325, 3), (19, .ireturn, 1)]
def m_c177 : List m_I := [(0, .iconst (-1), 1), (1, .istore_n 2, 1), (2, .iconst (-1), 1), (3, .istore_n 3, 1), (4, .iconst 0, 1), (5, .istore 4, 2), (7, .iload 4, 2), (9, .aload_n 0, 1), (10, .getfield 55, 3), (13, .if_icmp .gt 94, 3), (16, .iload 4, 2), (18, .istore 5, 2), (20, .iload 5, 2), (22, .aload_n 0, 1), (23, .getfield 55, 3), (26, .if_icmp .gt 75, 3), (29, .aload_n 0, 1), (30, .getfield 30, 3), (33, .iload 4, 2), (35, .iaload, 1), (36, .aload_n 0, 1), (37, .getfield 30, 3), (40, .iload 5, 2), (42, .iaload, 1), (43, .iadd, 1), (44, .istore 6, 2), (46, .aload_n 0, 1), (47, .iload 4, 2), (49, .invokevirtual 145, 3), (52, .aload_n 0, 1), (53, .iload 5, 2), (55, .invokevirtual 145, 3), (58, .iadd, 1), (59, .iload 6, 2), (61, .invokestatic 71, 3), (64, .isub, 1), (65, .istore 7, 2), (67, .iload 6, 2), (69, .bipush 63, 2), (71, .if_icmp .gt 24, 3), (74, .iload 7, 2), (76, .iload_n 2, 1), (77, .if_icmp .le 18, 3), (80, .iload 7, 2), (82, .istore_n 2, 1), (83, .iload_n 1, 1), (84, .ifCond .eq 8, 3), (87, .iload 5, 2), (89, .goto 5, 3), (92, .iload 4, 2), (94, .istore_n 3, 1), (95, .iinc 5 1, 3), (98, .goto (-78), 3), (101, .iinc 4 1, 3), (104, .goto (-97), 3), (107, .iload_n 3, 1), (108, .ireturn, 1)]
def m_c178 : List m_I := [(0, .aload_n 0, 1), (1, .iload_n 1, 1), (2, .invokevirtual 114, 3), (5, .astore 6, 2), (7, .aload 6, 2), (9, .ifnull 36, 3), (12, .aload 6, 2), (14, .iload_n 2, 1), (15, .invokevirtual 146, 3), (18, .ifCond .eq 27, 3), (21, .iload 4, 2), (23, .iconst 1, 1), (24, .if_icmp .lt 21, 3), (27, .iload 4, 2), (29, .bipush 30, 2), (31, .if_icmp .gt 14, 3), (34, .iload 5, 2), (36, .ifCond .lt 9, 3), (39, .iload 5, 2), (41, .iconst 3, 1), (42, .if_icmp .le 6, 3), (45, .bipush (-2), 2), (47, .ireturn, 1), (48, .aload 6, 2), (50, .iload_n 2, 1), (51, .iload_n 3, 1), (52, .iload 4, 2), (54, .iload 5, 2), (56, .invokevirtual 329, 3), (59, .ireturn, 1)]
def m_c179_0 : List m_I := [(0, .aload_n 0, 1), (1, .getfield 12, 3), (4, .getfield 101, 3), (7, .istore 5, 2), (9, .aload_n 0, 1), (10, .getfield 80, 3), (13, .istore 6, 2), (15, .aload_n 0, 1), (16, .getfield 12, 3), (19, .iconst 0, 1), (20, .putfield 103, 3), (23, .aload_n 0, 1), (24, .iload_n 2, 1), (25, .putfield 196, 3), (28, .aload_n 0, 1), (29, .iload_n 1, 1), (30, .aload_n 0, 1), (31, .getfield 43, 3), (34, .invokevirtual 154, 3), (37, .iconst 0, 1), (38, .istore 7, 2), (40, .iload 7, 2), (42, .iload_n 3, 1), (43, .if_icmp .ge 71, 3), (46, .aload_n 0, 1), (47, .iconst 3, 1), (48, .invokevirtual 200, 3), (51, .ifCond .ne 14, 3), (54, .aload_n 0, 1), (55, .invokevirtual 141, 3), (58, .ifCond .le 7, 3), (61, .iconst 1, 1), (62, .goto 4, 3), (65, .iconst 0, 1), (66, .istore 8, 2), (68, .iload 8, 2), (70, .ifCond .eq 18, 3), (73, .aload_n 0, 1), (74, .getfield 12, 3), (77, .aload_n 0, 1), (78, .getfield 43, 3), (81, .invokevirtual 164, 3), (84, .pop, 1), (85, .goto 23, 3), (88, .aload_n 0, 1), (89, .invokevirtual 141, 3), (92, .bipush 63, 2), (94, .if_icmp .ge 14, 3), (97, .aload_n 0, 1), (98, .aload_n 0, 1)]
def m_c179_1 : List m_I := [(99, .bipush 100, 2), (101, .invokevirtual 200, 3), (104, .invokevirtual 158, 3), (107, .pop, 1), (108, .iinc 7 1, 3), (111, .goto (-71), 3), (114, .aload_n 0, 1), (115, .iload 4, 2), (117, .iload 5, 2), (119, .invokevirtual 203, 3), (122, .istore 7, 2), (124, .aload_n 0, 1), (125, .getfield 12, 3), (128, .iload 5, 2), (130, .invokevirtual 76, 3), (133, .aload_n 0, 1), (134, .iload 6, 2), (136, .putfield 80, 3), (139, .iload 7, 2), (141, .ireturn, 1)]
def m_c179 : List m_I := m_c179_0 ++ (m_c179_1)
def m_c180 : List m_I := [(0, .aload_n 0, 1), (1, .aload_n 0, 1), (2, .getfield 196, 3), (5, .ldc 199, 2), (7, .imul, 1), (8, .sipush 12345, 3), (11, .iadd, 1), (12, .putfield 196, 3), (15, .iload_n 1, 1), (16, .ifCond .le 15, 3), (19, .aload_n 0, 1), (20, .getfield 196, 3), (23, .bipush 16, 2), (25, .iushr, 1), (26, .iload_n 1, 1), (27, .irem, 1), (28, .goto 4, 3), (31, .iconst 0, 1), (32, .ireturn, 1)]
def m_c181 : List m_I := [(0, .iload_n 1, 1), (1, .tableswitch 52 0 2 #[27, 32, 40], 27), (28, .aload_n 0, 1), (29, .invokevirtual 141, 3), (32, .ireturn, 1), (33, .aload_n 0, 1), (34, .getfield 12, 3), (37, .getfield 103, 3), (40, .ireturn, 1), (41, .aload_n 0, 1), (42, .getfield 12, 3), (45, .aload_n 0, 1), (46, .getfield 43, 3), (49, .invokevirtual 172, 3), (52, .ireturn, 1), (53, .aload_n 0, 1), (54, .getfield 12, 3), (57, .getfield 101, 3), (60, .iload_n 2, 1), (61, .isub, 1), (62, .ireturn, 1)]
def m_c182_0 : List m_I := [(0, .aload_n 0, 1), (1, .invokespecial 1, 3), (4, .aload_n 0, 1), (5, .sipush 2400, 3), (8, .newarray .byte, 2), (10, .putfield 7, 3), (13, .aload_n 0, 1), (14, .iconst 4, 1), (15, .newarray .int, 2), (17, .putfield 13, 3), (20, .aload_n 0, 1), (21, .iconst 4, 1), (22, .newarray .int, 2), (24, .putfield 17, 3), (27, .aload_n 0, 1), (28, .iconst 4, 1), (29, .newarray .int, 2), (31, .putfield 20, 3), (34, .aload_n 0, 1), (35, .iconst 4, 1), (36, .newarray .int, 2), (38, .putfield 23, 3), (41, .aload_n 0, 1), (42, .sipush 2576, 3), (45, .newarray .int, 2), (47, .putfield 26, 3), (50, .aload_n 0, 1), (51, .sipush 161, 3), (54, .newarray .int, 2), (56, .putfield 29, 3), (59, .aload_n 0, 1), (60, .sipush 16000, 3), (63, .newarray .byte, 2), (65, .putfield 32, 3), (68, .aload_n 0, 1), (69, .sipush 16000, 3), (72, .newarray .byte, 2), (74, .putfield 35, 3), (77, .aload_n 0, 1), (78, .sipush 16000, 3), (81, .newarray .byte, 2), (83, .putfield 38, 3), (86, .aload_n 0, 1), (87, .ldc 41, 2), (89, .newarray .int, 2), (91, .putfield 42, 3), (94, .aload_n 0, 1), (95, .bipush 6, 2), (97, .newarray .int, 2), (99, .putfield 45, 3)]
def m_c182_1 : List m_I := [(102, .aload_n 0, 1), (103, .bipush 6, 2), (105, .newarray .int, 2), (107, .putfield 48, 3), (110, .aload_n 0, 1), (111, .bipush 64, 2), (113, .newarray .int, 2), (115, .putfield 51, 3), (118, .aload_n 0, 1), (119, .bipush 64, 2), (121, .newarray .int, 2), (123, .putfield 54, 3), (126, .aload_n 0, 1), (127, .bipush 64, 2), (129, .newarray .int, 2), (131, .putfield 57, 3), (134, .aload_n 0, 1), (135, .bipush 64, 2), (137, .newarray .int, 2), (139, .putfield 60, 3), (142, .aload_n 0, 1), (143, .bipush 64, 2), (145, .newarray .int, 2), (147, .putfield 63, 3), (150, .aload_n 0, 1), (151, .bipush 6, 2), (153, .newarray .int, 2), (155, .putfield 66, 3), (158, .aload_n 0, 1), (159, .bipush 6, 2), (161, .newarray .int, 2), (163, .putfield 69, 3), (166, .aload_n 0, 1), (167, .bipush 6, 2), (169, .newarray .int, 2), (171, .putfield 72, 3), (174, .aload_n 0, 1), (175, .sipush 246, 3), (178, .newarray .int, 2), (180, .putfield 75, 3), (183, .aload_n 0, 1), (184, .bipush 40, 2), (186, .newarray .int, 2), (188, .putfield 78, 3), (191, .aload_n 0, 1), (192, .bipush 40, 2), (194, .newarray .int, 2), (196, .putfield 81, 3), (199, .aload_n 0, 1), (200, .bipush 41, 2)]
def m_c182_2 : List m_I := [(202, .newarray .int, 2), (204, .putfield 84, 3), (207, .aload_n 0, 1), (208, .bipush 41, 2), (210, .newarray .int, 2), (212, .putfield 87, 3), (215, .aload_n 0, 1), (216, .bipush 41, 2), (218, .newarray .long, 2), (220, .putfield 90, 3), (223, .aload_n 0, 1), (224, .sipush 16000, 3), (227, .newarray .long, 2), (229, .putfield 94, 3), (232, .aload_n 0, 1), (233, .bipush 64, 2), (235, .newarray .int, 2), (237, .putfield 97, 3), (240, .aload_n 0, 1), (241, .bipush 64, 2), (243, .newarray .int, 2), (245, .putfield 100, 3), (248, .aload_n 0, 1), (249, .bipush 41, 2), (251, .newarray .int, 2), (253, .putfield 103, 3), (256, .aload_n 0, 1), (257, .bipush 12, 2), (259, .newarray .int, 2), (261, .putfield 106, 3), (264, .aload_n 0, 1), (265, .sipush 1024, 3), (268, .newarray .long, 2), (270, .putfield 109, 3), (273, .aload_n 0, 1), (274, .bipush 6, 2), (276, .newarray .int, 2), (278, .putfield 112, 3), (281, .aload_n 0, 1), (282, .bipush 6, 2), (284, .newarray .int, 2), (286, .putfield 115, 3), (289, .aload_n 0, 1), (290, .bipush 6, 2), (292, .newarray .int, 2), (294, .putfield 118, 3), (297, .aload_n 0, 1), (298, .sipush 4096, 3), (301, .newarray .int, 2), (303, .putfield 121, 3)]
def m_c182_3 : List m_I := [(306, .aload_n 0, 1), (307, .sipush 4096, 3), (310, .newarray .int, 2), (312, .putfield 124, 3), (315, .aload_n 0, 1), (316, .bipush 64, 2), (318, .newarray .int, 2), (320, .putfield 127, 3), (323, .aload_n 0, 1), (324, .bipush 64, 2), (326, .newarray .int, 2), (328, .putfield 130, 3), (331, .aload_n 0, 1), (332, .iconst 5, 1), (333, .newarray .int, 2), (335, .putfield 133, 3), (338, .aload_n 0, 1), (339, .iconst 5, 1), (340, .newarray .int, 2), (342, .putfield 136, 3), (345, .aload_n 0, 1), (346, .bipush 64, 2), (348, .newarray .boolean, 2), (350, .putfield 139, 3), (353, .aload_n 0, 1), (354, .bipush 64, 2), (356, .newarray .boolean, 2), (358, .putfield 143, 3), (361, .aload_n 0, 1), (362, .bipush 41, 2), (364, .newarray .long, 2), (366, .putfield 146, 3), (369, .aload_n 0, 1), (370, .bipush 41, 2), (372, .newarray .int, 2), (374, .putfield 149, 3), (377, .aload_n 0, 1), (378, .iconst 3, 1), (379, .newarray .boolean, 2), (381, .putfield 152, 3), (384, .aload_n 0, 1), (385, .getfield 20, 3), (388, .iconst 0, 1), (389, .iconst (-1), 1), (390, .iastore, 1), (391, .return_, 1)]
def m_c182 : List m_I := m_c182_0 ++ (m_c182_1 ++ (m_c182_2 ++ (m_c182_3)))
def m_c183 : List m_I := [(0, .aload_n 0, 1), (1, .iconst 0, 1), (2, .putfield 155, 3), (5, .aload_n 0, 1), (6, .getfield 13, 3), (9, .iconst 0, 1), (10, .iaload, 1), (11, .bipush 20, 2), (13, .iadd, 1), (14, .sipush 600, 3), (17, .if_icmp .le 5, 3), (20, .iconst (-1), 1), (21, .ireturn, 1), (22, .aload_n 0, 1), (23, .iload_n 1, 1), (24, .invokevirtual 167, 3), (27, .aload_n 0, 1), (28, .iload_n 2, 1), (29, .invokevirtual 167, 3), (32, .aload_n 0, 1), (33, .iload_n 3, 1), (34, .invokevirtual 167, 3), (37, .aload_n 0, 1), (38, .iload 4, 2), (40, .invokevirtual 167, 3), (43, .aload_n 0, 1), (44, .iload 5, 2), (46, .invokevirtual 167, 3), (49, .aload_n 0, 1), (50, .getfield 13, 3), (53, .iconst 0, 1), (54, .iaload, 1), (55, .ireturn, 1)]
def m_c184 : List m_I := [(0, .bipush 24, 2), (2, .istore_n 2, 1), (3, .iload_n 2, 1), (4, .ifCond .lt 34, 3), (7, .aload_n 0, 1), (8, .getfield 7, 3), (11, .aload_n 0, 1), (12, .getfield 13, 3), (15, .iconst 0, 1), (16, .iaload, 1), (17, .iload_n 1, 1), (18, .iload_n 2, 1), (19, .ishr, 1), (20, .i2b, 1), (21, .bastore, 1), (22, .aload_n 0, 1), (23, .getfield 13, 3), (26, .iconst 0, 1), (27, .dup2, 1), (28, .iaload, 1), (29, .iconst 1, 1), (30, .iadd, 1), (31, .iastore, 1), (32, .iinc 2 (-8), 3), (35, .goto (-32), 3), (38, .return_, 1)]
def m_c185 : List m_I := [(0, .aload_n 0, 1), (1, .iconst 0, 1), (2, .putfield 155, 3), (5, .iload_n 1, 1), (6, .iconst 0, 1), (7, .aload_n 0, 1), (8, .getfield 13, 3), (11, .iconst 0, 1), (12, .iaload, 1), (13, .invokestatic 163, 3), (16, .ifCond .ne 5, 3), (19, .iconst (-1), 1), (20, .ireturn, 1), (21, .aload_n 0, 1), (22, .getfield 13, 3), (25, .iconst 0, 1), (26, .iload_n 1, 1), (27, .iastore, 1), (28, .iload_n 1, 1), (29, .ireturn, 1)]
def m_c186 : List m_I := [(0, .iload_n 0, 1), (1, .iload_n 1, 1), (2, .if_icmp .lt 12, 3), (5, .iload_n 0, 1), (6, .iload_n 2, 1), (7, .if_icmp .gt 7, 3), (10, .iconst 1, 1), (11, .goto 4, 3), (14, .iconst 0, 1), (15, .ireturn, 1)]
def m_c187_0 : List m_I := [(0, .aload_n 0, 1), (1, .iconst 0, 1), (2, .putfield 155, 3), (5, .aload_n 0, 1), (6, .aload_n 0, 1), (7, .getfield 13, 3), (10, .iconst 0, 1), (11, .iaload, 1), (12, .putfield 174, 3), (15, .aload_n 0, 1), (16, .getfield 13, 3), (19, .iconst 0, 1), (20, .iconst 0, 1), (21, .iastore, 1), (22, .aload_n 0, 1), (23, .getfield 17, 3), (26, .iconst 0, 1), (27, .iconst 0, 1), (28, .iastore, 1), (29, .aload_n 0, 1), (30, .getfield 20, 3), (33, .iconst 0, 1), (34, .iconst (-1), 1), (35, .iastore, 1), (36, .iload_n 1, 1), (37, .iconst (-1), 1), (38, .if_icmp .ne 16, 3), (41, .aload_n 0, 1), (42, .getfield 23, 3), (45, .iconst 0, 1), (46, .iaload, 1), (47, .iconst 4, 1), (48, .if_icmp .ne 17, 3), (51, .goto 11, 3), (54, .aload_n 0, 1), (55, .iload_n 1, 1), (56, .invokevirtual 234, 3), (59, .ifCond .ne 6, 3), (62, .bipush (-2), 2), (64, .ireturn, 1), (65, .aload_n 0, 1), (66, .invokevirtual 237, 3), (69, .ifCond .ne 5, 3), (72, .iconst (-1), 1), (73, .ireturn, 1), (74, .iload_n 1, 1), (75, .iconst (-1), 1), (76, .if_icmp .ne 12, 3), (79, .aload_n 0, 1), (80, .getfield 23, 3)]
def m_c187_1 : List m_I := [(83, .iconst 0, 1), (84, .iaload, 1), (85, .goto 4, 3), (88, .iload_n 1, 1), (89, .istore_n 2, 1), (90, .aload_n 0, 1), (91, .getfield 23, 3), (94, .iconst 0, 1), (95, .dup2, 1), (96, .iaload, 1), (97, .iload_n 1, 1), (98, .iconst (-1), 1), (99, .if_icmp .ne 7, 3), (102, .iconst 1, 1), (103, .goto 4, 3), (106, .iconst 0, 1), (107, .iadd, 1), (108, .iastore, 1), (109, .iconst 0, 1), (110, .istore_n 3, 1), (111, .iload_n 3, 1), (112, .sipush 161, 3), (115, .if_icmp .ge 43, 3), (118, .aload_n 0, 1), (119, .getfield 26, 3), (122, .sipush 161, 3), (125, .iload_n 2, 1), (126, .imul, 1), (127, .iload_n 3, 1), (128, .iadd, 1), (129, .iload_n 3, 1), (130, .iconst 4, 1), (131, .aload_n 0, 1), (132, .getfield 29, 3), (135, .iconst 0, 1), (136, .iaload, 1), (137, .imul, 1), (138, .if_icmp .gt 12, 3), (141, .aload_n 0, 1), (142, .getfield 29, 3), (145, .iload_n 3, 1), (146, .iaload, 1), (147, .goto 4, 3), (150, .iconst 0, 1), (151, .iastore, 1), (152, .iinc 3 1, 3), (155, .goto (-44), 3), (158, .iload_n 2, 1), (159, .ireturn, 1)]
def m_c187 : List m_I := m_c187_0 ++ (m_c187_1)
def m_c188 : List m_I := [(0, .iload_n 1, 1), (1, .iconst 0, 1), (2, .aload_n 0, 1), (3, .getfield 23, 3), (6, .iconst 0, 1), (7, .iaload, 1), (8, .iconst 1, 1), (9, .isub, 1), (10, .invokestatic 163, 3), (13, .ireturn, 1)]
def m_c189_0 : List m_I := [(0, .aload_n 0, 1), (1, .getfield 29, 3), (4, .iconst 0, 1), (5, .iconst 0, 1), (6, .iastore, 1), (7, .aload_n 0, 1), (8, .iconst 0, 1), (9, .putfield 171, 3), (12, .aload_n 0, 1), (13, .iconst 0, 1), (14, .putfield 197, 3), (17, .iconst 1, 1), (18, .istore_n 1, 1), (19, .aload_n 0, 1), (20, .invokevirtual 211, 3), (23, .iload_n 1, 1), (24, .ifCond .eq 47, 3), (27, .aload_n 0, 1), (28, .getfield 188, 3), (31, .ifCond .eq 40, 3), (34, .aload_n 0, 1), (35, .aload_n 0, 1), (36, .getfield 181, 3), (39, .invokevirtual 230, 3), (42, .istore_n 1, 1), (43, .iload_n 1, 1), (44, .ifCond .eq 16, 3), (47, .aload_n 0, 1), (48, .getfield 188, 3), (51, .iconst 4, 1), (52, .if_icmp .eq 8, 3), (55, .aload_n 0, 1), (56, .invokevirtual 203, 3), (59, .istore_n 1, 1), (60, .iload_n 1, 1), (61, .ifCond .eq (-38), 3), (64, .aload_n 0, 1), (65, .invokevirtual 211, 3), (68, .goto (-45), 3), (71, .iload_n 1, 1), (72, .ifCond .eq 28, 3), (75, .aload_n 0, 1), (76, .getfield 197, 3), (79, .ifCond .ne 21, 3), (82, .aload_n 0, 1), (83, .getfield 29, 3), (86, .iconst 0, 1), (87, .iaload, 1), (88, .ifCond .ne 12, 3), (91, .aload_n 0, 1)]
def m_c189_1 : List m_I := [(92, .iconst 4, 1), (93, .aload_n 0, 1), (94, .getfield 181, 3), (97, .invokevirtual 207, 3), (100, .aload_n 0, 1), (101, .getfield 17, 3), (104, .iconst 0, 1), (105, .iload_n 1, 1), (106, .ifCond .eq 10, 3), (109, .aload_n 0, 1), (110, .getfield 197, 3), (113, .goto 4, 3), (116, .iconst 1, 1), (117, .iastore, 1), (118, .aload_n 0, 1), (119, .getfield 20, 3), (122, .iconst 0, 1), (123, .iload_n 1, 1), (124, .ifCond .ne 10, 3), (127, .aload_n 0, 1), (128, .getfield 194, 3), (131, .goto 18, 3), (134, .aload_n 0, 1), (135, .getfield 197, 3), (138, .ifCond .le 10, 3), (141, .aload_n 0, 1), (142, .getfield 200, 3), (145, .goto 4, 3), (148, .iconst (-1), 1), (149, .iastore, 1), (150, .aload_n 0, 1), (151, .getfield 17, 3), (154, .iconst 0, 1), (155, .iaload, 1), (156, .ifCond .ne 7, 3), (159, .iconst 1, 1), (160, .goto 4, 3), (163, .iconst 0, 1), (164, .ireturn, 1)]
def m_c189 : List m_I := m_c189_0 ++ (m_c189_1)
def m_c190_0 : List m_I := [(0, .aload_n 0, 1), (1, .invokevirtual 177, 3), (4, .bipush 10, 2), (6, .if_icmp .eq 12, 3), (9, .aload_n 0, 1), (10, .invokevirtual 177, 3), (13, .bipush 32, 2), (15, .if_icmp .ne 16, 3), (18, .aload_n 0, 1), (19, .dup, 1), (20, .getfield 171, 3), (23, .iconst 1, 1), (24, .iadd, 1), (25, .putfield 171, 3), (28, .goto (-28), 3), (31, .aload_n 0, 1), (32, .aload_n 0, 1), (33, .getfield 171, 3), (36, .putfield 181, 3), (39, .aload_n 0, 1), (40, .invokevirtual 177, 3), (43, .istore_n 1, 1), (44, .aload_n 0, 1), (45, .lconst 0, 1), (46, .putfield 184, 3), (49, .iconst 0, 1), (50, .istore_n 2, 1), (51, .iload_n 1, 1), (52, .ifCond .ge 11, 3), (55, .aload_n 0, 1), (56, .iconst 0, 1), (57, .putfield 188, 3), (60, .goto 206, 3), (63, .iload_n 1, 1), (64, .bipush 97, 2), (66, .bipush 122, 2), (68, .invokestatic 163, 3), (71, .ifCond .eq 76, 3), (74, .aload_n 0, 1), (75, .invokevirtual 177, 3), (78, .bipush 97, 2), (80, .bipush 122, 2), (82, .invokestatic 163, 3), (85, .ifCond .eq 36, 3), (88, .aload_n 0, 1), (89, .aload_n 0, 1), (90, .getfield 184, 3), (93, .bipush 8, 2), (95, .lshl, 1), (96, .aload_n 0, 1)]
def m_c190_1 : List m_I := [(97, .invokevirtual 177, 3), (100, .i2l, 1), (101, .lor, 1), (102, .putfield 184, 3), (105, .aload_n 0, 1), (106, .dup, 1), (107, .getfield 171, 3), (110, .iconst 1, 1), (111, .iadd, 1), (112, .putfield 171, 3), (115, .iinc 2 1, 3), (118, .goto (-44), 3), (121, .aload_n 0, 1), (122, .iload_n 2, 1), (123, .bipush 8, 2), (125, .if_icmp .le 7, 3), (128, .lconst 0, 1), (129, .goto 7, 3), (132, .aload_n 0, 1), (133, .getfield 184, 3), (136, .putfield 184, 3), (139, .aload_n 0, 1), (140, .iconst 2, 1), (141, .putfield 188, 3), (144, .goto 122, 3), (147, .iload_n 1, 1), (148, .bipush 48, 2), (150, .bipush 57, 2), (152, .invokestatic 163, 3), (155, .ifCond .eq 86, 3), (158, .aload_n 0, 1), (159, .iconst 0, 1), (160, .putfield 191, 3), (163, .aload_n 0, 1), (164, .invokevirtual 177, 3), (167, .bipush 48, 2), (169, .bipush 57, 2), (171, .invokestatic 163, 3), (174, .ifCond .eq 50, 3), (177, .aload_n 0, 1), (178, .iload_n 2, 1), (179, .iconst 2, 1), (180, .if_icmp .ge 21, 3), (183, .bipush 10, 2), (185, .aload_n 0, 1), (186, .getfield 191, 3), (189, .imul, 1), (190, .aload_n 0, 1), (191, .invokevirtual 177, 3), (194, .iadd, 1)]
def m_c190_2 : List m_I := [(195, .bipush 48, 2), (197, .isub, 1), (198, .goto 7, 3), (201, .aload_n 0, 1), (202, .getfield 191, 3), (205, .putfield 191, 3), (208, .aload_n 0, 1), (209, .dup, 1), (210, .getfield 171, 3), (213, .iconst 1, 1), (214, .iadd, 1), (215, .putfield 171, 3), (218, .iinc 2 1, 3), (221, .goto (-58), 3), (224, .aload_n 0, 1), (225, .iload_n 2, 1), (226, .iconst 2, 1), (227, .if_icmp .le 7, 3), (230, .iconst 1, 1), (231, .goto 4, 3), (234, .iconst 3, 1), (235, .putfield 188, 3), (238, .goto 28, 3), (241, .aload_n 0, 1), (242, .dup, 1), (243, .getfield 171, 3), (246, .iconst 1, 1), (247, .iadd, 1), (248, .putfield 171, 3), (251, .aload_n 0, 1), (252, .iload_n 1, 1), (253, .bipush 59, 2), (255, .if_icmp .ne 7, 3), (258, .iconst 4, 1), (259, .goto 4, 3), (262, .iconst 1, 1), (263, .putfield 188, 3), (266, .return_, 1)]
def m_c190 : List m_I := m_c190_0 ++ (m_c190_1 ++ (m_c190_2))
def m_c191 : List m_I := [(0, .aload_n 0, 1), (1, .getfield 171, 3), (4, .aload_n 0, 1), (5, .getfield 174, 3), (8, .if_icmp .ge 19, 3), (11, .aload_n 0, 1), (12, .getfield 7, 3), (15, .aload_n 0, 1), (16, .getfield 171, 3), (19, .baload, 1), (20, .sipush 255, 3), (23, .iand, 1), (24, .goto 4, 3), (27, .iconst (-1), 1), (28, .ireturn, 1)]
def m_c192_0 : List m_I := [(0, .aload_n 0, 1), (1, .getfield 188, 3), (4, .iconst 2, 1), (5, .if_icmp .ne 10, 3), (8, .aload_n 0, 1), (9, .getfield 184, 3), (12, .goto 4, 3), (15, .lconst 0, 1), (16, .lstore_n 2, 1), (17, .lload_n 2, 1), (18, .ldc2_w 214, 3), (21, .lcmp, 1), (22, .ifCond .ne 7, 3), (25, .iconst 0, 1), (26, .goto 64, 3), (29, .lload_n 2, 1), (30, .ldc2_w 216, 3), (33, .lcmp, 1), (34, .ifCond .ne 7, 3), (37, .iconst 1, 1), (38, .goto 52, 3), (41, .lload_n 2, 1), (42, .ldc2_w 218, 3), (45, .lcmp, 1), (46, .ifCond .ne 7, 3), (49, .iconst 2, 1), (50, .goto 40, 3), (53, .lload_n 2, 1), (54, .ldc2_w 220, 3), (57, .lcmp, 1), (58, .ifCond .ne 7, 3), (61, .iconst 3, 1), (62, .goto 28, 3), (65, .lload_n 2, 1), (66, .ldc2_w 222, 3), (69, .lcmp, 1), (70, .ifCond .ne 7, 3), (73, .iconst 4, 1), (74, .goto 16, 3), (77, .lload_n 2, 1), (78, .ldc2_w 224, 3), (81, .lcmp, 1), (82, .ifCond .ne 7, 3), (85, .iconst 5, 1), (86, .goto 4, 3), (89, .iconst (-1), 1), (90, .istore 4, 2), (92, .iload 4, 2), (94, .iconst (-1), 1), (95, .if_icmp .ne 8, 3)]
def m_c192_1 : List m_I := [(98, .aload_n 0, 1), (99, .invokevirtual 203, 3), (102, .ireturn, 1), (103, .aload_n 0, 1), (104, .getfield 29, 3), (107, .iconst 0, 1), (108, .iaload, 1), (109, .bipush 40, 2), (111, .if_icmp .ne 9, 3), (114, .aload_n 0, 1), (115, .iconst 3, 1), (116, .iload_n 1, 1), (117, .invokevirtual 207, 3), (120, .aload_n 0, 1), (121, .invokevirtual 211, 3), (124, .iconst 0, 1), (125, .istore 5, 2), (127, .iload 5, 2), (129, .iconst 4, 1), (130, .if_icmp .ge 49, 3), (133, .aload_n 0, 1), (134, .getfield 29, 3), (137, .iconst 0, 1), (138, .iaload, 1), (139, .bipush 40, 2), (141, .if_icmp .ge 38, 3), (144, .aload_n 0, 1), (145, .getfield 29, 3), (148, .iconst 1, 1), (149, .iconst 4, 1), (150, .aload_n 0, 1), (151, .getfield 29, 3), (154, .iconst 0, 1), (155, .iaload, 1), (156, .imul, 1), (157, .iadd, 1), (158, .iload 5, 2), (160, .iadd, 1), (161, .iload 5, 2), (163, .ifCond .ne 8, 3), (166, .iload 4, 2), (168, .goto 4, 3), (171, .iconst (-1), 1), (172, .iastore, 1), (173, .iinc 5 1, 3), (176, .goto (-49), 3), (179, .iload 4, 2), (181, .ifCond .eq 13, 3), (184, .aload_n 0, 1), (185, .iconst 1, 1)]
def m_c192_2 : List m_I := [(186, .bipush 40, 2), (188, .invokevirtual 226, 3), (191, .ifCond .eq 7, 3), (194, .iconst 1, 1), (195, .goto 4, 3), (198, .iconst 0, 1), (199, .istore 5, 2), (201, .iload 5, 2), (203, .ifCond .eq 45, 3), (206, .iload 4, 2), (208, .ifCond .eq 40, 3), (211, .iload 4, 2), (213, .iconst 3, 1), (214, .if_icmp .eq 34, 3), (217, .aload_n 0, 1), (218, .iconst 2, 1), (219, .iload 4, 2), (221, .iconst 2, 1), (222, .if_icmp .ne 8, 3), (225, .bipush 40, 2), (227, .goto 16, 3), (230, .iload 4, 2), (232, .iconst 4, 1), (233, .if_icmp .ne 8, 3), (236, .bipush 39, 2), (238, .goto 5, 3), (241, .bipush 99, 2), (243, .invokevirtual 226, 3), (246, .istore 5, 2), (248, .iload 5, 2), (250, .ifCond .eq 18, 3), (253, .iload 4, 2), (255, .iconst 4, 1), (256, .if_icmp .ne 12, 3), (259, .aload_n 0, 1), (260, .iconst 3, 1), (261, .bipush 99, 2), (263, .invokevirtual 226, 3), (266, .istore 5, 2), (268, .aload_n 0, 1), (269, .getfield 29, 3), (272, .iconst 0, 1), (273, .dup2, 1), (274, .iaload, 1), (275, .iload 5, 2), (277, .ifCond .eq 18, 3), (280, .aload_n 0, 1), (281, .getfield 29, 3), (284, .iconst 0, 1), (285, .iaload, 1)]
def m_c192_3 : List m_I := [(286, .bipush 40, 2), (288, .if_icmp .ge 7, 3), (291, .iconst 1, 1), (292, .goto 4, 3), (295, .iconst 0, 1), (296, .iadd, 1), (297, .iastore, 1), (298, .iload 5, 2), (300, .ireturn, 1)]
def m_c192 : List m_I := m_c192_0 ++ (m_c192_1 ++ (m_c192_2 ++ (m_c192_3)))
def m_c193 : List m_I := [(0, .aload_n 0, 1), (1, .aload_n 0, 1), (2, .getfield 181, 3), (5, .putfield 194, 3), (8, .iconst 0, 1), (9, .ireturn, 1)]
def m_c194 : List m_I := [(0, .aload_n 0, 1), (1, .getfield 197, 3), (4, .ifCond .eq 27, 3), (7, .iload_n 2, 1), (8, .aload_n 0, 1), (9, .getfield 200, 3), (12, .if_icmp .lt 19, 3), (15, .iload_n 2, 1), (16, .aload_n 0, 1), (17, .getfield 200, 3), (20, .if_icmp .ne 21, 3), (23, .iload_n 1, 1), (24, .aload_n 0, 1), (25, .getfield 197, 3), (28, .if_icmp .ge 13, 3), (31, .aload_n 0, 1), (32, .iload_n 1, 1), (33, .putfield 197, 3), (36, .aload_n 0, 1), (37, .iload_n 2, 1), (38, .putfield 200, 3), (41, .return_, 1)]
def m_c195 : List m_I := [(0, .aload_n 0, 1), (1, .getfield 188, 3), (4, .iconst 3, 1), (5, .if_icmp .eq 8, 3), (8, .aload_n 0, 1), (9, .invokevirtual 203, 3), (12, .ireturn, 1), (13, .aload_n 0, 1), (14, .getfield 191, 3), (17, .iload_n 2, 1), (18, .if_icmp .le 12, 3), (21, .aload_n 0, 1), (22, .iconst 2, 1), (23, .aload_n 0, 1), (24, .getfield 181, 3), (27, .invokevirtual 207, 3), (30, .aload_n 0, 1), (31, .getfield 29, 3), (34, .iconst 0, 1), (35, .iaload, 1), (36, .bipush 40, 2), (38, .if_icmp .ge 24, 3), (41, .aload_n 0, 1), (42, .getfield 29, 3), (45, .iconst 1, 1), (46, .iconst 4, 1), (47, .aload_n 0, 1), (48, .getfield 29, 3), (51, .iconst 0, 1), (52, .iaload, 1), (53, .imul, 1), (54, .iadd, 1), (55, .iload_n 1, 1), (56, .iadd, 1), (57, .aload_n 0, 1), (58, .getfield 191, 3), (61, .iastore, 1), (62, .aload_n 0, 1), (63, .invokevirtual 211, 3), (66, .iconst 1, 1), (67, .ireturn, 1)]
def m_c196 : List m_I := [(0, .aload_n 0, 1), (1, .iconst 0, 1), (2, .putfield 155, 3), (5, .iload_n 1, 1), (6, .ifCond .ne 12, 3), (9, .aload_n 0, 1), (10, .getfield 17, 3), (13, .iconst 0, 1), (14, .iaload, 1), (15, .goto 18, 3), (18, .iload_n 1, 1), (19, .iconst 1, 1), (20, .if_icmp .ne 12, 3), (23, .aload_n 0, 1), (24, .getfield 20, 3), (27, .iconst 0, 1), (28, .iaload, 1), (29, .goto 4, 3), (32, .iconst (-1), 1), (33, .ireturn, 1)]
def m_c197 : List m_I := [(0, .aload_n 0, 1), (1, .iconst 0, 1), (2, .putfield 155, 3), (5, .aload_n 0, 1), (6, .iload_n 1, 1), (7, .invokevirtual 234, 3), (10, .ifCond .ne 6, 3), (13, .bipush (-2), 2), (15, .ireturn, 1), (16, .iload_n 2, 1), (17, .iconst (-1), 1), (18, .if_icmp .ne 18, 3), (21, .iload_n 3, 1), (22, .ifCond .ne 11, 3), (25, .aload_n 0, 1), (26, .iload_n 1, 1), (27, .invokevirtual 240, 3), (30, .goto 5, 3), (33, .bipush (-2), 2), (35, .ireturn, 1), (36, .iload_n 2, 1), (37, .iconst 0, 1), (38, .aload_n 0, 1), (39, .iload_n 1, 1), (40, .invokevirtual 240, 3), (43, .iconst 1, 1), (44, .isub, 1), (45, .invokestatic 163, 3), (48, .ifCond .eq 22, 3), (51, .iload_n 3, 1), (52, .iconst 0, 1), (53, .iconst 3, 1), (54, .invokestatic 163, 3), (57, .ifCond .eq 13, 3), (60, .aload_n 0, 1), (61, .iload_n 1, 1), (62, .iload_n 2, 1), (63, .iload_n 3, 1), (64, .invokevirtual 244, 3), (67, .goto 5, 3), (70, .bipush (-2), 2), (72, .ireturn, 1)]
def m_c198 : List m_I := [(0, .aload_n 0, 1), (1, .getfield 26, 3), (4, .sipush 161, 3), (7, .iload_n 1, 1), (8, .imul, 1), (9, .iaload, 1), (10, .ireturn, 1)]
def m_c199 : List m_I := [(0, .aload_n 0, 1), (1, .getfield 26, 3), (4, .sipush 161, 3), (7, .iload_n 1, 1), (8, .imul, 1), (9, .iconst 1, 1), (10, .iadd, 1), (11, .iconst 4, 1), (12, .iload_n 2, 1), (13, .imul, 1), (14, .iadd, 1), (15, .iload_n 3, 1), (16, .iadd, 1), (17, .iaload, 1), (18, .ireturn, 1)]
def m_c200 : List m_I := [(0, .aload_n 0, 1), (1, .iconst 0, 1), (2, .putfield 155, 3), (5, .aload_n 0, 1), (6, .iload_n 1, 1), (7, .invokevirtual 328, 3), (10, .ifCond .eq 12, 3), (13, .aload_n 0, 1), (14, .getfield 294, 3), (17, .iconst 1, 1), (18, .isub, 1), (19, .goto 4, 3), (22, .iconst (-1), 1), (23, .ireturn, 1)]
def m_c201_0 : List m_I := [(0, .aload_n 0, 1), (1, .iload_n 1, 1), (2, .invokevirtual 234, 3), (5, .ifCond .ne 5, 3), (8, .iconst 0, 1), (9, .ireturn, 1), (10, .aload_n 0, 1), (11, .iconst 0, 1), (12, .putfield 248, 3), (15, .aload_n 0, 1), (16, .iconst 0, 1), (17, .putfield 270, 3), (20, .aload_n 0, 1), (21, .iconst 0, 1), (22, .putfield 294, 3), (25, .aload_n 0, 1), (26, .invokevirtual 306, 3), (29, .aload_n 0, 1), (30, .iconst (-1), 1), (31, .iconst (-1), 1), (32, .invokevirtual 321, 3), (35, .iconst 1, 1), (36, .istore_n 2, 1), (37, .iconst 0, 1), (38, .istore_n 3, 1), (39, .iload_n 3, 1), (40, .aload_n 0, 1), (41, .iload_n 1, 1), (42, .invokevirtual 240, 3), (45, .if_icmp .ge 124, 3), (48, .iload_n 2, 1), (49, .ifCond .eq 120, 3), (52, .aload_n 0, 1), (53, .getfield 248, 3), (56, .istore 4, 2), (58, .aload_n 0, 1), (59, .iconst 0, 1), (60, .putfield 257, 3), (63, .aload_n 0, 1), (64, .iload_n 1, 1), (65, .iload_n 3, 1), (66, .iconst 0, 1), (67, .invokevirtual 244, 3), (70, .istore 5, 2), (72, .aload_n 0, 1), (73, .iload_n 1, 1), (74, .iload_n 3, 1), (75, .iconst 1, 1), (76, .invokevirtual 244, 3), (79, .istore 6, 2)]
def m_c201_1 : List m_I := [(81, .aload_n 0, 1), (82, .iload 5, 2), (84, .iload 6, 2), (86, .aload_n 0, 1), (87, .iload_n 1, 1), (88, .iload_n 3, 1), (89, .iconst 2, 1), (90, .invokevirtual 244, 3), (93, .aload_n 0, 1), (94, .iload_n 1, 1), (95, .iload_n 3, 1), (96, .iconst 3, 1), (97, .invokevirtual 244, 3), (100, .invokevirtual 324, 3), (103, .istore_n 2, 1), (104, .iload_n 2, 1), (105, .ifCond .eq 58, 3), (108, .aload_n 0, 1), (109, .getfield 78, 3), (112, .iload_n 3, 1), (113, .aload_n 0, 1), (114, .getfield 248, 3), (117, .iload 4, 2), (119, .isub, 1), (120, .iastore, 1), (121, .aload_n 0, 1), (122, .getfield 81, 3), (125, .iload_n 3, 1), (126, .aload_n 0, 1), (127, .getfield 257, 3), (130, .iastore, 1), (131, .aload_n 0, 1), (132, .iload 5, 2), (134, .ifCond .ne 7, 3), (137, .iconst (-1), 1), (138, .goto 5, 3), (141, .iload 6, 2), (143, .iload 5, 2), (145, .iconst 2, 1), (146, .if_icmp .ne 13, 3), (149, .aload_n 0, 1), (150, .iload_n 1, 1), (151, .iload_n 3, 1), (152, .iconst 2, 1), (153, .invokevirtual 244, 3), (156, .goto 4, 3), (159, .iconst (-1), 1), (160, .invokevirtual 321, 3), (163, .iinc 3 1, 3), (166, .goto (-127), 3)]
def m_c201_2 : List m_I := [(169, .iconst 1, 1), (170, .ireturn, 1)]
def m_c201 : List m_I := m_c201_0 ++ (m_c201_1 ++ (m_c201_2))
def m_c202 : List m_I := [(0, .iconst 0, 1), (1, .istore_n 1, 1), (2, .iload_n 1, 1), (3, .bipush 6, 2), (5, .if_icmp .ge 16, 3), (8, .aload_n 0, 1), (9, .getfield 45, 3), (12, .iload_n 1, 1), (13, .iconst (-1), 1), (14, .iastore, 1), (15, .iinc 1 1, 3), (18, .goto (-16), 3), (21, .return_, 1)]
def m_c203_0 : List m_I := [(0, .iconst 0, 1), (1, .istore_n 3, 1), (2, .iload_n 3, 1), (3, .bipush 6, 2), (5, .if_icmp .ge 29, 3), (8, .aload_n 0, 1), (9, .getfield 75, 3), (12, .bipush 6, 2), (14, .aload_n 0, 1), (15, .getfield 294, 3), (18, .imul, 1), (19, .iload_n 3, 1), (20, .iadd, 1), (21, .aload_n 0, 1), (22, .getfield 45, 3), (25, .iload_n 3, 1), (26, .iaload, 1), (27, .iastore, 1), (28, .iinc 3 1, 3), (31, .goto (-29), 3), (34, .aload_n 0, 1), (35, .getfield 84, 3), (38, .aload_n 0, 1), (39, .getfield 294, 3), (42, .iload_n 1, 1), (43, .iastore, 1), (44, .aload_n 0, 1), (45, .getfield 87, 3), (48, .aload_n 0, 1), (49, .getfield 294, 3), (52, .iload_n 2, 1), (53, .iastore, 1), (54, .aload_n 0, 1), (55, .getfield 90, 3), (58, .aload_n 0, 1), (59, .getfield 294, 3), (62, .lconst 1, 1), (63, .aload_n 0, 1), (64, .getfield 294, 3), (67, .lshl, 1), (68, .lastore, 1), (69, .iload_n 1, 1), (70, .iconst (-1), 1), (71, .if_icmp .eq 21, 3), (74, .aload_n 0, 1), (75, .getfield 90, 3), (78, .aload_n 0, 1), (79, .getfield 294, 3), (82, .dup2, 1), (83, .laload, 1)]
def m_c203_1 : List m_I := [(84, .aload_n 0, 1), (85, .getfield 90, 3), (88, .iload_n 1, 1), (89, .laload, 1), (90, .lor, 1), (91, .lastore, 1), (92, .iload_n 2, 1), (93, .iconst (-1), 1), (94, .if_icmp .eq 21, 3), (97, .aload_n 0, 1), (98, .getfield 90, 3), (101, .aload_n 0, 1), (102, .getfield 294, 3), (105, .dup2, 1), (106, .laload, 1), (107, .aload_n 0, 1), (108, .getfield 90, 3), (111, .iload_n 2, 1), (112, .laload, 1), (113, .lor, 1), (114, .lastore, 1), (115, .aload_n 0, 1), (116, .dup, 1), (117, .getfield 294, 3), (120, .iconst 1, 1), (121, .iadd, 1), (122, .putfield 294, 3), (125, .return_, 1)]
def m_c203 : List m_I := m_c203_0 ++ (m_c203_1)
def m_c204 : List m_I := [(0, .iload_n 1, 1), (1, .ifCond .ne 9, 3), (4, .aload_n 0, 1), (5, .invokevirtual 306, 3), (8, .iconst 1, 1), (9, .ireturn, 1), (10, .aload_n 0, 1), (11, .iload_n 2, 1), (12, .invokevirtual 297, 3), (15, .ifCond .ne 5, 3), (18, .iconst 0, 1), (19, .ireturn, 1), (20, .iload_n 1, 1), (21, .iconst 2, 1), (22, .if_icmp .ne 10, 3), (25, .aload_n 0, 1), (26, .iload_n 2, 1), (27, .iload_n 3, 1), (28, .invokevirtual 309, 3), (31, .ireturn, 1), (32, .aload_n 0, 1), (33, .iload_n 2, 1), (34, .invokevirtual 303, 3), (37, .iload_n 1, 1), (38, .iconst 1, 1), (39, .if_icmp .ne 11, 3), (42, .aload_n 0, 1), (43, .iload_n 3, 1), (44, .invokevirtual 312, 3), (47, .goto 35, 3), (50, .iload_n 1, 1), (51, .iconst 3, 1), (52, .if_icmp .ne 10, 3), (55, .aload_n 0, 1), (56, .invokevirtual 279, 3), (59, .goto 23, 3), (62, .iload_n 1, 1), (63, .iconst 4, 1), (64, .if_icmp .ne 13, 3), (67, .aload_n 0, 1), (68, .iload_n 3, 1), (69, .iload 4, 2), (71, .invokevirtual 315, 3), (74, .goto 8, 3), (77, .aload_n 0, 1), (78, .iload_n 3, 1), (79, .invokevirtual 318, 3), (82, .ireturn, 1)]
def m_c205 : List m_I := [(0, .iload_n 1, 1), (1, .iconst 0, 1), (2, .aload_n 0, 1), (3, .getfield 294, 3), (6, .iconst 1, 1), (7, .isub, 1), (8, .invokestatic 163, 3), (11, .ireturn, 1)]
def m_c206 : List m_I := [(0, .aload_n 0, 1), (1, .iload_n 1, 1), (2, .invokevirtual 297, 3), (5, .ifCond .eq 27, 3), (8, .aload_n 0, 1), (9, .iload_n 2, 1), (10, .invokevirtual 297, 3), (13, .ifCond .eq 19, 3), (16, .aload_n 0, 1), (17, .iload_n 1, 1), (18, .invokevirtual 300, 3), (21, .aload_n 0, 1), (22, .iload_n 2, 1), (23, .invokevirtual 300, 3), (26, .iadd, 1), (27, .bipush 63, 2), (29, .if_icmp .le 5, 3), (32, .iconst 0, 1), (33, .ireturn, 1), (34, .aload_n 0, 1), (35, .iload_n 1, 1), (36, .invokevirtual 303, 3), (39, .iconst 0, 1), (40, .istore_n 3, 1), (41, .iload_n 3, 1), (42, .bipush 6, 2), (44, .if_icmp .ge 26, 3), (47, .aload_n 0, 1), (48, .getfield 48, 3), (51, .iload_n 3, 1), (52, .aload_n 0, 1), (53, .getfield 75, 3), (56, .bipush 6, 2), (58, .iload_n 2, 1), (59, .imul, 1), (60, .iload_n 3, 1), (61, .iadd, 1), (62, .iaload, 1), (63, .iastore, 1), (64, .iinc 3 1, 3), (67, .goto (-26), 3), (70, .aload_n 0, 1), (71, .invokevirtual 273, 3), (74, .iconst 1, 1), (75, .ireturn, 1)]
def m_c207 : List m_I := [(0, .iconst 0, 1), (1, .istore_n 2, 1), (2, .iconst 0, 1), (3, .istore_n 3, 1), (4, .iload_n 3, 1), (5, .bipush 6, 2), (7, .if_icmp .ge 34, 3), (10, .iload_n 2, 1), (11, .aload_n 0, 1), (12, .getfield 75, 3), (15, .bipush 6, 2), (17, .iload_n 1, 1), (18, .imul, 1), (19, .iload_n 3, 1), (20, .iadd, 1), (21, .iaload, 1), (22, .iconst (-1), 1), (23, .if_icmp .ne 7, 3), (26, .iconst 0, 1), (27, .goto 6, 3), (30, .iconst 1, 1), (31, .iload_n 3, 1), (32, .ishl, 1), (33, .iadd, 1), (34, .istore_n 2, 1), (35, .iinc 3 1, 3), (38, .goto (-34), 3), (41, .iload_n 2, 1), (42, .ireturn, 1)]
def m_c208 : List m_I := [(0, .iconst 0, 1), (1, .istore_n 2, 1), (2, .iload_n 2, 1), (3, .bipush 6, 2), (5, .if_icmp .ge 26, 3), (8, .aload_n 0, 1), (9, .getfield 45, 3), (12, .iload_n 2, 1), (13, .aload_n 0, 1), (14, .getfield 75, 3), (17, .bipush 6, 2), (19, .iload_n 1, 1), (20, .imul, 1), (21, .iload_n 2, 1), (22, .iadd, 1), (23, .iaload, 1), (24, .iastore, 1), (25, .iinc 2 1, 3), (28, .goto (-26), 3), (31, .return_, 1)]
def m_c209_0 : List m_I := [(0, .iconst (-1), 1), (1, .istore_n 1, 1), (2, .iconst 0, 1), (3, .istore_n 2, 1), (4, .iload_n 2, 1), (5, .bipush 6, 2), (7, .if_icmp .ge 166, 3), (10, .aload_n 0, 1), (11, .getfield 45, 3), (14, .iload_n 2, 1), (15, .iaload, 1), (16, .istore_n 3, 1), (17, .aload_n 0, 1), (18, .getfield 48, 3), (21, .iload_n 2, 1), (22, .iaload, 1), (23, .istore 4, 2), (25, .iload_n 1, 1), (26, .iconst (-1), 1), (27, .if_icmp .ne 7, 3), (30, .iconst 0, 1), (31, .goto 4, 3), (34, .iconst 1, 1), (35, .iload_n 3, 1), (36, .iconst (-1), 1), (37, .if_icmp .ne 7, 3), (40, .iconst 0, 1), (41, .goto 4, 3), (44, .iconst 1, 1), (45, .iadd, 1), (46, .iload 4, 2), (48, .iconst (-1), 1), (49, .if_icmp .ne 7, 3), (52, .iconst 0, 1), (53, .goto 4, 3), (56, .iconst 1, 1), (57, .iadd, 1), (58, .istore 5, 2), (60, .iload 5, 2), (62, .iconst 3, 1), (63, .if_icmp .ne 21, 3), (66, .aload_n 0, 1), (67, .getfield 45, 3), (70, .iload_n 2, 1), (71, .iload_n 1, 1), (72, .iastore, 1), (73, .aload_n 0, 1), (74, .iload_n 3, 1), (75, .iload 4, 2), (77, .invokevirtual 260, 3)]
def m_c209_1 : List m_I := [(80, .istore_n 1, 1), (81, .goto 86, 3), (84, .iload 5, 2), (86, .iconst 2, 1), (87, .if_icmp .ne 52, 3), (90, .iload_n 1, 1), (91, .iconst (-1), 1), (92, .if_icmp .eq 7, 3), (95, .iload_n 1, 1), (96, .goto 4, 3), (99, .iload_n 3, 1), (100, .istore 6, 2), (102, .iload_n 1, 1), (103, .iconst (-1), 1), (104, .if_icmp .eq 12, 3), (107, .iload_n 3, 1), (108, .iconst (-1), 1), (109, .if_icmp .eq 7, 3), (112, .iload_n 3, 1), (113, .goto 5, 3), (116, .iload 4, 2), (118, .istore 7, 2), (120, .aload_n 0, 1), (121, .getfield 45, 3), (124, .iload_n 2, 1), (125, .iconst (-1), 1), (126, .iastore, 1), (127, .aload_n 0, 1), (128, .iload 6, 2), (130, .iload 7, 2), (132, .invokevirtual 260, 3), (135, .istore_n 1, 1), (136, .goto 31, 3), (139, .aload_n 0, 1), (140, .getfield 45, 3), (143, .iload_n 2, 1), (144, .iload_n 1, 1), (145, .iconst (-1), 1), (146, .if_icmp .eq 7, 3), (149, .iload_n 1, 1), (150, .goto 14, 3), (153, .iload_n 3, 1), (154, .iconst (-1), 1), (155, .if_icmp .eq 7, 3), (158, .iload_n 3, 1), (159, .goto 5, 3), (162, .iload 4, 2), (164, .iastore, 1), (165, .iconst (-1), 1), (166, .istore_n 1, 1)]
def m_c209_2 : List m_I := [(167, .iinc 2 1, 3), (170, .goto (-166), 3), (173, .return_, 1)]
def m_c209 : List m_I := m_c209_0 ++ (m_c209_1 ++ (m_c209_2))
def m_c210_0 : List m_I := [(0, .aload_n 0, 1), (1, .iload_n 2, 1), (2, .iload_n 1, 1), (3, .invokevirtual 251, 3), (6, .ifCond .eq 7, 3), (9, .iload_n 2, 1), (10, .goto 4, 3), (13, .iload_n 1, 1), (14, .istore_n 3, 1), (15, .iload_n 3, 1), (16, .iload_n 2, 1), (17, .if_icmp .ne 12, 3), (20, .iload_n 3, 1), (21, .iload_n 1, 1), (22, .if_icmp .eq 7, 3), (25, .iload_n 1, 1), (26, .goto 4, 3), (29, .iload_n 2, 1), (30, .istore 4, 2), (32, .aload_n 0, 1), (33, .aload_n 0, 1), (34, .getfield 32, 3), (37, .iload_n 3, 1), (38, .baload, 1), (39, .aload_n 0, 1), (40, .getfield 35, 3), (43, .iload_n 3, 1), (44, .baload, 1), (45, .aload_n 0, 1), (46, .getfield 38, 3), (49, .iload_n 3, 1), (50, .baload, 1), (51, .iconst 1, 1), (52, .iadd, 1), (53, .invokevirtual 254, 3), (56, .istore 5, 2), (58, .iconst 0, 1), (59, .istore 6, 2), (61, .iload 6, 2), (63, .aload_n 0, 1), (64, .getfield 38, 3), (67, .iload_n 3, 1), (68, .baload, 1), (69, .if_icmp .ge 34, 3), (72, .aload_n 0, 1), (73, .getfield 42, 3), (76, .bipush 6, 2), (78, .iload 5, 2), (80, .imul, 1), (81, .iload 6, 2)]
def m_c210_1 : List m_I := [(83, .iadd, 1), (84, .aload_n 0, 1), (85, .getfield 42, 3), (88, .bipush 6, 2), (90, .iload_n 3, 1), (91, .imul, 1), (92, .iload 6, 2), (94, .iadd, 1), (95, .iaload, 1), (96, .iastore, 1), (97, .iinc 6 1, 3), (100, .goto (-39), 3), (103, .aload_n 0, 1), (104, .getfield 42, 3), (107, .bipush 6, 2), (109, .iload 5, 2), (111, .imul, 1), (112, .aload_n 0, 1), (113, .getfield 38, 3), (116, .iload_n 3, 1), (117, .baload, 1), (118, .iadd, 1), (119, .iload 4, 2), (121, .iastore, 1), (122, .aload_n 0, 1), (123, .dup, 1), (124, .getfield 257, 3), (127, .iconst 1, 1), (128, .iadd, 1), (129, .putfield 257, 3), (132, .iload 5, 2), (134, .ireturn, 1)]
def m_c210 : List m_I := m_c210_0 ++ (m_c210_1)
def m_c211 : List m_I := [(0, .aload_n 0, 1), (1, .getfield 35, 3), (4, .iload_n 1, 1), (5, .baload, 1), (6, .aload_n 0, 1), (7, .getfield 35, 3), (10, .iload_n 2, 1), (11, .baload, 1), (12, .if_icmp .lt 33, 3), (15, .aload_n 0, 1), (16, .getfield 35, 3), (19, .iload_n 1, 1), (20, .baload, 1), (21, .aload_n 0, 1), (22, .getfield 35, 3), (25, .iload_n 2, 1), (26, .baload, 1), (27, .if_icmp .ne 22, 3), (30, .aload_n 0, 1), (31, .getfield 32, 3), (34, .iload_n 1, 1), (35, .baload, 1), (36, .aload_n 0, 1), (37, .getfield 32, 3), (40, .iload_n 2, 1), (41, .baload, 1), (42, .if_icmp .ge 7, 3), (45, .iconst 1, 1), (46, .goto 4, 3), (49, .iconst 0, 1), (50, .ireturn, 1)]
def m_c212 : List m_I := [(0, .aload_n 0, 1), (1, .getfield 32, 3), (4, .aload_n 0, 1), (5, .getfield 248, 3), (8, .iload_n 1, 1), (9, .i2b, 1), (10, .bastore, 1), (11, .aload_n 0, 1), (12, .getfield 35, 3), (15, .aload_n 0, 1), (16, .getfield 248, 3), (19, .iload_n 2, 1), (20, .i2b, 1), (21, .bastore, 1), (22, .aload_n 0, 1), (23, .getfield 38, 3), (26, .aload_n 0, 1), (27, .getfield 248, 3), (30, .iload_n 3, 1), (31, .i2b, 1), (32, .bastore, 1), (33, .aload_n 0, 1), (34, .dup, 1), (35, .getfield 248, 3), (38, .iconst 1, 1), (39, .iadd, 1), (40, .putfield 248, 3), (43, .aload_n 0, 1), (44, .getfield 248, 3), (47, .iconst 1, 1), (48, .isub, 1), (49, .ireturn, 1)]
def m_c213 : List m_I := [(0, .aload_n 0, 1), (1, .invokevirtual 264, 3), (4, .bipush 63, 2), (6, .if_icmp .ne 5, 3), (9, .iconst 0, 1), (10, .ireturn, 1), (11, .aload_n 0, 1), (12, .invokevirtual 267, 3), (15, .aload_n 0, 1), (16, .getfield 48, 3), (19, .iconst 0, 1), (20, .aload_n 0, 1), (21, .aload_n 0, 1), (22, .getfield 270, 3), (25, .iload_n 1, 1), (26, .iconst 0, 1), (27, .invokevirtual 254, 3), (30, .iastore, 1), (31, .aload_n 0, 1), (32, .dup, 1), (33, .getfield 270, 3), (36, .iconst 1, 1), (37, .iadd, 1), (38, .putfield 270, 3), (41, .aload_n 0, 1), (42, .invokevirtual 273, 3), (45, .iconst 1, 1), (46, .ireturn, 1)]
def m_c214 : List m_I := [(0, .iconst 0, 1), (1, .istore_n 1, 1), (2, .iconst 0, 1), (3, .istore_n 2, 1), (4, .iload_n 2, 1), (5, .bipush 6, 2), (7, .if_icmp .ge 29, 3), (10, .iload_n 1, 1), (11, .aload_n 0, 1), (12, .getfield 45, 3), (15, .iload_n 2, 1), (16, .iaload, 1), (17, .iconst (-1), 1), (18, .if_icmp .ne 7, 3), (21, .iconst 0, 1), (22, .goto 6, 3), (25, .iconst 1, 1), (26, .iload_n 2, 1), (27, .ishl, 1), (28, .iadd, 1), (29, .istore_n 1, 1), (30, .iinc 2 1, 3), (33, .goto (-29), 3), (36, .iload_n 1, 1), (37, .ireturn, 1)]
def m_c215 : List m_I := [(0, .iconst 0, 1), (1, .istore_n 1, 1), (2, .iload_n 1, 1), (3, .bipush 6, 2), (5, .if_icmp .ge 16, 3), (8, .aload_n 0, 1), (9, .getfield 48, 3), (12, .iload_n 1, 1), (13, .iconst (-1), 1), (14, .iastore, 1), (15, .iinc 1 1, 3), (18, .goto (-16), 3), (21, .return_, 1)]
def m_c216 : List m_I := [(0, .aload_n 0, 1), (1, .invokevirtual 276, 3), (4, .istore_n 1, 1), (5, .iload_n 1, 1), (6, .iconst (-1), 1), (7, .if_icmp .ne 5, 3), (10, .iconst 0, 1), (11, .ireturn, 1), (12, .aload_n 0, 1), (13, .getfield 45, 3), (16, .iload_n 1, 1), (17, .iaload, 1), (18, .istore_n 2, 1), (19, .aload_n 0, 1), (20, .getfield 45, 3), (23, .iload_n 1, 1), (24, .iconst (-1), 1), (25, .iastore, 1), (26, .aload_n 0, 1), (27, .invokevirtual 267, 3), (30, .iconst 0, 1), (31, .istore_n 3, 1), (32, .iload_n 3, 1), (33, .iload_n 1, 1), (34, .if_icmp .ge 26, 3), (37, .aload_n 0, 1), (38, .getfield 48, 3), (41, .iload_n 3, 1), (42, .aload_n 0, 1), (43, .getfield 42, 3), (46, .bipush 6, 2), (48, .iload_n 2, 1), (49, .imul, 1), (50, .iload_n 3, 1), (51, .iadd, 1), (52, .iaload, 1), (53, .iastore, 1), (54, .iinc 3 1, 3), (57, .goto (-25), 3), (60, .aload_n 0, 1), (61, .invokevirtual 273, 3), (64, .iconst 1, 1), (65, .ireturn, 1)]
def m_c217 : List m_I := [(0, .iconst (-1), 1), (1, .istore_n 1, 1), (2, .iconst 0, 1), (3, .istore_n 2, 1), (4, .iload_n 2, 1), (5, .bipush 6, 2), (7, .if_icmp .ge 49, 3), (10, .aload_n 0, 1), (11, .getfield 45, 3), (14, .iload_n 2, 1), (15, .iaload, 1), (16, .iconst (-1), 1), (17, .if_icmp .eq 31, 3), (20, .iload_n 1, 1), (21, .iconst (-1), 1), (22, .if_icmp .eq 22, 3), (25, .aload_n 0, 1), (26, .aload_n 0, 1), (27, .getfield 45, 3), (30, .iload_n 2, 1), (31, .iaload, 1), (32, .aload_n 0, 1), (33, .getfield 45, 3), (36, .iload_n 1, 1), (37, .iaload, 1), (38, .invokevirtual 251, 3), (41, .ifCond .eq 7, 3), (44, .iload_n 2, 1), (45, .goto 4, 3), (48, .iload_n 1, 1), (49, .istore_n 1, 1), (50, .iinc 2 1, 3), (53, .goto (-49), 3), (56, .iload_n 1, 1), (57, .ireturn, 1)]
def m_c218_0 : List m_I := [(0, .aload_n 0, 1), (1, .invokevirtual 288, 3), (4, .iconst (-1), 1), (5, .istore_n 3, 1), (6, .iconst 0, 1), (7, .istore 4, 2), (9, .iload 4, 2), (11, .aload_n 0, 1), (12, .getfield 282, 3), (15, .if_icmp .ge 53, 3), (18, .iload_n 3, 1), (19, .iconst (-1), 1), (20, .if_icmp .ne 48, 3), (23, .aload_n 0, 1), (24, .getfield 32, 3), (27, .aload_n 0, 1), (28, .getfield 51, 3), (31, .iload 4, 2), (33, .iaload, 1), (34, .baload, 1), (35, .iload_n 1, 1), (36, .if_icmp .ne 24, 3), (39, .aload_n 0, 1), (40, .getfield 35, 3), (43, .aload_n 0, 1), (44, .getfield 51, 3), (47, .iload 4, 2), (49, .iaload, 1), (50, .baload, 1), (51, .iload_n 2, 1), (52, .if_icmp .lt 8, 3), (55, .iload 4, 2), (57, .goto 4, 3), (60, .iconst (-1), 1), (61, .istore_n 3, 1), (62, .iinc 4 1, 3), (65, .goto (-56), 3), (68, .iload_n 3, 1), (69, .iconst (-1), 1), (70, .if_icmp .ne 5, 3), (73, .iconst 0, 1), (74, .ireturn, 1), (75, .aload_n 0, 1), (76, .getfield 54, 3), (79, .iload_n 3, 1), (80, .iaload, 1), (81, .istore 4, 2), (83, .iload 4, 2), (85, .istore 5, 2), (87, .iload 5, 2)]
def m_c218_1 : List m_I := [(89, .ifCond .lt 67, 3), (92, .aload_n 0, 1), (93, .getfield 66, 3), (96, .iload 5, 2), (98, .aload_n 0, 1), (99, .getfield 51, 3), (102, .iload_n 3, 1), (103, .iaload, 1), (104, .iastore, 1), (105, .aload_n 0, 1), (106, .getfield 69, 3), (109, .iload 5, 2), (111, .aload_n 0, 1), (112, .getfield 32, 3), (115, .aload_n 0, 1), (116, .getfield 66, 3), (119, .iload 5, 2), (121, .iaload, 1), (122, .baload, 1), (123, .iastore, 1), (124, .aload_n 0, 1), (125, .getfield 72, 3), (128, .iload 5, 2), (130, .aload_n 0, 1), (131, .getfield 35, 3), (134, .aload_n 0, 1), (135, .getfield 66, 3), (138, .iload 5, 2), (140, .iaload, 1), (141, .baload, 1), (142, .iastore, 1), (143, .aload_n 0, 1), (144, .getfield 57, 3), (147, .iload_n 3, 1), (148, .iaload, 1), (149, .istore_n 3, 1), (150, .iinc 5 (-1), 3), (153, .goto (-66), 3), (156, .aload_n 0, 1), (157, .getfield 72, 3), (160, .iload 4, 2), (162, .iload_n 2, 1), (163, .iastore, 1), (164, .iload 4, 2), (166, .istore 5, 2), (168, .iload 5, 2), (170, .ifCond .le 138, 3), (173, .aload_n 0, 1), (174, .getfield 72, 3), (177, .iload 5, 2)]
def m_c218_2 : List m_I := [(179, .iaload, 1), (180, .aload_n 0, 1), (181, .getfield 72, 3), (184, .iload 5, 2), (186, .iconst 1, 1), (187, .isub, 1), (188, .iaload, 1), (189, .if_icmp .lt 41, 3), (192, .aload_n 0, 1), (193, .getfield 72, 3), (196, .iload 5, 2), (198, .iaload, 1), (199, .aload_n 0, 1), (200, .getfield 72, 3), (203, .iload 5, 2), (205, .iconst 1, 1), (206, .isub, 1), (207, .iaload, 1), (208, .if_icmp .ne 100, 3), (211, .aload_n 0, 1), (212, .getfield 69, 3), (215, .iload 5, 2), (217, .iaload, 1), (218, .aload_n 0, 1), (219, .getfield 69, 3), (222, .iload 5, 2), (224, .iconst 1, 1), (225, .isub, 1), (226, .iaload, 1), (227, .if_icmp .ge 81, 3), (230, .aload_n 0, 1), (231, .getfield 69, 3), (234, .iload 5, 2), (236, .iaload, 1), (237, .istore 6, 2), (239, .aload_n 0, 1), (240, .getfield 69, 3), (243, .iload 5, 2), (245, .aload_n 0, 1), (246, .getfield 69, 3), (249, .iload 5, 2), (251, .iconst 1, 1), (252, .isub, 1), (253, .iaload, 1), (254, .iastore, 1), (255, .aload_n 0, 1), (256, .getfield 69, 3), (259, .iload 5, 2), (261, .iconst 1, 1), (262, .isub, 1)]
def m_c218_3 : List m_I := [(263, .iload 6, 2), (265, .iastore, 1), (266, .aload_n 0, 1), (267, .getfield 72, 3), (270, .iload 5, 2), (272, .iaload, 1), (273, .istore 6, 2), (275, .aload_n 0, 1), (276, .getfield 72, 3), (279, .iload 5, 2), (281, .aload_n 0, 1), (282, .getfield 72, 3), (285, .iload 5, 2), (287, .iconst 1, 1), (288, .isub, 1), (289, .iaload, 1), (290, .iastore, 1), (291, .aload_n 0, 1), (292, .getfield 72, 3), (295, .iload 5, 2), (297, .iconst 1, 1), (298, .isub, 1), (299, .iload 6, 2), (301, .iastore, 1), (302, .iinc 5 (-1), 3), (305, .goto (-137), 3), (308, .aload_n 0, 1), (309, .iload 4, 2), (311, .invokevirtual 291, 3), (314, .iconst 1, 1), (315, .ireturn, 1)]
def m_c218 : List m_I := m_c218_0 ++ (m_c218_1 ++ (m_c218_2 ++ (m_c218_3)))
def m_c219 : List m_I := [(0, .aload_n 0, 1), (1, .iconst 0, 1), (2, .putfield 282, 3), (5, .iconst 0, 1), (6, .istore_n 1, 1), (7, .iload_n 1, 1), (8, .bipush 6, 2), (10, .if_icmp .ge 29, 3), (13, .aload_n 0, 1), (14, .getfield 45, 3), (17, .iload_n 1, 1), (18, .iaload, 1), (19, .iconst (-1), 1), (20, .if_icmp .eq 13, 3), (23, .aload_n 0, 1), (24, .aload_n 0, 1), (25, .getfield 45, 3), (28, .iload_n 1, 1), (29, .iaload, 1), (30, .invokevirtual 285, 3), (33, .iinc 1 1, 3), (36, .goto (-29), 3), (39, .return_, 1)]
def m_c220_0 : List m_I := [(0, .iconst 1, 1), (1, .istore_n 2, 1), (2, .aload_n 0, 1), (3, .getfield 60, 3), (6, .iconst 0, 1), (7, .iload_n 1, 1), (8, .iastore, 1), (9, .aload_n 0, 1), (10, .getfield 63, 3), (13, .iconst 0, 1), (14, .iconst (-1), 1), (15, .iastore, 1), (16, .iload_n 2, 1), (17, .ifCond .le 144, 3), (20, .iinc 2 (-1), 3), (23, .aload_n 0, 1), (24, .getfield 60, 3), (27, .iload_n 2, 1), (28, .iaload, 1), (29, .istore_n 3, 1), (30, .aload_n 0, 1), (31, .getfield 51, 3), (34, .aload_n 0, 1), (35, .getfield 282, 3), (38, .iload_n 3, 1), (39, .iastore, 1), (40, .aload_n 0, 1), (41, .getfield 57, 3), (44, .aload_n 0, 1), (45, .getfield 282, 3), (48, .aload_n 0, 1), (49, .getfield 63, 3), (52, .iload_n 2, 1), (53, .iaload, 1), (54, .iastore, 1), (55, .aload_n 0, 1), (56, .getfield 54, 3), (59, .aload_n 0, 1), (60, .getfield 282, 3), (63, .aload_n 0, 1), (64, .getfield 57, 3), (67, .aload_n 0, 1), (68, .getfield 282, 3), (71, .iaload, 1), (72, .iconst (-1), 1), (73, .if_icmp .ne 7, 3), (76, .iconst 0, 1), (77, .goto 19, 3), (80, .aload_n 0, 1), (81, .getfield 54, 3)]
def m_c220_1 : List m_I := [(84, .aload_n 0, 1), (85, .getfield 57, 3), (88, .aload_n 0, 1), (89, .getfield 282, 3), (92, .iaload, 1), (93, .iaload, 1), (94, .iconst 1, 1), (95, .iadd, 1), (96, .iastore, 1), (97, .iconst 0, 1), (98, .istore 4, 2), (100, .iload 4, 2), (102, .aload_n 0, 1), (103, .getfield 38, 3), (106, .iload_n 3, 1), (107, .baload, 1), (108, .if_icmp .ge 40, 3), (111, .aload_n 0, 1), (112, .getfield 60, 3), (115, .iload_n 2, 1), (116, .aload_n 0, 1), (117, .getfield 42, 3), (120, .bipush 6, 2), (122, .iload_n 3, 1), (123, .imul, 1), (124, .iload 4, 2), (126, .iadd, 1), (127, .iaload, 1), (128, .iastore, 1), (129, .aload_n 0, 1), (130, .getfield 63, 3), (133, .iload_n 2, 1), (134, .aload_n 0, 1), (135, .getfield 282, 3), (138, .iastore, 1), (139, .iinc 2 1, 3), (142, .iinc 4 1, 3), (145, .goto (-45), 3), (148, .aload_n 0, 1), (149, .dup, 1), (150, .getfield 282, 3), (153, .iconst 1, 1), (154, .iadd, 1), (155, .putfield 282, 3), (158, .goto (-142), 3), (161, .return_, 1)]
def m_c220 : List m_I := m_c220_0 ++ (m_c220_1)
def m_c221_0 : List m_I := [(0, .aload_n 0, 1), (1, .getfield 248, 3), (4, .istore_n 2, 1), (5, .iconst 0, 1), (6, .istore_n 3, 1), (7, .iload_n 3, 1), (8, .iload_n 1, 1), (9, .if_icmp .gt 123, 3), (12, .aload_n 0, 1), (13, .aload_n 0, 1), (14, .getfield 69, 3), (17, .iload_n 3, 1), (18, .iaload, 1), (19, .aload_n 0, 1), (20, .getfield 72, 3), (23, .iload_n 3, 1), (24, .iaload, 1), (25, .aload_n 0, 1), (26, .getfield 38, 3), (29, .aload_n 0, 1), (30, .getfield 66, 3), (33, .iload_n 3, 1), (34, .iaload, 1), (35, .baload, 1), (36, .invokevirtual 254, 3), (39, .istore 4, 2), (41, .iconst 0, 1), (42, .istore 5, 2), (44, .iload 5, 2), (46, .aload_n 0, 1), (47, .getfield 38, 3), (50, .aload_n 0, 1), (51, .getfield 66, 3), (54, .iload_n 3, 1), (55, .iaload, 1), (56, .baload, 1), (57, .if_icmp .ge 39, 3), (60, .aload_n 0, 1), (61, .getfield 42, 3), (64, .bipush 6, 2), (66, .iload 4, 2), (68, .imul, 1), (69, .iload 5, 2), (71, .iadd, 1), (72, .aload_n 0, 1), (73, .getfield 42, 3), (76, .bipush 6, 2), (78, .aload_n 0, 1), (79, .getfield 66, 3), (82, .iload_n 3, 1)]
def m_c221_1 : List m_I := [(83, .iaload, 1), (84, .imul, 1), (85, .iload 5, 2), (87, .iadd, 1), (88, .iaload, 1), (89, .iastore, 1), (90, .iinc 5 1, 3), (93, .goto (-49), 3), (96, .iload_n 3, 1), (97, .ifCond .le 29, 3), (100, .aload_n 0, 1), (101, .getfield 42, 3), (104, .bipush 6, 2), (106, .iload 4, 2), (108, .iconst 1, 1), (109, .isub, 1), (110, .imul, 1), (111, .aload_n 0, 1), (112, .getfield 38, 3), (115, .aload_n 0, 1), (116, .getfield 66, 3), (119, .iload_n 3, 1), (120, .iaload, 1), (121, .baload, 1), (122, .iadd, 1), (123, .iload 4, 2), (125, .iastore, 1), (126, .iinc 3 1, 3), (129, .goto (-122), 3), (132, .aload_n 0, 1), (133, .getfield 45, 3), (136, .aload_n 0, 1), (137, .getfield 38, 3), (140, .aload_n 0, 1), (141, .getfield 66, 3), (144, .iconst 0, 1), (145, .iaload, 1), (146, .baload, 1), (147, .iload_n 2, 1), (148, .iastore, 1), (149, .return_, 1)]
def m_c221 : List m_I := m_c221_0 ++ (m_c221_1)
def m_c222 : List m_I := [(0, .aload_n 0, 1), (1, .invokevirtual 276, 3), (4, .istore_n 2, 1), (5, .iload_n 2, 1), (6, .iconst (-1), 1), (7, .if_icmp .eq 31, 3), (10, .aload_n 0, 1), (11, .getfield 35, 3), (14, .aload_n 0, 1), (15, .getfield 45, 3), (18, .iload_n 2, 1), (19, .iaload, 1), (20, .baload, 1), (21, .iload_n 1, 1), (22, .if_icmp .ge 16, 3), (25, .aload_n 0, 1), (26, .invokevirtual 279, 3), (29, .istore_n 3, 1), (30, .aload_n 0, 1), (31, .invokevirtual 276, 3), (34, .istore_n 2, 1), (35, .goto (-30), 3), (38, .iconst 1, 1), (39, .ireturn, 1)]
def m_c223 : List m_I := [(0, .aload_n 0, 1), (1, .iconst 0, 1), (2, .putfield 155, 3), (5, .aload_n 0, 1), (6, .iload_n 1, 1), (7, .invokevirtual 328, 3), (10, .ifCond .eq 26, 3), (13, .iload_n 2, 1), (14, .iconst 0, 1), (15, .aload_n 0, 1), (16, .getfield 294, 3), (19, .iconst 2, 1), (20, .isub, 1), (21, .invokestatic 163, 3), (24, .ifCond .eq 12, 3), (27, .iload_n 3, 1), (28, .iconst 0, 1), (29, .iconst 2, 1), (30, .invokestatic 163, 3), (33, .ifCond .ne 7, 3), (36, .ldc_w 334, 3), (39, .ireturn, 1), (40, .iload_n 3, 1), (41, .ifCond .ne 12, 3), (44, .aload_n 0, 1), (45, .getfield 78, 3), (48, .iload_n 2, 1), (49, .iaload, 1), (50, .goto 22, 3), (53, .iload_n 3, 1), (54, .iconst 1, 1), (55, .if_icmp .ne 12, 3), (58, .aload_n 0, 1), (59, .getfield 81, 3), (62, .iload_n 2, 1), (63, .iaload, 1), (64, .goto 8, 3), (67, .aload_n 0, 1), (68, .iload_n 2, 1), (69, .invokevirtual 335, 3), (72, .ireturn, 1)]
def m_c224 : List m_I := [(0, .aload_n 0, 1), (1, .getfield 81, 3), (4, .iload_n 1, 1), (5, .iaload, 1), (6, .aload_n 0, 1), (7, .iload_n 1, 1), (8, .iconst 1, 1), (9, .iadd, 1), (10, .invokevirtual 331, 3), (13, .iadd, 1), (14, .istore_n 2, 1), (15, .iload_n 2, 1), (16, .aload_n 0, 1), (17, .getfield 84, 3), (20, .iload_n 1, 1), (21, .iconst 1, 1), (22, .iadd, 1), (23, .iaload, 1), (24, .iconst (-1), 1), (25, .if_icmp .ne 7, 3), (28, .iconst 0, 1), (29, .goto 15, 3), (32, .aload_n 0, 1), (33, .aload_n 0, 1), (34, .getfield 84, 3), (37, .iload_n 1, 1), (38, .iconst 1, 1), (39, .iadd, 1), (40, .iaload, 1), (41, .invokevirtual 331, 3), (44, .isub, 1), (45, .istore_n 2, 1), (46, .iload_n 2, 1), (47, .aload_n 0, 1), (48, .getfield 87, 3), (51, .iload_n 1, 1), (52, .iconst 1, 1), (53, .iadd, 1), (54, .iaload, 1), (55, .iconst (-1), 1), (56, .if_icmp .ne 7, 3), (59, .iconst 0, 1), (60, .goto 15, 3), (63, .aload_n 0, 1), (64, .aload_n 0, 1), (65, .getfield 87, 3), (68, .iload_n 1, 1), (69, .iconst 1, 1), (70, .iadd, 1), (71, .iaload, 1), (72, .invokevirtual 331, 3), (75, .isub, 1), (76, .istore_n 2, 1), (77, .iload_n 2, 1), (78, .ireturn, 1)]
def m_c225 : List m_I := [(0, .iconst 0, 1), (1, .istore_n 2, 1), (2, .iconst 0, 1), (3, .istore_n 3, 1), (4, .iload_n 3, 1), (5, .bipush 6, 2), (7, .if_icmp .ge 32, 3), (10, .iload_n 2, 1), (11, .aload_n 0, 1), (12, .getfield 75, 3), (15, .bipush 6, 2), (17, .iload_n 1, 1), (18, .imul, 1), (19, .iload_n 3, 1), (20, .iadd, 1), (21, .iaload, 1), (22, .iconst (-1), 1), (23, .if_icmp .ne 7, 3), (26, .iconst 0, 1), (27, .goto 4, 3), (30, .iconst 1, 1), (31, .iadd, 1), (32, .istore_n 2, 1), (33, .iinc 3 1, 3), (36, .goto (-32), 3), (39, .iload_n 2, 1), (40, .ireturn, 1)]
def m_c226 : List m_I := [(0, .aload_n 0, 1), (1, .iconst 0, 1), (2, .putfield 155, 3), (5, .aload_n 0, 1), (6, .iload_n 1, 1), (7, .invokevirtual 328, 3), (10, .ifCond .ne 7, 3), (13, .iconst (-1), 1), (14, .goto 18, 3), (17, .iload_n 2, 1), (18, .ifCond .eq 10, 3), (21, .aload_n 0, 1), (22, .getfield 270, 3), (25, .goto 7, 3), (28, .aload_n 0, 1), (29, .getfield 248, 3), (32, .ireturn, 1)]
def m_c227 : List m_I := [(0, .aload_n 0, 1), (1, .iconst 0, 1), (2, .putfield 155, 3), (5, .aload_n 0, 1), (6, .iload_n 1, 1), (7, .iload_n 2, 1), (8, .invokevirtual 345, 3), (11, .ifCond .ne 6, 3), (14, .bipush (-2), 2), (16, .ireturn, 1), (17, .aload_n 0, 1), (18, .invokevirtual 348, 3), (21, .aload_n 0, 1), (22, .iload_n 2, 1), (23, .invokevirtual 351, 3), (26, .iload_n 3, 1), (27, .tableswitch 106 0 6 #[41, 46, 52, 59, 72, 95, 100], 41), (68, .aload_n 0, 1), (69, .getfield 338, 3), (72, .ireturn, 1), (73, .aload_n 0, 1), (74, .iload_n 2, 1), (75, .invokevirtual 331, 3), (78, .ireturn, 1), (79, .aload_n 0, 1), (80, .iload_n 2, 1), (81, .lconst 0, 1), (82, .invokevirtual 354, 3), (85, .ireturn, 1), (86, .aload_n 0, 1), (87, .iload_n 2, 1), (88, .lconst 1, 1), (89, .iload_n 2, 1), (90, .lshl, 1), (91, .ldc2_w 358, 3), (94, .lxor, 1), (95, .invokevirtual 354, 3), (98, .ireturn, 1), (99, .aload_n 0, 1), (100, .getfield 338, 3), (103, .ifCond .ne 7, 3), (106, .iconst (-1), 1), (107, .goto 14, 3), (110, .aload_n 0, 1), (111, .getfield 97, 3), (114, .aload_n 0, 1), (115, .getfield 338, 3), (118, .iconst 2, 1), (119, .idiv, 1), (120, .iaload, 1), (121, .ireturn, 1), (122, .aload_n 0, 1), (123, .invokevirtual 360, 3), (126, .ireturn, 1), (127, .aload_n 0, 1), (128, .iload_n 2, 1), (129, .invokevirtual 363, 3), (132, .ireturn, 1), (133, .bipush (-2), 2), (135, .ireturn, 1)]
def m_c228 : List m_I := [(0, .aload_n 0, 1), (1, .iload_n 1, 1), (2, .invokevirtual 328, 3), (5, .ifCond .eq 15, 3), (8, .aload_n 0, 1), (9, .iload_n 2, 1), (10, .invokevirtual 297, 3), (13, .ifCond .eq 7, 3), (16, .iconst 1, 1), (17, .goto 4, 3), (20, .iconst 0, 1), (21, .ireturn, 1)]
def m_c229 : List m_I := [(0, .iconst 0, 1), (1, .istore_n 1, 1), (2, .iload_n 1, 1), (3, .aload_n 0, 1), (4, .getfield 248, 3), (7, .if_icmp .ge 16, 3), (10, .aload_n 0, 1), (11, .getfield 94, 3), (14, .iload_n 1, 1), (15, .lconst 0, 1), (16, .lastore, 1), (17, .iinc 1 1, 3), (20, .goto (-18), 3), (23, .iconst 0, 1), (24, .istore_n 1, 1), (25, .iload_n 1, 1), (26, .aload_n 0, 1), (27, .getfield 294, 3), (30, .if_icmp .ge 51, 3), (33, .aload_n 0, 1), (34, .iload_n 1, 1), (35, .invokevirtual 303, 3), (38, .aload_n 0, 1), (39, .invokevirtual 288, 3), (42, .iconst 0, 1), (43, .istore_n 2, 1), (44, .iload_n 2, 1), (45, .aload_n 0, 1), (46, .getfield 282, 3), (49, .if_icmp .ge 26, 3), (52, .aload_n 0, 1), (53, .getfield 94, 3), (56, .aload_n 0, 1), (57, .getfield 51, 3), (60, .iload_n 2, 1), (61, .iaload, 1), (62, .dup2, 1), (63, .laload, 1), (64, .lconst 1, 1), (65, .iload_n 1, 1), (66, .lshl, 1), (67, .lor, 1), (68, .lastore, 1), (69, .iinc 2 1, 3), (72, .goto (-28), 3), (75, .iinc 1 1, 3), (78, .goto (-53), 3), (81, .return_, 1)]
def m_c230_0 : List m_I := [(0, .aload_n 0, 1), (1, .iload_n 1, 1), (2, .invokevirtual 303, 3), (5, .aload_n 0, 1), (6, .invokevirtual 288, 3), (9, .aload_n 0, 1), (10, .iconst 0, 1), (11, .putfield 338, 3), (14, .iconst 0, 1), (15, .istore_n 2, 1), (16, .iload_n 2, 1), (17, .aload_n 0, 1), (18, .getfield 282, 3), (21, .if_icmp .ge 151, 3), (24, .aload_n 0, 1), (25, .getfield 32, 3), (28, .aload_n 0, 1), (29, .getfield 51, 3), (32, .iload_n 2, 1), (33, .iaload, 1), (34, .baload, 1), (35, .istore_n 3, 1), (36, .aload_n 0, 1), (37, .getfield 35, 3), (40, .aload_n 0, 1), (41, .getfield 51, 3), (44, .iload_n 2, 1), (45, .iaload, 1), (46, .baload, 1), (47, .istore 4, 2), (49, .aload_n 0, 1), (50, .getfield 338, 3), (53, .istore 5, 2), (55, .iload 5, 2), (57, .ifCond .le 82, 3), (60, .iload 4, 2), (62, .aload_n 0, 1), (63, .getfield 100, 3), (66, .iload 5, 2), (68, .iconst 1, 1), (69, .isub, 1), (70, .iaload, 1), (71, .if_icmp .lt 30, 3), (74, .iload 4, 2), (76, .aload_n 0, 1), (77, .getfield 100, 3), (80, .iload 5, 2), (82, .iconst 1, 1), (83, .isub, 1), (84, .iaload, 1)]
def m_c230_1 : List m_I := [(85, .if_icmp .ne 54, 3), (88, .iload_n 3, 1), (89, .aload_n 0, 1), (90, .getfield 97, 3), (93, .iload 5, 2), (95, .iconst 1, 1), (96, .isub, 1), (97, .iaload, 1), (98, .if_icmp .ge 41, 3), (101, .aload_n 0, 1), (102, .getfield 97, 3), (105, .iload 5, 2), (107, .aload_n 0, 1), (108, .getfield 97, 3), (111, .iload 5, 2), (113, .iconst 1, 1), (114, .isub, 1), (115, .iaload, 1), (116, .iastore, 1), (117, .aload_n 0, 1), (118, .getfield 100, 3), (121, .iload 5, 2), (123, .aload_n 0, 1), (124, .getfield 100, 3), (127, .iload 5, 2), (129, .iconst 1, 1), (130, .isub, 1), (131, .iaload, 1), (132, .iastore, 1), (133, .iinc 5 (-1), 3), (136, .goto (-81), 3), (139, .aload_n 0, 1), (140, .getfield 97, 3), (143, .iload 5, 2), (145, .iload_n 3, 1), (146, .iastore, 1), (147, .aload_n 0, 1), (148, .getfield 100, 3), (151, .iload 5, 2), (153, .iload 4, 2), (155, .iastore, 1), (156, .aload_n 0, 1), (157, .dup, 1), (158, .getfield 338, 3), (161, .iconst 1, 1), (162, .iadd, 1), (163, .putfield 338, 3), (166, .iinc 2 1, 3), (169, .goto (-153), 3), (172, .return_, 1)]
def m_c230 : List m_I := m_c230_0 ++ (m_c230_1)
def m_c231 : List m_I := [(0, .iconst 0, 1), (1, .istore 4, 2), (3, .iconst 0, 1), (4, .istore 5, 2), (6, .iload 5, 2), (8, .aload_n 0, 1), (9, .getfield 248, 3), (12, .if_icmp .ge 47, 3), (15, .iload 4, 2), (17, .aload_n 0, 1), (18, .getfield 94, 3), (21, .iload 5, 2), (23, .laload, 1), (24, .iload_n 1, 1), (25, .invokestatic 341, 3), (28, .ifCond .eq 21, 3), (31, .aload_n 0, 1), (32, .getfield 94, 3), (35, .iload 5, 2), (37, .laload, 1), (38, .lload_n 2, 1), (39, .land, 1), (40, .lconst 0, 1), (41, .lcmp, 1), (42, .ifCond .ne 7, 3), (45, .iconst 1, 1), (46, .goto 4, 3), (49, .iconst 0, 1), (50, .iadd, 1), (51, .istore 4, 2), (53, .iinc 5 1, 3), (56, .goto (-50), 3), (59, .iload 4, 2), (61, .ireturn, 1)]
def m_c232 : List m_I := [(0, .lload_n 0, 1), (1, .iload_n 2, 1), (2, .lshr, 1), (3, .lconst 1, 1), (4, .land, 1), (5, .lconst 1, 1), (6, .lcmp, 1), (7, .ifCond .ne 7, 3), (10, .iconst 1, 1), (11, .goto 4, 3), (14, .iconst 0, 1), (15, .ireturn, 1)]
def m_c233 : List m_I := [(0, .iconst 0, 1), (1, .istore_n 1, 1), (2, .iconst 1, 1), (3, .istore_n 2, 1), (4, .iload_n 2, 1), (5, .aload_n 0, 1), (6, .getfield 338, 3), (9, .if_icmp .ge 48, 3), (12, .aload_n 0, 1), (13, .getfield 100, 3), (16, .iload_n 2, 1), (17, .iaload, 1), (18, .aload_n 0, 1), (19, .getfield 100, 3), (22, .iload_n 2, 1), (23, .iconst 1, 1), (24, .isub, 1), (25, .iaload, 1), (26, .isub, 1), (27, .iload_n 1, 1), (28, .if_icmp .le 21, 3), (31, .aload_n 0, 1), (32, .getfield 100, 3), (35, .iload_n 2, 1), (36, .iaload, 1), (37, .aload_n 0, 1), (38, .getfield 100, 3), (41, .iload_n 2, 1), (42, .iconst 1, 1), (43, .isub, 1), (44, .iaload, 1), (45, .isub, 1), (46, .goto 4, 3), (49, .iload_n 1, 1), (50, .istore_n 1, 1), (51, .iinc 2 1, 3), (54, .goto (-50), 3), (57, .iload_n 1, 1), (58, .ireturn, 1)]
def m_c234 : List m_I := [(0, .iconst (-1), 1), (1, .istore_n 2, 1), (2, .iconst 0, 1), (3, .istore_n 3, 1), (4, .iload_n 3, 1), (5, .bipush 6, 2), (7, .if_icmp .ge 30, 3), (10, .aload_n 0, 1), (11, .getfield 75, 3), (14, .bipush 6, 2), (16, .iload_n 1, 1), (17, .imul, 1), (18, .iload_n 3, 1), (19, .iadd, 1), (20, .iaload, 1), (21, .iconst (-1), 1), (22, .if_icmp .ne 7, 3), (25, .iload_n 2, 1), (26, .goto 4, 3), (29, .iload_n 3, 1), (30, .istore_n 2, 1), (31, .iinc 3 1, 3), (34, .goto (-30), 3), (37, .iload_n 2, 1), (38, .ireturn, 1)]
def m_c235 : List m_I := [(0, .aload_n 0, 1), (1, .iconst 0, 1), (2, .putfield 155, 3), (5, .aload_n 0, 1), (6, .iload_n 1, 1), (7, .iload_n 2, 1), (8, .invokevirtual 345, 3), (11, .ifCond .ne 5, 3), (14, .iconst (-1), 1), (15, .ireturn, 1), (16, .aload_n 0, 1), (17, .iload_n 2, 1), (18, .invokevirtual 351, 3), (21, .iload_n 3, 1), (22, .iconst 0, 1), (23, .aload_n 0, 1), (24, .getfield 338, 3), (27, .iconst 1, 1), (28, .isub, 1), (29, .invokestatic 163, 3), (32, .ifCond .ne 7, 3), (35, .iconst (-1), 1), (36, .goto 23, 3), (39, .iload 4, 2), (41, .ifCond .eq 12, 3), (44, .aload_n 0, 1), (45, .getfield 100, 3), (48, .iload_n 3, 1), (49, .iaload, 1), (50, .goto 9, 3), (53, .aload_n 0, 1), (54, .getfield 97, 3), (57, .iload_n 3, 1), (58, .iaload, 1), (59, .ireturn, 1)]
def m_c236_0 : List m_I := [(0, .aload_n 0, 1), (1, .iconst 0, 1), (2, .putfield 155, 3), (5, .aload_n 0, 1), (6, .iload_n 1, 1), (7, .iload_n 2, 1), (8, .invokevirtual 345, 3), (11, .ifCond .ne 5, 3), (14, .iconst (-1), 1), (15, .ireturn, 1), (16, .aload_n 0, 1), (17, .iload_n 2, 1), (18, .invokevirtual 303, 3), (21, .aload_n 0, 1), (22, .invokevirtual 288, 3), (25, .iload_n 3, 1), (26, .iconst 0, 1), (27, .aload_n 0, 1), (28, .getfield 282, 3), (31, .iconst 1, 1), (32, .isub, 1), (33, .invokestatic 163, 3), (36, .ifCond .ne 5, 3), (39, .iconst (-1), 1), (40, .ireturn, 1), (41, .aload_n 0, 1), (42, .getfield 51, 3), (45, .iload_n 3, 1), (46, .iaload, 1), (47, .istore 5, 2), (49, .iload 4, 2), (51, .ifCond .ne 13, 3), (54, .aload_n 0, 1), (55, .getfield 32, 3), (58, .iload 5, 2), (60, .baload, 1), (61, .goto 62, 3), (64, .iload 4, 2), (66, .iconst 1, 1), (67, .if_icmp .ne 13, 3), (70, .aload_n 0, 1), (71, .getfield 35, 3), (74, .iload 5, 2), (76, .baload, 1), (77, .goto 46, 3), (80, .iload 4, 2), (82, .iconst 2, 1), (83, .if_icmp .ne 13, 3), (86, .aload_n 0, 1), (87, .getfield 38, 3)]
def m_c236_1 : List m_I := [(90, .iload 5, 2), (92, .baload, 1), (93, .goto 30, 3), (96, .iload 4, 2), (98, .iconst 3, 1), (99, .if_icmp .ne 8, 3), (102, .iload 5, 2), (104, .goto 19, 3), (107, .iload 4, 2), (109, .iconst 4, 1), (110, .if_icmp .ne 12, 3), (113, .aload_n 0, 1), (114, .getfield 54, 3), (117, .iload_n 3, 1), (118, .iaload, 1), (119, .goto 4, 3), (122, .iconst (-1), 1), (123, .ireturn, 1)]
def m_c236 : List m_I := m_c236_0 ++ (m_c236_1)
def m_c237 : List m_I := [(0, .aload_n 0, 1), (1, .iconst 0, 1), (2, .putfield 155, 3), (5, .aload_n 0, 1), (6, .iload_n 1, 1), (7, .iload_n 2, 1), (8, .invokevirtual 345, 3), (11, .ifCond .eq 26, 3), (14, .iload_n 3, 1), (15, .iconst 0, 1), (16, .iconst 5, 1), (17, .invokestatic 163, 3), (20, .ifCond .eq 17, 3), (23, .aload_n 0, 1), (24, .getfield 75, 3), (27, .bipush 6, 2), (29, .iload_n 2, 1), (30, .imul, 1), (31, .iload_n 3, 1), (32, .iadd, 1), (33, .iaload, 1), (34, .goto 4, 3), (37, .iconst (-1), 1), (38, .ireturn, 1)]
def m_c238 : List m_I := [(0, .aload_n 0, 1), (1, .iconst 0, 1), (2, .putfield 155, 3), (5, .aload_n 0, 1), (6, .iload_n 1, 1), (7, .iload_n 2, 1), (8, .invokevirtual 345, 3), (11, .ifCond .ne 5, 3), (14, .iconst (-1), 1), (15, .ireturn, 1), (16, .aload_n 0, 1), (17, .iload_n 2, 1), (18, .invokevirtual 303, 3), (21, .aload_n 0, 1), (22, .invokevirtual 288, 3), (25, .iconst (-1), 1), (26, .istore 4, 2), (28, .iconst 0, 1), (29, .istore 5, 2), (31, .iload 5, 2), (33, .aload_n 0, 1), (34, .getfield 282, 3), (37, .if_icmp .ge 57, 3), (40, .aload_n 0, 1), (41, .getfield 32, 3), (44, .aload_n 0, 1), (45, .getfield 51, 3), (48, .iload 5, 2), (50, .iaload, 1), (51, .baload, 1), (52, .iload_n 3, 1), (53, .if_icmp .ne 31, 3), (56, .iload 4, 2), (58, .iconst (-1), 1), (59, .if_icmp .eq 15, 3), (62, .aload_n 0, 1), (63, .getfield 54, 3), (66, .iload 5, 2), (68, .iaload, 1), (69, .iload 4, 2), (71, .if_icmp .ge 13, 3), (74, .aload_n 0, 1), (75, .getfield 54, 3), (78, .iload 5, 2), (80, .iaload, 1), (81, .goto 5, 3), (84, .iload 4, 2), (86, .istore 4, 2), (88, .iinc 5 1, 3), (91, .goto (-60), 3), (94, .iload 4, 2), (96, .ireturn, 1)]
def m_c239 : List m_I := [(0, .aload_n 0, 1), (1, .iconst 0, 1), (2, .putfield 155, 3), (5, .aload_n 0, 1), (6, .iload_n 1, 1), (7, .iload_n 2, 1), (8, .iload_n 3, 1), (9, .invokevirtual 366, 3), (12, .ifCond .eq 20, 3), (15, .aload_n 0, 1), (16, .getfield 90, 3), (19, .iload_n 2, 1), (20, .laload, 1), (21, .iload_n 3, 1), (22, .invokestatic 341, 3), (25, .ifCond .eq 7, 3), (28, .iconst 1, 1), (29, .goto 4, 3), (32, .iconst 0, 1), (33, .ireturn, 1)]
def m_c240 : List m_I := [(0, .aload_n 0, 1), (1, .iload_n 1, 1), (2, .invokevirtual 328, 3), (5, .ifCond .eq 23, 3), (8, .aload_n 0, 1), (9, .iload_n 2, 1), (10, .invokevirtual 297, 3), (13, .ifCond .eq 15, 3), (16, .aload_n 0, 1), (17, .iload_n 3, 1), (18, .invokevirtual 297, 3), (21, .ifCond .eq 7, 3), (24, .iconst 1, 1), (25, .goto 4, 3), (28, .iconst 0, 1), (29, .ireturn, 1)]
def m_c241 : List m_I := [(0, .aload_n 0, 1), (1, .iconst 0, 1), (2, .putfield 155, 3), (5, .aload_n 0, 1), (6, .iload_n 1, 1), (7, .iload_n 2, 1), (8, .iload_n 3, 1), (9, .invokevirtual 366, 3), (12, .ifCond .ne 5, 3), (15, .iconst (-1), 1), (16, .ireturn, 1), (17, .iload 4, 2), (19, .ifCond .eq 10, 3), (22, .aload_n 0, 1), (23, .iload_n 2, 1), (24, .iload_n 3, 1), (25, .invokevirtual 369, 3), (28, .ireturn, 1), (29, .iconst (-1), 1), (30, .istore 5, 2), (32, .iconst 0, 1), (33, .istore 6, 2), (35, .iload 6, 2), (37, .aload_n 0, 1), (38, .getfield 294, 3), (41, .if_icmp .ge 39, 3), (44, .aload_n 0, 1), (45, .getfield 90, 3), (48, .iload_n 2, 1), (49, .laload, 1), (50, .aload_n 0, 1), (51, .getfield 90, 3), (54, .iload_n 3, 1), (55, .laload, 1), (56, .land, 1), (57, .iload 6, 2), (59, .invokestatic 341, 3), (62, .ifCond .eq 8, 3), (65, .iload 6, 2), (67, .goto 5, 3), (70, .iload 5, 2), (72, .istore 5, 2), (74, .iinc 6 1, 3), (77, .goto (-42), 3), (80, .iload 5, 2), (82, .ireturn, 1)]
def m_c242_0 : List m_I := [(0, .iconst 0, 1), (1, .istore_n 3, 1), (2, .iload_n 3, 1), (3, .aload_n 0, 1), (4, .getfield 294, 3), (7, .if_icmp .ge 127, 3), (10, .iload_n 3, 1), (11, .iload_n 1, 1), (12, .if_icmp .ne 7, 3), (15, .iconst 0, 1), (16, .goto 6, 3), (19, .sipush 1000, 3), (22, .istore 4, 2), (24, .aload_n 0, 1), (25, .getfield 84, 3), (28, .iload_n 3, 1), (29, .iaload, 1), (30, .iconst (-1), 1), (31, .if_icmp .eq 37, 3), (34, .aload_n 0, 1), (35, .getfield 103, 3), (38, .aload_n 0, 1), (39, .getfield 84, 3), (42, .iload_n 3, 1), (43, .iaload, 1), (44, .iaload, 1), (45, .iconst 1, 1), (46, .iadd, 1), (47, .iload 4, 2), (49, .if_icmp .ge 19, 3), (52, .aload_n 0, 1), (53, .getfield 103, 3), (56, .aload_n 0, 1), (57, .getfield 84, 3), (60, .iload_n 3, 1), (61, .iaload, 1), (62, .iaload, 1), (63, .iconst 1, 1), (64, .iadd, 1), (65, .goto 5, 3), (68, .iload 4, 2), (70, .istore 4, 2), (72, .aload_n 0, 1), (73, .getfield 87, 3), (76, .iload_n 3, 1), (77, .iaload, 1), (78, .iconst (-1), 1), (79, .if_icmp .eq 37, 3), (82, .aload_n 0, 1), (83, .getfield 103, 3)]
def m_c242_1 : List m_I := [(86, .aload_n 0, 1), (87, .getfield 87, 3), (90, .iload_n 3, 1), (91, .iaload, 1), (92, .iaload, 1), (93, .iconst 1, 1), (94, .iadd, 1), (95, .iload 4, 2), (97, .if_icmp .ge 19, 3), (100, .aload_n 0, 1), (101, .getfield 103, 3), (104, .aload_n 0, 1), (105, .getfield 87, 3), (108, .iload_n 3, 1), (109, .iaload, 1), (110, .iaload, 1), (111, .iconst 1, 1), (112, .iadd, 1), (113, .goto 5, 3), (116, .iload 4, 2), (118, .istore 4, 2), (120, .aload_n 0, 1), (121, .getfield 103, 3), (124, .iload_n 3, 1), (125, .iload 4, 2), (127, .iastore, 1), (128, .iinc 3 1, 3), (131, .goto (-129), 3), (134, .aload_n 0, 1), (135, .getfield 103, 3), (138, .iload_n 2, 1), (139, .iaload, 1), (140, .sipush 1000, 3), (143, .if_icmp .ge 12, 3), (146, .aload_n 0, 1), (147, .getfield 103, 3), (150, .iload_n 2, 1), (151, .iaload, 1), (152, .goto 4, 3), (155, .iconst (-1), 1), (156, .ireturn, 1)]
def m_c242 : List m_I := m_c242_0 ++ (m_c242_1)
def m_c243 : List m_I := [(0, .aload_n 0, 1), (1, .iconst 0, 1), (2, .putfield 155, 3), (5, .aload_n 0, 1), (6, .iload_n 1, 1), (7, .iload_n 2, 1), (8, .iload_n 3, 1), (9, .invokevirtual 366, 3), (12, .ifCond .ne 5, 3), (15, .iconst (-1), 1), (16, .ireturn, 1), (17, .aload_n 0, 1), (18, .invokevirtual 348, 3), (21, .iconst 0, 1), (22, .istore 4, 2), (24, .iconst 0, 1), (25, .istore 5, 2), (27, .iload 5, 2), (29, .aload_n 0, 1), (30, .getfield 248, 3), (33, .if_icmp .ge 47, 3), (36, .iload 4, 2), (38, .aload_n 0, 1), (39, .getfield 94, 3), (42, .iload 5, 2), (44, .laload, 1), (45, .iload_n 2, 1), (46, .invokestatic 341, 3), (49, .ifCond .eq 21, 3), (52, .aload_n 0, 1), (53, .getfield 94, 3), (56, .iload 5, 2), (58, .laload, 1), (59, .iload_n 3, 1), (60, .invokestatic 341, 3), (63, .ifCond .eq 7, 3), (66, .iconst 1, 1), (67, .goto 4, 3), (70, .iconst 0, 1), (71, .iadd, 1), (72, .istore 4, 2), (74, .iinc 5 1, 3), (77, .goto (-50), 3), (80, .iload 4, 2), (82, .ireturn, 1)]
def m_c244 : List m_I := [(0, .aload_n 0, 1), (1, .iconst 0, 1), (2, .putfield 155, 3), (5, .aload_n 0, 1), (6, .iload_n 1, 1), (7, .invokevirtual 328, 3), (10, .ifCond .eq 11, 3), (13, .aload_n 0, 1), (14, .lload_n 2, 1), (15, .invokevirtual 372, 3), (18, .ifCond .ne 5, 3), (21, .iconst (-1), 1), (22, .ireturn, 1), (23, .aload_n 0, 1), (24, .invokevirtual 348, 3), (27, .iload 4, 2), (29, .ifCond .eq 16, 3), (32, .aload_n 0, 1), (33, .getfield 248, 3), (36, .aload_n 0, 1), (37, .lload_n 2, 1), (38, .invokevirtual 376, 3), (41, .isub, 1), (42, .goto 8, 3), (45, .aload_n 0, 1), (46, .lload_n 2, 1), (47, .invokevirtual 376, 3), (50, .ireturn, 1)]
def m_c245 : List m_I := [(0, .lload_n 1, 1), (1, .lconst 0, 1), (2, .lcmp, 1), (3, .ifCond .lt 18, 3), (6, .lload_n 1, 1), (7, .aload_n 0, 1), (8, .getfield 294, 3), (11, .lshr, 1), (12, .lconst 0, 1), (13, .lcmp, 1), (14, .ifCond .ne 7, 3), (17, .iconst 1, 1), (18, .goto 4, 3), (21, .iconst 0, 1), (22, .ireturn, 1)]
def m_c246 : List m_I := [(0, .iconst 0, 1), (1, .istore_n 3, 1), (2, .iconst 0, 1), (3, .istore 4, 2), (5, .iload 4, 2), (7, .aload_n 0, 1), (8, .getfield 248, 3), (11, .if_icmp .ge 31, 3), (14, .iload_n 3, 1), (15, .aload_n 0, 1), (16, .getfield 94, 3), (19, .iload 4, 2), (21, .laload, 1), (22, .lload_n 1, 1), (23, .land, 1), (24, .lconst 0, 1), (25, .lcmp, 1), (26, .ifCond .eq 7, 3), (29, .iconst 1, 1), (30, .goto 4, 3), (33, .iconst 0, 1), (34, .iadd, 1), (35, .istore_n 3, 1), (36, .iinc 4 1, 3), (39, .goto (-34), 3), (42, .iload_n 3, 1), (43, .ireturn, 1)]
def m_c247 : List m_I := [(0, .aload_n 0, 1), (1, .iconst 0, 1), (2, .putfield 155, 3), (5, .aload_n 0, 1), (6, .iload_n 1, 1), (7, .invokevirtual 328, 3), (10, .ifCond .eq 11, 3), (13, .aload_n 0, 1), (14, .lload_n 2, 1), (15, .invokevirtual 372, 3), (18, .ifCond .ne 5, 3), (21, .iconst (-1), 1), (22, .ireturn, 1), (23, .aload_n 0, 1), (24, .invokevirtual 348, 3), (27, .iconst (-1), 1), (28, .istore 4, 2), (30, .iconst 0, 1), (31, .istore 5, 2), (33, .iconst 0, 1), (34, .istore 6, 2), (36, .iload 6, 2), (38, .aload_n 0, 1), (39, .getfield 294, 3), (42, .if_icmp .ge 55, 3), (45, .lload_n 2, 1), (46, .iload 6, 2), (48, .invokestatic 341, 3), (51, .ifCond .eq 40, 3), (54, .aload_n 0, 1), (55, .lload_n 2, 1), (56, .lconst 1, 1), (57, .iload 6, 2), (59, .lshl, 1), (60, .ldc2_w 358, 3), (63, .lxor, 1), (64, .land, 1), (65, .invokevirtual 376, 3), (68, .istore 7, 2), (70, .iload 4, 2), (72, .iconst (-1), 1), (73, .if_icmp .eq 10, 3), (76, .iload 7, 2), (78, .iload 5, 2), (80, .if_icmp .ge 11, 3), (83, .iload 6, 2), (85, .istore 4, 2), (87, .iload 7, 2), (89, .istore 5, 2), (91, .iinc 6 1, 3), (94, .goto (-58), 3), (97, .iload 4, 2), (99, .ireturn, 1)]
def m_c248_0 : List m_I := [(0, .aload_n 0, 1), (1, .iconst 0, 1), (2, .putfield 155, 3), (5, .aload_n 0, 1), (6, .iload_n 1, 1), (7, .invokevirtual 328, 3), (10, .ifCond .eq 19, 3), (13, .aload_n 0, 1), (14, .lload_n 2, 1), (15, .invokevirtual 372, 3), (18, .ifCond .eq 11, 3), (21, .aload_n 0, 1), (22, .lload_n 2, 1), (23, .invokevirtual 386, 3), (26, .ifCond .ne 7, 3), (29, .ldc2_w 358, 3), (32, .lreturn, 1), (33, .aload_n 0, 1), (34, .invokevirtual 348, 3), (37, .aload_n 0, 1), (38, .iconst 0, 1), (39, .putfield 383, 3), (42, .iconst 0, 1), (43, .istore 4, 2), (45, .iload 4, 2), (47, .aload_n 0, 1), (48, .getfield 248, 3), (51, .if_icmp .ge 49, 3), (54, .aload_n 0, 1), (55, .getfield 94, 3), (58, .iload 4, 2), (60, .laload, 1), (61, .lload_n 2, 1), (62, .land, 1), (63, .lconst 0, 1), (64, .lcmp, 1), (65, .ifCond .eq 29, 3), (68, .aload_n 0, 1), (69, .getfield 109, 3), (72, .aload_n 0, 1), (73, .getfield 383, 3), (76, .aload_n 0, 1), (77, .getfield 94, 3), (80, .iload 4, 2), (82, .laload, 1), (83, .lastore, 1), (84, .aload_n 0, 1), (85, .dup, 1), (86, .getfield 383, 3), (89, .iconst 1, 1)]
def m_c248_1 : List m_I := [(90, .iadd, 1), (91, .putfield 383, 3), (94, .iinc 4 1, 3), (97, .goto (-52), 3), (100, .iconst (-1), 1), (101, .istore 4, 2), (103, .iconst 0, 1), (104, .istore 5, 2), (106, .iload 5, 2), (108, .iconst 1, 1), (109, .aload_n 0, 1), (110, .getfield 380, 3), (113, .ishl, 1), (114, .if_icmp .ge 50, 3), (117, .iload 4, 2), (119, .iconst (-1), 1), (120, .if_icmp .eq 16, 3), (123, .iload 5, 2), (125, .invokestatic 389, 3), (128, .iload 4, 2), (130, .invokestatic 389, 3), (133, .if_icmp .ge 21, 3), (136, .aload_n 0, 1), (137, .aload_n 0, 1), (138, .iload 5, 2), (140, .invokevirtual 392, 3), (143, .invokevirtual 396, 3), (146, .ifCond .eq 8, 3), (149, .iload 5, 2), (151, .goto 5, 3), (154, .iload 4, 2), (156, .istore 4, 2), (158, .iinc 5 1, 3), (161, .goto (-55), 3), (164, .aload_n 0, 1), (165, .iload 4, 2), (167, .invokevirtual 392, 3), (170, .lreturn, 1)]
def m_c248 : List m_I := m_c248_0 ++ (m_c248_1)
def m_c249 : List m_I := [(0, .aload_n 0, 1), (1, .iconst 0, 1), (2, .putfield 380, 3), (5, .iconst 0, 1), (6, .istore_n 3, 1), (7, .iload_n 3, 1), (8, .aload_n 0, 1), (9, .getfield 294, 3), (12, .if_icmp .ge 48, 3), (15, .lload_n 1, 1), (16, .iload_n 3, 1), (17, .invokestatic 341, 3), (20, .ifCond .eq 34, 3), (23, .aload_n 0, 1), (24, .getfield 380, 3), (27, .bipush 12, 2), (29, .if_icmp .ne 5, 3), (32, .iconst 0, 1), (33, .ireturn, 1), (34, .aload_n 0, 1), (35, .getfield 106, 3), (38, .aload_n 0, 1), (39, .getfield 380, 3), (42, .iload_n 3, 1), (43, .iastore, 1), (44, .aload_n 0, 1), (45, .dup, 1), (46, .getfield 380, 3), (49, .iconst 1, 1), (50, .iadd, 1), (51, .putfield 380, 3), (54, .iinc 3 1, 3), (57, .goto (-50), 3), (60, .iconst 1, 1), (61, .ireturn, 1)]
def m_c250 : List m_I := [(0, .iconst 0, 1), (1, .istore_n 1, 1), (2, .iconst 0, 1), (3, .istore_n 2, 1), (4, .iload_n 2, 1), (5, .bipush 12, 2), (7, .if_icmp .ge 26, 3), (10, .iload_n 1, 1), (11, .iload_n 0, 1), (12, .i2l, 1), (13, .iload_n 2, 1), (14, .invokestatic 341, 3), (17, .ifCond .eq 7, 3), (20, .iconst 1, 1), (21, .goto 4, 3), (24, .iconst 0, 1), (25, .iadd, 1), (26, .istore_n 1, 1), (27, .iinc 2 1, 3), (30, .goto (-26), 3), (33, .iload_n 1, 1), (34, .ireturn, 1)]
def m_c251 : List m_I := [(0, .lconst 0, 1), (1, .lstore_n 2, 1), (2, .iconst 0, 1), (3, .istore 4, 2), (5, .iload 4, 2), (7, .aload_n 0, 1), (8, .getfield 380, 3), (11, .if_icmp .ge 35, 3), (14, .lload_n 2, 1), (15, .iload_n 1, 1), (16, .i2l, 1), (17, .iload 4, 2), (19, .invokestatic 341, 3), (22, .ifCond .eq 15, 3), (25, .lconst 1, 1), (26, .aload_n 0, 1), (27, .getfield 106, 3), (30, .iload 4, 2), (32, .iaload, 1), (33, .lshl, 1), (34, .goto 4, 3), (37, .lconst 0, 1), (38, .lor, 1), (39, .lstore_n 2, 1), (40, .iinc 4 1, 3), (43, .goto (-38), 3), (46, .lload_n 2, 1), (47, .lreturn, 1)]
def m_c252 : List m_I := [(0, .iconst 0, 1), (1, .istore_n 3, 1), (2, .iload_n 3, 1), (3, .aload_n 0, 1), (4, .getfield 383, 3), (7, .if_icmp .ge 24, 3), (10, .aload_n 0, 1), (11, .getfield 109, 3), (14, .iload_n 3, 1), (15, .laload, 1), (16, .lload_n 1, 1), (17, .land, 1), (18, .lconst 0, 1), (19, .lcmp, 1), (20, .ifCond .ne 5, 3), (23, .iconst 0, 1), (24, .ireturn, 1), (25, .iinc 3 1, 3), (28, .goto (-26), 3), (31, .iconst 1, 1), (32, .ireturn, 1)]
def m_c253_0 : List m_I := [(0, .aload_n 0, 1), (1, .iconst 0, 1), (2, .putfield 155, 3), (5, .aload_n 0, 1), (6, .iload_n 1, 1), (7, .iload_n 2, 1), (8, .iload_n 3, 1), (9, .invokevirtual 366, 3), (12, .ifCond .eq 23, 3), (15, .aload_n 0, 1), (16, .iload_n 2, 1), (17, .invokevirtual 300, 3), (20, .bipush 6, 2), (22, .if_icmp .gt 13, 3), (25, .aload_n 0, 1), (26, .iload_n 3, 1), (27, .invokevirtual 300, 3), (30, .bipush 6, 2), (32, .if_icmp .le 5, 3), (35, .iconst (-1), 1), (36, .ireturn, 1), (37, .aload_n 0, 1), (38, .iload_n 2, 1), (39, .invokevirtual 351, 3), (42, .aload_n 0, 1), (43, .invokevirtual 423, 3), (46, .ifCond .eq 5, 3), (49, .iconst (-1), 1), (50, .ireturn, 1), (51, .aload_n 0, 1), (52, .aload_n 0, 1), (53, .getfield 338, 3), (56, .putfield 399, 3), (59, .iconst 0, 1), (60, .istore 4, 2), (62, .iload 4, 2), (64, .aload_n 0, 1), (65, .getfield 399, 3), (68, .if_icmp .ge 45, 3), (71, .aload_n 0, 1), (72, .getfield 112, 3), (75, .iload 4, 2), (77, .aload_n 0, 1), (78, .getfield 97, 3), (81, .iload 4, 2), (83, .iaload, 1), (84, .iastore, 1), (85, .aload_n 0, 1), (86, .getfield 115, 3), (89, .iload 4, 2)]
def m_c253_1 : List m_I := [(91, .aload_n 0, 1), (92, .getfield 100, 3), (95, .iload 4, 2), (97, .iaload, 1), (98, .iastore, 1), (99, .aload_n 0, 1), (100, .getfield 118, 3), (103, .iload 4, 2), (105, .iconst (-1), 1), (106, .iastore, 1), (107, .iinc 4 1, 3), (110, .goto (-48), 3), (113, .aload_n 0, 1), (114, .iload_n 3, 1), (115, .invokevirtual 351, 3), (118, .aload_n 0, 1), (119, .invokevirtual 423, 3), (122, .ifCond .eq 5, 3), (125, .iconst (-1), 1), (126, .ireturn, 1), (127, .aload_n 0, 1), (128, .getfield 338, 3), (131, .istore 4, 2), (133, .iconst 0, 1), (134, .istore 5, 2), (136, .iload 5, 2), (138, .aload_n 0, 1), (139, .getfield 338, 3), (142, .if_icmp .ge 61, 3), (145, .iconst 0, 1), (146, .istore 6, 2), (148, .iload 6, 2), (150, .aload_n 0, 1), (151, .getfield 399, 3), (154, .if_icmp .ge 43, 3), (157, .aload_n 0, 1), (158, .getfield 112, 3), (161, .iload 6, 2), (163, .iaload, 1), (164, .aload_n 0, 1), (165, .getfield 97, 3), (168, .iload 5, 2), (170, .iaload, 1), (171, .if_icmp .ne 20, 3), (174, .aload_n 0, 1), (175, .getfield 118, 3), (178, .iload 6, 2), (180, .aload_n 0, 1), (181, .getfield 100, 3), (184, .iload 5, 2)]
def m_c253_2 : List m_I := [(186, .iaload, 1), (187, .iastore, 1), (188, .iinc 4 (-1), 3), (191, .iinc 6 1, 3), (194, .goto (-46), 3), (197, .iinc 5 1, 3), (200, .goto (-64), 3), (203, .iload 4, 2), (205, .aload_n 0, 1), (206, .invokevirtual 426, 3), (209, .iadd, 1), (210, .ireturn, 1)]
def m_c253 : List m_I := m_c253_0 ++ (m_c253_1 ++ (m_c253_2))
def m_c254 : List m_I := [(0, .iconst 0, 1), (1, .istore_n 1, 1), (2, .iload_n 1, 1), (3, .aload_n 0, 1), (4, .getfield 338, 3), (7, .if_icmp .ge 39, 3), (10, .iconst 0, 1), (11, .istore_n 2, 1), (12, .iload_n 2, 1), (13, .iload_n 1, 1), (14, .if_icmp .ge 26, 3), (17, .aload_n 0, 1), (18, .getfield 97, 3), (21, .iload_n 2, 1), (22, .iaload, 1), (23, .aload_n 0, 1), (24, .getfield 97, 3), (27, .iload_n 1, 1), (28, .iaload, 1), (29, .if_icmp .ne 5, 3), (32, .iconst 1, 1), (33, .ireturn, 1), (34, .iinc 2 1, 3), (37, .goto (-25), 3), (40, .iinc 1 1, 3), (43, .goto (-41), 3), (46, .iconst 0, 1), (47, .ireturn, 1)]
def m_c255_0 : List m_I := [(0, .iconst 0, 1), (1, .istore_n 1, 1), (2, .iload_n 1, 1), (3, .sipush 4096, 3), (6, .if_icmp .ge 16, 3), (9, .aload_n 0, 1), (10, .getfield 121, 3), (13, .iload_n 1, 1), (14, .iconst (-1), 1), (15, .iastore, 1), (16, .iinc 1 1, 3), (19, .goto (-17), 3), (22, .iconst 0, 1), (23, .istore_n 1, 1), (24, .iconst 0, 1), (25, .istore_n 2, 1), (26, .iload_n 2, 1), (27, .aload_n 0, 1), (28, .getfield 399, 3), (31, .if_icmp .ge 16, 3), (34, .iload_n 1, 1), (35, .iload_n 2, 1), (36, .iconst 1, 1), (37, .invokestatic 408, 3), (40, .istore_n 1, 1), (41, .iinc 2 1, 3), (44, .goto (-18), 3), (47, .aload_n 0, 1), (48, .iconst 0, 1), (49, .putfield 411, 3), (52, .aload_n 0, 1), (53, .iload_n 1, 1), (54, .iconst 0, 1), (55, .invokevirtual 414, 3), (58, .iconst 0, 1), (59, .istore_n 2, 1), (60, .iload_n 2, 1), (61, .aload_n 0, 1), (62, .getfield 411, 3), (65, .if_icmp .ge 141, 3), (68, .aload_n 0, 1), (69, .getfield 124, 3), (72, .iload_n 2, 1), (73, .iaload, 1), (74, .istore_n 3, 1), (75, .aload_n 0, 1), (76, .getfield 121, 3), (79, .iload_n 3, 1), (80, .iaload, 1), (81, .iconst 1, 1)]
def m_c255_1 : List m_I := [(82, .iadd, 1), (83, .istore 4, 2), (85, .aload_n 0, 1), (86, .iload_n 3, 1), (87, .invokevirtual 417, 3), (90, .ifCond .eq 8, 3), (93, .iload 4, 2), (95, .iconst 1, 1), (96, .isub, 1), (97, .ireturn, 1), (98, .aload_n 0, 1), (99, .aload_n 0, 1), (100, .iload_n 3, 1), (101, .invokevirtual 420, 3), (104, .iload 4, 2), (106, .invokevirtual 414, 3), (109, .iconst 0, 1), (110, .istore 5, 2), (112, .iload 5, 2), (114, .aload_n 0, 1), (115, .getfield 399, 3), (118, .if_icmp .ge 82, 3), (121, .iload_n 3, 1), (122, .iload 5, 2), (124, .invokestatic 402, 3), (127, .istore 6, 2), (129, .iload 6, 2), (131, .ifCond .eq 16, 3), (134, .aload_n 0, 1), (135, .iload_n 3, 1), (136, .iload 5, 2), (138, .iconst 3, 1), (139, .invokestatic 408, 3), (142, .iload 4, 2), (144, .invokevirtual 414, 3), (147, .aload_n 0, 1), (148, .getfield 118, 3), (151, .iload 5, 2), (153, .iaload, 1), (154, .iconst (-1), 1), (155, .if_icmp .eq 39, 3), (158, .iload 6, 2), (160, .ifCond .eq 21, 3), (163, .aload_n 0, 1), (164, .iload 5, 2), (166, .iload 6, 2), (168, .invokevirtual 405, 3), (171, .aload_n 0, 1), (172, .getfield 118, 3), (175, .iload 5, 2)]
def m_c255_2 : List m_I := [(177, .iaload, 1), (178, .if_icmp .lt 16, 3), (181, .aload_n 0, 1), (182, .iload_n 3, 1), (183, .iload 5, 2), (185, .iconst 2, 1), (186, .invokestatic 408, 3), (189, .iload 4, 2), (191, .invokevirtual 414, 3), (194, .iinc 5 1, 3), (197, .goto (-85), 3), (200, .iinc 2 1, 3), (203, .goto (-143), 3), (206, .iconst (-1), 1), (207, .ireturn, 1)]
def m_c255 : List m_I := m_c255_0 ++ (m_c255_1 ++ (m_c255_2))
def m_c256 : List m_I := [(0, .iload_n 0, 1), (1, .iconst 3, 1), (2, .iconst 2, 1), (3, .iload_n 1, 1), (4, .imul, 1), (5, .ishl, 1), (6, .iconst (-1), 1), (7, .ixor, 1), (8, .iand, 1), (9, .iload_n 2, 1), (10, .iconst 2, 1), (11, .iload_n 1, 1), (12, .imul, 1), (13, .ishl, 1), (14, .ior, 1), (15, .ireturn, 1)]
def m_c257 : List m_I := [(0, .aload_n 0, 1), (1, .getfield 121, 3), (4, .iload_n 1, 1), (5, .iaload, 1), (6, .iconst (-1), 1), (7, .if_icmp .ne 30, 3), (10, .aload_n 0, 1), (11, .getfield 121, 3), (14, .iload_n 1, 1), (15, .iload_n 2, 1), (16, .iastore, 1), (17, .aload_n 0, 1), (18, .getfield 124, 3), (21, .aload_n 0, 1), (22, .getfield 411, 3), (25, .iload_n 1, 1), (26, .iastore, 1), (27, .aload_n 0, 1), (28, .dup, 1), (29, .getfield 411, 3), (32, .iconst 1, 1), (33, .iadd, 1), (34, .putfield 411, 3), (37, .return_, 1)]
def m_c258 : List m_I := [(0, .iconst 0, 1), (1, .istore_n 2, 1), (2, .iload_n 2, 1), (3, .aload_n 0, 1), (4, .getfield 399, 3), (7, .if_icmp .ge 53, 3), (10, .iload_n 1, 1), (11, .iload_n 2, 1), (12, .invokestatic 402, 3), (15, .istore_n 3, 1), (16, .aload_n 0, 1), (17, .getfield 118, 3), (20, .iload_n 2, 1), (21, .iaload, 1), (22, .iconst (-1), 1), (23, .if_icmp .ne 10, 3), (26, .iload_n 3, 1), (27, .ifCond .eq 27, 3), (30, .goto 22, 3), (33, .iload_n 3, 1), (34, .ifCond .eq 18, 3), (37, .aload_n 0, 1), (38, .iload_n 2, 1), (39, .iload_n 3, 1), (40, .invokevirtual 405, 3), (43, .aload_n 0, 1), (44, .getfield 118, 3), (47, .iload_n 2, 1), (48, .iaload, 1), (49, .if_icmp .eq 5, 3), (52, .iconst 0, 1), (53, .ireturn, 1), (54, .iinc 2 1, 3), (57, .goto (-55), 3), (60, .iconst 1, 1), (61, .ireturn, 1)]
def m_c259 : List m_I := [(0, .iload_n 0, 1), (1, .iconst 2, 1), (2, .iload_n 1, 1), (3, .imul, 1), (4, .ishr, 1), (5, .iconst 3, 1), (6, .iand, 1), (7, .ireturn, 1)]
def m_c260 : List m_I := [(0, .iload_n 2, 1), (1, .iconst 1, 1), (2, .if_icmp .ne 12, 3), (5, .aload_n 0, 1), (6, .getfield 115, 3), (9, .iload_n 1, 1), (10, .iaload, 1), (11, .goto 18, 3), (14, .iload_n 2, 1), (15, .iconst 2, 1), (16, .if_icmp .ne 12, 3), (19, .aload_n 0, 1), (20, .getfield 118, 3), (23, .iload_n 1, 1), (24, .iaload, 1), (25, .goto 4, 3), (28, .iconst (-1), 1), (29, .ireturn, 1)]
def m_c261 : List m_I := [(0, .iconst (-1), 1), (1, .istore_n 2, 1), (2, .iconst 0, 1), (3, .istore_n 3, 1), (4, .iload_n 3, 1), (5, .aload_n 0, 1), (6, .getfield 399, 3), (9, .if_icmp .ge 81, 3), (12, .iload_n 1, 1), (13, .iload_n 3, 1), (14, .invokestatic 402, 3), (17, .istore 4, 2), (19, .iload 4, 2), (21, .ifCond .eq 63, 3), (24, .iload_n 2, 1), (25, .iconst (-1), 1), (26, .if_icmp .ne 7, 3), (29, .iconst (-1), 1), (30, .goto 21, 3), (33, .aload_n 0, 1), (34, .iload_n 3, 1), (35, .iload 4, 2), (37, .invokevirtual 405, 3), (40, .aload_n 0, 1), (41, .iload_n 2, 1), (42, .iload_n 1, 1), (43, .iload_n 2, 1), (44, .invokestatic 402, 3), (47, .invokevirtual 405, 3), (50, .isub, 1), (51, .istore 5, 2), (53, .iload 5, 2), (55, .ifCond .lt 23, 3), (58, .iload 5, 2), (60, .ifCond .ne 22, 3), (63, .aload_n 0, 1), (64, .getfield 112, 3), (67, .iload_n 3, 1), (68, .iaload, 1), (69, .aload_n 0, 1), (70, .getfield 112, 3), (73, .iload_n 2, 1), (74, .iaload, 1), (75, .if_icmp .ge 7, 3), (78, .iload_n 3, 1), (79, .goto 4, 3), (82, .iload_n 2, 1), (83, .istore_n 2, 1), (84, .iinc 3 1, 3), (87, .goto (-83), 3), (90, .iload_n 2, 1), (91, .iconst (-1), 1), (92, .if_icmp .ne 7, 3), (95, .iload_n 1, 1), (96, .goto 9, 3), (99, .iload_n 1, 1), (100, .iload_n 2, 1), (101, .iconst 0, 1), (102, .invokestatic 408, 3), (105, .ireturn, 1)]
def m_c262_0 : List m_I := [(0, .aload_n 0, 1), (1, .iconst 0, 1), (2, .putfield 155, 3), (5, .aload_n 0, 1), (6, .iload_n 1, 1), (7, .iload_n 2, 1), (8, .iload_n 3, 1), (9, .invokevirtual 366, 3), (12, .ifCond .eq 16, 3), (15, .aload_n 0, 1), (16, .iload_n 2, 1), (17, .invokevirtual 300, 3), (20, .aload_n 0, 1), (21, .iload_n 3, 1), (22, .invokevirtual 300, 3), (25, .if_icmp .eq 5, 3), (28, .iconst 0, 1), (29, .ireturn, 1), (30, .aload_n 0, 1), (31, .iload_n 2, 1), (32, .invokevirtual 351, 3), (35, .iconst 0, 1), (36, .istore 5, 2), (38, .iload 5, 2), (40, .aload_n 0, 1), (41, .getfield 338, 3), (44, .if_icmp .ge 77, 3), (47, .aload_n 0, 1), (48, .getfield 127, 3), (51, .iload 5, 2), (53, .iload 4, 2), (55, .ifCond .eq 18, 3), (58, .aload_n 0, 1), (59, .getfield 32, 3), (62, .aload_n 0, 1), (63, .getfield 51, 3), (66, .iload 5, 2), (68, .iaload, 1), (69, .baload, 1), (70, .goto 10, 3), (73, .aload_n 0, 1), (74, .getfield 97, 3), (77, .iload 5, 2), (79, .iaload, 1), (80, .iastore, 1), (81, .aload_n 0, 1), (82, .getfield 130, 3), (85, .iload 5, 2), (87, .iload 4, 2), (89, .ifCond .eq 18, 3)]
def m_c262_1 : List m_I := [(92, .aload_n 0, 1), (93, .getfield 35, 3), (96, .aload_n 0, 1), (97, .getfield 51, 3), (100, .iload 5, 2), (102, .iaload, 1), (103, .baload, 1), (104, .goto 10, 3), (107, .aload_n 0, 1), (108, .getfield 100, 3), (111, .iload 5, 2), (113, .iaload, 1), (114, .iastore, 1), (115, .iinc 5 1, 3), (118, .goto (-80), 3), (121, .aload_n 0, 1), (122, .iload_n 3, 1), (123, .invokevirtual 351, 3), (126, .aload_n 0, 1), (127, .aload_n 0, 1), (128, .getfield 338, 3), (131, .iload 4, 2), (133, .invokevirtual 429, 3), (136, .ireturn, 1)]
def m_c262 : List m_I := m_c262_0 ++ (m_c262_1)
def m_c263 : List m_I := [(0, .iconst 0, 1), (1, .istore_n 3, 1), (2, .iload_n 3, 1), (3, .iload_n 1, 1), (4, .if_icmp .ge 85, 3), (7, .iload_n 2, 1), (8, .ifCond .eq 17, 3), (11, .aload_n 0, 1), (12, .getfield 32, 3), (15, .aload_n 0, 1), (16, .getfield 51, 3), (19, .iload_n 3, 1), (20, .iaload, 1), (21, .baload, 1), (22, .goto 9, 3), (25, .aload_n 0, 1), (26, .getfield 97, 3), (29, .iload_n 3, 1), (30, .iaload, 1), (31, .istore 4, 2), (33, .iload_n 2, 1), (34, .ifCond .eq 17, 3), (37, .aload_n 0, 1), (38, .getfield 35, 3), (41, .aload_n 0, 1), (42, .getfield 51, 3), (45, .iload_n 3, 1), (46, .iaload, 1), (47, .baload, 1), (48, .goto 9, 3), (51, .aload_n 0, 1), (52, .getfield 100, 3), (55, .iload_n 3, 1), (56, .iaload, 1), (57, .istore 5, 2), (59, .iload 4, 2), (61, .aload_n 0, 1), (62, .getfield 127, 3), (65, .iload_n 3, 1), (66, .iaload, 1), (67, .if_icmp .ne 14, 3), (70, .iload 5, 2), (72, .aload_n 0, 1), (73, .getfield 130, 3), (76, .iload_n 3, 1), (77, .iaload, 1), (78, .if_icmp .eq 5, 3), (81, .iconst 0, 1), (82, .ireturn, 1), (83, .iinc 3 1, 3), (86, .goto (-84), 3), (89, .iconst 1, 1), (90, .ireturn, 1)]
def m_c264 : List m_I := [(0, .aload_n 0, 1), (1, .iconst 0, 1), (2, .putfield 155, 3), (5, .aload_n 0, 1), (6, .iload_n 1, 1), (7, .iload_n 2, 1), (8, .invokevirtual 345, 3), (11, .ifCond .eq 12, 3), (14, .iload_n 3, 1), (15, .iconst 1, 1), (16, .iconst 5, 1), (17, .invokestatic 163, 3), (20, .ifCond .ne 5, 3), (23, .iconst (-1), 1), (24, .ireturn, 1), (25, .iload_n 3, 1), (26, .iconst 4, 1), (27, .if_icmp .ne 8, 3), (30, .iload 5, 2), (32, .goto 5, 3), (35, .iload 4, 2), (37, .istore 7, 2), (39, .iload_n 3, 1), (40, .iconst 2, 1), (41, .if_icmp .eq 21, 3), (44, .iload_n 3, 1), (45, .iconst 3, 1), (46, .if_icmp .eq 16, 3), (49, .iload 7, 2), (51, .iconst 0, 1), (52, .bipush 99, 2), (54, .invokestatic 163, 3), (57, .ifCond .ne 5, 3), (60, .iconst (-1), 1), (61, .ireturn, 1), (62, .aload_n 0, 1), (63, .getfield 248, 3), (66, .istore 8, 2), (68, .aload_n 0, 1), (69, .iconst 0, 1), (70, .putfield 257, 3), (73, .aload_n 0, 1), (74, .iload_n 3, 1), (75, .iload_n 2, 1), (76, .iload 4, 2), (78, .iload 5, 2), (80, .invokevirtual 324, 3), (83, .ifCond .ne 5, 3), (86, .iconst (-1), 1), (87, .ireturn, 1), (88, .iload 6, 2), (90, .ifCond .eq 10, 3), (93, .aload_n 0, 1), (94, .getfield 257, 3), (97, .goto 10, 3), (100, .aload_n 0, 1), (101, .getfield 248, 3), (104, .iload 8, 2), (106, .isub, 1), (107, .ireturn, 1)]
def m_c265_0 : List m_I := [(0, .aload_n 0, 1), (1, .iconst 0, 1), (2, .putfield 155, 3), (5, .aload_n 0, 1), (6, .iload_n 1, 1), (7, .invokevirtual 328, 3), (10, .ifCond .eq 31, 3), (13, .aload_n 0, 1), (14, .lload_n 2, 1), (15, .invokevirtual 372, 3), (18, .ifCond .eq 23, 3), (21, .aload_n 0, 1), (22, .lload_n 2, 1), (23, .invokevirtual 386, 3), (26, .ifCond .eq 15, 3), (29, .aload_n 0, 1), (30, .getfield 380, 3), (33, .iconst 2, 1), (34, .iconst 5, 1), (35, .invokestatic 163, 3), (38, .ifCond .ne 5, 3), (41, .iconst (-1), 1), (42, .ireturn, 1), (43, .iconst 0, 1), (44, .istore 5, 2), (46, .iconst 1, 1), (47, .istore 6, 2), (49, .iconst 0, 1), (50, .istore 7, 2), (52, .iload 7, 2), (54, .aload_n 0, 1), (55, .getfield 380, 3), (58, .if_icmp .ge 34, 3), (61, .iload 5, 2), (63, .aload_n 0, 1), (64, .aload_n 0, 1), (65, .getfield 106, 3), (68, .iload 7, 2), (70, .iaload, 1), (71, .invokevirtual 300, 3), (74, .iadd, 1), (75, .istore 5, 2), (77, .iload 6, 2), (79, .aload_n 0, 1), (80, .getfield 380, 3), (83, .imul, 1), (84, .istore 6, 2), (86, .iinc 7 1, 3), (89, .goto (-37), 3), (92, .iload 5, 2)]
def m_c265_1 : List m_I := [(94, .bipush 63, 2), (96, .if_icmp .le 5, 3), (99, .iconst (-1), 1), (100, .ireturn, 1), (101, .iconst (-1), 1), (102, .istore 7, 2), (104, .aload_n 0, 1), (105, .getfield 248, 3), (108, .istore 8, 2), (110, .iconst 0, 1), (111, .istore 9, 2), (113, .iload 9, 2), (115, .iload 6, 2), (117, .if_icmp .ge 79, 3), (120, .aload_n 0, 1), (121, .iload 9, 2), (123, .invokevirtual 433, 3), (126, .ifCond .eq 64, 3), (129, .aload_n 0, 1), (130, .iload 8, 2), (132, .putfield 248, 3), (135, .aload_n 0, 1), (136, .invokevirtual 436, 3), (139, .istore 10, 2), (141, .iload 7, 2), (143, .iconst (-1), 1), (144, .if_icmp .eq 10, 3), (147, .iload 10, 2), (149, .iload 7, 2), (151, .if_icmp .ge 39, 3), (154, .iload 10, 2), (156, .istore 7, 2), (158, .iconst 0, 1), (159, .istore 11, 2), (161, .iload 11, 2), (163, .aload_n 0, 1), (164, .getfield 380, 3), (167, .if_icmp .ge 23, 3), (170, .aload_n 0, 1), (171, .getfield 136, 3), (174, .iload 11, 2), (176, .aload_n 0, 1), (177, .getfield 133, 3), (180, .iload 11, 2), (182, .iaload, 1), (183, .iastore, 1), (184, .iinc 11 1, 3), (187, .goto (-26), 3), (190, .iinc 9 1, 3), (193, .goto (-80), 3)]
def m_c265_2 : List m_I := [(196, .iload 4, 2), (198, .ifCond .ne 8, 3), (201, .iload 7, 2), (203, .goto 39, 3), (206, .iload 4, 2), (208, .bipush 10, 2), (210, .bipush 9, 2), (212, .aload_n 0, 1), (213, .getfield 380, 3), (216, .iadd, 1), (217, .invokestatic 163, 3), (220, .ifCond .eq 21, 3), (223, .aload_n 0, 1), (224, .getfield 106, 3), (227, .aload_n 0, 1), (228, .getfield 136, 3), (231, .iload 4, 2), (233, .bipush 10, 2), (235, .isub, 1), (236, .iaload, 1), (237, .iaload, 1), (238, .goto 4, 3), (241, .iconst (-1), 1), (242, .ireturn, 1)]
def m_c265 : List m_I := m_c265_0 ++ (m_c265_1 ++ (m_c265_2))
def m_c266 : List m_I := [(0, .iconst 0, 1), (1, .istore_n 2, 1), (2, .iload_n 1, 1), (3, .istore_n 3, 1), (4, .aload_n 0, 1), (5, .getfield 380, 3), (8, .iconst 1, 1), (9, .isub, 1), (10, .istore 4, 2), (12, .iload 4, 2), (14, .ifCond .lt 41, 3), (17, .aload_n 0, 1), (18, .getfield 133, 3), (21, .iload 4, 2), (23, .iload_n 3, 1), (24, .aload_n 0, 1), (25, .getfield 380, 3), (28, .irem, 1), (29, .iastore, 1), (30, .iload_n 3, 1), (31, .aload_n 0, 1), (32, .getfield 380, 3), (35, .idiv, 1), (36, .istore_n 3, 1), (37, .iload_n 2, 1), (38, .iconst 1, 1), (39, .aload_n 0, 1), (40, .getfield 133, 3), (43, .iload 4, 2), (45, .iaload, 1), (46, .ishl, 1), (47, .ior, 1), (48, .istore_n 2, 1), (49, .iinc 4 (-1), 3), (52, .goto (-40), 3), (55, .iload_n 2, 1), (56, .iconst 1, 1), (57, .aload_n 0, 1), (58, .getfield 380, 3), (61, .ishl, 1), (62, .iconst 1, 1), (63, .isub, 1), (64, .if_icmp .ne 7, 3), (67, .iconst 1, 1), (68, .goto 4, 3), (71, .iconst 0, 1), (72, .ireturn, 1)]
def m_c267 : List m_I := [(0, .aload_n 0, 1), (1, .aload_n 0, 1), (2, .getfield 106, 3), (5, .aload_n 0, 1), (6, .getfield 133, 3), (9, .iconst 0, 1), (10, .iaload, 1), (11, .iaload, 1), (12, .invokevirtual 303, 3), (15, .iconst 1, 1), (16, .istore_n 1, 1), (17, .iload_n 1, 1), (18, .aload_n 0, 1), (19, .getfield 380, 3), (22, .if_icmp .ge 54, 3), (25, .iconst 0, 1), (26, .istore_n 2, 1), (27, .iload_n 2, 1), (28, .bipush 6, 2), (30, .if_icmp .ge 36, 3), (33, .aload_n 0, 1), (34, .getfield 48, 3), (37, .iload_n 2, 1), (38, .aload_n 0, 1), (39, .getfield 75, 3), (42, .bipush 6, 2), (44, .aload_n 0, 1), (45, .getfield 106, 3), (48, .aload_n 0, 1), (49, .getfield 133, 3), (52, .iload_n 1, 1), (53, .iaload, 1), (54, .iaload, 1), (55, .imul, 1), (56, .iload_n 2, 1), (57, .iadd, 1), (58, .iaload, 1), (59, .iastore, 1), (60, .iinc 2 1, 3), (63, .goto (-36), 3), (66, .aload_n 0, 1), (67, .invokevirtual 273, 3), (70, .iinc 1 1, 3), (73, .goto (-56), 3), (76, .aload_n 0, 1), (77, .getfield 248, 3), (80, .istore_n 1, 1), (81, .aload_n 0, 1), (82, .invokevirtual 279, 3), (85, .ifCond .eq 12, 3), (88, .aload_n 0, 1), (89, .getfield 248, 3), (92, .iload_n 1, 1), (93, .isub, 1), (94, .goto 4, 3), (97, .iconst 0, 1), (98, .ireturn, 1)]
def m_c268_0 : List m_I := [(0, .aload_n 0, 1), (1, .iconst 0, 1), (2, .putfield 155, 3), (5, .aload_n 0, 1), (6, .iload_n 1, 1), (7, .invokevirtual 328, 3), (10, .ifCond .ne 5, 3), (13, .iconst (-1), 1), (14, .ireturn, 1), (15, .iconst 0, 1), (16, .istore_n 3, 1), (17, .iconst 0, 1), (18, .istore 4, 2), (20, .iconst 0, 1), (21, .istore 5, 2), (23, .iload 5, 2), (25, .aload_n 0, 1), (26, .getfield 294, 3), (29, .if_icmp .ge 111, 3), (32, .iload 5, 2), (34, .istore 6, 2), (36, .iload 6, 2), (38, .aload_n 0, 1), (39, .getfield 294, 3), (42, .if_icmp .ge 92, 3), (45, .aload_n 0, 1), (46, .iload 5, 2), (48, .invokevirtual 300, 3), (51, .aload_n 0, 1), (52, .iload 6, 2), (54, .invokevirtual 300, 3), (57, .iadd, 1), (58, .istore 7, 2), (60, .iload 7, 2), (62, .bipush 63, 2), (64, .if_icmp .le 7, 3), (67, .iconst 0, 1), (68, .goto 22, 3), (71, .aload_n 0, 1), (72, .iload 5, 2), (74, .invokevirtual 331, 3), (77, .aload_n 0, 1), (78, .iload 6, 2), (80, .invokevirtual 331, 3), (83, .iadd, 1), (84, .iload 7, 2), (86, .invokestatic 439, 3), (89, .isub, 1), (90, .istore 8, 2), (92, .iload 8, 2)]
def m_c268_1 : List m_I := [(94, .iload 4, 2), (96, .if_icmp .le 14, 3), (99, .bipush 41, 2), (101, .iload 5, 2), (103, .imul, 1), (104, .iload 6, 2), (106, .iadd, 1), (107, .goto 4, 3), (110, .iload_n 3, 1), (111, .istore_n 3, 1), (112, .iload 8, 2), (114, .iload 4, 2), (116, .if_icmp .le 8, 3), (119, .iload 8, 2), (121, .goto 5, 3), (124, .iload 4, 2), (126, .istore 4, 2), (128, .iinc 6 1, 3), (131, .goto (-95), 3), (134, .iinc 5 1, 3), (137, .goto (-114), 3), (140, .iload_n 2, 1), (141, .ifCond .eq 10, 3), (144, .iload_n 3, 1), (145, .bipush 41, 2), (147, .irem, 1), (148, .goto 7, 3), (151, .iload_n 3, 1), (152, .bipush 41, 2), (154, .idiv, 1), (155, .ireturn, 1)]
def m_c268 : List m_I := m_c268_0 ++ (m_c268_1)
def m_c269 : List m_I := [(0, .iconst 0, 1), (1, .istore_n 1, 1), (2, .iconst 0, 1), (3, .istore_n 2, 1), (4, .iload_n 2, 1), (5, .bipush 6, 2), (7, .if_icmp .ge 26, 3), (10, .iload_n 1, 1), (11, .iload_n 0, 1), (12, .i2l, 1), (13, .iload_n 2, 1), (14, .invokestatic 341, 3), (17, .ifCond .eq 7, 3), (20, .iconst 1, 1), (21, .goto 4, 3), (24, .iconst 0, 1), (25, .iadd, 1), (26, .istore_n 1, 1), (27, .iinc 2 1, 3), (30, .goto (-26), 3), (33, .iload_n 1, 1), (34, .ireturn, 1)]
def m_c270 : List m_I := [(0, .aload_n 0, 1), (1, .iconst 0, 1), (2, .putfield 155, 3), (5, .aload_n 0, 1), (6, .iload_n 1, 1), (7, .iload_n 2, 1), (8, .invokevirtual 345, 3), (11, .ifCond .ne 5, 3), (14, .iconst (-1), 1), (15, .ireturn, 1), (16, .aload_n 0, 1), (17, .iload_n 2, 1), (18, .invokevirtual 351, 3), (21, .iconst 0, 1), (22, .istore 4, 2), (24, .iload 4, 2), (26, .aload_n 0, 1), (27, .getfield 338, 3), (30, .if_icmp .ge 20, 3), (33, .aload_n 0, 1), (34, .getfield 100, 3), (37, .iload 4, 2), (39, .iaload, 1), (40, .iload_n 3, 1), (41, .if_icmp .ge 9, 3), (44, .iinc 4 1, 3), (47, .goto (-23), 3), (50, .iload 4, 2), (52, .ireturn, 1)]
def m_c271 : List m_I := [(0, .aload_n 0, 1), (1, .iconst 0, 1), (2, .putfield 155, 3), (5, .aload_n 0, 1), (6, .iload_n 1, 1), (7, .invokevirtual 328, 3), (10, .ifCond .ne 5, 3), (13, .iconst (-1), 1), (14, .ireturn, 1), (15, .iconst (-1), 1), (16, .istore 4, 2), (18, .iconst 0, 1), (19, .istore 5, 2), (21, .iload 5, 2), (23, .aload_n 0, 1), (24, .getfield 294, 3), (27, .if_icmp .ge 39, 3), (30, .aload_n 0, 1), (31, .iload 5, 2), (33, .iload_n 2, 1), (34, .invokevirtual 442, 3), (37, .iconst (-1), 1), (38, .if_icmp .eq 18, 3), (41, .iload_n 3, 1), (42, .ifCond .ne 9, 3), (45, .iload 4, 2), (47, .iconst (-1), 1), (48, .if_icmp .ne 8, 3), (51, .iload 5, 2), (53, .goto 5, 3), (56, .iload 4, 2), (58, .istore 4, 2), (60, .iinc 5 1, 3), (63, .goto (-42), 3), (66, .iload 4, 2), (68, .ireturn, 1)]
def m_c272 : List m_I := [(0, .aload_n 0, 1), (1, .iload_n 1, 1), (2, .invokevirtual 351, 3), (5, .iconst 0, 1), (6, .istore_n 3, 1), (7, .iload_n 3, 1), (8, .aload_n 0, 1), (9, .getfield 338, 3), (12, .if_icmp .ge 26, 3), (15, .aload_n 0, 1), (16, .getfield 97, 3), (19, .iload_n 3, 1), (20, .iaload, 1), (21, .iload_n 2, 1), (22, .if_icmp .ne 10, 3), (25, .aload_n 0, 1), (26, .getfield 100, 3), (29, .iload_n 3, 1), (30, .iaload, 1), (31, .ireturn, 1), (32, .iinc 3 1, 3), (35, .goto (-28), 3), (38, .iconst (-1), 1), (39, .ireturn, 1)]
def m_c273 : List m_I := [(0, .aload_n 0, 1), (1, .iconst 0, 1), (2, .putfield 155, 3), (5, .aload_n 0, 1), (6, .iload_n 1, 1), (7, .invokevirtual 328, 3), (10, .ifCond .ne 5, 3), (13, .iconst (-1), 1), (14, .ireturn, 1), (15, .iconst (-1), 1), (16, .istore_n 3, 1), (17, .iconst 0, 1), (18, .istore 4, 2), (20, .iload 4, 2), (22, .aload_n 0, 1), (23, .getfield 294, 3), (26, .if_icmp .ge 42, 3), (29, .aload_n 0, 1), (30, .iload 4, 2), (32, .iload_n 2, 1), (33, .invokevirtual 442, 3), (36, .istore 5, 2), (38, .iload 5, 2), (40, .iconst (-1), 1), (41, .if_icmp .eq 19, 3), (44, .iload_n 3, 1), (45, .iconst (-1), 1), (46, .if_icmp .eq 9, 3), (49, .iload 5, 2), (51, .iload_n 3, 1), (52, .if_icmp .ge 8, 3), (55, .iload 5, 2), (57, .goto 4, 3), (60, .iload_n 3, 1), (61, .istore_n 3, 1), (62, .iinc 4 1, 3), (65, .goto (-45), 3), (68, .iload_n 3, 1), (69, .ireturn, 1)]
def m_c274 : List m_I := [(0, .aload_n 0, 1), (1, .iconst 0, 1), (2, .putfield 155, 3), (5, .aload_n 0, 1), (6, .iload_n 1, 1), (7, .invokevirtual 328, 3), (10, .ifCond .ne 5, 3), (13, .iconst (-1), 1), (14, .ireturn, 1), (15, .iconst 0, 1), (16, .istore_n 3, 1), (17, .iload_n 3, 1), (18, .aload_n 0, 1), (19, .getfield 294, 3), (22, .iconst 1, 1), (23, .isub, 1), (24, .if_icmp .ge 20, 3), (27, .aload_n 0, 1), (28, .iload_n 3, 1), (29, .invokevirtual 335, 3), (32, .iload_n 2, 1), (33, .if_icmp .le 5, 3), (36, .iload_n 3, 1), (37, .ireturn, 1), (38, .iinc 3 1, 3), (41, .goto (-24), 3), (44, .iconst (-1), 1), (45, .ireturn, 1)]
def m_c275_0 : List m_I := [(0, .aload_n 0, 1), (1, .iconst 0, 1), (2, .putfield 155, 3), (5, .aload_n 0, 1), (6, .iload_n 1, 1), (7, .iload_n 2, 1), (8, .invokevirtual 345, 3), (11, .ifCond .eq 24, 3), (14, .iload 4, 2), (16, .iconst 1, 1), (17, .bipush 30, 2), (19, .invokestatic 163, 3), (22, .ifCond .eq 13, 3), (25, .iload 5, 2), (27, .iconst 0, 1), (28, .iconst 3, 1), (29, .invokestatic 163, 3), (32, .ifCond .ne 6, 3), (35, .bipush (-2), 2), (37, .ireturn, 1), (38, .aload_n 0, 1), (39, .iload_n 3, 1), (40, .putfield 445, 3), (43, .aload_n 0, 1), (44, .getfield 248, 3), (47, .istore 6, 2), (49, .aload_n 0, 1), (50, .iconst 0, 1), (51, .putfield 257, 3), (54, .aload_n 0, 1), (55, .iload_n 2, 1), (56, .invokevirtual 303, 3), (59, .iconst 0, 1), (60, .istore 7, 2), (62, .iload 7, 2), (64, .iload 4, 2), (66, .if_icmp .ge 56, 3), (69, .aload_n 0, 1), (70, .iconst 3, 1), (71, .invokevirtual 449, 3), (74, .ifCond .ne 15, 3), (77, .aload_n 0, 1), (78, .invokevirtual 276, 3), (81, .iconst (-1), 1), (82, .if_icmp .eq 7, 3), (85, .iconst 1, 1), (86, .goto 4, 3), (89, .iconst 0, 1), (90, .istore 8, 2), (92, .iload 8, 2)]
def m_c275_1 : List m_I := [(94, .ifCond .eq 10, 3), (97, .aload_n 0, 1), (98, .invokevirtual 279, 3), (101, .goto 13, 3), (104, .aload_n 0, 1), (105, .aload_n 0, 1), (106, .bipush 100, 2), (108, .invokevirtual 449, 3), (111, .invokevirtual 312, 3), (114, .istore 8, 2), (116, .iinc 7 1, 3), (119, .goto (-57), 3), (122, .aload_n 0, 1), (123, .invokevirtual 276, 3), (126, .istore 7, 2), (128, .iload 5, 2), (130, .ifCond .ne 10, 3), (133, .aload_n 0, 1), (134, .invokevirtual 264, 3), (137, .goto 54, 3), (140, .iload 5, 2), (142, .iconst 1, 1), (143, .if_icmp .ne 10, 3), (146, .aload_n 0, 1), (147, .getfield 257, 3), (150, .goto 41, 3), (153, .iload 5, 2), (155, .iconst 2, 1), (156, .if_icmp .ne 28, 3), (159, .iload 7, 2), (161, .iconst (-1), 1), (162, .if_icmp .ne 7, 3), (165, .iconst (-1), 1), (166, .goto 25, 3), (169, .aload_n 0, 1), (170, .getfield 35, 3), (173, .aload_n 0, 1), (174, .getfield 45, 3), (177, .iload 7, 2), (179, .iaload, 1), (180, .baload, 1), (181, .goto 10, 3), (184, .aload_n 0, 1), (185, .getfield 248, 3), (188, .iload 6, 2), (190, .isub, 1), (191, .ireturn, 1)]
def m_c275 : List m_I := m_c275_0 ++ (m_c275_1)
def m_c276 : List m_I := [(0, .aload_n 0, 1), (1, .aload_n 0, 1), (2, .getfield 445, 3), (5, .ldc_w 448, 3), (8, .imul, 1), (9, .sipush 12345, 3), (12, .iadd, 1), (13, .putfield 445, 3), (16, .aload_n 0, 1), (17, .getfield 445, 3), (20, .bipush 16, 2), (22, .iushr, 1), (23, .iload_n 1, 1), (24, .irem, 1), (25, .ireturn, 1)]
def m_c277 : List m_I := [(0, .aload_n 0, 1), (1, .iconst 0, 1), (2, .putfield 155, 3), (5, .aload_n 0, 1), (6, .iload_n 1, 1), (7, .iload_n 2, 1), (8, .invokevirtual 345, 3), (11, .ifCond .ne 5, 3), (14, .iconst (-1), 1), (15, .ireturn, 1), (16, .aload_n 0, 1), (17, .iload_n 2, 1), (18, .invokevirtual 351, 3), (21, .iload_n 3, 1), (22, .iconst 0, 1), (23, .aload_n 0, 1), (24, .getfield 338, 3), (27, .invokestatic 163, 3), (30, .ifCond .ne 5, 3), (33, .iconst (-1), 1), (34, .ireturn, 1), (35, .iload 4, 2), (37, .ifCond .ne 9, 3), (40, .aload_n 0, 1), (41, .iload_n 3, 1), (42, .invokevirtual 455, 3), (45, .ireturn, 1), (46, .iconst 0, 1), (47, .istore 5, 2), (49, .iconst 0, 1), (50, .istore 6, 2), (52, .iload 6, 2), (54, .iload_n 3, 1), (55, .if_icmp .ge 21, 3), (58, .iload 5, 2), (60, .aload_n 0, 1), (61, .getfield 100, 3), (64, .iload 6, 2), (66, .iaload, 1), (67, .iadd, 1), (68, .istore 5, 2), (70, .iinc 6 1, 3), (73, .goto (-21), 3), (76, .iload 5, 2), (78, .ireturn, 1)]
def m_c278_0 : List m_I := [(0, .iconst 0, 1), (1, .istore_n 2, 1), (2, .iload_n 2, 1), (3, .aload_n 0, 1), (4, .getfield 282, 3), (7, .if_icmp .ge 37, 3), (10, .aload_n 0, 1), (11, .getfield 139, 3), (14, .iload_n 2, 1), (15, .aload_n 0, 1), (16, .getfield 57, 3), (19, .iload_n 2, 1), (20, .iaload, 1), (21, .iconst (-1), 1), (22, .if_icmp .ne 7, 3), (25, .iconst 1, 1), (26, .goto 4, 3), (29, .iconst 0, 1), (30, .bastore, 1), (31, .aload_n 0, 1), (32, .getfield 143, 3), (35, .iload_n 2, 1), (36, .iconst 0, 1), (37, .bastore, 1), (38, .iinc 2 1, 3), (41, .goto (-39), 3), (44, .iconst 0, 1), (45, .istore_n 2, 1), (46, .iload_n 2, 1), (47, .iload_n 1, 1), (48, .if_icmp .ge 72, 3), (51, .aload_n 0, 1), (52, .invokevirtual 452, 3), (55, .istore_n 3, 1), (56, .aload_n 0, 1), (57, .getfield 143, 3), (60, .iload_n 3, 1), (61, .iconst 1, 1), (62, .bastore, 1), (63, .iconst 0, 1), (64, .istore 4, 2), (66, .iload 4, 2), (68, .aload_n 0, 1), (69, .getfield 282, 3), (72, .if_icmp .ge 42, 3), (75, .aload_n 0, 1), (76, .getfield 139, 3), (79, .iload 4, 2), (81, .aload_n 0, 1), (82, .getfield 139, 3)]
def m_c278_1 : List m_I := [(85, .iload 4, 2), (87, .baload, 1), (88, .ifCond .ne 14, 3), (91, .aload_n 0, 1), (92, .getfield 57, 3), (95, .iload 4, 2), (97, .iaload, 1), (98, .iload_n 3, 1), (99, .if_icmp .ne 7, 3), (102, .iconst 1, 1), (103, .goto 4, 3), (106, .iconst 0, 1), (107, .bastore, 1), (108, .iinc 4 1, 3), (111, .goto (-45), 3), (114, .iinc 2 1, 3), (117, .goto (-71), 3), (120, .iconst 0, 1), (121, .istore_n 2, 1), (122, .iconst 0, 1), (123, .istore_n 3, 1), (124, .iload_n 3, 1), (125, .aload_n 0, 1), (126, .getfield 282, 3), (129, .if_icmp .ge 26, 3), (132, .iload_n 2, 1), (133, .aload_n 0, 1), (134, .getfield 139, 3), (137, .iload_n 3, 1), (138, .baload, 1), (139, .ifCond .eq 7, 3), (142, .iconst 1, 1), (143, .goto 4, 3), (146, .iconst 0, 1), (147, .iadd, 1), (148, .istore_n 2, 1), (149, .iinc 3 1, 3), (152, .goto (-28), 3), (155, .iload_n 2, 1), (156, .ireturn, 1)]
def m_c278 : List m_I := m_c278_0 ++ (m_c278_1)
def m_c279 : List m_I := [(0, .iconst (-1), 1), (1, .istore_n 1, 1), (2, .iconst 0, 1), (3, .istore_n 2, 1), (4, .iload_n 2, 1), (5, .aload_n 0, 1), (6, .getfield 282, 3), (9, .if_icmp .ge 57, 3), (12, .aload_n 0, 1), (13, .getfield 139, 3), (16, .iload_n 2, 1), (17, .baload, 1), (18, .ifCond .eq 40, 3), (21, .aload_n 0, 1), (22, .getfield 143, 3), (25, .iload_n 2, 1), (26, .baload, 1), (27, .ifCond .ne 31, 3), (30, .iload_n 1, 1), (31, .iconst (-1), 1), (32, .if_icmp .eq 22, 3), (35, .aload_n 0, 1), (36, .aload_n 0, 1), (37, .getfield 51, 3), (40, .iload_n 2, 1), (41, .iaload, 1), (42, .aload_n 0, 1), (43, .getfield 51, 3), (46, .iload_n 1, 1), (47, .iaload, 1), (48, .invokevirtual 251, 3), (51, .ifCond .eq 7, 3), (54, .iload_n 2, 1), (55, .goto 4, 3), (58, .iload_n 1, 1), (59, .istore_n 1, 1), (60, .iinc 2 1, 3), (63, .goto (-59), 3), (66, .iload_n 1, 1), (67, .ireturn, 1)]
def m_c280 : List m_I := [(0, .aload_n 0, 1), (1, .iconst 0, 1), (2, .putfield 155, 3), (5, .aload_n 0, 1), (6, .iload_n 1, 1), (7, .iload_n 2, 1), (8, .iload_n 3, 1), (9, .invokevirtual 366, 3), (12, .ifCond .ne 7, 3), (15, .ldc2_w 358, 3), (18, .lreturn, 1), (19, .iconst 0, 1), (20, .istore 5, 2), (22, .iload 5, 2), (24, .aload_n 0, 1), (25, .getfield 294, 3), (28, .if_icmp .ge 16, 3), (31, .aload_n 0, 1), (32, .iload 5, 2), (34, .iload_n 2, 1), (35, .invokevirtual 458, 3), (38, .iinc 5 1, 3), (41, .goto (-19), 3), (44, .aload_n 0, 1), (45, .getfield 146, 3), (48, .iload_n 3, 1), (49, .laload, 1), (50, .lconst 0, 1), (51, .lcmp, 1), (52, .ifCond .ne 9, 3), (55, .ldc2_w 358, 3), (58, .goto 24, 3), (61, .iload 4, 2), (63, .ifCond .eq 12, 3), (66, .aload_n 0, 1), (67, .getfield 146, 3), (70, .iload_n 3, 1), (71, .laload, 1), (72, .goto 10, 3), (75, .aload_n 0, 1), (76, .getfield 149, 3), (79, .iload_n 3, 1), (80, .iaload, 1), (81, .i2l, 1), (82, .lreturn, 1)]
def m_c281_0 : List m_I := [(0, .aload_n 0, 1), (1, .getfield 146, 3), (4, .iload_n 1, 1), (5, .iload_n 1, 1), (6, .iload_n 2, 1), (7, .if_icmp .ne 7, 3), (10, .lconst 1, 1), (11, .goto 4, 3), (14, .lconst 0, 1), (15, .lastore, 1), (16, .aload_n 0, 1), (17, .getfield 149, 3), (20, .iload_n 1, 1), (21, .iload_n 1, 1), (22, .iload_n 2, 1), (23, .if_icmp .ne 7, 3), (26, .iconst 0, 1), (27, .goto 4, 3), (30, .iconst (-1), 1), (31, .iastore, 1), (32, .iload_n 1, 1), (33, .iload_n 2, 1), (34, .if_icmp .ne 4, 3), (37, .return_, 1), (38, .iconst 0, 1), (39, .istore_n 3, 1), (40, .iload_n 3, 1), (41, .iconst 2, 1), (42, .if_icmp .ge 120, 3), (45, .iload_n 3, 1), (46, .ifCond .ne 12, 3), (49, .aload_n 0, 1), (50, .getfield 84, 3), (53, .iload_n 1, 1), (54, .iaload, 1), (55, .goto 9, 3), (58, .aload_n 0, 1), (59, .getfield 87, 3), (62, .iload_n 1, 1), (63, .iaload, 1), (64, .istore 4, 2), (66, .iload 4, 2), (68, .iconst (-1), 1), (69, .if_icmp .eq 87, 3), (72, .aload_n 0, 1), (73, .getfield 146, 3), (76, .iload 4, 2), (78, .laload, 1), (79, .lconst 0, 1), (80, .lcmp, 1)]
def m_c281_1 : List m_I := [(81, .ifCond .le 75, 3), (84, .aload_n 0, 1), (85, .getfield 146, 3), (88, .iload_n 1, 1), (89, .dup2, 1), (90, .laload, 1), (91, .aload_n 0, 1), (92, .getfield 146, 3), (95, .iload 4, 2), (97, .laload, 1), (98, .ladd, 1), (99, .lastore, 1), (100, .aload_n 0, 1), (101, .getfield 149, 3), (104, .iload_n 1, 1), (105, .aload_n 0, 1), (106, .getfield 149, 3), (109, .iload 4, 2), (111, .iaload, 1), (112, .aload_n 0, 1), (113, .getfield 81, 3), (116, .iload_n 1, 1), (117, .iconst 1, 1), (118, .isub, 1), (119, .iaload, 1), (120, .iadd, 1), (121, .aload_n 0, 1), (122, .getfield 149, 3), (125, .iload_n 1, 1), (126, .iaload, 1), (127, .if_icmp .le 22, 3), (130, .aload_n 0, 1), (131, .getfield 149, 3), (134, .iload 4, 2), (136, .iaload, 1), (137, .aload_n 0, 1), (138, .getfield 81, 3), (141, .iload_n 1, 1), (142, .iconst 1, 1), (143, .isub, 1), (144, .iaload, 1), (145, .iadd, 1), (146, .goto 9, 3), (149, .aload_n 0, 1), (150, .getfield 149, 3), (153, .iload_n 1, 1), (154, .iaload, 1), (155, .iastore, 1), (156, .iinc 3 1, 3), (159, .goto (-119), 3)]
def m_c281_2 : List m_I := [(162, .return_, 1)]
def m_c281 : List m_I := m_c281_0 ++ (m_c281_1 ++ (m_c281_2))
def m_c282 : List m_I := [(0, .aload_n 0, 1), (1, .iconst 0, 1), (2, .putfield 155, 3), (5, .aload_n 0, 1), (6, .iload_n 1, 1), (7, .iload_n 2, 1), (8, .invokevirtual 345, 3), (11, .ifCond .ne 5, 3), (14, .iconst (-1), 1), (15, .ireturn, 1), (16, .iload_n 3, 1), (17, .ifCond .ne 13, 3), (20, .aload_n 0, 1), (21, .iload_n 2, 1), (22, .invokevirtual 351, 3), (25, .aload_n 0, 1), (26, .invokevirtual 461, 3), (29, .ireturn, 1), (30, .aload_n 0, 1), (31, .invokevirtual 348, 3), (34, .aload_n 0, 1), (35, .getfield 84, 3), (38, .iload_n 2, 1), (39, .iaload, 1), (40, .iconst (-1), 1), (41, .if_icmp .ne 7, 3), (44, .lconst 0, 1), (45, .goto 11, 3), (48, .lconst 1, 1), (49, .aload_n 0, 1), (50, .getfield 84, 3), (53, .iload_n 2, 1), (54, .iaload, 1), (55, .lshl, 1), (56, .lstore 4, 2), (58, .lload 4, 2), (60, .aload_n 0, 1), (61, .getfield 87, 3), (64, .iload_n 2, 1), (65, .iaload, 1), (66, .iconst (-1), 1), (67, .if_icmp .ne 7, 3), (70, .lconst 0, 1), (71, .goto 11, 3), (74, .lconst 1, 1), (75, .aload_n 0, 1), (76, .getfield 87, 3), (79, .iload_n 2, 1), (80, .iaload, 1), (81, .lshl, 1), (82, .lor, 1), (83, .lstore 4, 2), (85, .aload_n 0, 1), (86, .iload_n 2, 1), (87, .lload 4, 2), (89, .invokevirtual 354, 3), (92, .ireturn, 1)]
def m_c283_0 : List m_I := [(0, .iconst 0, 1), (1, .istore_n 1, 1), (2, .iconst 0, 1), (3, .istore_n 2, 1), (4, .iload_n 2, 1), (5, .aload_n 0, 1), (6, .getfield 338, 3), (9, .if_icmp .ge 109, 3), (12, .iconst 0, 1), (13, .istore_n 3, 1), (14, .iconst 1, 1), (15, .istore 4, 2), (17, .iconst 0, 1), (18, .istore 5, 2), (20, .iload 5, 2), (22, .aload_n 0, 1), (23, .getfield 338, 3), (26, .if_icmp .ge 68, 3), (29, .aload_n 0, 1), (30, .getfield 97, 3), (33, .iload 5, 2), (35, .iaload, 1), (36, .aload_n 0, 1), (37, .getfield 97, 3), (40, .iload_n 2, 1), (41, .iaload, 1), (42, .if_icmp .ne 7, 3), (45, .iconst 1, 1), (46, .goto 4, 3), (49, .iconst 0, 1), (50, .istore 6, 2), (52, .iload_n 3, 1), (53, .iload 6, 2), (55, .ifCond .eq 7, 3), (58, .iconst 1, 1), (59, .goto 4, 3), (62, .iconst 0, 1), (63, .iadd, 1), (64, .istore_n 3, 1), (65, .iload 4, 2), (67, .ifCond .eq 18, 3), (70, .iload 6, 2), (72, .ifCond .eq 9, 3), (75, .iload 5, 2), (77, .iload_n 2, 1), (78, .if_icmp .lt 7, 3), (81, .iconst 1, 1), (82, .goto 4, 3), (85, .iconst 0, 1), (86, .istore 4, 2)]
def m_c283_1 : List m_I := [(88, .iinc 5 1, 3), (91, .goto (-71), 3), (94, .iload_n 1, 1), (95, .iload 4, 2), (97, .ifCond .eq 12, 3), (100, .iload_n 3, 1), (101, .iconst 1, 1), (102, .if_icmp .le 7, 3), (105, .iconst 1, 1), (106, .goto 4, 3), (109, .iconst 0, 1), (110, .iadd, 1), (111, .istore_n 1, 1), (112, .iinc 2 1, 3), (115, .goto (-111), 3), (118, .iload_n 1, 1), (119, .ireturn, 1)]
def m_c283 : List m_I := m_c283_0 ++ (m_c283_1)
def m_c284 : List m_I := [(0, .aload_n 0, 1), (1, .iconst 0, 1), (2, .putfield 155, 3), (5, .aload_n 0, 1), (6, .iload_n 1, 1), (7, .iload_n 2, 1), (8, .iload_n 3, 1), (9, .invokevirtual 366, 3), (12, .ifCond .ne 5, 3), (15, .iconst (-1), 1), (16, .ireturn, 1), (17, .aload_n 0, 1), (18, .invokevirtual 348, 3), (21, .iconst (-1), 1), (22, .istore 4, 2), (24, .iconst 0, 1), (25, .istore 5, 2), (27, .iload 5, 2), (29, .aload_n 0, 1), (30, .getfield 248, 3), (33, .if_icmp .ge 63, 3), (36, .aload_n 0, 1), (37, .getfield 94, 3), (40, .iload 5, 2), (42, .laload, 1), (43, .iload_n 2, 1), (44, .invokestatic 341, 3), (47, .ifCond .eq 39, 3), (50, .aload_n 0, 1), (51, .getfield 94, 3), (54, .iload 5, 2), (56, .laload, 1), (57, .iload_n 3, 1), (58, .invokestatic 341, 3), (61, .ifCond .eq 25, 3), (64, .aload_n 0, 1), (65, .getfield 38, 3), (68, .iload 5, 2), (70, .baload, 1), (71, .iload 4, 2), (73, .if_icmp .le 13, 3), (76, .aload_n 0, 1), (77, .getfield 38, 3), (80, .iload 5, 2), (82, .baload, 1), (83, .goto 5, 3), (86, .iload 4, 2), (88, .istore 4, 2), (90, .iinc 5 1, 3), (93, .goto (-66), 3), (96, .iload 4, 2), (98, .ireturn, 1)]
def m_c285_0 : List m_I := [(0, .aload_n 0, 1), (1, .iconst 0, 1), (2, .putfield 155, 3), (5, .aload_n 0, 1), (6, .iload_n 1, 1), (7, .invokevirtual 328, 3), (10, .ifCond .eq 24, 3), (13, .aload_n 0, 1), (14, .lload_n 2, 1), (15, .invokevirtual 372, 3), (18, .ifCond .eq 16, 3), (21, .aload_n 0, 1), (22, .lload_n 2, 1), (23, .invokevirtual 386, 3), (26, .ifCond .eq 8, 3), (29, .iload 4, 2), (31, .ifCond .ge 7, 3), (34, .ldc2_w 358, 3), (37, .lreturn, 1), (38, .aload_n 0, 1), (39, .invokevirtual 348, 3), (42, .iconst 0, 1), (43, .istore 5, 2), (45, .aload_n 0, 1), (46, .iconst 0, 1), (47, .putfield 383, 3), (50, .iconst 0, 1), (51, .istore 6, 2), (53, .iload 6, 2), (55, .aload_n 0, 1), (56, .getfield 248, 3), (59, .if_icmp .ge 71, 3), (62, .aload_n 0, 1), (63, .getfield 94, 3), (66, .iload 6, 2), (68, .laload, 1), (69, .lconst 0, 1), (70, .lcmp, 1), (71, .ifCond .ne 9, 3), (74, .iinc 5 1, 3), (77, .goto 47, 3), (80, .aload_n 0, 1), (81, .getfield 94, 3), (84, .iload 6, 2), (86, .laload, 1), (87, .lload_n 2, 1), (88, .ldc2_w 358, 3), (91, .lxor, 1), (92, .land, 1), (93, .lconst 0, 1)]
def m_c285_1 : List m_I := [(94, .lcmp, 1), (95, .ifCond .ne 29, 3), (98, .aload_n 0, 1), (99, .getfield 109, 3), (102, .aload_n 0, 1), (103, .getfield 383, 3), (106, .aload_n 0, 1), (107, .getfield 94, 3), (110, .iload 6, 2), (112, .laload, 1), (113, .lastore, 1), (114, .aload_n 0, 1), (115, .dup, 1), (116, .getfield 383, 3), (119, .iconst 1, 1), (120, .iadd, 1), (121, .putfield 383, 3), (124, .iinc 6 1, 3), (127, .goto (-74), 3), (130, .iconst (-1), 1), (131, .istore 6, 2), (133, .iconst 0, 1), (134, .istore 7, 2), (136, .iload 7, 2), (138, .iconst 1, 1), (139, .aload_n 0, 1), (140, .getfield 380, 3), (143, .ishl, 1), (144, .if_icmp .ge 55, 3), (147, .iload 6, 2), (149, .iconst (-1), 1), (150, .if_icmp .eq 16, 3), (153, .iload 7, 2), (155, .invokestatic 389, 3), (158, .iload 6, 2), (160, .invokestatic 389, 3), (163, .if_icmp .ge 26, 3), (166, .iload 5, 2), (168, .aload_n 0, 1), (169, .aload_n 0, 1), (170, .iload 7, 2), (172, .invokevirtual 392, 3), (175, .invokevirtual 464, 3), (178, .iadd, 1), (179, .iload 4, 2), (181, .if_icmp .lt 8, 3), (184, .iload 7, 2), (186, .goto 5, 3), (189, .iload 6, 2), (191, .istore 6, 2)]
def m_c285_2 : List m_I := [(193, .iinc 7 1, 3), (196, .goto (-60), 3), (199, .iload 6, 2), (201, .iconst (-1), 1), (202, .if_icmp .ne 9, 3), (205, .ldc2_w 358, 3), (208, .goto 9, 3), (211, .aload_n 0, 1), (212, .iload 6, 2), (214, .invokevirtual 392, 3), (217, .lreturn, 1)]
def m_c285 : List m_I := m_c285_0 ++ (m_c285_1 ++ (m_c285_2))
def m_c286 : List m_I := [(0, .iconst 0, 1), (1, .istore_n 3, 1), (2, .iconst 0, 1), (3, .istore 4, 2), (5, .iload 4, 2), (7, .aload_n 0, 1), (8, .getfield 383, 3), (11, .if_icmp .ge 35, 3), (14, .iload_n 3, 1), (15, .aload_n 0, 1), (16, .getfield 109, 3), (19, .iload 4, 2), (21, .laload, 1), (22, .lload_n 1, 1), (23, .ldc2_w 358, 3), (26, .lxor, 1), (27, .land, 1), (28, .lconst 0, 1), (29, .lcmp, 1), (30, .ifCond .ne 7, 3), (33, .iconst 1, 1), (34, .goto 4, 3), (37, .iconst 0, 1), (38, .iadd, 1), (39, .istore_n 3, 1), (40, .iinc 4 1, 3), (43, .goto (-38), 3), (46, .iload_n 3, 1), (47, .ireturn, 1)]
def m_c287 : List m_I := [(0, .aload_n 0, 1), (1, .iconst 0, 1), (2, .putfield 155, 3), (5, .aload_n 0, 1), (6, .getfield 23, 3), (9, .iconst 0, 1), (10, .iaload, 1), (11, .ireturn, 1)]
def m_c288 : List m_I := [(0, .aload_n 0, 1), (1, .iconst 0, 1), (2, .putfield 155, 3), (5, .iload_n 1, 1), (6, .iconst 0, 1), (7, .iconst 2, 1), (8, .invokestatic 163, 3), (11, .ifCond .ne 5, 3), (14, .iconst 0, 1), (15, .ireturn, 1), (16, .aload_n 0, 1), (17, .iconst 0, 1), (18, .iload_n 1, 1), (19, .iconst 1, 1), (20, .iadd, 1), (21, .invokevirtual 467, 3), (24, .aload_n 0, 1), (25, .getfield 152, 3), (28, .iload_n 1, 1), (29, .iconst 1, 1), (30, .bastore, 1), (31, .iconst 1, 1), (32, .ireturn, 1)]
def m_c289 : List m_I := [(0, .iconst 0, 1), (1, .istore_n 3, 1), (2, .iload_n 3, 1), (3, .sipush 600, 3), (6, .if_icmp .ge 33, 3), (9, .aload_n 0, 1), (10, .getfield 7, 3), (13, .sipush 600, 3), (16, .iload_n 2, 1), (17, .imul, 1), (18, .iload_n 3, 1), (19, .iadd, 1), (20, .aload_n 0, 1), (21, .getfield 7, 3), (24, .sipush 600, 3), (27, .iload_n 1, 1), (28, .imul, 1), (29, .iload_n 3, 1), (30, .iadd, 1), (31, .baload, 1), (32, .bastore, 1), (33, .iinc 3 1, 3), (36, .goto (-34), 3), (39, .aload_n 0, 1), (40, .getfield 13, 3), (43, .iconst 1, 1), (44, .iload_n 1, 1), (45, .iload_n 2, 1), (46, .invokestatic 159, 3), (49, .aload_n 0, 1), (50, .getfield 17, 3), (53, .iconst 1, 1), (54, .iload_n 1, 1), (55, .iload_n 2, 1), (56, .invokestatic 159, 3), (59, .aload_n 0, 1), (60, .getfield 20, 3), (63, .iconst 1, 1), (64, .iload_n 1, 1), (65, .iload_n 2, 1), (66, .invokestatic 159, 3), (69, .aload_n 0, 1), (70, .getfield 23, 3), (73, .iconst 1, 1), (74, .iload_n 1, 1), (75, .iload_n 2, 1), (76, .invokestatic 159, 3), (79, .aload_n 0, 1), (80, .getfield 26, 3), (83, .sipush 644, 3), (86, .iload_n 1, 1), (87, .iload_n 2, 1), (88, .invokestatic 159, 3), (91, .return_, 1)]
def m_c290 : List m_I := [(0, .iconst 0, 1), (1, .istore 4, 2), (3, .iload 4, 2), (5, .iload_n 1, 1), (6, .if_icmp .ge 25, 3), (9, .aload_n 0, 1), (10, .iload_n 1, 1), (11, .iload_n 3, 1), (12, .imul, 1), (13, .iload 4, 2), (15, .iadd, 1), (16, .aload_n 0, 1), (17, .iload_n 1, 1), (18, .iload_n 2, 1), (19, .imul, 1), (20, .iload 4, 2), (22, .iadd, 1), (23, .iaload, 1), (24, .iastore, 1), (25, .iinc 4 1, 3), (28, .goto (-25), 3), (31, .return_, 1)]
def m_c291 : List m_I := [(0, .aload_n 0, 1), (1, .iconst 0, 1), (2, .putfield 155, 3), (5, .iload_n 1, 1), (6, .iconst 0, 1), (7, .iconst 2, 1), (8, .invokestatic 163, 3), (11, .ifCond .eq 12, 3), (14, .aload_n 0, 1), (15, .getfield 152, 3), (18, .iload_n 1, 1), (19, .baload, 1), (20, .ifCond .ne 5, 3), (23, .iconst 0, 1), (24, .ireturn, 1), (25, .aload_n 0, 1), (26, .iload_n 1, 1), (27, .iconst 1, 1), (28, .iadd, 1), (29, .iconst 0, 1), (30, .invokevirtual 467, 3), (33, .iconst 1, 1), (34, .ireturn, 1)]
-- code table, name, bytes, locals, what it returns, kind (0 static, 1 of an object, 2 a constructor), frames and words below it, how many arguments
def m_d0 : m_M := (m_c0, ⟨"PastHeapsLaw", "law", "([I)Z"⟩, code, 4, (some .boolean), 0, 11, 243, 1)
def m_d1 : m_M := (m_c1, ⟨"PastHeaps", "<init>", "()V"⟩, prog_1_method_1_code, 1, none, 2, 3, 61, 0)
def m_d2 : m_M := (m_c2, ⟨"PastHeaps$Told", "<init>", "()V"⟩, prog_8_method_1_code, 2, none, 2, 2, 40, 0)
def m_d3 : m_M := (m_c3, ⟨"PastHeaps$Acts", "<init>", "()V"⟩, prog_2_method_1_code, 1, none, 2, 1, 20, 0)
def m_d4 : m_M := (m_c4, ⟨"PastHeaps$Reader", "<init>", "()V"⟩, prog_6_method_1_code, 1, none, 2, 1, 20, 0)
def m_d5 : m_M := (m_c5, ⟨"PastHeaps$Walk", "<init>", "()V"⟩, prog_9_method_1_code, 1, none, 2, 1, 20, 0)
def m_d6 : m_M := (m_c6, ⟨"PastHeaps$Shares", "<init>", "()V"⟩, prog_7_method_1_code, 1, none, 2, 1, 20, 0)
def m_d7 : m_M := (m_c7, ⟨"PastHeaps", "feed", "(IIIII)I"⟩, prog_1_method_2_code, 6, (some .int), 1, 1, 22, 5)
def m_d8 : m_M := (m_c8, ⟨"PastHeaps$Told", "append", "(I)V"⟩, prog_8_method_2_code, 3, none, 1, 0, 0, 1)
def m_d9 : m_M := (m_c9, ⟨"PastHeaps", "end", "(I)I"⟩, prog_1_method_3_code, 2, (some .int), 1, 0, 0, 1)
def m_d10 : m_M := (m_c10, ⟨"PastHeaps", "text", "(I)I"⟩, prog_1_method_4_code, 5, (some .int), 1, 10, 219, 1)
def m_d11 : m_M := (m_c11, ⟨"PastHeaps", "isRow", "(I)Z"⟩, prog_1_method_39_code, 2, (some .boolean), 1, 0, 0, 1)
def m_d12 : m_M := (m_c12, ⟨"PastHeaps$Reader", "readActs", "([BILPastHeaps$Acts;)V"⟩, prog_6_method_2_code, 6, none, 1, 9, 194, 3)
def m_d13 : m_M := (m_c13, ⟨"java/lang/Math", "min", "(II)I"⟩, prog_15_method_69_code, 2, (some .int), 0, 0, 0, 2)
def m_d14 : m_M := (m_c14, ⟨"PastHeaps$Acts", "clear", "()V"⟩, prog_2_method_2_code, 1, none, 1, 0, 0, 0)
def m_d15 : m_M := (m_c15, ⟨"PastHeaps$Reader", "readLine", "(LPastHeaps$Acts;)Z"⟩, prog_6_method_3_code, 5, (some .boolean), 1, 8, 170, 1)
def m_d16 : m_M := (m_c16, ⟨"PastHeaps$Reader", "nextToken", "()V"⟩, prog_6_method_6_code, 1, none, 1, 7, 150, 0)
def m_d17 : m_M := (m_c17, ⟨"PastHeaps$Reader", "isLetter", "(I)Z"⟩, prog_6_method_11_code, 1, (some .boolean), 0, 0, 0, 1)
def m_d18 : m_M := (m_c18, ⟨"PastHeaps$Reader", "readWord", "()V"⟩, prog_6_method_7_code, 2, none, 1, 6, 129, 0)
def m_d19 : m_M := (m_c19, ⟨"PastHeaps$Reader", "nameOf", "(I)Ljava/lang/String;"⟩, prog_6_method_10_code, 1, (some (.object "java/lang/String")), 0, 0, 0, 1)
def m_d20 : m_M := (m_c20, ⟨"PastHeaps$Reader", "tells", "(Ljava/lang/String;)Z"⟩, prog_6_method_8_code, 4, (some .boolean), 1, 5, 106, 1)
def m_d21 : m_M := (m_c21, ⟨"java/lang/String", "length", "()I"⟩, prog_16_method_54_code, 1, (some .int), 1, 1, 20, 0)
def m_d22 : m_M := (m_c22, ⟨"java/lang/String", "coder", "()B"⟩, prog_16_method_152_code, 1, (some .byte), 1, 0, 0, 0)
def m_d23 : m_M := (m_c23, ⟨"java/lang/String", "charAt", "(I)C"⟩, prog_16_method_56_code, 2, (some .char), 1, 4, 85, 1)
def m_d24 : m_M := (m_c24, ⟨"java/lang/String", "isLatin1", "()Z"⟩, prog_16_method_154_code, 1, (some .boolean), 1, 0, 0, 0)
def m_d25 : m_M := (m_c25, ⟨"java/lang/StringLatin1", "charAt", "([BI)C"⟩, prog_17_method_2_code, 2, (some .char), 0, 2, 43, 2)
def m_d26 : m_M := (m_c26, ⟨"java/lang/String", "checkIndex", "(II)V"⟩, prog_16_method_155_code, 2, none, 0, 1, 22, 2)
def m_d27 : m_M := (m_c27, ⟨"jdk/internal/util/Preconditions", "checkIndex", "(IILjava/util/function/BiFunction;)I"⟩, prog_21_method_11_code, 3, (some .int), 0, 0, 0, 3)
def m_d28 : m_M := (m_c28, ⟨"java/lang/StringUTF16", "charAt", "([BI)C"⟩, prog_18_method_83_code, 2, (some .char), 0, 3, 64, 2)
def m_d29 : m_M := (m_c29, ⟨"java/lang/StringUTF16", "checkIndex", "(I[B)V"⟩, prog_18_method_91_code, 2, none, 0, 2, 43, 2)
def m_d30 : m_M := (m_c30, ⟨"java/lang/StringUTF16", "length", "([B)I"⟩, prog_18_method_6_code, 1, (some .int), 0, 0, 0, 1)
def m_d31 : m_M := (m_c31, ⟨"java/lang/StringUTF16", "getChar", "([BI)C"⟩, prog_18_method_5_code, 2, (some .char), 0, 1, 20, 2)
def m_d32 : m_M := (m_c32, ⟨"PastHeaps$Reader", "isDigit", "(I)Z"⟩, prog_6_method_12_code, 1, (some .boolean), 0, 0, 0, 1)
def m_d33 : m_M := (m_c33, ⟨"PastHeaps$Reader", "readNumber", "()V"⟩, prog_6_method_9_code, 1, none, 1, 1, 20, 0)
def m_d34 : m_M := (m_c34, ⟨"PastHeaps$Reader", "goesNoFurther", "()Z"⟩, prog_6_method_4_code, 1, (some .boolean), 1, 0, 0, 0)
def m_d35 : m_M := (m_c35, ⟨"PastHeaps$Reader", "note", "(II)V"⟩, prog_6_method_5_code, 3, none, 1, 0, 0, 2)
def m_d36 : m_M := (m_c36, ⟨"PastHeaps$Acts", "begin", "(I)V"⟩, prog_2_method_3_code, 2, none, 1, 2, 46, 1)
def m_d37 : m_M := (m_c37, ⟨"java/util/Arrays", "fill", "([IIII)V"⟩, prog_20_method_104_code, 5, none, 0, 1, 22, 4)
def m_d38 : m_M := (m_c38, ⟨"java/util/Arrays", "rangeCheck", "(III)V"⟩, prog_20_method_30_code, 3, none, 0, 0, 0, 3)
def m_d39 : m_M := (m_c39, ⟨"PastHeaps$Acts", "tellLast", "(II)V"⟩, prog_2_method_4_code, 3, none, 1, 0, 0, 2)
def m_d40 : m_M := (m_c40, ⟨"PastHeaps$Acts", "copyActs", "(LPastHeaps$Acts;)V"⟩, prog_2_method_7_code, 2, none, 1, 1, 26, 1)
def m_d41 : m_M := (m_c41, ⟨"PastHeaps", "pastFor", "(I)LPastHeaps$Past;"⟩, prog_1_method_41_code, 2, (some (.object "PastHeaps$Past")), 1, 4, 80, 1)
def m_d42 : m_M := (m_c42, ⟨"PastHeaps$Past", "<init>", "()V"⟩, prog_5_method_1_code, 1, none, 2, 3, 60, 0)
def m_d43 : m_M := (m_c43, ⟨"PastHeaps$Nodes", "<init>", "()V"⟩, prog_4_method_1_code, 1, none, 2, 2, 40, 0)
def m_d44 : m_M := (m_c44, ⟨"PastHeaps$Lines", "<init>", "()V"⟩, prog_3_method_1_code, 1, none, 2, 1, 20, 0)
def m_d45 : m_M := (m_c45, ⟨"PastHeaps$Past", "runAll", "(LPastHeaps$Acts;)V"⟩, prog_5_method_7_code, 5, none, 1, 7, 176, 1)
def m_d46 : m_M := (m_c46, ⟨"PastHeaps$Nodes", "dropBehind", "(I)V"⟩, prog_4_method_2_code, 2, none, 1, 1, 21, 1)
def m_d47 : m_M := (m_c47, ⟨"java/lang/Math", "max", "(II)I"⟩, prog_15_method_65_code, 2, (some .int), 0, 0, 0, 2)
def m_d48 : m_M := (m_c48, ⟨"java/util/Arrays", "fill", "([II)V"⟩, prog_20_method_103_code, 4, none, 0, 0, 0, 2)
def m_d49 : m_M := (m_c49, ⟨"PastHeaps$Past", "keepHeap", "()V"⟩, prog_5_method_10_code, 1, none, 1, 1, 26, 0)
def m_d50 : m_M := (m_c50, ⟨"PastHeaps$Past", "heapSize", "()I"⟩, prog_5_method_11_code, 3, (some .int), 1, 0, 0, 0)
def m_d51 : m_M := (m_c51, ⟨"PastHeaps$Lines", "add", "(III)V"⟩, prog_3_method_2_code, 4, none, 1, 1, 21, 3)
def m_d52 : m_M := (m_c52, ⟨"PastHeaps", "bit", "(I)J"⟩, prog_1_method_44_code, 1, (some .long), 0, 0, 0, 1)
def m_d53 : m_M := (m_c53, ⟨"PastHeaps$Lines", "fromsOf", "(I)J"⟩, prog_3_method_3_code, 2, (some .long), 1, 0, 0, 1)
def m_d54 : m_M := (m_c54, ⟨"PastHeaps$Acts", "kindOf", "(I)I"⟩, prog_2_method_5_code, 2, (some .int), 1, 0, 0, 1)
def m_d55 : m_M := (m_c55, ⟨"PastHeaps$Acts", "numberOf", "(II)I"⟩, prog_2_method_6_code, 3, (some .int), 1, 0, 0, 2)
def m_d56 : m_M := (m_c56, ⟨"PastHeaps$Past", "perform", "(IIII)Z"⟩, prog_5_method_12_code, 6, (some .boolean), 1, 6, 151, 4)
def m_d57 : m_M := (m_c57, ⟨"PastHeaps$Past", "has", "(I)Z"⟩, prog_5_method_2_code, 2, (some .boolean), 1, 0, 0, 1)
def m_d58 : m_M := (m_c58, ⟨"PastHeaps$Past", "load", "(I[I)V"⟩, prog_5_method_13_code, 3, none, 1, 1, 26, 2)
def m_d59 : m_M := (m_c59, ⟨"PastHeaps$Past", "putIn", "(I)Z"⟩, prog_5_method_14_code, 2, (some .boolean), 1, 5, 127, 1)
def m_d60 : m_M := (m_c60, ⟨"PastHeaps", "weigh", "(II)I"⟩, prog_1_method_47_code, 2, (some .int), 0, 0, 0, 2)
def m_d61 : m_M := (m_c61, ⟨"PastHeaps$Nodes", "makeNode", "(II)I"⟩, prog_4_method_9_code, 5, (some .int), 1, 2, 48, 2)
def m_d62 : m_M := (m_c62, ⟨"java/util/Arrays", "copyOf", "([II)[I"⟩, prog_20_method_123_code, 3, (some (.array .int)), 0, 1, 26, 2)
def m_d63 : m_M := (m_c63, ⟨"java/util/Arrays", "copyOf", "([JI)[J"⟩, prog_20_method_124_code, 3, (some (.array .long)), 0, 1, 26, 2)
def m_d64 : m_M := (m_c64, ⟨"PastHeaps$Nodes", "meldInto", "([I[I)V"⟩, prog_4_method_11_code, 9, none, 1, 4, 99, 2)
def m_d65 : m_M := (m_c65, ⟨"PastHeaps$Nodes", "linked", "(II)I"⟩, prog_4_method_10_code, 8, (some .int), 1, 3, 72, 2)
def m_d66 : m_M := (m_c66, ⟨"PastHeaps$Nodes", "weightOf", "(I)I"⟩, prog_4_method_3_code, 2, (some .int), 1, 0, 0, 1)
def m_d67 : m_M := (m_c67, ⟨"PastHeaps$Nodes", "rankOf", "(I)I"⟩, prog_4_method_4_code, 2, (some .int), 1, 0, 0, 1)
def m_d68 : m_M := (m_c68, ⟨"PastHeaps$Nodes", "setChild", "(III)V"⟩, prog_4_method_8_code, 4, none, 1, 0, 0, 3)
def m_d69 : m_M := (m_c69, ⟨"PastHeaps$Nodes", "childOf", "(II)I"⟩, prog_4_method_5_code, 4, (some .int), 1, 0, 0, 2)
def m_d70 : m_M := (m_c70, ⟨"PastHeaps$Past", "meldWith", "(I)Z"⟩, prog_5_method_15_code, 2, (some .boolean), 1, 5, 127, 1)
def m_d71 : m_M := (m_c71, ⟨"PastHeaps$Nodes", "takeLeast", "([I)Z"⟩, prog_4_method_14_code, 5, (some .boolean), 1, 5, 127, 1)
def m_d72 : m_M := (m_c72, ⟨"PastHeaps$Nodes", "leastRank", "([I)I"⟩, prog_4_method_12_code, 4, (some .int), 1, 1, 21, 1)
def m_d73 : m_M := (m_c73, ⟨"PastHeaps$Nodes", "lowerTo", "([III)Z"⟩, prog_4_method_15_code, 10, (some .boolean), 1, 4, 97, 3)
def m_d74 : m_M := (m_c74, ⟨"PastHeaps$Walk", "look", "(LPastHeaps$Nodes;[I)V"⟩, prog_9_method_2_code, 7, none, 1, 1, 23, 2)
def m_d75 : m_M := (m_c75, ⟨"PastHeaps$Walk", "push", "(II)V"⟩, prog_9_method_3_code, 3, none, 1, 0, 0, 2)
def m_d76 : m_M := (m_c76, ⟨"PastHeaps$Walk", "firstNotBelow", "(II)I"⟩, prog_9_method_5_code, 4, (some .int), 1, 1, 20, 2)
def m_d77 : m_M := (m_c77, ⟨"PastHeaps", "thingIn", "(I)I"⟩, prog_1_method_48_code, 1, (some .int), 0, 0, 0, 1)
def m_d78 : m_M := (m_c78, ⟨"PastHeaps", "keyIn", "(I)I"⟩, prog_1_method_49_code, 1, (some .int), 0, 0, 0, 1)
def m_d79 : m_M := (m_c79, ⟨"PastHeaps$Nodes", "remake", "(II)V"⟩, prog_4_method_16_code, 6, none, 1, 3, 72, 2)
def m_d80 : m_M := (m_c80, ⟨"PastHeaps$Nodes", "leastKey", "([I)I"⟩, prog_4_method_13_code, 3, (some .int), 1, 2, 44, 1)
def m_d81 : m_M := (m_c81, ⟨"PastHeaps$Past", "keepAct", "(LPastHeaps$Acts;II)V"⟩, prog_5_method_9_code, 6, none, 1, 3, 63, 3)
def m_d82 : m_M := (m_c82, ⟨"java/lang/Integer", "bitCount", "(I)I"⟩, prog_13_method_49_code, 1, (some .int), 0, 0, 0, 1)
def m_d83 : m_M := (m_c83, ⟨"PastHeaps$Past", "creditOf", "(I)I"⟩, prog_5_method_5_code, 2, (some .int), 1, 2, 42, 1)
def m_d84 : m_M := (m_c84, ⟨"PastHeaps$Past", "sizeOf", "(I)I"⟩, prog_5_method_4_code, 2, (some .int), 1, 1, 21, 1)
def m_d85 : m_M := (m_c85, ⟨"PastHeaps$Past", "markNodes", "(I)V"⟩, prog_5_method_8_code, 4, none, 1, 2, 49, 1)
def m_d86 : m_M := (m_c86, ⟨"PastHeaps$Nodes", "markHolder", "(IJ)V"⟩, prog_4_method_7_code, 4, none, 1, 0, 0, 2)
def m_d87 : m_M := (m_c87, ⟨"PastHeaps", "fault", "(I)I"⟩, prog_1_method_5_code, 2, (some .int), 1, 0, 0, 1)
def m_d88 : m_M := (m_c88, ⟨"PastHeaps", "act", "(III)I"⟩, prog_1_method_6_code, 5, (some .int), 1, 1, 22, 3)
def m_d89 : m_M := (m_c89, ⟨"PastHeaps", "stop", "(I)I"⟩, prog_1_method_7_code, 3, (some .int), 1, 2, 42, 1)
def m_d90 : m_M := (m_c90, ⟨"PastHeaps", "pastOf", "(I)LPastHeaps$Past;"⟩, prog_1_method_40_code, 2, (some (.object "PastHeaps$Past")), 1, 1, 21, 1)
def m_d91 : m_M := (m_c91, ⟨"PastHeaps", "did", "(III)I"⟩, prog_1_method_8_code, 5, (some .int), 1, 2, 42, 3)
def m_d92 : m_M := (m_c92, ⟨"PastHeaps", "all", "(IZ)I"⟩, prog_1_method_9_code, 4, (some .int), 1, 2, 42, 2)
def m_d93 : m_M := (m_c93, ⟨"PastHeaps", "count", "()I"⟩, prog_1_method_10_code, 1, (some .int), 1, 0, 0, 0)
def m_d94 : m_M := (m_c94, ⟨"PastHeaps", "image", "(I)Z"⟩, prog_1_method_11_code, 2, (some .boolean), 1, 3, 69, 1)
def m_d95 : m_M := (m_c95, ⟨"PastHeaps$Told", "copyTold", "(LPastHeaps$Told;)V"⟩, prog_8_method_3_code, 3, none, 1, 2, 47, 1)
def m_d96 : m_M := (m_c96, ⟨"PastHeaps", "again", "(I)Z"⟩, prog_1_method_12_code, 3, (some .boolean), 1, 8, 200, 1)
def m_d97 : m_M := (m_c97, ⟨"PastHeaps", "version", "(III)I"⟩, prog_1_method_13_code, 5, (some .int), 1, 3, 73, 3)
def m_d98 : m_M := (m_c98, ⟨"PastHeaps$Shares", "heldByAll", "(LPastHeaps$Nodes;J)I"⟩, prog_7_method_2_code, 6, (some .int), 1, 1, 21, 2)
def m_d99 : m_M := (m_c99, ⟨"PastHeaps$Nodes", "holdersOf", "(I)J"⟩, prog_4_method_6_code, 2, (some .long), 1, 0, 0, 1)
def m_d100 : m_M := (m_c100, ⟨"PastHeaps$Shares", "heldOnlyBy", "(LPastHeaps$Nodes;J)I"⟩, prog_7_method_4_code, 4, (some .int), 1, 2, 50, 2)
def m_d101 : m_M := (m_c101, ⟨"PastHeaps$Shares", "heldWithout", "(LPastHeaps$Nodes;JJ)I"⟩, prog_7_method_5_code, 10, (some .int), 1, 1, 21, 3)
def m_d102 : m_M := (m_c102, ⟨"PastHeaps", "seen", "(LPastHeaps$Past;I)LPastHeaps$Walk;"⟩, prog_1_method_42_code, 3, (some (.object "PastHeaps$Walk")), 1, 2, 49, 2)
def m_d103 : m_M := (m_c103, ⟨"PastHeaps$Walk", "sort", "()V"⟩, prog_9_method_4_code, 3, none, 1, 0, 0, 0)
def m_d104 : m_M := (m_c104, ⟨"PastHeaps$Walk", "middle", "()I"⟩, prog_9_method_7_code, 1, (some .int), 1, 1, 20, 0)
def m_d105 : m_M := (m_c105, ⟨"PastHeaps$Walk", "widestGap", "()I"⟩, prog_9_method_8_code, 3, (some .int), 1, 1, 21, 0)
def m_d106 : m_M := (m_c106, ⟨"PastHeaps$Past", "greatestRank", "(I)I"⟩, prog_5_method_6_code, 4, (some .int), 1, 1, 21, 1)
def m_d107 : m_M := (m_c107, ⟨"PastHeaps", "order", "(IIIZ)I"⟩, prog_1_method_14_code, 7, (some .int), 1, 3, 71, 4)
def m_d108 : m_M := (m_c108, ⟨"PastHeaps", "walk", "(IIII)I"⟩, prog_1_method_15_code, 6, (some .int), 1, 3, 71, 4)
def m_d109 : m_M := (m_c109, ⟨"PastHeaps", "root", "(III)I"⟩, prog_1_method_16_code, 5, (some .int), 1, 2, 42, 3)
def m_d110 : m_M := (m_c110, ⟨"PastHeaps", "depth", "(III)I"⟩, prog_1_method_17_code, 5, (some .int), 1, 3, 71, 3)
def m_d111 : m_M := (m_c111, ⟨"PastHeaps$Walk", "leastDepth", "(I)I"⟩, prog_9_method_6_code, 4, (some .int), 1, 1, 20, 1)
def m_d112 : m_M := (m_c112, ⟨"PastHeaps", "below", "(III)I"⟩, prog_1_method_18_code, 5, (some .int), 1, 3, 71, 3)
def m_d113 : m_M := (m_c113, ⟨"PastHeaps$Walk", "howManyBelow", "(I)I"⟩, prog_9_method_9_code, 4, (some .int), 1, 1, 20, 1)
def m_d114 : m_M := (m_c114, ⟨"PastHeaps", "looked", "(IIIZ)I"⟩, prog_1_method_19_code, 6, (some .int), 1, 3, 71, 4)
def m_d115 : m_M := (m_c115, ⟨"PastHeaps$Walk", "sumOfFirst", "(I)I"⟩, prog_9_method_10_code, 4, (some .int), 1, 1, 20, 1)
def m_d116 : m_M := (m_c116, ⟨"PastHeaps$Walk", "everListed", "(I)I"⟩, prog_9_method_11_code, 5, (some .int), 1, 1, 23, 1)
def m_d117 : m_M := (m_c117, ⟨"PastHeaps$Walk", "list", "(I)I"⟩, prog_9_method_12_code, 4, (some .int), 1, 0, 0, 1)
def m_d118 : m_M := (m_c118, ⟨"PastHeaps$Walk", "leastListed", "()I"⟩, prog_9_method_13_code, 3, (some .int), 1, 0, 0, 0)
def m_d119 : m_M := (m_c119, ⟨"PastHeaps", "twice", "(IIZ)I"⟩, prog_1_method_20_code, 5, (some .int), 1, 3, 71, 3)
def m_d120 : m_M := (m_c120, ⟨"PastHeaps$Lines", "parentsOf", "(I)J"⟩, prog_3_method_4_code, 4, (some .long), 1, 1, 20, 1)
def m_d121 : m_M := (m_c121, ⟨"PastHeaps$Walk", "thingsTwice", "()I"⟩, prog_9_method_14_code, 5, (some .int), 1, 1, 20, 0)
def m_d122 : m_M := (m_c122, ⟨"PastHeaps", "differ", "(III)I"⟩, prog_1_method_21_code, 5, (some .int), 1, 4, 94, 3)
def m_d123 : m_M := (m_c123, ⟨"PastHeaps", "seeBoth", "(LPastHeaps$Past;II)V"⟩, prog_1_method_43_code, 4, none, 1, 3, 71, 3)
def m_d124 : m_M := (m_c124, ⟨"PastHeaps$Walk", "fewestActsTo", "(LPastHeaps$Walk;)I"⟩, prog_9_method_18_code, 8, (some .int), 1, 2, 42, 1)
def m_d125 : m_M := (m_c125, ⟨"PastHeaps$Walk", "keyOfThing", "(I)I"⟩, prog_9_method_17_code, 3, (some .int), 1, 1, 20, 1)
def m_d126 : m_M := (m_c126, ⟨"PastHeaps$Walk", "actsFor", "(IIZ)I"⟩, prog_9_method_19_code, 4, (some .int), 0, 0, 0, 3)
def m_d127 : m_M := (m_c127, ⟨"PastHeaps", "alike", "(IIIZ)Z"⟩, prog_1_method_22_code, 6, (some .boolean), 1, 4, 94, 4)
def m_d128 : m_M := (m_c128, ⟨"PastHeaps$Walk", "walksLike", "(LPastHeaps$Walk;)Z"⟩, prog_9_method_15_code, 4, (some .boolean), 1, 0, 0, 1)
def m_d129 : m_M := (m_c129, ⟨"PastHeaps$Walk", "holdsLike", "(LPastHeaps$Walk;)Z"⟩, prog_9_method_16_code, 4, (some .boolean), 1, 0, 0, 1)
def m_d130 : m_M := (m_c130, ⟨"PastHeaps", "comes", "(III)Z"⟩, prog_1_method_23_code, 5, (some .boolean), 1, 2, 43, 3)
def m_d131 : m_M := (m_c131, ⟨"PastHeaps$Lines", "isFrom", "(II)Z"⟩, prog_3_method_5_code, 3, (some .boolean), 1, 1, 21, 2)
def m_d132 : m_M := (m_c132, ⟨"PastHeaps", "meet", "(IIIZ)I"⟩, prog_1_method_24_code, 6, (some .int), 1, 3, 74, 4)
def m_d133 : m_M := (m_c133, ⟨"PastHeaps$Lines", "fewestActs", "(II)I"⟩, prog_3_method_9_code, 10, (some .int), 1, 2, 45, 2)
def m_d134 : m_M := (m_c134, ⟨"PastHeaps$Lines", "start", "(I)V"⟩, prog_3_method_8_code, 2, none, 1, 1, 24, 1)
def m_d135 : m_M := (m_c135, ⟨"java/util/Arrays", "fill", "([JJ)V"⟩, prog_20_method_101_code, 5, none, 0, 0, 0, 2)
def m_d136 : m_M := (m_c136, ⟨"PastHeaps$Lines", "tallyOf", "(I)J"⟩, prog_3_method_7_code, 2, (some .long), 1, 0, 0, 1)
def m_d137 : m_M := (m_c137, ⟨"java/lang/Math", "max", "(JJ)J"⟩, prog_15_method_66_code, 4, (some .long), 0, 0, 0, 2)
def m_d138 : m_M := (m_c138, ⟨"java/lang/Math", "min", "(JJ)J"⟩, prog_15_method_70_code, 4, (some .long), 0, 0, 0, 2)
def m_d139 : m_M := (m_c139, ⟨"PastHeaps$Lines", "lastCommon", "(II)I"⟩, prog_3_method_6_code, 3, (some .int), 1, 2, 43, 2)
def m_d140 : m_M := (m_c140, ⟨"PastHeaps", "lastOf", "(J)I"⟩, prog_1_method_46_code, 4, (some .int), 0, 1, 20, 1)
def m_d141 : m_M := (m_c141, ⟨"PastHeaps", "way", "(IIIZ)J"⟩, prog_1_method_25_code, 6, (some .long), 1, 3, 71, 4)
def m_d142 : m_M := (m_c142, ⟨"PastHeaps$Lines", "howManyWays", "(II)J"⟩, prog_3_method_11_code, 4, (some .long), 1, 2, 45, 2)
def m_d143 : m_M := (m_c143, ⟨"PastHeaps$Lines", "mostLinks", "(II[I)J"⟩, prog_3_method_10_code, 7, (some .long), 1, 2, 45, 3)
def m_d144 : m_M := (m_c144, ⟨"PastHeaps", "over", "(II)I"⟩, prog_1_method_26_code, 4, (some .int), 1, 2, 42, 2)
def m_d145 : m_M := (m_c145, ⟨"PastHeaps$Past", "firstPaidAbove", "(I)I"⟩, prog_5_method_16_code, 3, (some .int), 1, 0, 0, 1)
def m_d146 : m_M := (m_c146, ⟨"PastHeaps", "shared", "(III)I"⟩, prog_1_method_27_code, 5, (some .int), 1, 2, 46, 3)
def m_d147 : m_M := (m_c147, ⟨"PastHeaps", "tallest", "(III)I"⟩, prog_1_method_28_code, 5, (some .int), 1, 2, 46, 3)
def m_d148 : m_M := (m_c148, ⟨"PastHeaps$Shares", "greatestRank", "(LPastHeaps$Nodes;J)I"⟩, prog_7_method_6_code, 6, (some .int), 1, 1, 21, 2)
def m_d149 : m_M := (m_c149, ⟨"PastHeaps", "kept", "(IJZ)I"⟩, prog_1_method_29_code, 7, (some .int), 1, 2, 46, 3)
def m_d150 : m_M := (m_c150, ⟨"PastHeaps$Past", "hasAll", "(J)Z"⟩, prog_5_method_3_code, 3, (some .boolean), 1, 1, 20, 1)
def m_d151 : m_M := (m_c151, ⟨"PastHeaps$Shares", "heldByAny", "(LPastHeaps$Nodes;J)I"⟩, prog_7_method_3_code, 6, (some .int), 1, 1, 21, 2)
def m_d152 : m_M := (m_c152, ⟨"PastHeaps", "heavy", "(IJ)I"⟩, prog_1_method_30_code, 5, (some .int), 1, 3, 69, 2)
def m_d153 : m_M := (m_c153, ⟨"PastHeaps$Shares", "heaviest", "(LPastHeaps$Nodes;J)I"⟩, prog_7_method_7_code, 8, (some .int), 1, 2, 42, 2)
def m_d154 : m_M := (m_c154, ⟨"PastHeaps", "firstOf", "(J)I"⟩, prog_1_method_45_code, 2, (some .int), 0, 1, 21, 1)
def m_d155 : m_M := (m_c155, ⟨"java/lang/Long", "bitCount", "(J)I"⟩, prog_14_method_50_code, 2, (some .int), 0, 0, 0, 1)
def m_d156 : m_M := (m_c156, ⟨"PastHeaps", "cover", "(IJ)J"⟩, prog_1_method_31_code, 5, (some .long), 1, 3, 72, 2)
def m_d157 : m_M := (m_c157, ⟨"PastHeaps$Shares", "fewestKeeping", "(LPastHeaps$Nodes;J)J"⟩, prog_7_method_12_code, 7, (some .long), 1, 2, 46, 2)
def m_d158 : m_M := (m_c158, ⟨"PastHeaps$Shares", "choose", "(J)V"⟩, prog_7_method_8_code, 4, none, 1, 1, 23, 1)
def m_d159 : m_M := (m_c159, ⟨"PastHeaps$Shares", "packed", "(J)I"⟩, prog_7_method_9_code, 5, (some .int), 1, 0, 0, 1)
def m_d160 : m_M := (m_c160, ⟨"PastHeaps$Shares", "sumBelow", "()V"⟩, prog_7_method_11_code, 3, none, 1, 0, 0, 0)
def m_d161 : m_M := (m_c161, ⟨"PastHeaps$Shares", "unpacked", "(I)J"⟩, prog_7_method_10_code, 5, (some .long), 1, 1, 20, 1)
def m_d162 : m_M := (m_c162, ⟨"PastHeaps", "forget", "(IJI)J"⟩, prog_1_method_32_code, 6, (some .long), 1, 3, 73, 3)
def m_d163 : m_M := (m_c163, ⟨"PastHeaps$Shares", "fewestGiving", "(LPastHeaps$Nodes;JI)J"⟩, prog_7_method_13_code, 8, (some .long), 1, 2, 46, 3)
def m_d164 : m_M := (m_c164, ⟨"PastHeaps", "age", "(IIZ)I"⟩, prog_1_method_33_code, 7, (some .int), 1, 2, 46, 3)
def m_d165 : m_M := (m_c165, ⟨"PastHeaps$Shares", "versionsWith", "(LPastHeaps$Nodes;I)J"⟩, prog_7_method_14_code, 6, (some .long), 1, 1, 21, 2)
def m_d166 : m_M := (m_c166, ⟨"PastHeaps", "lowest", "(II)I"⟩, prog_1_method_34_code, 4, (some .int), 1, 2, 47, 2)
def m_d167 : m_M := (m_c167, ⟨"PastHeaps$Shares", "leastKeyOf", "(LPastHeaps$Nodes;I)I"⟩, prog_7_method_15_code, 7, (some .int), 1, 1, 21, 2)
def m_d168 : m_M := (m_c168, ⟨"PastHeaps", "would", "(IIIIIZ)I"⟩, prog_1_method_35_code, 10, (some .int), 1, 8, 205, 6)
def m_d169 : m_M := (m_c169, ⟨"PastHeaps$Past", "wouldMake", "(IIIIZ)I"⟩, prog_5_method_17_code, 10, (some .int), 1, 7, 176, 5)
def m_d170 : m_M := (m_c170, ⟨"PastHeaps", "fold", "(IJI)I"⟩, prog_1_method_36_code, 8, (some .int), 1, 8, 203, 3)
def m_d171 : m_M := (m_c171, ⟨"PastHeaps$Past", "sizeTogether", "(J)I"⟩, prog_5_method_18_code, 5, (some .int), 1, 1, 20, 1)
def m_d172 : m_M := (m_c172, ⟨"PastHeaps$Past", "bestFold", "(JI)I"⟩, prog_5_method_19_code, 9, (some .int), 1, 7, 175, 2)
def m_d173 : m_M := (m_c173, ⟨"PastHeaps$Past", "foldedMakes", "(I)I"⟩, prog_5_method_20_code, 5, (some .int), 1, 6, 151, 1)
def m_d174 : m_M := (m_c174, ⟨"PastHeaps$Past", "nextTurn", "(I)Z"⟩, prog_5_method_21_code, 6, (some .boolean), 1, 1, 23, 1)
def m_d175 : m_M := (m_c175, ⟨"PastHeaps$Past", "swapTurns", "(II)V"⟩, prog_5_method_22_code, 4, none, 1, 0, 0, 2)
def m_d176 : m_M := (m_c176, ⟨"PastHeaps", "dearest", "(IZ)I"⟩, prog_1_method_37_code, 4, (some .int), 1, 4, 90, 2)
def m_d177 : m_M := (m_c177, ⟨"PastHeaps$Past", "dearestOf", "(Z)I"⟩, prog_5_method_23_code, 8, (some .int), 1, 3, 63, 1)
def m_d178 : m_M := (m_c178, ⟨"PastHeaps", "drawn", "(IIIII)I"⟩, prog_1_method_38_code, 7, (some .int), 1, 7, 179, 5)
def m_d179 : m_M := (m_c179, ⟨"PastHeaps$Past", "drawFrom", "(IIII)I"⟩, prog_5_method_25_code, 9, (some .int), 1, 6, 151, 4)
def m_d180 : m_M := (m_c180, ⟨"PastHeaps$Past", "drawBelow", "(I)I"⟩, prog_5_method_24_code, 2, (some .int), 1, 0, 0, 1)
def m_d181 : m_M := (m_c181, ⟨"PastHeaps$Past", "drawnAnswer", "(II)I"⟩, prog_5_method_26_code, 3, (some .int), 1, 3, 66, 2)
def m_d182 : m_M := (m_c182, ⟨"PastHeapsModel", "<init>", "()V"⟩, prog_11_method_1_code, 1, none, 2, 1, 20, 0)
def m_d183 : m_M := (m_c183, ⟨"PastHeapsModel", "feed", "(IIIII)I"⟩, prog_11_method_8_code, 6, (some .int), 1, 1, 22, 5)
def m_d184 : m_M := (m_c184, ⟨"PastHeapsModel", "four", "(I)V"⟩, prog_11_method_9_code, 3, none, 1, 0, 0, 1)
def m_d185 : m_M := (m_c185, ⟨"PastHeapsModel", "end", "(I)I"⟩, prog_11_method_10_code, 2, (some .int), 1, 1, 22, 1)
def m_d186 : m_M := (m_c186, ⟨"PastHeapsModel", "in", "(III)Z"⟩, prog_11_method_3_code, 3, (some .boolean), 0, 0, 0, 3)
def m_d187 : m_M := (m_c187, ⟨"PastHeapsModel", "text", "(I)I"⟩, prog_11_method_18_code, 4, (some .int), 1, 5, 112, 1)
def m_d188 : m_M := (m_c188, ⟨"PastHeapsModel", "isRow", "(I)Z"⟩, prog_11_method_7_code, 2, (some .boolean), 1, 1, 22, 1)
def m_d189 : m_M := (m_c189, ⟨"PastHeapsModel", "readText", "()Z"⟩, prog_11_method_17_code, 2, (some .boolean), 1, 4, 91, 0)
def m_d190 : m_M := (m_c190, ⟨"PastHeapsModel", "token", "()V"⟩, prog_11_method_12_code, 3, none, 1, 1, 22, 0)
def m_d191 : m_M := (m_c191, ⟨"PastHeapsModel", "see", "()I"⟩, prog_11_method_11_code, 1, (some .int), 1, 0, 0, 0)
def m_d192 : m_M := (m_c192, ⟨"PastHeapsModel", "actLine", "(I)Z"⟩, prog_11_method_16_code, 6, (some .boolean), 1, 3, 66, 1)
def m_d193 : m_M := (m_c193, ⟨"PastHeapsModel", "stops", "()Z"⟩, prog_11_method_13_code, 1, (some .boolean), 1, 0, 0, 0)
def m_d194 : m_M := (m_c194, ⟨"PastHeapsModel", "later", "(II)V"⟩, prog_11_method_14_code, 3, none, 1, 0, 0, 2)
def m_d195 : m_M := (m_c195, ⟨"PastHeapsModel", "take", "(II)Z"⟩, prog_11_method_15_code, 3, (some .boolean), 1, 2, 44, 2)
def m_d196 : m_M := (m_c196, ⟨"PastHeapsModel", "fault", "(I)I"⟩, prog_11_method_19_code, 2, (some .int), 1, 0, 0, 1)
def m_d197 : m_M := (m_c197, ⟨"PastHeapsModel", "act", "(III)I"⟩, prog_11_method_22_code, 4, (some .int), 1, 2, 43, 3)
def m_d198 : m_M := (m_c198, ⟨"PastHeapsModel", "actsOf", "(I)I"⟩, prog_11_method_20_code, 2, (some .int), 1, 0, 0, 1)
def m_d199 : m_M := (m_c199, ⟨"PastHeapsModel", "actOf", "(III)I"⟩, prog_11_method_21_code, 4, (some .int), 1, 0, 0, 3)
def m_d200 : m_M := (m_c200, ⟨"PastHeapsModel", "stop", "(I)I"⟩, prog_11_method_49_code, 2, (some .int), 1, 7, 172, 1)
def m_d201 : m_M := (m_c201, ⟨"PastHeapsModel", "lay", "(I)Z"⟩, prog_11_method_44_code, 7, (some .boolean), 1, 6, 146, 1)
def m_d202 : m_M := (m_c202, ⟨"PastHeapsModel", "empty", "()V"⟩, prog_11_method_40_code, 2, none, 1, 0, 0, 0)
def m_d203 : m_M := (m_c203, ⟨"PastHeapsModel", "keep", "(II)V"⟩, prog_11_method_38_code, 4, none, 1, 0, 0, 2)
def m_d204 : m_M := (m_c204, ⟨"PastHeapsModel", "does", "(IIII)Z"⟩, prog_11_method_43_code, 5, (some .boolean), 1, 5, 122, 4)
def m_d205 : m_M := (m_c205, ⟨"PastHeapsModel", "isVersion", "(I)Z"⟩, prog_11_method_39_code, 2, (some .boolean), 1, 1, 22, 1)
def m_d206 : m_M := (m_c206, ⟨"PastHeapsModel", "melds", "(II)Z"⟩, prog_11_method_42_code, 4, (some .boolean), 1, 3, 76, 2)
def m_d207 : m_M := (m_c207, ⟨"PastHeapsModel", "sizeAt", "(I)I"⟩, prog_11_method_41_code, 4, (some .int), 1, 0, 0, 1)
def m_d208 : m_M := (m_c208, ⟨"PastHeapsModel", "hand", "(I)V"⟩, prog_11_method_37_code, 3, none, 1, 0, 0, 1)
def m_d209 : m_M := (m_c209, ⟨"PastHeapsModel", "meld", "()V"⟩, prog_11_method_26_code, 8, none, 1, 2, 49, 0)
def m_d210 : m_M := (m_c210, ⟨"PastHeapsModel", "link", "(II)I"⟩, prog_11_method_25_code, 7, (some .int), 1, 1, 23, 2)
def m_d211 : m_M := (m_c211, ⟨"PastHeapsModel", "isLesser", "(II)Z"⟩, prog_11_method_24_code, 3, (some .boolean), 1, 0, 0, 2)
def m_d212 : m_M := (m_c212, ⟨"PastHeapsModel", "make", "(III)I"⟩, prog_11_method_23_code, 4, (some .int), 1, 0, 0, 3)
def m_d213 : m_M := (m_c213, ⟨"PastHeapsModel", "puts", "(I)Z"⟩, prog_11_method_30_code, 2, (some .boolean), 1, 3, 76, 1)
def m_d214 : m_M := (m_c214, ⟨"PastHeapsModel", "sizeOf", "()I"⟩, prog_11_method_27_code, 3, (some .int), 1, 0, 0, 0)
def m_d215 : m_M := (m_c215, ⟨"PastHeapsModel", "clear", "()V"⟩, prog_11_method_29_code, 2, none, 1, 0, 0, 0)
def m_d216 : m_M := (m_c216, ⟨"PastHeapsModel", "lessens", "()Z"⟩, prog_11_method_31_code, 4, (some .boolean), 1, 3, 76, 0)
def m_d217 : m_M := (m_c217, ⟨"PastHeapsModel", "least", "()I"⟩, prog_11_method_28_code, 3, (some .int), 1, 1, 22, 0)
def m_d218 : m_M := (m_c218, ⟨"PastHeapsModel", "lowers", "(II)Z"⟩, prog_11_method_35_code, 7, (some .boolean), 1, 2, 48, 2)
def m_d219 : m_M := (m_c219, ⟨"PastHeapsModel", "walkAll", "()V"⟩, prog_11_method_33_code, 2, none, 1, 1, 24, 0)
def m_d220 : m_M := (m_c220, ⟨"PastHeapsModel", "walkTree", "(I)V"⟩, prog_11_method_34_code, 5, none, 1, 0, 0, 1)
def m_d221 : m_M := (m_c221, ⟨"PastHeapsModel", "renew", "(I)V"⟩, prog_11_method_36_code, 6, none, 1, 1, 23, 1)
def m_d222 : m_M := (m_c222, ⟨"PastHeapsModel", "cuts", "(I)Z"⟩, prog_11_method_32_code, 4, (some .boolean), 1, 4, 99, 1)
def m_d223 : m_M := (m_c223, ⟨"PastHeapsModel", "did", "(III)I"⟩, prog_11_method_51_code, 4, (some .int), 1, 7, 172, 3)
def m_d224 : m_M := (m_c224, ⟨"PastHeapsModel", "paid", "(I)I"⟩, prog_11_method_50_code, 3, (some .int), 1, 1, 23, 1)
def m_d225 : m_M := (m_c225, ⟨"PastHeapsModel", "credit", "(I)I"⟩, prog_11_method_48_code, 4, (some .int), 1, 0, 0, 1)
def m_d226 : m_M := (m_c226, ⟨"PastHeapsModel", "all", "(IZ)I"⟩, prog_11_method_52_code, 3, (some .int), 1, 7, 172, 2)
def m_d227 : m_M := (m_c227, ⟨"PastHeapsModel", "version", "(III)I"⟩, prog_11_method_57_code, 4, (some .int), 1, 8, 194, 3)
def m_d228 : m_M := (m_c228, ⟨"PastHeapsModel", "layOne", "(II)Z"⟩, prog_11_method_45_code, 3, (some .boolean), 1, 7, 172, 2)
def m_d229 : m_M := (m_c229, ⟨"PastHeapsModel", "hold", "()V"⟩, prog_11_method_47_code, 3, none, 1, 2, 45, 0)
def m_d230 : m_M := (m_c230, ⟨"PastHeapsModel", "sortAll", "(I)V"⟩, prog_11_method_53_code, 6, none, 1, 2, 45, 1)
def m_d231 : m_M := (m_c231, ⟨"PastHeapsModel", "holds", "(IJ)I"⟩, prog_11_method_54_code, 6, (some .int), 1, 1, 22, 2)
def m_d232 : m_M := (m_c232, ⟨"PastHeapsModel", "has", "(JI)Z"⟩, prog_11_method_4_code, 3, (some .boolean), 0, 0, 0, 2)
def m_d233 : m_M := (m_c233, ⟨"PastHeapsModel", "gap", "()I"⟩, prog_11_method_55_code, 3, (some .int), 1, 0, 0, 0)
def m_d234 : m_M := (m_c234, ⟨"PastHeapsModel", "greatestRank", "(I)I"⟩, prog_11_method_56_code, 4, (some .int), 1, 0, 0, 1)
def m_d235 : m_M := (m_c235, ⟨"PastHeapsModel", "order", "(IIIZ)I"⟩, prog_11_method_58_code, 5, (some .int), 1, 8, 194, 4)
def m_d236 : m_M := (m_c236, ⟨"PastHeapsModel", "walk", "(IIII)I"⟩, prog_11_method_59_code, 6, (some .int), 1, 8, 194, 4)
def m_d237 : m_M := (m_c237, ⟨"PastHeapsModel", "root", "(III)I"⟩, prog_11_method_60_code, 4, (some .int), 1, 8, 194, 3)
def m_d238 : m_M := (m_c238, ⟨"PastHeapsModel", "depth", "(III)I"⟩, prog_11_method_61_code, 6, (some .int), 1, 8, 194, 3)
def m_d239 : m_M := (m_c239, ⟨"PastHeapsModel", "comes", "(III)Z"⟩, prog_11_method_62_code, 4, (some .boolean), 1, 8, 195, 3)
def m_d240 : m_M := (m_c240, ⟨"PastHeapsModel", "layTwo", "(III)Z"⟩, prog_11_method_46_code, 4, (some .boolean), 1, 7, 172, 3)
def m_d241 : m_M := (m_c241, ⟨"PastHeapsModel", "meet", "(IIIZ)I"⟩, prog_11_method_64_code, 7, (some .int), 1, 8, 195, 4)
def m_d242 : m_M := (m_c242, ⟨"PastHeapsModel", "awayOf", "(II)I"⟩, prog_11_method_63_code, 5, (some .int), 1, 0, 0, 2)
def m_d243 : m_M := (m_c243, ⟨"PastHeapsModel", "shared", "(III)I"⟩, prog_11_method_65_code, 6, (some .int), 1, 8, 195, 3)
def m_d244 : m_M := (m_c244, ⟨"PastHeapsModel", "kept", "(IJZ)I"⟩, prog_11_method_68_code, 5, (some .int), 1, 7, 172, 3)
def m_d245 : m_M := (m_c245, ⟨"PastHeapsModel", "areVersions", "(J)Z"⟩, prog_11_method_66_code, 3, (some .boolean), 1, 0, 0, 1)
def m_d246 : m_M := (m_c246, ⟨"PastHeapsModel", "keptBy", "(J)I"⟩, prog_11_method_67_code, 5, (some .int), 1, 0, 0, 1)
def m_d247 : m_M := (m_c247, ⟨"PastHeapsModel", "heavy", "(IJ)I"⟩, prog_11_method_69_code, 8, (some .int), 1, 7, 172, 2)
def m_d248 : m_M := (m_c248, ⟨"PastHeapsModel", "cover", "(IJ)J"⟩, prog_11_method_74_code, 6, (some .long), 1, 7, 172, 2)
def m_d249 : m_M := (m_c249, ⟨"PastHeapsModel", "list", "(J)Z"⟩, prog_11_method_70_code, 4, (some .boolean), 1, 1, 22, 1)
def m_d250 : m_M := (m_c250, ⟨"PastHeapsModel", "bitsOf", "(I)I"⟩, prog_11_method_72_code, 3, (some .int), 0, 1, 22, 1)
def m_d251 : m_M := (m_c251, ⟨"PastHeapsModel", "setOf", "(I)J"⟩, prog_11_method_71_code, 5, (some .long), 1, 1, 22, 1)
def m_d252 : m_M := (m_c252, ⟨"PastHeapsModel", "covers", "(J)Z"⟩, prog_11_method_73_code, 4, (some .boolean), 1, 0, 0, 1)
def m_d253 : m_M := (m_c253, ⟨"PastHeapsModel", "differ", "(III)I"⟩, prog_11_method_83_code, 7, (some .int), 1, 8, 195, 3)
def m_d254 : m_M := (m_c254, ⟨"PastHeapsModel", "hasTwice", "()Z"⟩, prog_11_method_75_code, 3, (some .boolean), 1, 0, 0, 0)
def m_d255 : m_M := (m_c255, ⟨"PastHeapsModel", "fewestSteps", "()I"⟩, prog_11_method_82_code, 7, (some .int), 1, 2, 47, 0)
def m_d256 : m_M := (m_c256, ⟨"PastHeapsModel", "with", "(III)I"⟩, prog_11_method_77_code, 3, (some .int), 0, 0, 0, 3)
def m_d257 : m_M := (m_c257, ⟨"PastHeapsModel", "comesTo", "(II)V"⟩, prog_11_method_81_code, 3, none, 1, 0, 0, 2)
def m_d258 : m_M := (m_c258, ⟨"PastHeapsModel", "isThere", "(I)Z"⟩, prog_11_method_79_code, 4, (some .boolean), 1, 1, 22, 1)
def m_d259 : m_M := (m_c259, ⟨"PastHeapsModel", "digit", "(II)I"⟩, prog_11_method_76_code, 2, (some .int), 0, 0, 0, 2)
def m_d260 : m_M := (m_c260, ⟨"PastHeapsModel", "keyOf", "(II)I"⟩, prog_11_method_78_code, 3, (some .int), 1, 0, 0, 2)
def m_d261 : m_M := (m_c261, ⟨"PastHeapsModel", "lessOf", "(I)I"⟩, prog_11_method_80_code, 6, (some .int), 1, 1, 22, 1)
def m_d262 : m_M := (m_c262, ⟨"PastHeapsModel", "alike", "(IIIZ)Z"⟩, prog_11_method_85_code, 6, (some .boolean), 1, 8, 195, 4)
def m_d263 : m_M := (m_c263, ⟨"PastHeapsModel", "isAsOther", "(IZ)Z"⟩, prog_11_method_84_code, 6, (some .boolean), 1, 0, 0, 2)
def m_d264 : m_M := (m_c264, ⟨"PastHeapsModel", "would", "(IIIIIZ)I"⟩, prog_11_method_86_code, 9, (some .int), 1, 8, 194, 6)
def m_d265 : m_M := (m_c265, ⟨"PastHeapsModel", "fold", "(IJI)I"⟩, prog_11_method_90_code, 12, (some .int), 1, 7, 172, 3)
def m_d266 : m_M := (m_c266, ⟨"PastHeapsModel", "isTurn", "(I)Z"⟩, prog_11_method_88_code, 5, (some .boolean), 1, 0, 0, 1)
def m_d267 : m_M := (m_c267, ⟨"PastHeapsModel", "madeBehind", "()I"⟩, prog_11_method_89_code, 3, (some .int), 1, 4, 99, 0)
def m_d268 : m_M := (m_c268, ⟨"PastHeapsModel", "dearest", "(IZ)I"⟩, prog_11_method_91_code, 9, (some .int), 1, 7, 172, 2)
def m_d269 : m_M := (m_c269, ⟨"PastHeapsModel", "ones", "(I)I"⟩, prog_11_method_87_code, 3, (some .int), 0, 1, 22, 1)
def m_d270 : m_M := (m_c270, ⟨"PastHeapsModel", "below", "(III)I"⟩, prog_11_method_92_code, 5, (some .int), 1, 8, 194, 3)
def m_d271 : m_M := (m_c271, ⟨"PastHeapsModel", "age", "(IIZ)I"⟩, prog_11_method_94_code, 6, (some .int), 1, 7, 172, 3)
def m_d272 : m_M := (m_c272, ⟨"PastHeapsModel", "leastKey", "(II)I"⟩, prog_11_method_93_code, 4, (some .int), 1, 3, 70, 2)
def m_d273 : m_M := (m_c273, ⟨"PastHeapsModel", "lowest", "(II)I"⟩, prog_11_method_95_code, 6, (some .int), 1, 7, 172, 2)
def m_d274 : m_M := (m_c274, ⟨"PastHeapsModel", "over", "(II)I"⟩, prog_11_method_96_code, 4, (some .int), 1, 7, 172, 2)
def m_d275 : m_M := (m_c275, ⟨"PastHeapsModel", "drawn", "(IIIII)I"⟩, prog_11_method_98_code, 9, (some .int), 1, 8, 194, 5)
def m_d276 : m_M := (m_c276, ⟨"PastHeapsModel", "draw", "(I)I"⟩, prog_11_method_97_code, 2, (some .int), 1, 0, 0, 1)
def m_d277 : m_M := (m_c277, ⟨"PastHeapsModel", "looked", "(IIIZ)I"⟩, prog_11_method_101_code, 7, (some .int), 1, 8, 194, 4)
def m_d278 : m_M := (m_c278, ⟨"PastHeapsModel", "lookedFor", "(I)I"⟩, prog_11_method_100_code, 5, (some .int), 1, 2, 44, 1)
def m_d279 : m_M := (m_c279, ⟨"PastHeapsModel", "nextOnList", "()I"⟩, prog_11_method_99_code, 3, (some .int), 1, 1, 22, 0)
def m_d280 : m_M := (m_c280, ⟨"PastHeapsModel", "way", "(IIIZ)J"⟩, prog_11_method_103_code, 6, (some .long), 1, 8, 195, 4)
def m_d281 : m_M := (m_c281, ⟨"PastHeapsModel", "waysTo", "(II)V"⟩, prog_11_method_102_code, 5, none, 1, 0, 0, 2)
def m_d282 : m_M := (m_c282, ⟨"PastHeapsModel", "twice", "(IIZ)I"⟩, prog_11_method_105_code, 6, (some .int), 1, 8, 194, 3)
def m_d283 : m_M := (m_c283, ⟨"PastHeapsModel", "twiceIn", "()I"⟩, prog_11_method_104_code, 7, (some .int), 1, 0, 0, 0)
def m_d284 : m_M := (m_c284, ⟨"PastHeapsModel", "tallest", "(III)I"⟩, prog_11_method_106_code, 6, (some .int), 1, 8, 195, 3)
def m_d285 : m_M := (m_c285, ⟨"PastHeapsModel", "forget", "(IJI)J"⟩, prog_11_method_107_code, 8, (some .long), 1, 7, 172, 3)
def m_d286 : m_M := (m_c286, ⟨"PastHeapsModel", "lostBy", "(J)I"⟩, prog_11_method_108_code, 5, (some .int), 1, 0, 0, 1)
def m_d287 : m_M := (m_c287, ⟨"PastHeapsModel", "count", "()I"⟩, prog_11_method_109_code, 1, (some .int), 1, 0, 0, 0)
def m_d288 : m_M := (m_c288, ⟨"PastHeapsModel", "image", "(I)Z"⟩, prog_11_method_110_code, 2, (some .boolean), 1, 2, 47, 1)
def m_d289 : m_M := (m_c289, ⟨"PastHeapsModel", "copyAll", "(II)V"⟩, prog_11_method_6_code, 4, none, 1, 1, 24, 2)
def m_d290 : m_M := (m_c290, ⟨"PastHeapsModel", "copyRow", "([IIII)V"⟩, prog_11_method_5_code, 5, none, 0, 0, 0, 4)
def m_d291 : m_M := (m_c291, ⟨"PastHeapsModel", "again", "(I)Z"⟩, prog_11_method_111_code, 2, (some .boolean), 1, 2, 47, 1)
def m_meths_0 : List (m_M) := [m_d0, m_d1, m_d2, m_d3, m_d4, m_d5, m_d6, m_d7, m_d8, m_d9, m_d10, m_d11, m_d12, m_d13, m_d14, m_d15, m_d16, m_d17, m_d18, m_d19, m_d20, m_d21, m_d22, m_d23]
def m_meths_1 : List (m_M) := [m_d24, m_d25, m_d26, m_d27, m_d28, m_d29, m_d30, m_d31, m_d32, m_d33, m_d34, m_d35, m_d36, m_d37, m_d38, m_d39, m_d40, m_d41, m_d42, m_d43, m_d44, m_d45, m_d46, m_d47]
def m_meths_2 : List (m_M) := [m_d48, m_d49, m_d50, m_d51, m_d52, m_d53, m_d54, m_d55, m_d56, m_d57, m_d58, m_d59, m_d60, m_d61, m_d62, m_d63, m_d64, m_d65, m_d66, m_d67, m_d68, m_d69, m_d70, m_d71]
def m_meths_3 : List (m_M) := [m_d72, m_d73, m_d74, m_d75, m_d76, m_d77, m_d78, m_d79, m_d80, m_d81, m_d82, m_d83, m_d84, m_d85, m_d86, m_d87, m_d88, m_d89, m_d90, m_d91, m_d92, m_d93, m_d94, m_d95]
def m_meths_4 : List (m_M) := [m_d96, m_d97, m_d98, m_d99, m_d100, m_d101, m_d102, m_d103, m_d104, m_d105, m_d106, m_d107, m_d108, m_d109, m_d110, m_d111, m_d112, m_d113, m_d114, m_d115, m_d116, m_d117, m_d118, m_d119]
def m_meths_5 : List (m_M) := [m_d120, m_d121, m_d122, m_d123, m_d124, m_d125, m_d126, m_d127, m_d128, m_d129, m_d130, m_d131, m_d132, m_d133, m_d134, m_d135, m_d136, m_d137, m_d138, m_d139, m_d140, m_d141, m_d142, m_d143]
def m_meths_6 : List (m_M) := [m_d144, m_d145, m_d146, m_d147, m_d148, m_d149, m_d150, m_d151, m_d152, m_d153, m_d154, m_d155, m_d156, m_d157, m_d158, m_d159, m_d160, m_d161, m_d162, m_d163, m_d164, m_d165, m_d166, m_d167]
def m_meths_7 : List (m_M) := [m_d168, m_d169, m_d170, m_d171, m_d172, m_d173, m_d174, m_d175, m_d176, m_d177, m_d178, m_d179, m_d180, m_d181, m_d182, m_d183, m_d184, m_d185, m_d186, m_d187, m_d188, m_d189, m_d190, m_d191]
def m_meths_8 : List (m_M) := [m_d192, m_d193, m_d194, m_d195, m_d196, m_d197, m_d198, m_d199, m_d200, m_d201, m_d202, m_d203, m_d204, m_d205, m_d206, m_d207, m_d208, m_d209, m_d210, m_d211, m_d212, m_d213, m_d214, m_d215]
def m_meths_9 : List (m_M) := [m_d216, m_d217, m_d218, m_d219, m_d220, m_d221, m_d222, m_d223, m_d224, m_d225, m_d226, m_d227, m_d228, m_d229, m_d230, m_d231, m_d232, m_d233, m_d234, m_d235, m_d236, m_d237, m_d238, m_d239]
def m_meths_10 : List (m_M) := [m_d240, m_d241, m_d242, m_d243, m_d244, m_d245, m_d246, m_d247, m_d248, m_d249, m_d250, m_d251, m_d252, m_d253, m_d254, m_d255, m_d256, m_d257, m_d258, m_d259, m_d260, m_d261, m_d262, m_d263]
def m_meths_11 : List (m_M) := [m_d264, m_d265, m_d266, m_d267, m_d268, m_d269, m_d270, m_d271, m_d272, m_d273, m_d274, m_d275, m_d276, m_d277, m_d278, m_d279, m_d280, m_d281, m_d282, m_d283, m_d284, m_d285, m_d286, m_d287]
def m_meths_12 : List (m_M) := [m_d288, m_d289, m_d290, m_d291]
def m_meths : List (m_M) := m_meths_0 ++ (m_meths_1 ++ (m_meths_2 ++ (m_meths_3 ++ (m_meths_4 ++ (m_meths_5 ++ (m_meths_6 ++ (m_meths_7 ++ (m_meths_8 ++ (m_meths_9 ++ (m_meths_10 ++ (m_meths_11 ++ (m_meths_12))))))))))))
-- method links: owner, entry, by nest, the method (900: Object.<init>, 901: System.arraycopy)
-- field links: owner, entry, by nest, the owner of the field (39: String), its place
def m_own : List String := ["PastHeapsLaw", "PastHeaps", "PastHeaps$Told", "PastHeaps$Acts", "PastHeaps$Reader", "PastHeaps$Walk", "PastHeaps$Shares", "java/lang/Math", "java/lang/String", "java/lang/StringLatin1", "jdk/internal/util/Preconditions", "java/lang/StringUTF16", "java/util/Arrays", "PastHeaps$Past", "PastHeaps$Nodes", "PastHeaps$Lines", "java/lang/Integer", "java/lang/Long", "PastHeapsModel"]
def m_ownL : List Nat := [0, 1, 2, 3, 4, 5, 6, 1, 2, 1, 1, 1, 4, 7, 3, 4, 4, 4, 4, 4, 4, 8, 8, 8, 8, 9, 8, 10, 11, 11, 11, 11, 4, 4, 4, 4, 3, 12, 12, 3, 3, 1, 13, 14, 15, 13, 14, 7, 12, 13, 13, 15, 1, 15, 3, 3, 13, 13, 13, 13, 1, 14, 12, 12, 14, 14, 14, 14, 14, 14, 13, 14, 14, 14, 5, 5, 5, 1, 1, 14, 14, 13, 16, 13, 13, 13, 14, 1, 1, 1, 1, 1, 1, 1, 1, 2, 1, 1, 6, 14, 6, 6, 1, 5, 5, 5, 13, 1, 1, 1, 1, 5, 1, 5, 1, 5, 5, 5, 5, 1, 15, 5, 1, 1, 5, 5, 5, 1, 5, 5, 1, 15, 1, 15, 15, 12, 15, 7, 7, 15, 1, 1, 15, 15, 1, 13, 1, 1, 6, 1, 13, 6, 1, 6, 1, 17, 1, 6, 6, 6, 6, 6, 1, 6, 1, 6, 1, 6, 1, 13, 1, 13, 13, 13, 13, 13, 1, 13, 1, 13, 13, 13, 18, 18, 18, 18, 18, 18, 18, 18, 18, 18, 18, 18, 18, 18, 18, 18, 18, 18, 18, 18, 18, 18, 18, 18, 18, 18, 18, 18, 18, 18, 18, 18, 18, 18, 18, 18, 18, 18, 18, 18, 18, 18, 18, 18, 18, 18, 18, 18, 18, 18, 18, 18, 18, 18, 18, 18, 18, 18, 18, 18, 18, 18, 18, 18, 18, 18, 18, 18, 18, 18, 18, 18, 18, 18, 18, 18, 18, 18, 18, 18, 18, 18, 18, 18, 18, 18, 18, 18, 18, 18, 18, 18, 18, 18, 18, 18, 18, 18, 18, 18, 18, 18, 18, 18, 18, 18, 18, 18, 18, 18]
def m_mlk_0 : List (Nat × Nat × Nat) := [(9, 0, 1), (12, 0, 182), (13, 0, 7), (17, 0, 183), (18, 0, 9), (22, 0, 185), (23, 0, 10), (26, 0, 187), (27, 0, 87), (30, 0, 196), (31, 0, 88), (35, 0, 197), (36, 0, 89), (39, 0, 200), (40, 0, 91), (43, 0, 223), (44, 0, 92), (48, 0, 226), (49, 0, 97), (52, 0, 227), (53, 0, 107), (57, 0, 235), (58, 0, 108), (62, 0, 236), (63, 0, 109), (66, 0, 237), (67, 0, 110), (70, 0, 238), (71, 0, 130), (75, 0, 239), (76, 0, 132), (79, 0, 241), (80, 0, 146), (83, 0, 243), (86, 0, 149), (90, 0, 244), (91, 0, 152), (95, 0, 247), (96, 0, 156), (100, 0, 248), (101, 0, 122), (104, 0, 253), (105, 0, 127), (109, 0, 262), (110, 0, 168), (114, 0, 264), (115, 0, 170), (119, 0, 265), (120, 0, 176), (123, 0, 268), (124, 0, 112), (127, 0, 270), (128, 0, 164), (132, 0, 271), (133, 0, 166), (137, 0, 273), (138, 0, 144), (141, 0, 274), (142, 0, 178), (145, 0, 275), (146, 0, 114), (149, 0, 277), (150, 0, 141), (154, 0, 280), (155, 0, 119), (158, 0, 282), (159, 0, 147), (162, 0, 284), (163, 0, 162), (167, 0, 285), (168, 0, 93), (172, 0, 287), (173, 0, 94), (177, 0, 288), (178, 0, 96), (181, 0, 291)]
def m_mlk_1 : List (Nat × Nat × Nat) := [(3, 0, 900), (11, 0, 2), (28, 1, 4), (35, 1, 3), (42, 1, 5), (52, 1, 6), (61, 0, 8), (74, 0, 11), (82, 0, 12), (92, 0, 40), (96, 0, 41), (100, 0, 45), (106, 0, 54), (110, 0, 55), (114, 0, 90), (142, 0, 95), (146, 0, 57), (149, 0, 84), (152, 0, 83), (155, 0, 52), (159, 0, 98), (163, 0, 100), (166, 0, 102), (170, 0, 104), (174, 0, 105), (177, 0, 106), (186, 0, 78), (189, 0, 77), (195, 0, 67), (205, 0, 111), (208, 0, 113), (211, 0, 115), (214, 0, 116), (221, 0, 120), (226, 0, 101), (230, 0, 121), (233, 0, 123), (237, 0, 124), (241, 0, 128), (245, 0, 129), (248, 0, 131), (252, 0, 133), (255, 0, 139), (260, 0, 142), (264, 0, 143), (268, 0, 145), (271, 0, 148), (273, 0, 150), (277, 0, 151), (280, 0, 153), (283, 0, 155), (289, 0, 157), (293, 0, 163), (297, 0, 165), (301, 0, 140), (304, 0, 154), (307, 0, 167), (311, 0, 169), (315, 0, 171), (318, 0, 172), (325, 0, 177), (329, 0, 179), (333, 1, 42), (334, 0, 74), (338, 0, 103)]
def m_mlk_2 : List (Nat × Nat × Nat) := [(3, 0, 900), (25, 1, 3), (29, 0, 901), (41, 0, 40)]
def m_mlk_3 : List (Nat × Nat × Nat) := [(3, 0, 900), (22, 0, 37), (28, 0, 901)]
def m_mlk_4 : List (Nat × Nat × Nat) := [(3, 0, 900), (15, 0, 13), (37, 0, 14), (42, 0, 15), (46, 0, 35), (50, 0, 16), (59, 0, 34), (66, 0, 36), (74, 0, 39), (77, 0, 17), (81, 0, 18), (84, 0, 32), (87, 0, 33), (90, 0, 19), (94, 0, 20), (98, 0, 21), (104, 0, 23)]
def m_mlk_5 : List (Nat × Nat × Nat) := [(3, 0, 900), (44, 0, 75), (48, 0, 66), (54, 0, 67), (57, 0, 69), (61, 1, 77), (64, 1, 78), (67, 0, 47), (72, 0, 117), (75, 0, 118), (79, 0, 125), (82, 0, 126)]
def m_mlk_6 : List (Nat × Nat × Nat) := [(3, 0, 900), (27, 0, 99), (33, 0, 101), (37, 0, 67), (41, 0, 47), (47, 0, 48), (53, 1, 154), (57, 0, 155), (62, 1, 52), (68, 0, 158), (72, 0, 159), (75, 0, 160), (78, 0, 82), (82, 0, 161), (85, 0, 66), (88, 1, 77), (91, 1, 78)]
def m_mlk_7 : List (Nat × Nat × Nat) := []
def m_mlk_8 : List (Nat × Nat × Nat) := [(335, 0, 22), (492, 0, 24), (495, 0, 25), (498, 0, 28), (1059, 0, 27)]
def m_mlk_9 : List (Nat × Nat × Nat) := [(9, 0, 26)]
def m_mlk_10 : List (Nat × Nat × Nat) := []
def m_mlk_11 : List (Nat × Nat × Nat) := [(48, 0, 30), (67, 0, 29), (71, 0, 31), (414, 0, 26)]
def m_mlk_12 : List (Nat × Nat × Nat) := [(13, 0, 38), (150, 0, 901), (304, 0, 13)]
def m_mlk_13 : List (Nat × Nat × Nat) := [(3, 0, 900), (11, 1, 43), (20, 1, 44), (59, 1, 52), (63, 0, 57), (67, 0, 84), (71, 0, 82), (76, 0, 46), (83, 0, 48), (89, 0, 49), (92, 0, 51), (105, 0, 54), (108, 0, 55), (112, 0, 56), (116, 0, 81), (120, 0, 85), (127, 0, 74), (137, 0, 86), (141, 0, 50), (145, 0, 83), (148, 0, 901), (154, 0, 58), (158, 0, 59), (161, 0, 70), (164, 0, 71), (168, 0, 73), (172, 0, 80), (176, 1, 60), (179, 0, 61), (182, 0, 64), (186, 0, 173), (189, 0, 174), (192, 0, 175), (200, 0, 180), (203, 0, 181)]
def m_mlk_14 : List (Nat × Nat × Nat) := [(5, 0, 900), (27, 1, 5), (36, 0, 13), (42, 0, 47), (48, 0, 62), (54, 0, 63), (57, 0, 37), (61, 0, 66), (65, 0, 67), (68, 0, 61), (71, 0, 68), (75, 0, 69), (78, 0, 65), (81, 0, 72), (85, 1, 78), (88, 0, 48), (91, 0, 64), (95, 0, 74), (99, 0, 76), (111, 1, 60), (114, 0, 79)]
def m_mlk_15 : List (Nat × Nat × Nat) := [(3, 0, 900), (25, 1, 52), (29, 0, 53), (32, 1, 140), (38, 0, 135), (44, 0, 134), (48, 0, 136), (51, 0, 137), (57, 0, 138), (60, 0, 131)]
def m_mlk_16 : List (Nat × Nat × Nat) := []
def m_mlk_17 : List (Nat × Nat × Nat) := []
def m_mlk_18 : List (Nat × Nat × Nat) := [(1, 0, 900), (159, 0, 290), (163, 0, 186), (167, 0, 184), (177, 0, 191), (203, 0, 193), (207, 0, 194), (211, 0, 190), (226, 0, 195), (230, 0, 192), (234, 0, 188), (237, 0, 189), (240, 0, 198), (244, 0, 199), (251, 0, 211), (254, 0, 212), (260, 0, 210), (264, 0, 214), (267, 0, 215), (273, 0, 209), (276, 0, 217), (279, 0, 216), (285, 0, 220), (288, 0, 219), (291, 0, 221), (297, 0, 205), (300, 0, 207), (303, 0, 208), (306, 0, 202), (309, 0, 206), (312, 0, 213), (315, 0, 218), (318, 0, 222), (321, 0, 203), (324, 0, 204), (328, 0, 201), (331, 0, 225), (335, 0, 224), (341, 0, 232), (345, 0, 228), (348, 0, 229), (351, 0, 230), (354, 0, 231), (360, 0, 233), (363, 0, 234), (366, 0, 240), (369, 0, 242), (372, 0, 245), (376, 0, 246), (386, 0, 249), (389, 0, 250), (392, 0, 251), (396, 0, 252), (402, 0, 259), (405, 0, 260), (408, 0, 256), (414, 0, 257), (417, 0, 258), (420, 0, 261), (423, 0, 254), (426, 0, 255), (429, 0, 263), (433, 0, 266), (436, 0, 267), (439, 0, 269), (442, 0, 272), (449, 0, 276), (452, 0, 279), (455, 0, 278), (458, 0, 281), (461, 0, 283), (464, 0, 286), (467, 0, 289)]
def m_mlk : List (List (Nat × Nat × Nat)) := [m_mlk_0, m_mlk_1, m_mlk_2, m_mlk_3, m_mlk_4, m_mlk_5, m_mlk_6, m_mlk_7, m_mlk_8, m_mlk_9, m_mlk_10, m_mlk_11, m_mlk_12, m_mlk_13, m_mlk_14, m_mlk_15, m_mlk_16, m_mlk_17, m_mlk_18]
def m_flk_0 : List (Nat × Nat × Nat × Nat) := []
def m_flk_1 : List (Nat × Nat × Nat × Nat) := [(12, 0, 8, 0), (16, 0, 8, 1), (22, 0, 8, 2), (29, 0, 8, 3), (36, 0, 8, 4), (43, 0, 8, 5), (47, 0, 8, 6), (53, 0, 8, 7), (57, 1, 6, 2), (65, 1, 6, 3), (68, 1, 6, 4), (71, 1, 6, 5), (78, 1, 6, 0), (86, 1, 4, 7), (87, 1, 4, 8), (88, 1, 6, 1), (103, 1, 0, 2), (117, 1, 3, 11), (121, 1, 3, 4), (125, 1, 3, 5), (128, 1, 3, 6), (131, 1, 3, 12), (134, 1, 3, 0), (138, 1, 2, 5), (180, 1, 7, 1), (183, 1, 7, 4), (192, 1, 7, 0), (198, 1, 7, 3), (201, 1, 3, 2), (217, 1, 3, 1), (322, 1, 3, 10)]
def m_flk_2 : List (Nat × Nat × Nat × Nat) := [(9, 0, 6, 0), (17, 0, 6, 1), (21, 0, 6, 4), (26, 0, 6, 2), (35, 0, 6, 3), (38, 0, 6, 5)]
def m_flk_3 : List (Nat × Nat × Nat × Nat) := [(9, 0, 0, 0), (15, 0, 0, 1), (18, 0, 0, 2)]
def m_flk_4 : List (Nat × Nat × Nat × Nat) := [(9, 0, 4, 0), (21, 0, 4, 1), (25, 0, 4, 3), (28, 0, 4, 6), (31, 0, 4, 7), (34, 0, 4, 8), (53, 0, 4, 4), (56, 0, 4, 5), (63, 0, 4, 2)]
def m_flk_5 : List (Nat × Nat × Nat × Nat) := [(9, 0, 7, 0), (15, 0, 7, 1), (18, 0, 7, 2), (21, 0, 7, 3), (24, 0, 7, 4), (27, 0, 7, 5), (30, 0, 7, 6), (33, 0, 7, 7), (37, 0, 7, 8), (41, 0, 7, 9)]
def m_flk_6 : List (Nat × Nat × Nat × Nat) := [(9, 0, 5, 0), (15, 0, 5, 1), (18, 0, 5, 2), (21, 1, 2, 5), (65, 0, 5, 3)]
def m_flk_7 : List (Nat × Nat × Nat × Nat) := []
def m_flk_8 : List (Nat × Nat × Nat × Nat) := [(9, 0, 39, 0), (15, 0, 39, 1)]
def m_flk_9 : List (Nat × Nat × Nat × Nat) := []
def m_flk_10 : List (Nat × Nat × Nat × Nat) := []
def m_flk_11 : List (Nat × Nat × Nat × Nat) := []
def m_flk_12 : List (Nat × Nat × Nat × Nat) := []
def m_flk_13 : List (Nat × Nat × Nat × Nat) := [(12, 0, 3, 0), (21, 0, 3, 1), (27, 0, 3, 2), (30, 0, 3, 3), (34, 0, 3, 4), (37, 0, 3, 5), (40, 0, 3, 6), (43, 0, 3, 7), (46, 0, 3, 8), (49, 0, 3, 9), (52, 0, 3, 10), (55, 0, 3, 11), (80, 0, 3, 12), (96, 1, 0, 2), (101, 1, 2, 5), (103, 1, 2, 6), (123, 1, 2, 4), (133, 1, 7, 8), (134, 1, 7, 0), (196, 0, 3, 13)]
def m_flk_14 : List (Nat × Nat × Nat × Nat) := [(11, 0, 2, 0), (15, 0, 2, 1), (19, 0, 2, 2), (22, 0, 2, 3), (28, 0, 2, 4), (32, 0, 2, 5), (45, 0, 2, 6), (102, 1, 7, 3), (105, 1, 7, 0), (108, 1, 7, 2)]
def m_flk_15 : List (Nat × Nat × Nat × Nat) := [(9, 0, 1, 0), (15, 0, 1, 1), (18, 0, 1, 2), (22, 0, 1, 3)]
def m_flk_16 : List (Nat × Nat × Nat × Nat) := []
def m_flk_17 : List (Nat × Nat × Nat × Nat) := []
def m_flk_18 : List (Nat × Nat × Nat × Nat) := [(7, 0, 9, 1), (13, 0, 9, 2), (17, 0, 9, 3), (20, 0, 9, 4), (23, 0, 9, 5), (26, 0, 9, 6), (29, 0, 9, 16), (32, 0, 9, 20), (35, 0, 9, 21), (38, 0, 9, 22), (42, 0, 9, 23), (45, 0, 9, 24), (48, 0, 9, 25), (51, 0, 9, 27), (54, 0, 9, 28), (57, 0, 9, 29), (60, 0, 9, 30), (63, 0, 9, 31), (66, 0, 9, 32), (69, 0, 9, 33), (72, 0, 9, 34), (75, 0, 9, 36), (78, 0, 9, 37), (81, 0, 9, 38), (84, 0, 9, 39), (87, 0, 9, 40), (90, 0, 9, 41), (94, 0, 9, 42), (97, 0, 9, 44), (100, 0, 9, 45), (103, 0, 9, 46), (106, 0, 9, 48), (109, 0, 9, 50), (112, 0, 9, 52), (115, 0, 9, 53), (118, 0, 9, 54), (121, 0, 9, 55), (124, 0, 9, 56), (127, 0, 9, 58), (130, 0, 9, 59), (133, 0, 9, 60), (136, 0, 9, 61), (139, 0, 9, 63), (143, 0, 9, 64), (146, 0, 9, 65), (149, 0, 9, 66), (152, 0, 9, 67), (155, 0, 9, 0), (171, 0, 9, 7), (174, 0, 9, 8), (181, 0, 9, 9), (184, 0, 9, 12), (188, 0, 9, 10), (191, 0, 9, 11), (194, 0, 9, 13), (197, 0, 9, 14), (200, 0, 9, 15), (248, 0, 9, 17), (257, 0, 9, 19), (270, 0, 9, 18), (282, 0, 9, 26), (294, 0, 9, 35), (338, 0, 9, 43), (380, 0, 9, 47), (383, 0, 9, 49), (399, 0, 9, 51), (411, 0, 9, 57), (445, 0, 9, 62)]
def m_flk : List (List (Nat × Nat × Nat × Nat)) := [m_flk_0, m_flk_1, m_flk_2, m_flk_3, m_flk_4, m_flk_5, m_flk_6, m_flk_7, m_flk_8, m_flk_9, m_flk_10, m_flk_11, m_flk_12, m_flk_13, m_flk_14, m_flk_15, m_flk_16, m_flk_17, m_flk_18]
def m_sfl_0 : List (Nat × Nat) := []
def m_sfl_1 : List (Nat × Nat) := []
def m_sfl_2 : List (Nat × Nat) := []
def m_sfl_3 : List (Nat × Nat) := []
def m_sfl_4 : List (Nat × Nat) := [(70, 2)]
def m_sfl_5 : List (Nat × Nat) := []
def m_sfl_6 : List (Nat × Nat) := []
def m_sfl_7 : List (Nat × Nat) := []
def m_sfl_8 : List (Nat × Nat) := [(38, 1), (1053, 3)]
def m_sfl_9 : List (Nat × Nat) := []
def m_sfl_10 : List (Nat × Nat) := []
def m_sfl_11 : List (Nat × Nat) := []
def m_sfl_12 : List (Nat × Nat) := []
def m_sfl_13 : List (Nat × Nat) := []
def m_sfl_14 : List (Nat × Nat) := []
def m_sfl_15 : List (Nat × Nat) := []
def m_sfl_16 : List (Nat × Nat) := []
def m_sfl_17 : List (Nat × Nat) := []
def m_sfl_18 : List (Nat × Nat) := []
def m_sfl : List (List (Nat × Nat)) := [m_sfl_0, m_sfl_1, m_sfl_2, m_sfl_3, m_sfl_4, m_sfl_5, m_sfl_6, m_sfl_7, m_sfl_8, m_sfl_9, m_sfl_10, m_sfl_11, m_sfl_12, m_sfl_13, m_sfl_14, m_sfl_15, m_sfl_16, m_sfl_17, m_sfl_18]
def m_clk_0 : List (Nat × Nat) := [(7, 8), (10, 9)]
def m_clk_1 : List (Nat × Nat) := [(9, 6), (20, 3), (26, 4), (33, 0), (40, 7), (50, 5)]
def m_clk_2 : List (Nat × Nat) := [(15, 0)]
def m_clk_3 : List (Nat × Nat) := []
def m_clk_4 : List (Nat × Nat) := []
def m_clk_5 : List (Nat × Nat) := []
def m_clk_6 : List (Nat × Nat) := []
def m_clk_7 : List (Nat × Nat) := []
def m_clk_8 : List (Nat × Nat) := []
def m_clk_9 : List (Nat × Nat) := []
def m_clk_10 : List (Nat × Nat) := []
def m_clk_11 : List (Nat × Nat) := []
def m_clk_12 : List (Nat × Nat) := []
def m_clk_13 : List (Nat × Nat) := [(9, 2), (18, 1), (25, 33)]
def m_clk_14 : List (Nat × Nat) := [(25, 7)]
def m_clk_15 : List (Nat × Nat) := []
def m_clk_16 : List (Nat × Nat) := []
def m_clk_17 : List (Nat × Nat) := []
def m_clk_18 : List (Nat × Nat) := []
def m_clk : List (List (Nat × Nat)) := [m_clk_0, m_clk_1, m_clk_2, m_clk_3, m_clk_4, m_clk_5, m_clk_6, m_clk_7, m_clk_8, m_clk_9, m_clk_10, m_clk_11, m_clk_12, m_clk_13, m_clk_14, m_clk_15, m_clk_16, m_clk_17, m_clk_18]
def m_ick_0 : List (Nat × Int32) := []
def m_ick_1 : List (Nat × Int32) := [(120, -100000)]
def m_ick_2 : List (Nat × Int32) := []
def m_ick_3 : List (Nat × Int32) := []
def m_ick_4 : List (Nat × Int32) := []
def m_ick_5 : List (Nat × Int32) := []
def m_ick_6 : List (Nat × Int32) := []
def m_ick_7 : List (Nat × Int32) := []
def m_ick_8 : List (Nat × Int32) := []
def m_ick_9 : List (Nat × Int32) := []
def m_ick_10 : List (Nat × Int32) := []
def m_ick_11 : List (Nat × Int32) := []
def m_ick_12 : List (Nat × Int32) := []
def m_ick_13 : List (Nat × Int32) := [(199, 1103515245)]
def m_ick_14 : List (Nat × Int32) := []
def m_ick_15 : List (Nat × Int32) := []
def m_ick_16 : List (Nat × Int32) := [(265, 1431655765), (266, 858993459), (267, 252645135)]
def m_ick_17 : List (Nat × Int32) := []
def m_ick_18 : List (Nat × Int32) := [(41, 96000), (334, -100000), (448, 1103515245)]
def m_ick : List (List (Nat × Int32)) := [m_ick_0, m_ick_1, m_ick_2, m_ick_3, m_ick_4, m_ick_5, m_ick_6, m_ick_7, m_ick_8, m_ick_9, m_ick_10, m_ick_11, m_ick_12, m_ick_13, m_ick_14, m_ick_15, m_ick_16, m_ick_17, m_ick_18]
def m_lck_0 : List (Nat × Int64) := [(84, 4294967295)]
def m_lck_1 : List (Nat × Int64) := [(258, -1)]
def m_lck_2 : List (Nat × Int64) := []
def m_lck_3 : List (Nat × Int64) := []
def m_lck_4 : List (Nat × Int64) := []
def m_lck_5 : List (Nat × Int64) := []
def m_lck_6 : List (Nat × Int64) := [(31, -1)]
def m_lck_7 : List (Nat × Int64) := []
def m_lck_8 : List (Nat × Int64) := []
def m_lck_9 : List (Nat × Int64) := []
def m_lck_10 : List (Nat × Int64) := []
def m_lck_11 : List (Nat × Int64) := []
def m_lck_12 : List (Nat × Int64) := []
def m_lck_13 : List (Nat × Int64) := []
def m_lck_14 : List (Nat × Int64) := []
def m_lck_15 : List (Nat × Int64) := [(36, -1)]
def m_lck_16 : List (Nat × Int64) := []
def m_lck_17 : List (Nat × Int64) := [(314, 6148914691236517205), (316, 3689348814741910323), (318, 1085102592571150095)]
def m_lck_18 : List (Nat × Int64) := [(214, 7234935), (216, 7370100), (218, 1835363428), (220, 1818588019), (222, 465726563698), (224, 6518132), (358, -1)]
def m_lck : List (List (Nat × Int64)) := [m_lck_0, m_lck_1, m_lck_2, m_lck_3, m_lck_4, m_lck_5, m_lck_6, m_lck_7, m_lck_8, m_lck_9, m_lck_10, m_lck_11, m_lck_12, m_lck_13, m_lck_14, m_lck_15, m_lck_16, m_lck_17, m_lck_18]
def m_sck_0 : List (Nat × Nat) := []
def m_sck_1 : List (Nat × Nat) := []
def m_sck_2 : List (Nat × Nat) := []
def m_sck_3 : List (Nat × Nat) := []
def m_sck_4 : List (Nat × Nat) := [(108, 2), (110, 3), (112, 4), (114, 5), (116, 6), (118, 7)]
def m_sck_5 : List (Nat × Nat) := []
def m_sck_6 : List (Nat × Nat) := []
def m_sck_7 : List (Nat × Nat) := []
def m_sck_8 : List (Nat × Nat) := []
def m_sck_9 : List (Nat × Nat) := []
def m_sck_10 : List (Nat × Nat) := []
def m_sck_11 : List (Nat × Nat) := []
def m_sck_12 : List (Nat × Nat) := []
def m_sck_13 : List (Nat × Nat) := []
def m_sck_14 : List (Nat × Nat) := []
def m_sck_15 : List (Nat × Nat) := []
def m_sck_16 : List (Nat × Nat) := []
def m_sck_17 : List (Nat × Nat) := []
def m_sck_18 : List (Nat × Nat) := []
def m_sck : List (List (Nat × Nat)) := [m_sck_0, m_sck_1, m_sck_2, m_sck_3, m_sck_4, m_sck_5, m_sck_6, m_sck_7, m_sck_8, m_sck_9, m_sck_10, m_sck_11, m_sck_12, m_sck_13, m_sck_14, m_sck_15, m_sck_16, m_sck_17, m_sck_18]
def RX0 : String := "PastHeaps$Acts"
def TX0 : u_T := fun k => match k with
  | 0 => ("PastHeaps$Acts", "kinds", "[I", true)
  | 1 => ("PastHeaps$Acts", "numbers", "[I", true)
  | _ => ("PastHeaps$Acts", "size", "I", false)
def tyX0 : Nat → FieldType := fun k => match k with
  | 0 => .array .int
  | 1 => .array .int
  | _ => .int
def RX1 : String := "PastHeaps$Lines"
def TX1 : u_T := fun k => match k with
  | 0 => ("PastHeaps$Lines", "firsts", "[I", true)
  | 1 => ("PastHeaps$Lines", "seconds", "[I", true)
  | 2 => ("PastHeaps$Lines", "froms", "[J", true)
  | _ => ("PastHeaps$Lines", "tally", "[J", true)
def tyX1 : Nat → FieldType := fun k => match k with
  | 0 => .array .int
  | 1 => .array .int
  | 2 => .array .long
  | _ => .array .long
def RX2 : String := "PastHeaps$Nodes"
def TX2 : u_T := fun k => match k with
  | 0 => ("PastHeaps$Nodes", "cells", "[I", false)
  | 1 => ("PastHeaps$Nodes", "holders", "[J", false)
  | 2 => ("PastHeaps$Nodes", "loose", "[I", true)
  | 3 => ("PastHeaps$Nodes", "path", "[I", true)
  | 4 => ("PastHeaps$Nodes", "trail", "LPastHeaps$Walk;", true)
  | 5 => ("PastHeaps$Nodes", "made", "I", false)
  | _ => ("PastHeaps$Nodes", "links", "I", false)
def tyX2 : Nat → FieldType := fun k => match k with
  | 0 => .array .int
  | 1 => .array .long
  | 2 => .array .int
  | 3 => .array .int
  | 4 => .object "PastHeaps$Walk"
  | 5 => .int
  | _ => .int
def RX3 : String := "PastHeaps$Past"
def TX3 : u_T := fun k => match k with
  | 0 => ("PastHeaps$Past", "nodes", "LPastHeaps$Nodes;", true)
  | 1 => ("PastHeaps$Past", "lines", "LPastHeaps$Lines;", true)
  | 2 => ("PastHeaps$Past", "roots", "[[I", true)
  | 3 => ("PastHeaps$Past", "sizes", "[I", true)
  | 4 => ("PastHeaps$Past", "made", "[I", true)
  | 5 => ("PastHeaps$Past", "links", "[I", true)
  | 6 => ("PastHeaps$Past", "paid", "[I", true)
  | 7 => ("PastHeaps$Past", "heap", "[I", true)
  | 8 => ("PastHeaps$Past", "other", "[I", true)
  | 9 => ("PastHeaps$Past", "turn", "[I", true)
  | 10 => ("PastHeaps$Past", "best", "[I", true)
  | 11 => ("PastHeaps$Past", "stop", "I", false)
  | 12 => ("PastHeaps$Past", "things", "I", false)
  | _ => ("PastHeaps$Past", "x", "I", false)
def tyX3 : Nat → FieldType := fun k => match k with
  | 0 => .object "PastHeaps$Nodes"
  | 1 => .object "PastHeaps$Lines"
  | 2 => .array (.array .int)
  | 3 => .array .int
  | 4 => .array .int
  | 5 => .array .int
  | 6 => .array .int
  | 7 => .array .int
  | 8 => .array .int
  | 9 => .array .int
  | 10 => .array .int
  | 11 => .int
  | 12 => .int
  | _ => .int
def RX4 : String := "PastHeaps$Reader"
def TX4 : u_T := fun k => match k with
  | 0 => ("PastHeaps$Reader", "tape", "[B", false)
  | 1 => ("PastHeaps$Reader", "used", "I", false)
  | 2 => ("PastHeaps$Reader", "start", "I", false)
  | 3 => ("PastHeaps$Reader", "behind", "I", false)
  | 4 => ("PastHeaps$Reader", "token", "I", false)
  | 5 => ("PastHeaps$Reader", "value", "I", false)
  | 6 => ("PastHeaps$Reader", "begun", "I", false)
  | 7 => ("PastHeaps$Reader", "fault", "I", false)
  | _ => ("PastHeaps$Reader", "place", "I", false)
def tyX4 : Nat → FieldType := fun k => match k with
  | 0 => .array .byte
  | 1 => .int
  | 2 => .int
  | 3 => .int
  | 4 => .int
  | 5 => .int
  | 6 => .int
  | 7 => .int
  | _ => .int
def RX5 : String := "PastHeaps$Shares"
def TX5 : u_T := fun k => match k with
  | 0 => ("PastHeaps$Shares", "table", "[I", false)
  | 1 => ("PastHeaps$Shares", "chosen", "[I", true)
  | 2 => ("PastHeaps$Shares", "alone", "[I", true)
  | _ => ("PastHeaps$Shares", "many", "I", false)
def tyX5 : Nat → FieldType := fun k => match k with
  | 0 => .array .int
  | 1 => .array .int
  | 2 => .array .int
  | _ => .int
def RX6 : String := "PastHeaps$Told"
def TX6 : u_T := fun k => match k with
  | 0 => ("PastHeaps$Told", "tape", "[B", true)
  | 1 => ("PastHeaps$Told", "acts", "[LPastHeaps$Acts;", true)
  | 2 => ("PastHeaps$Told", "used", "I", false)
  | 3 => ("PastHeaps$Told", "fault", "I", false)
  | 4 => ("PastHeaps$Told", "place", "I", false)
  | _ => ("PastHeaps$Told", "rows", "I", false)
def tyX6 : Nat → FieldType := fun k => match k with
  | 0 => .array .byte
  | 1 => .array (.object "PastHeaps$Acts")
  | 2 => .int
  | 3 => .int
  | 4 => .int
  | _ => .int
def RX7 : String := "PastHeaps$Walk"
def TX7 : u_T := fun k => match k with
  | 0 => ("PastHeaps$Walk", "places", "[I", true)
  | 1 => ("PastHeaps$Walk", "weights", "[I", true)
  | 2 => ("PastHeaps$Walk", "ups", "[I", true)
  | 3 => ("PastHeaps$Walk", "depths", "[I", true)
  | 4 => ("PastHeaps$Walk", "sorted", "[I", true)
  | 5 => ("PastHeaps$Walk", "open", "[I", true)
  | 6 => ("PastHeaps$Walk", "openUps", "[I", true)
  | 7 => ("PastHeaps$Walk", "listed", "[Z", true)
  | 8 => ("PastHeaps$Walk", "size", "I", false)
  | _ => ("PastHeaps$Walk", "opened", "I", false)
def tyX7 : Nat → FieldType := fun k => match k with
  | 0 => .array .int
  | 1 => .array .int
  | 2 => .array .int
  | 3 => .array .int
  | 4 => .array .int
  | 5 => .array .int
  | 6 => .array .int
  | 7 => .array .boolean
  | 8 => .int
  | _ => .int
def RX8 : String := "PastHeaps"
def TX8 : u_T := fun k => match k with
  | 0 => ("PastHeaps", "now", "LPastHeaps$Told;", true)
  | 1 => ("PastHeaps", "images", "[LPastHeaps$Told;", true)
  | 2 => ("PastHeaps", "pasts", "[LPastHeaps$Past;", true)
  | 3 => ("PastHeaps", "reader", "LPastHeaps$Reader;", true)
  | 4 => ("PastHeaps", "told", "LPastHeaps$Acts;", true)
  | 5 => ("PastHeaps", "view", "LPastHeaps$Walk;", true)
  | 6 => ("PastHeaps", "otherView", "LPastHeaps$Walk;", true)
  | _ => ("PastHeaps", "shares", "LPastHeaps$Shares;", true)
def tyX8 : Nat → FieldType := fun k => match k with
  | 0 => .object "PastHeaps$Told"
  | 1 => .array (.object "PastHeaps$Told")
  | 2 => .array (.object "PastHeaps$Past")
  | 3 => .object "PastHeaps$Reader"
  | 4 => .object "PastHeaps$Acts"
  | 5 => .object "PastHeaps$Walk"
  | 6 => .object "PastHeaps$Walk"
  | _ => .object "PastHeaps$Shares"
def RX9 : String := "PastHeapsModel"
def TX9 : u_T := fun k => match k with
  | 0 => ("PastHeapsModel", "code", "I", false)
  | 1 => ("PastHeapsModel", "tape", "[B", true)
  | 2 => ("PastHeapsModel", "size", "[I", true)
  | 3 => ("PastHeapsModel", "fault", "[I", true)
  | 4 => ("PastHeapsModel", "faultPlace", "[I", true)
  | 5 => ("PastHeapsModel", "many", "[I", true)
  | 6 => ("PastHeapsModel", "rows", "[I", true)
  | 7 => ("PastHeapsModel", "reached", "I", false)
  | 8 => ("PastHeapsModel", "length", "I", false)
  | 9 => ("PastHeapsModel", "begins", "I", false)
  | 10 => ("PastHeapsModel", "sort", "I", false)
  | 11 => ("PastHeapsModel", "value", "I", false)
  | 12 => ("PastHeapsModel", "word", "J", false)
  | 13 => ("PastHeapsModel", "wrongAt", "I", false)
  | 14 => ("PastHeapsModel", "laterFault", "I", false)
  | 15 => ("PastHeapsModel", "laterPlace", "I", false)
  | 16 => ("PastHeapsModel", "told", "[I", true)
  | 17 => ("PastHeapsModel", "nodes", "I", false)
  | 18 => ("PastHeapsModel", "things", "I", false)
  | 19 => ("PastHeapsModel", "links", "I", false)
  | 20 => ("PastHeapsModel", "thing", "[B", true)
  | 21 => ("PastHeapsModel", "key", "[B", true)
  | 22 => ("PastHeapsModel", "rank", "[B", true)
  | 23 => ("PastHeapsModel", "below", "[I", true)
  | 24 => ("PastHeapsModel", "heap", "[I", true)
  | 25 => ("PastHeapsModel", "second", "[I", true)
  | 26 => ("PastHeapsModel", "walked", "I", false)
  | 27 => ("PastHeapsModel", "at", "[I", true)
  | 28 => ("PastHeapsModel", "deep", "[I", true)
  | 29 => ("PastHeapsModel", "up", "[I", true)
  | 30 => ("PastHeapsModel", "waitNode", "[I", true)
  | 31 => ("PastHeapsModel", "waitUp", "[I", true)
  | 32 => ("PastHeapsModel", "way", "[I", true)
  | 33 => ("PastHeapsModel", "wayThing", "[I", true)
  | 34 => ("PastHeapsModel", "wayKey", "[I", true)
  | 35 => ("PastHeapsModel", "versions", "I", false)
  | 36 => ("PastHeapsModel", "roots", "[I", true)
  | 37 => ("PastHeapsModel", "made", "[I", true)
  | 38 => ("PastHeapsModel", "linked", "[I", true)
  | 39 => ("PastHeapsModel", "parentA", "[I", true)
  | 40 => ("PastHeapsModel", "parentB", "[I", true)
  | 41 => ("PastHeapsModel", "from", "[J", true)
  | 42 => ("PastHeapsModel", "heldBy", "[J", true)
  | 43 => ("PastHeapsModel", "ordered", "I", false)
  | 44 => ("PastHeapsModel", "orderThing", "[I", true)
  | 45 => ("PastHeapsModel", "orderKey", "[I", true)
  | 46 => ("PastHeapsModel", "far", "[I", true)
  | 47 => ("PastHeapsModel", "some", "I", false)
  | 48 => ("PastHeapsModel", "someOf", "[I", true)
  | 49 => ("PastHeapsModel", "masks", "I", false)
  | 50 => ("PastHeapsModel", "mask", "[J", true)
  | 51 => ("PastHeapsModel", "apart", "I", false)
  | 52 => ("PastHeapsModel", "apartThing", "[I", true)
  | 53 => ("PastHeapsModel", "apartKey", "[I", true)
  | 54 => ("PastHeapsModel", "apartTo", "[I", true)
  | 55 => ("PastHeapsModel", "steps", "[I", true)
  | 56 => ("PastHeapsModel", "queue", "[I", true)
  | 57 => ("PastHeapsModel", "queued", "I", false)
  | 58 => ("PastHeapsModel", "otherThing", "[I", true)
  | 59 => ("PastHeapsModel", "otherKey", "[I", true)
  | 60 => ("PastHeapsModel", "turn", "[I", true)
  | 61 => ("PastHeapsModel", "bestTurn", "[I", true)
  | 62 => ("PastHeapsModel", "seed", "I", false)
  | 63 => ("PastHeapsModel", "listed", "[Z", true)
  | 64 => ("PastHeapsModel", "taken", "[Z", true)
  | 65 => ("PastHeapsModel", "ways", "[J", true)
  | 66 => ("PastHeapsModel", "most", "[I", true)
  | _ => ("PastHeapsModel", "kept", "[Z", true)
def tyX9 : Nat → FieldType := fun k => match k with
  | 0 => .int
  | 1 => .array .byte
  | 2 => .array .int
  | 3 => .array .int
  | 4 => .array .int
  | 5 => .array .int
  | 6 => .array .int
  | 7 => .int
  | 8 => .int
  | 9 => .int
  | 10 => .int
  | 11 => .int
  | 12 => .long
  | 13 => .int
  | 14 => .int
  | 15 => .int
  | 16 => .array .int
  | 17 => .int
  | 18 => .int
  | 19 => .int
  | 20 => .array .byte
  | 21 => .array .byte
  | 22 => .array .byte
  | 23 => .array .int
  | 24 => .array .int
  | 25 => .array .int
  | 26 => .int
  | 27 => .array .int
  | 28 => .array .int
  | 29 => .array .int
  | 30 => .array .int
  | 31 => .array .int
  | 32 => .array .int
  | 33 => .array .int
  | 34 => .array .int
  | 35 => .int
  | 36 => .array .int
  | 37 => .array .int
  | 38 => .array .int
  | 39 => .array .int
  | 40 => .array .int
  | 41 => .array .long
  | 42 => .array .long
  | 43 => .int
  | 44 => .array .int
  | 45 => .array .int
  | 46 => .array .int
  | 47 => .int
  | 48 => .array .int
  | 49 => .int
  | 50 => .array .long
  | 51 => .int
  | 52 => .array .int
  | 53 => .array .int
  | 54 => .array .int
  | 55 => .array .int
  | 56 => .array .int
  | 57 => .int
  | 58 => .array .int
  | 59 => .array .int
  | 60 => .array .int
  | 61 => .array .int
  | 62 => .int
  | 63 => .array .boolean
  | 64 => .array .boolean
  | 65 => .array .long
  | 66 => .array .int
  | _ => .array .boolean
abbrev m_cl : List vw_C := [(RX0, TX0, 3), (RX1, TX1, 4), (RX2, TX2, 7), (RX3, TX3, 14), (RX4, TX4, 9), (RX5, TX5, 4), (RX6, TX6, 6), (RX7, TX7, 10), (RX8, TX8, 8), (RX9, TX9, 68)]
-- of each owner: of each field 0 int, 1 long, 2 a reference; whether it is final
def m_ft0 : List (Nat × Bool) := [(2, true), (2, true), (0, false)]
def m_ft1 : List (Nat × Bool) := [(2, true), (2, true), (2, true), (2, true)]
def m_ft2 : List (Nat × Bool) := [(2, false), (2, false), (2, true), (2, true), (2, true), (0, false), (0, false)]
def m_ft3 : List (Nat × Bool) := [(2, true), (2, true), (2, true), (2, true), (2, true), (2, true), (2, true), (2, true), (2, true), (2, true), (2, true), (0, false), (0, false), (0, false)]
def m_ft4 : List (Nat × Bool) := [(2, false), (0, false), (0, false), (0, false), (0, false), (0, false), (0, false), (0, false), (0, false)]
def m_ft5 : List (Nat × Bool) := [(2, false), (2, true), (2, true), (0, false)]
def m_ft6 : List (Nat × Bool) := [(2, true), (2, true), (0, false), (0, false), (0, false), (0, false)]
def m_ft7 : List (Nat × Bool) := [(2, true), (2, true), (2, true), (2, true), (2, true), (2, true), (2, true), (2, true), (0, false), (0, false)]
def m_ft8 : List (Nat × Bool) := [(2, true), (2, true), (2, true), (2, true), (2, true), (2, true), (2, true), (2, true)]
def m_ft9 : List (Nat × Bool) := [(0, false), (2, true), (2, true), (2, true), (2, true), (2, true), (2, true), (0, false), (0, false), (0, false), (0, false), (0, false), (1, false), (0, false), (0, false), (0, false), (2, true), (0, false), (0, false), (0, false), (2, true), (2, true), (2, true), (2, true), (2, true), (2, true), (0, false), (2, true), (2, true), (2, true), (2, true), (2, true), (2, true), (2, true), (2, true), (0, false), (2, true), (2, true), (2, true), (2, true), (2, true), (2, true), (2, true), (0, false), (2, true), (2, true), (2, true), (0, false), (2, true), (0, false), (2, true), (0, false), (2, true), (2, true), (2, true), (2, true), (2, true), (0, false), (2, true), (2, true), (2, true), (2, true), (0, false), (2, true), (2, true), (2, true), (2, true), (2, true)]
def m_fts : List (List (Nat × Bool)) := [m_ft0, m_ft1, m_ft2, m_ft3, m_ft4, m_ft5, m_ft6, m_ft7, m_ft8, m_ft9]
def m_strs : List (String × Nat × String) := [("PastHeaps$Reader", 108, "new"), ("PastHeaps$Reader", 110, "put"), ("PastHeaps$Reader", 112, "meld"), ("PastHeaps$Reader", 114, "less"), ("PastHeaps$Reader", 116, "lower"), ("PastHeaps$Reader", 118, "cut")]
end
section
-- THE DATA AGREE WITH THE STATEMENT: each code table decodes, each word stands in the tables.
theorem m_memL {big ws : List Cond} (ps : List Nat) (h : ws = ps.filterMap (fun i => big[i]?)) : ∀ w ∈ ws, w ∈ big := by
  intro w hw
  rw [h] at hw
  obtain ⟨i, -, hi⟩ := List.mem_filterMap.mp hw
  exact List.mem_of_getElem? hi
def m_dok (q : m_M) : Bool := q.1.all (fun e => decide (decode q.2.2.1 e.1 = .ok (e.2.1, e.2.2)))
def m_dk (b : ByteArray) (l : List m_I) : Bool := l.all (fun e => decide (decode b e.1 = .ok (e.2.1, e.2.2)))
theorem m_dapp {b : ByteArray} {l k : List m_I} (h1 : m_dk b l = true) (h2 : m_dk b k = true) : m_dk b (l ++ k) = true := by
  unfold m_dk at *
  rw [List.all_append, h1, h2]
  rfl
theorem m_k0_0 : m_dk code m_c0_0 = true := by decide +kernel
theorem m_k0_1 : m_dk code m_c0_1 = true := by decide +kernel
theorem m_k0_2 : m_dk code m_c0_2 = true := by decide +kernel
theorem m_k0_3 : m_dk code m_c0_3 = true := by decide +kernel
theorem m_k0_4 : m_dk code m_c0_4 = true := by decide +kernel
theorem m_k0_5 : m_dk code m_c0_5 = true := by decide +kernel
theorem m_k0_6 : m_dk code m_c0_6 = true := by decide +kernel
theorem m_k0_7 : m_dk code m_c0_7 = true := by decide +kernel
theorem m_k0_8 : m_dk code m_c0_8 = true := by decide +kernel
theorem m_k0_9 : m_dk code m_c0_9 = true := by decide +kernel
theorem m_k0_10 : m_dk code m_c0_10 = true := by decide +kernel
theorem m_k0_11 : m_dk code m_c0_11 = true := by decide +kernel
theorem m_k0_12 : m_dk code m_c0_12 = true := by decide +kernel
theorem m_k0_13 : m_dk code m_c0_13 = true := by decide +kernel
theorem m_k0_14 : m_dk code m_c0_14 = true := by decide +kernel
theorem m_k0_15 : m_dk code m_c0_15 = true := by decide +kernel
theorem m_k0_16 : m_dk code m_c0_16 = true := by decide +kernel
theorem m_k0_17 : m_dk code m_c0_17 = true := by decide +kernel
theorem m_k0_18 : m_dk code m_c0_18 = true := by decide +kernel
theorem m_k0_19 : m_dk code m_c0_19 = true := by decide +kernel
theorem m_k0_20 : m_dk code m_c0_20 = true := by decide +kernel
theorem m_k0_21 : m_dk code m_c0_21 = true := by decide +kernel
theorem m_k0_22 : m_dk code m_c0_22 = true := by decide +kernel
theorem m_k0_23 : m_dk code m_c0_23 = true := by decide +kernel
theorem m_k0_24 : m_dk code m_c0_24 = true := by decide +kernel
theorem m_k0_25 : m_dk code m_c0_25 = true := by decide +kernel
theorem m_k0_26 : m_dk code m_c0_26 = true := by decide +kernel
theorem m_k0_27 : m_dk code m_c0_27 = true := by decide +kernel
theorem m_k0_28 : m_dk code m_c0_28 = true := by decide +kernel
theorem m_k0_29 : m_dk code m_c0_29 = true := by decide +kernel
theorem m_k0_30 : m_dk code m_c0_30 = true := by decide +kernel
theorem m_k0 : m_dok m_d0 = true := (m_dapp m_k0_0 (m_dapp m_k0_1 (m_dapp m_k0_2 (m_dapp m_k0_3 (m_dapp m_k0_4 (m_dapp m_k0_5 (m_dapp m_k0_6 (m_dapp m_k0_7 (m_dapp m_k0_8 (m_dapp m_k0_9 (m_dapp m_k0_10 (m_dapp m_k0_11 (m_dapp m_k0_12 (m_dapp m_k0_13 (m_dapp m_k0_14 (m_dapp m_k0_15 (m_dapp m_k0_16 (m_dapp m_k0_17 (m_dapp m_k0_18 (m_dapp m_k0_19 (m_dapp m_k0_20 (m_dapp m_k0_21 (m_dapp m_k0_22 (m_dapp m_k0_23 (m_dapp m_k0_24 (m_dapp m_k0_25 (m_dapp m_k0_26 (m_dapp m_k0_27 (m_dapp m_k0_28 (m_dapp m_k0_29 m_k0_30))))))))))))))))))))))))))))))
theorem m_k1 : m_dok m_d1 = true := by decide +kernel
theorem m_k2 : m_dok m_d2 = true := by decide +kernel
theorem m_k3 : m_dok m_d3 = true := by decide +kernel
theorem m_k4 : m_dok m_d4 = true := by decide +kernel
theorem m_k5 : m_dok m_d5 = true := by decide +kernel
theorem m_k6 : m_dok m_d6 = true := by decide +kernel
theorem m_k7 : m_dok m_d7 = true := by decide +kernel
theorem m_k8 : m_dok m_d8 = true := by decide +kernel
theorem m_k9 : m_dok m_d9 = true := by decide +kernel
theorem m_k10_0 : m_dk prog_1_method_4_code m_c10_0 = true := by decide +kernel
theorem m_k10_1 : m_dk prog_1_method_4_code m_c10_1 = true := by decide +kernel
theorem m_k10_2 : m_dk prog_1_method_4_code m_c10_2 = true := by decide +kernel
theorem m_k10 : m_dok m_d10 = true := (m_dapp m_k10_0 (m_dapp m_k10_1 m_k10_2))
theorem m_k11 : m_dok m_d11 = true := by decide +kernel
theorem m_k12 : m_dok m_d12 = true := by decide +kernel
theorem m_k13 : m_dok m_d13 = true := by decide +kernel
theorem m_k14 : m_dok m_d14 = true := by decide +kernel
theorem m_k15_0 : m_dk prog_6_method_3_code m_c15_0 = true := by decide +kernel
theorem m_k15_1 : m_dk prog_6_method_3_code m_c15_1 = true := by decide +kernel
theorem m_k15_2 : m_dk prog_6_method_3_code m_c15_2 = true := by decide +kernel
theorem m_k15 : m_dok m_d15 = true := (m_dapp m_k15_0 (m_dapp m_k15_1 m_k15_2))
theorem m_k16_0 : m_dk prog_6_method_6_code m_c16_0 = true := by decide +kernel
theorem m_k16_1 : m_dk prog_6_method_6_code m_c16_1 = true := by decide +kernel
theorem m_k16 : m_dok m_d16 = true := (m_dapp m_k16_0 m_k16_1)
theorem m_k17 : m_dok m_d17 = true := by decide +kernel
theorem m_k18 : m_dok m_d18 = true := by decide +kernel
theorem m_k19 : m_dok m_d19 = true := by decide +kernel
theorem m_k20 : m_dok m_d20 = true := by decide +kernel
theorem m_k21 : m_dok m_d21 = true := by decide +kernel
theorem m_k22 : m_dok m_d22 = true := by decide +kernel
theorem m_k23 : m_dok m_d23 = true := by decide +kernel
theorem m_k24 : m_dok m_d24 = true := by decide +kernel
theorem m_k25 : m_dok m_d25 = true := by decide +kernel
theorem m_k26 : m_dok m_d26 = true := by decide +kernel
theorem m_k27 : m_dok m_d27 = true := by decide +kernel
theorem m_k28 : m_dok m_d28 = true := by decide +kernel
theorem m_k29 : m_dok m_d29 = true := by decide +kernel
theorem m_k30 : m_dok m_d30 = true := by decide +kernel
theorem m_k31 : m_dok m_d31 = true := by decide +kernel
theorem m_k32 : m_dok m_d32 = true := by decide +kernel
theorem m_k33 : m_dok m_d33 = true := by decide +kernel
theorem m_k34 : m_dok m_d34 = true := by decide +kernel
theorem m_k35 : m_dok m_d35 = true := by decide +kernel
theorem m_k36 : m_dok m_d36 = true := by decide +kernel
theorem m_k37 : m_dok m_d37 = true := by decide +kernel
theorem m_k38 : m_dok m_d38 = true := by decide +kernel
theorem m_k39 : m_dok m_d39 = true := by decide +kernel
theorem m_k40 : m_dok m_d40 = true := by decide +kernel
theorem m_k41 : m_dok m_d41 = true := by decide +kernel
theorem m_k42 : m_dok m_d42 = true := by decide +kernel
theorem m_k43 : m_dok m_d43 = true := by decide +kernel
theorem m_k44 : m_dok m_d44 = true := by decide +kernel
theorem m_k45_0 : m_dk prog_5_method_7_code m_c45_0 = true := by decide +kernel
theorem m_k45_1 : m_dk prog_5_method_7_code m_c45_1 = true := by decide +kernel
theorem m_k45 : m_dok m_d45 = true := (m_dapp m_k45_0 m_k45_1)
theorem m_k46 : m_dok m_d46 = true := by decide +kernel
theorem m_k47 : m_dok m_d47 = true := by decide +kernel
theorem m_k48 : m_dok m_d48 = true := by decide +kernel
theorem m_k49 : m_dok m_d49 = true := by decide +kernel
theorem m_k50 : m_dok m_d50 = true := by decide +kernel
theorem m_k51 : m_dok m_d51 = true := by decide +kernel
theorem m_k52 : m_dok m_d52 = true := by decide +kernel
theorem m_k53 : m_dok m_d53 = true := by decide +kernel
theorem m_k54 : m_dok m_d54 = true := by decide +kernel
theorem m_k55 : m_dok m_d55 = true := by decide +kernel
theorem m_k56_0 : m_dk prog_5_method_12_code m_c56_0 = true := by decide +kernel
theorem m_k56_1 : m_dk prog_5_method_12_code m_c56_1 = true := by decide +kernel
theorem m_k56 : m_dok m_d56 = true := (m_dapp m_k56_0 m_k56_1)
theorem m_k57 : m_dok m_d57 = true := by decide +kernel
theorem m_k58 : m_dok m_d58 = true := by decide +kernel
theorem m_k59 : m_dok m_d59 = true := by decide +kernel
theorem m_k60 : m_dok m_d60 = true := by decide +kernel
theorem m_k61_0 : m_dk prog_4_method_9_code m_c61_0 = true := by decide +kernel
theorem m_k61_1 : m_dk prog_4_method_9_code m_c61_1 = true := by decide +kernel
theorem m_k61 : m_dok m_d61 = true := (m_dapp m_k61_0 m_k61_1)
theorem m_k62 : m_dok m_d62 = true := by decide +kernel
theorem m_k63 : m_dok m_d63 = true := by decide +kernel
theorem m_k64_0 : m_dk prog_4_method_11_code m_c64_0 = true := by decide +kernel
theorem m_k64_1 : m_dk prog_4_method_11_code m_c64_1 = true := by decide +kernel
theorem m_k64 : m_dok m_d64 = true := (m_dapp m_k64_0 m_k64_1)
theorem m_k65_0 : m_dk prog_4_method_10_code m_c65_0 = true := by decide +kernel
theorem m_k65_1 : m_dk prog_4_method_10_code m_c65_1 = true := by decide +kernel
theorem m_k65 : m_dok m_d65 = true := (m_dapp m_k65_0 m_k65_1)
theorem m_k66 : m_dok m_d66 = true := by decide +kernel
theorem m_k67 : m_dok m_d67 = true := by decide +kernel
theorem m_k68 : m_dok m_d68 = true := by decide +kernel
theorem m_k69 : m_dok m_d69 = true := by decide +kernel
theorem m_k70 : m_dok m_d70 = true := by decide +kernel
theorem m_k71 : m_dok m_d71 = true := by decide +kernel
theorem m_k72 : m_dok m_d72 = true := by decide +kernel
theorem m_k73_0 : m_dk prog_4_method_15_code m_c73_0 = true := by decide +kernel
theorem m_k73_1 : m_dk prog_4_method_15_code m_c73_1 = true := by decide +kernel
theorem m_k73_2 : m_dk prog_4_method_15_code m_c73_2 = true := by decide +kernel
theorem m_k73_3 : m_dk prog_4_method_15_code m_c73_3 = true := by decide +kernel
theorem m_k73 : m_dok m_d73 = true := (m_dapp m_k73_0 (m_dapp m_k73_1 (m_dapp m_k73_2 m_k73_3)))
theorem m_k74_0 : m_dk prog_9_method_2_code m_c74_0 = true := by decide +kernel
theorem m_k74_1 : m_dk prog_9_method_2_code m_c74_1 = true := by decide +kernel
theorem m_k74_2 : m_dk prog_9_method_2_code m_c74_2 = true := by decide +kernel
theorem m_k74 : m_dok m_d74 = true := (m_dapp m_k74_0 (m_dapp m_k74_1 m_k74_2))
theorem m_k75 : m_dok m_d75 = true := by decide +kernel
theorem m_k76 : m_dok m_d76 = true := by decide +kernel
theorem m_k77 : m_dok m_d77 = true := by decide +kernel
theorem m_k78 : m_dok m_d78 = true := by decide +kernel
theorem m_k79 : m_dok m_d79 = true := by decide +kernel
theorem m_k80 : m_dok m_d80 = true := by decide +kernel
theorem m_k81_0 : m_dk prog_5_method_9_code m_c81_0 = true := by decide +kernel
theorem m_k81_1 : m_dk prog_5_method_9_code m_c81_1 = true := by decide +kernel
theorem m_k81 : m_dok m_d81 = true := (m_dapp m_k81_0 m_k81_1)
theorem m_k82 : m_dok m_d82 = true := by decide +kernel
theorem m_k83 : m_dok m_d83 = true := by decide +kernel
theorem m_k84 : m_dok m_d84 = true := by decide +kernel
theorem m_k85 : m_dok m_d85 = true := by decide +kernel
theorem m_k86 : m_dok m_d86 = true := by decide +kernel
theorem m_k87 : m_dok m_d87 = true := by decide +kernel
theorem m_k88 : m_dok m_d88 = true := by decide +kernel
theorem m_k89 : m_dok m_d89 = true := by decide +kernel
theorem m_k90 : m_dok m_d90 = true := by decide +kernel
theorem m_k91 : m_dok m_d91 = true := by decide +kernel
theorem m_k92 : m_dok m_d92 = true := by decide +kernel
theorem m_k93 : m_dok m_d93 = true := by decide +kernel
theorem m_k94 : m_dok m_d94 = true := by decide +kernel
theorem m_k95 : m_dok m_d95 = true := by decide +kernel
theorem m_k96 : m_dok m_d96 = true := by decide +kernel
theorem m_k97 : m_dok m_d97 = true := by decide +kernel
theorem m_k98 : m_dok m_d98 = true := by decide +kernel
theorem m_k99 : m_dok m_d99 = true := by decide +kernel
theorem m_k100 : m_dok m_d100 = true := by decide +kernel
theorem m_k101 : m_dok m_d101 = true := by decide +kernel
theorem m_k102 : m_dok m_d102 = true := by decide +kernel
theorem m_k103 : m_dok m_d103 = true := by decide +kernel
theorem m_k104 : m_dok m_d104 = true := by decide +kernel
theorem m_k105 : m_dok m_d105 = true := by decide +kernel
theorem m_k106 : m_dok m_d106 = true := by decide +kernel
theorem m_k107 : m_dok m_d107 = true := by decide +kernel
theorem m_k108_0 : m_dk prog_1_method_15_code m_c108_0 = true := by decide +kernel
theorem m_k108_1 : m_dk prog_1_method_15_code m_c108_1 = true := by decide +kernel
theorem m_k108 : m_dok m_d108 = true := (m_dapp m_k108_0 m_k108_1)
theorem m_k109 : m_dok m_d109 = true := by decide +kernel
theorem m_k110 : m_dok m_d110 = true := by decide +kernel
theorem m_k111 : m_dok m_d111 = true := by decide +kernel
theorem m_k112 : m_dok m_d112 = true := by decide +kernel
theorem m_k113 : m_dok m_d113 = true := by decide +kernel
theorem m_k114 : m_dok m_d114 = true := by decide +kernel
theorem m_k115 : m_dok m_d115 = true := by decide +kernel
theorem m_k116 : m_dok m_d116 = true := by decide +kernel
theorem m_k117 : m_dok m_d117 = true := by decide +kernel
theorem m_k118 : m_dok m_d118 = true := by decide +kernel
theorem m_k119 : m_dok m_d119 = true := by decide +kernel
theorem m_k120 : m_dok m_d120 = true := by decide +kernel
theorem m_k121 : m_dok m_d121 = true := by decide +kernel
theorem m_k122 : m_dok m_d122 = true := by decide +kernel
theorem m_k123 : m_dok m_d123 = true := by decide +kernel
theorem m_k124_0 : m_dk prog_9_method_18_code m_c124_0 = true := by decide +kernel
theorem m_k124_1 : m_dk prog_9_method_18_code m_c124_1 = true := by decide +kernel
theorem m_k124 : m_dok m_d124 = true := (m_dapp m_k124_0 m_k124_1)
theorem m_k125 : m_dok m_d125 = true := by decide +kernel
theorem m_k126 : m_dok m_d126 = true := by decide +kernel
theorem m_k127 : m_dok m_d127 = true := by decide +kernel
theorem m_k128 : m_dok m_d128 = true := by decide +kernel
theorem m_k129 : m_dok m_d129 = true := by decide +kernel
theorem m_k130 : m_dok m_d130 = true := by decide +kernel
theorem m_k131 : m_dok m_d131 = true := by decide +kernel
theorem m_k132 : m_dok m_d132 = true := by decide +kernel
theorem m_k133_0 : m_dk prog_3_method_9_code m_c133_0 = true := by decide +kernel
theorem m_k133_1 : m_dk prog_3_method_9_code m_c133_1 = true := by decide +kernel
theorem m_k133 : m_dok m_d133 = true := (m_dapp m_k133_0 m_k133_1)
theorem m_k134 : m_dok m_d134 = true := by decide +kernel
theorem m_k135 : m_dok m_d135 = true := by decide +kernel
theorem m_k136 : m_dok m_d136 = true := by decide +kernel
theorem m_k137 : m_dok m_d137 = true := by decide +kernel
theorem m_k138 : m_dok m_d138 = true := by decide +kernel
theorem m_k139 : m_dok m_d139 = true := by decide +kernel
theorem m_k140 : m_dok m_d140 = true := by decide +kernel
theorem m_k141 : m_dok m_d141 = true := by decide +kernel
theorem m_k142 : m_dok m_d142 = true := by decide +kernel
theorem m_k143 : m_dok m_d143 = true := by decide +kernel
theorem m_k144 : m_dok m_d144 = true := by decide +kernel
theorem m_k145 : m_dok m_d145 = true := by decide +kernel
theorem m_k146 : m_dok m_d146 = true := by decide +kernel
theorem m_k147 : m_dok m_d147 = true := by decide +kernel
theorem m_k148 : m_dok m_d148 = true := by decide +kernel
theorem m_k149 : m_dok m_d149 = true := by decide +kernel
theorem m_k150 : m_dok m_d150 = true := by decide +kernel
theorem m_k151 : m_dok m_d151 = true := by decide +kernel
theorem m_k152 : m_dok m_d152 = true := by decide +kernel
theorem m_k153_0 : m_dk prog_7_method_7_code m_c153_0 = true := by decide +kernel
theorem m_k153_1 : m_dk prog_7_method_7_code m_c153_1 = true := by decide +kernel
theorem m_k153 : m_dok m_d153 = true := (m_dapp m_k153_0 m_k153_1)
theorem m_k154 : m_dok m_d154 = true := by decide +kernel
theorem m_k155 : m_dok m_d155 = true := by decide +kernel
theorem m_k156 : m_dok m_d156 = true := by decide +kernel
theorem m_k157_0 : m_dk prog_7_method_12_code m_c157_0 = true := by decide +kernel
theorem m_k157_1 : m_dk prog_7_method_12_code m_c157_1 = true := by decide +kernel
theorem m_k157 : m_dok m_d157 = true := (m_dapp m_k157_0 m_k157_1)
theorem m_k158 : m_dok m_d158 = true := by decide +kernel
theorem m_k159 : m_dok m_d159 = true := by decide +kernel
theorem m_k160 : m_dok m_d160 = true := by decide +kernel
theorem m_k161 : m_dok m_d161 = true := by decide +kernel
theorem m_k162 : m_dok m_d162 = true := by decide +kernel
theorem m_k163_0 : m_dk prog_7_method_13_code m_c163_0 = true := by decide +kernel
theorem m_k163_1 : m_dk prog_7_method_13_code m_c163_1 = true := by decide +kernel
theorem m_k163 : m_dok m_d163 = true := (m_dapp m_k163_0 m_k163_1)
theorem m_k164 : m_dok m_d164 = true := by decide +kernel
theorem m_k165 : m_dok m_d165 = true := by decide +kernel
theorem m_k166 : m_dok m_d166 = true := by decide +kernel
theorem m_k167 : m_dok m_d167 = true := by decide +kernel
theorem m_k168 : m_dok m_d168 = true := by decide +kernel
theorem m_k169 : m_dok m_d169 = true := by decide +kernel
theorem m_k170 : m_dok m_d170 = true := by decide +kernel
theorem m_k171 : m_dok m_d171 = true := by decide +kernel
theorem m_k172_0 : m_dk prog_5_method_19_code m_c172_0 = true := by decide +kernel
theorem m_k172_1 : m_dk prog_5_method_19_code m_c172_1 = true := by decide +kernel
theorem m_k172 : m_dok m_d172 = true := (m_dapp m_k172_0 m_k172_1)
theorem m_k173 : m_dok m_d173 = true := by decide +kernel
theorem m_k174_0 : m_dk prog_5_method_21_code m_c174_0 = true := by decide +kernel
theorem m_k174_1 : m_dk prog_5_method_21_code m_c174_1 = true := by decide +kernel
theorem m_k174 : m_dok m_d174 = true := (m_dapp m_k174_0 m_k174_1)
theorem m_k175 : m_dok m_d175 = true := by decide +kernel
theorem m_k176 : m_dok m_d176 = true := by decide +kernel
theorem m_k177 : m_dok m_d177 = true := by decide +kernel
theorem m_k178 : m_dok m_d178 = true := by decide +kernel
theorem m_k179_0 : m_dk prog_5_method_25_code m_c179_0 = true := by decide +kernel
theorem m_k179_1 : m_dk prog_5_method_25_code m_c179_1 = true := by decide +kernel
theorem m_k179 : m_dok m_d179 = true := (m_dapp m_k179_0 m_k179_1)
theorem m_k180 : m_dok m_d180 = true := by decide +kernel
theorem m_k181 : m_dok m_d181 = true := by decide +kernel
theorem m_k182_0 : m_dk prog_11_method_1_code m_c182_0 = true := by decide +kernel
theorem m_k182_1 : m_dk prog_11_method_1_code m_c182_1 = true := by decide +kernel
theorem m_k182_2 : m_dk prog_11_method_1_code m_c182_2 = true := by decide +kernel
theorem m_k182_3 : m_dk prog_11_method_1_code m_c182_3 = true := by decide +kernel
theorem m_k182 : m_dok m_d182 = true := (m_dapp m_k182_0 (m_dapp m_k182_1 (m_dapp m_k182_2 m_k182_3)))
theorem m_k183 : m_dok m_d183 = true := by decide +kernel
theorem m_k184 : m_dok m_d184 = true := by decide +kernel
theorem m_k185 : m_dok m_d185 = true := by decide +kernel
theorem m_k186 : m_dok m_d186 = true := by decide +kernel
theorem m_k187_0 : m_dk prog_11_method_18_code m_c187_0 = true := by decide +kernel
theorem m_k187_1 : m_dk prog_11_method_18_code m_c187_1 = true := by decide +kernel
theorem m_k187 : m_dok m_d187 = true := (m_dapp m_k187_0 m_k187_1)
theorem m_k188 : m_dok m_d188 = true := by decide +kernel
theorem m_k189_0 : m_dk prog_11_method_17_code m_c189_0 = true := by decide +kernel
theorem m_k189_1 : m_dk prog_11_method_17_code m_c189_1 = true := by decide +kernel
theorem m_k189 : m_dok m_d189 = true := (m_dapp m_k189_0 m_k189_1)
theorem m_k190_0 : m_dk prog_11_method_12_code m_c190_0 = true := by decide +kernel
theorem m_k190_1 : m_dk prog_11_method_12_code m_c190_1 = true := by decide +kernel
theorem m_k190_2 : m_dk prog_11_method_12_code m_c190_2 = true := by decide +kernel
theorem m_k190 : m_dok m_d190 = true := (m_dapp m_k190_0 (m_dapp m_k190_1 m_k190_2))
theorem m_k191 : m_dok m_d191 = true := by decide +kernel
theorem m_k192_0 : m_dk prog_11_method_16_code m_c192_0 = true := by decide +kernel
theorem m_k192_1 : m_dk prog_11_method_16_code m_c192_1 = true := by decide +kernel
theorem m_k192_2 : m_dk prog_11_method_16_code m_c192_2 = true := by decide +kernel
theorem m_k192_3 : m_dk prog_11_method_16_code m_c192_3 = true := by decide +kernel
theorem m_k192 : m_dok m_d192 = true := (m_dapp m_k192_0 (m_dapp m_k192_1 (m_dapp m_k192_2 m_k192_3)))
theorem m_k193 : m_dok m_d193 = true := by decide +kernel
theorem m_k194 : m_dok m_d194 = true := by decide +kernel
theorem m_k195 : m_dok m_d195 = true := by decide +kernel
theorem m_k196 : m_dok m_d196 = true := by decide +kernel
theorem m_k197 : m_dok m_d197 = true := by decide +kernel
theorem m_k198 : m_dok m_d198 = true := by decide +kernel
theorem m_k199 : m_dok m_d199 = true := by decide +kernel
theorem m_k200 : m_dok m_d200 = true := by decide +kernel
theorem m_k201_0 : m_dk prog_11_method_44_code m_c201_0 = true := by decide +kernel
theorem m_k201_1 : m_dk prog_11_method_44_code m_c201_1 = true := by decide +kernel
theorem m_k201_2 : m_dk prog_11_method_44_code m_c201_2 = true := by decide +kernel
theorem m_k201 : m_dok m_d201 = true := (m_dapp m_k201_0 (m_dapp m_k201_1 m_k201_2))
theorem m_k202 : m_dok m_d202 = true := by decide +kernel
theorem m_k203_0 : m_dk prog_11_method_38_code m_c203_0 = true := by decide +kernel
theorem m_k203_1 : m_dk prog_11_method_38_code m_c203_1 = true := by decide +kernel
theorem m_k203 : m_dok m_d203 = true := (m_dapp m_k203_0 m_k203_1)
theorem m_k204 : m_dok m_d204 = true := by decide +kernel
theorem m_k205 : m_dok m_d205 = true := by decide +kernel
theorem m_k206 : m_dok m_d206 = true := by decide +kernel
theorem m_k207 : m_dok m_d207 = true := by decide +kernel
theorem m_k208 : m_dok m_d208 = true := by decide +kernel
theorem m_k209_0 : m_dk prog_11_method_26_code m_c209_0 = true := by decide +kernel
theorem m_k209_1 : m_dk prog_11_method_26_code m_c209_1 = true := by decide +kernel
theorem m_k209_2 : m_dk prog_11_method_26_code m_c209_2 = true := by decide +kernel
theorem m_k209 : m_dok m_d209 = true := (m_dapp m_k209_0 (m_dapp m_k209_1 m_k209_2))
theorem m_k210_0 : m_dk prog_11_method_25_code m_c210_0 = true := by decide +kernel
theorem m_k210_1 : m_dk prog_11_method_25_code m_c210_1 = true := by decide +kernel
theorem m_k210 : m_dok m_d210 = true := (m_dapp m_k210_0 m_k210_1)
theorem m_k211 : m_dok m_d211 = true := by decide +kernel
theorem m_k212 : m_dok m_d212 = true := by decide +kernel
theorem m_k213 : m_dok m_d213 = true := by decide +kernel
theorem m_k214 : m_dok m_d214 = true := by decide +kernel
theorem m_k215 : m_dok m_d215 = true := by decide +kernel
theorem m_k216 : m_dok m_d216 = true := by decide +kernel
theorem m_k217 : m_dok m_d217 = true := by decide +kernel
theorem m_k218_0 : m_dk prog_11_method_35_code m_c218_0 = true := by decide +kernel
theorem m_k218_1 : m_dk prog_11_method_35_code m_c218_1 = true := by decide +kernel
theorem m_k218_2 : m_dk prog_11_method_35_code m_c218_2 = true := by decide +kernel
theorem m_k218_3 : m_dk prog_11_method_35_code m_c218_3 = true := by decide +kernel
theorem m_k218 : m_dok m_d218 = true := (m_dapp m_k218_0 (m_dapp m_k218_1 (m_dapp m_k218_2 m_k218_3)))
theorem m_k219 : m_dok m_d219 = true := by decide +kernel
theorem m_k220_0 : m_dk prog_11_method_34_code m_c220_0 = true := by decide +kernel
theorem m_k220_1 : m_dk prog_11_method_34_code m_c220_1 = true := by decide +kernel
theorem m_k220 : m_dok m_d220 = true := (m_dapp m_k220_0 m_k220_1)
theorem m_k221_0 : m_dk prog_11_method_36_code m_c221_0 = true := by decide +kernel
theorem m_k221_1 : m_dk prog_11_method_36_code m_c221_1 = true := by decide +kernel
theorem m_k221 : m_dok m_d221 = true := (m_dapp m_k221_0 m_k221_1)
theorem m_k222 : m_dok m_d222 = true := by decide +kernel
theorem m_k223 : m_dok m_d223 = true := by decide +kernel
theorem m_k224 : m_dok m_d224 = true := by decide +kernel
theorem m_k225 : m_dok m_d225 = true := by decide +kernel
theorem m_k226 : m_dok m_d226 = true := by decide +kernel
theorem m_k227 : m_dok m_d227 = true := by decide +kernel
theorem m_k228 : m_dok m_d228 = true := by decide +kernel
theorem m_k229 : m_dok m_d229 = true := by decide +kernel
theorem m_k230_0 : m_dk prog_11_method_53_code m_c230_0 = true := by decide +kernel
theorem m_k230_1 : m_dk prog_11_method_53_code m_c230_1 = true := by decide +kernel
theorem m_k230 : m_dok m_d230 = true := (m_dapp m_k230_0 m_k230_1)
theorem m_k231 : m_dok m_d231 = true := by decide +kernel
theorem m_k232 : m_dok m_d232 = true := by decide +kernel
theorem m_k233 : m_dok m_d233 = true := by decide +kernel
theorem m_k234 : m_dok m_d234 = true := by decide +kernel
theorem m_k235 : m_dok m_d235 = true := by decide +kernel
theorem m_k236_0 : m_dk prog_11_method_59_code m_c236_0 = true := by decide +kernel
theorem m_k236_1 : m_dk prog_11_method_59_code m_c236_1 = true := by decide +kernel
theorem m_k236 : m_dok m_d236 = true := (m_dapp m_k236_0 m_k236_1)
theorem m_k237 : m_dok m_d237 = true := by decide +kernel
theorem m_k238 : m_dok m_d238 = true := by decide +kernel
theorem m_k239 : m_dok m_d239 = true := by decide +kernel
theorem m_k240 : m_dok m_d240 = true := by decide +kernel
theorem m_k241 : m_dok m_d241 = true := by decide +kernel
theorem m_k242_0 : m_dk prog_11_method_63_code m_c242_0 = true := by decide +kernel
theorem m_k242_1 : m_dk prog_11_method_63_code m_c242_1 = true := by decide +kernel
theorem m_k242 : m_dok m_d242 = true := (m_dapp m_k242_0 m_k242_1)
theorem m_k243 : m_dok m_d243 = true := by decide +kernel
theorem m_k244 : m_dok m_d244 = true := by decide +kernel
theorem m_k245 : m_dok m_d245 = true := by decide +kernel
theorem m_k246 : m_dok m_d246 = true := by decide +kernel
theorem m_k247 : m_dok m_d247 = true := by decide +kernel
theorem m_k248_0 : m_dk prog_11_method_74_code m_c248_0 = true := by decide +kernel
theorem m_k248_1 : m_dk prog_11_method_74_code m_c248_1 = true := by decide +kernel
theorem m_k248 : m_dok m_d248 = true := (m_dapp m_k248_0 m_k248_1)
theorem m_k249 : m_dok m_d249 = true := by decide +kernel
theorem m_k250 : m_dok m_d250 = true := by decide +kernel
theorem m_k251 : m_dok m_d251 = true := by decide +kernel
theorem m_k252 : m_dok m_d252 = true := by decide +kernel
theorem m_k253_0 : m_dk prog_11_method_83_code m_c253_0 = true := by decide +kernel
theorem m_k253_1 : m_dk prog_11_method_83_code m_c253_1 = true := by decide +kernel
theorem m_k253_2 : m_dk prog_11_method_83_code m_c253_2 = true := by decide +kernel
theorem m_k253 : m_dok m_d253 = true := (m_dapp m_k253_0 (m_dapp m_k253_1 m_k253_2))
theorem m_k254 : m_dok m_d254 = true := by decide +kernel
theorem m_k255_0 : m_dk prog_11_method_82_code m_c255_0 = true := by decide +kernel
theorem m_k255_1 : m_dk prog_11_method_82_code m_c255_1 = true := by decide +kernel
theorem m_k255_2 : m_dk prog_11_method_82_code m_c255_2 = true := by decide +kernel
theorem m_k255 : m_dok m_d255 = true := (m_dapp m_k255_0 (m_dapp m_k255_1 m_k255_2))
theorem m_k256 : m_dok m_d256 = true := by decide +kernel
theorem m_k257 : m_dok m_d257 = true := by decide +kernel
theorem m_k258 : m_dok m_d258 = true := by decide +kernel
theorem m_k259 : m_dok m_d259 = true := by decide +kernel
theorem m_k260 : m_dok m_d260 = true := by decide +kernel
theorem m_k261 : m_dok m_d261 = true := by decide +kernel
theorem m_k262_0 : m_dk prog_11_method_85_code m_c262_0 = true := by decide +kernel
theorem m_k262_1 : m_dk prog_11_method_85_code m_c262_1 = true := by decide +kernel
theorem m_k262 : m_dok m_d262 = true := (m_dapp m_k262_0 m_k262_1)
theorem m_k263 : m_dok m_d263 = true := by decide +kernel
theorem m_k264 : m_dok m_d264 = true := by decide +kernel
theorem m_k265_0 : m_dk prog_11_method_90_code m_c265_0 = true := by decide +kernel
theorem m_k265_1 : m_dk prog_11_method_90_code m_c265_1 = true := by decide +kernel
theorem m_k265_2 : m_dk prog_11_method_90_code m_c265_2 = true := by decide +kernel
theorem m_k265 : m_dok m_d265 = true := (m_dapp m_k265_0 (m_dapp m_k265_1 m_k265_2))
theorem m_k266 : m_dok m_d266 = true := by decide +kernel
theorem m_k267 : m_dok m_d267 = true := by decide +kernel
theorem m_k268_0 : m_dk prog_11_method_91_code m_c268_0 = true := by decide +kernel
theorem m_k268_1 : m_dk prog_11_method_91_code m_c268_1 = true := by decide +kernel
theorem m_k268 : m_dok m_d268 = true := (m_dapp m_k268_0 m_k268_1)
theorem m_k269 : m_dok m_d269 = true := by decide +kernel
theorem m_k270 : m_dok m_d270 = true := by decide +kernel
theorem m_k271 : m_dok m_d271 = true := by decide +kernel
theorem m_k272 : m_dok m_d272 = true := by decide +kernel
theorem m_k273 : m_dok m_d273 = true := by decide +kernel
theorem m_k274 : m_dok m_d274 = true := by decide +kernel
theorem m_k275_0 : m_dk prog_11_method_98_code m_c275_0 = true := by decide +kernel
theorem m_k275_1 : m_dk prog_11_method_98_code m_c275_1 = true := by decide +kernel
theorem m_k275 : m_dok m_d275 = true := (m_dapp m_k275_0 m_k275_1)
theorem m_k276 : m_dok m_d276 = true := by decide +kernel
theorem m_k277 : m_dok m_d277 = true := by decide +kernel
theorem m_k278_0 : m_dk prog_11_method_100_code m_c278_0 = true := by decide +kernel
theorem m_k278_1 : m_dk prog_11_method_100_code m_c278_1 = true := by decide +kernel
theorem m_k278 : m_dok m_d278 = true := (m_dapp m_k278_0 m_k278_1)
theorem m_k279 : m_dok m_d279 = true := by decide +kernel
theorem m_k280 : m_dok m_d280 = true := by decide +kernel
theorem m_k281_0 : m_dk prog_11_method_102_code m_c281_0 = true := by decide +kernel
theorem m_k281_1 : m_dk prog_11_method_102_code m_c281_1 = true := by decide +kernel
theorem m_k281_2 : m_dk prog_11_method_102_code m_c281_2 = true := by decide +kernel
theorem m_k281 : m_dok m_d281 = true := (m_dapp m_k281_0 (m_dapp m_k281_1 m_k281_2))
theorem m_k282 : m_dok m_d282 = true := by decide +kernel
theorem m_k283_0 : m_dk prog_11_method_104_code m_c283_0 = true := by decide +kernel
theorem m_k283_1 : m_dk prog_11_method_104_code m_c283_1 = true := by decide +kernel
theorem m_k283 : m_dok m_d283 = true := (m_dapp m_k283_0 m_k283_1)
theorem m_k284 : m_dok m_d284 = true := by decide +kernel
theorem m_k285_0 : m_dk prog_11_method_107_code m_c285_0 = true := by decide +kernel
theorem m_k285_1 : m_dk prog_11_method_107_code m_c285_1 = true := by decide +kernel
theorem m_k285_2 : m_dk prog_11_method_107_code m_c285_2 = true := by decide +kernel
theorem m_k285 : m_dok m_d285 = true := (m_dapp m_k285_0 (m_dapp m_k285_1 m_k285_2))
theorem m_k286 : m_dok m_d286 = true := by decide +kernel
theorem m_k287 : m_dok m_d287 = true := by decide +kernel
theorem m_k288 : m_dok m_d288 = true := by decide +kernel
theorem m_k289 : m_dok m_d289 = true := by decide +kernel
theorem m_k290 : m_dok m_d290 = true := by decide +kernel
theorem m_k291 : m_dok m_d291 = true := by decide +kernel
end
section
-- A MACHINE OF MY OWN, small and pure: its words are those of the kit's Value, its heap rows of numbers by address (0: null; 1 .. 15: what stands still; from 16 on: what is made, in its order)
abbrev MH : Type := (Nat × Nat) × (Nat → Nat × Nat) × (Nat → Nat → Int32) × (Nat → Nat → Int64) × (Nat → Nat → Nat)
abbrev MS : Type := Nat × List (Nat × Value) × List Value × MH
abbrev MA : Type := MS ⊕ ((Option Value × MH) ⊕ (Nat × List Value × List Value × Nat))
def h_n (h : MH) : Nat := h.1.1
def h_z (h : MH) : Nat := h.1.2
def h_k (h : MH) : Nat → Nat × Nat := h.2.1
def h_i (h : MH) : Nat → Nat → Int32 := h.2.2.1
def h_l (h : MH) : Nat → Nat → Int64 := h.2.2.2.1
def h_r (h : MH) : Nat → Nat → Nat := h.2.2.2.2
def m_u {α : Type} (f : Nat → α) (k : Nat) (v : α) : Nat → α := fun j => if j = k then v else f j
def h_si (h : MH) (a i : Nat) (x : Int32) : MH := (h.1, h.2.1, m_u h.2.2.1 a (m_u (h.2.2.1 a) i x), h.2.2.2)
def h_sl (h : MH) (a i : Nat) (x : Int64) : MH := (h.1, h.2.1, h.2.2.1, m_u h.2.2.2.1 a (m_u (h.2.2.2.1 a) i x), h.2.2.2.2)
def h_sr (h : MH) (a i : Nat) (x : Nat) : MH := (h.1, h.2.1, h.2.2.1, h.2.2.2.1, m_u h.2.2.2.2 a (m_u (h.2.2.2.2 a) i x))
def h_new (h : MH) (k len sz : Nat) : MH := ((h.1.1 + 1, h.1.2 + sz), m_u h.2.1 (16 + h.1.1) (k, len), m_u h.2.2.1 (16 + h.1.1) (fun _ => 0), m_u h.2.2.2.1 (16 + h.1.1) (fun _ => 0), m_u h.2.2.2.2 (16 + h.1.1) (fun _ => 0))
def h_grid (h : MH) (n k : Nat) : MH := ((h.1.1 + (1 + n), h.1.2 + (n + n * k)), (fun a => if a = 16 + h.1.1 then (33, n) else if 16 + h.1.1 < a ∧ a ≤ 16 + h.1.1 + n then (20, k) else h.2.1 a), (fun a => if 16 + h.1.1 ≤ a ∧ a ≤ 16 + h.1.1 + n then (fun _ => 0) else h.2.2.1 a), h.2.2.2.1, m_u h.2.2.2.2 (16 + h.1.1) (fun i => if i < n then 16 + h.1.1 + 1 + i else 0))
def h_cpi (h : MH) (a0 a1 sp dp n : Nat) : MH := (h.1, h.2.1, m_u h.2.2.1 a1 (fun j => if dp ≤ j ∧ j < dp + n then h.2.2.1 a0 (sp + (j - dp)) else h.2.2.1 a1 j), h.2.2.2)
def h_cpl (h : MH) (a0 a1 sp dp n : Nat) : MH := (h.1, h.2.1, h.2.2.1, m_u h.2.2.2.1 a1 (fun j => if dp ≤ j ∧ j < dp + n then h.2.2.2.1 a0 (sp + (j - dp)) else h.2.2.2.1 a1 j), h.2.2.2.2)
-- the program
def m_name (j : Nat) : MethodName := if j = 900 then objectInit else if j = 901 then arraycopyName else match m_meths[j]? with
  | some q => q.2.1
  | none => objectInit
def m_cnm (c : Nat) : String := match m_cl[c]? with
  | some q => q.1
  | none => "[[I"
def m_m (i : Nat) : m_M := m_meths.getD i m_d0
def m_lc (i : Nat) : Nat := (m_m i).2.2.2.1
def m_rt (i : Nat) : Option FieldType := (m_m i).2.2.2.2.1
def m_kind (i : Nat) : Nat := (m_m i).2.2.2.2.2.1
def m_fr (i : Nat) : Nat := (m_m i).2.2.2.2.2.2.1
def m_lo (i : Nat) : Nat := (m_m i).2.2.2.2.2.2.2.1
def m_na (i : Nat) : Nat := (m_m i).2.2.2.2.2.2.2.2
def m_ow (i : Nat) : Nat := m_ownL.getD i 0
def m_lk {α : Type} (l : List (Nat × α)) (k : Nat) : Option α := (l.find? (fun e => e.1 == k)).map (·.2)
def m_at (i pc : Nat) : Option (Instr × Nat) := m_lk (m_m i).1 pc
def m_fl (i idx : Nat) : Option (Nat × Nat × Nat) := m_lk (m_flk.getD (m_ow i) []) idx
def m_ml (i idx : Nat) : Option (Nat × Nat) := m_lk (m_mlk.getD (m_ow i) []) idx
def m_sf (i idx : Nat) : Option Nat := m_lk (m_sfl.getD (m_ow i) []) idx
def m_cc (i idx : Nat) : Option Nat := m_lk (m_clk.getD (m_ow i) []) idx
def m_ic (i idx : Nat) : Option Int32 := m_lk (m_ick.getD (m_ow i) []) idx
def m_jc (i idx : Nat) : Option Int64 := m_lk (m_lck.getD (m_ow i) []) idx
def m_sc (i idx : Nat) : Option Nat := m_lk (m_sck.getD (m_ow i) []) idx
def m_ty (c k : Nat) : Nat × Bool := if c = 39 then (if k = 0 then (2, true) else (0, true)) else (m_fts.getD c []).getD k (0, true)
def m_nf (c : Nat) : Nat := (m_fts.getD c []).length
-- Math's own (the kit has them as one step)
def m_jmin : Nat := 13
def m_jmax : Nat := 47
def m_jmaxl : Nat := 137
def m_jminl : Nat := 138
-- steps
def m_cat (st : List Value) : Nat := (st.map fun v => v.category).sum
def m_s1 (lv : List (Nat × Value)) (i : Nat) (v : Value) : List (Nat × Value) := (i, v) :: lv.filter (fun q => !(q.1 == i) && !(q.1 + 1 == i && q.2.category == 2))
def m_s2 (lv : List (Nat × Value)) (i : Nat) (v : Value) : List (Nat × Value) := (i, v) :: lv.filter (fun q => !(q.1 == i) && (!(q.1 == i + 1) && !(q.1 + 1 == i && q.2.category == 2)))
def m_go (pc : Nat) (lv : List (Nat × Value)) (st : List Value) (h : MH) : Option MA := some (.inl (pc, lv, st, h))
def m_tg (pc : Nat) (off : Int) (lv : List (Nat × Value)) (st : List Value) (h : MH) : Option MA := if 0 ≤ (pc : Int) + off then some (.inl (((pc : Int) + off).toNat, lv, st, h)) else none
def m_cmp (c : ClassFile.Cond) (x y : Int32) : Bool := match c with
  | .eq => decide (x = y)
  | .ne => !decide (x = y)
  | .lt => decide (x < y)
  | .ge => decide (y ≤ x)
  | .gt => decide (y < x)
  | .le => decide (x ≤ y)
def m_br (b : Bool) (pc : Nat) (off : Int) (lv : List (Nat × Value)) (st : List Value) (h : MH) : Option MA := if 0 ≤ (pc : Int) + off then (match b with
  | true => some (.inl (((pc : Int) + off).toNat, lv, st, h))
  | false => m_go (pc + 3) lv st h) else none
def m_in (j : Int32) (n : Nat) : Bool := decide (¬ j < 0) && decide (j.toNatClampNeg < n)
def e_ii (f : Int32 → Int32 → Int32) (pc : Nat) (lv : List (Nat × Value)) (st : List Value) (h : MH) : Option MA := match st with
  | .int y :: .int x :: r => m_go (pc + 1) lv (.int (f x y) :: r) h
  | _ => none
def e_ll (f : Int64 → Int64 → Int64) (pc : Nat) (lv : List (Nat × Value)) (st : List Value) (h : MH) : Option MA := match st with
  | .long y :: .long x :: r => m_go (pc + 1) lv (.long (f x y) :: r) h
  | _ => none
def e_li (f : Int64 → Int32 → Int64) (pc : Nat) (lv : List (Nat × Value)) (st : List Value) (h : MH) : Option MA := match st with
  | .int y :: .long x :: r => m_go (pc + 1) lv (.long (f x y) :: r) h
  | _ => none
def e_i (f : Int32 → Value) (pc : Nat) (lv : List (Nat × Value)) (st : List Value) (h : MH) : Option MA := match st with
  | .int x :: r => m_go (pc + 1) lv (f x :: r) h
  | _ => none
def e_l (f : Int64 → Value) (pc : Nat) (lv : List (Nat × Value)) (st : List Value) (h : MH) : Option MA := match st with
  | .long x :: r => m_go (pc + 1) lv (f x :: r) h
  | _ => none
def e_dv (f : Int32 → Int32 → Int32) (pc : Nat) (lv : List (Nat × Value)) (st : List Value) (h : MH) : Option MA := match st with
  | .int y :: .int x :: r => if y = 0 then none else m_go (pc + 1) lv (.int (f x y) :: r) h
  | _ => none
def e_ild (k pc : Nat) (lv : List (Nat × Value)) (st : List Value) (h : MH) : Option MA := match m_lk lv k with
  | some (.int x) => m_go pc lv (.int x :: st) h
  | _ => none
def e_lld (k pc : Nat) (lv : List (Nat × Value)) (st : List Value) (h : MH) : Option MA := match m_lk lv k with
  | some (.long x) => m_go pc lv (.long x :: st) h
  | _ => none
def e_ald (k pc : Nat) (lv : List (Nat × Value)) (st : List Value) (h : MH) : Option MA := match m_lk lv k with
  | some (.ref x) => m_go pc lv (.ref x :: st) h
  | _ => none
def e_ist (n k pc : Nat) (lv : List (Nat × Value)) (st : List Value) (h : MH) : Option MA := match st with
  | .int x :: r => if k < n then m_go pc (m_s1 lv k (.int x)) r h else none
  | _ => none
def e_lst (n k pc : Nat) (lv : List (Nat × Value)) (st : List Value) (h : MH) : Option MA := match st with
  | .long x :: r => if k + 1 < n then m_go pc (m_s2 lv k (.long x)) r h else none
  | _ => none
def e_ast (n k pc : Nat) (lv : List (Nat × Value)) (st : List Value) (h : MH) : Option MA := match st with
  | .ref x :: r => if k < n then m_go pc (m_s1 lv k (.ref x)) r h else none
  | _ => none
def e_inc (n k : Nat) (z : Int) (pc : Nat) (lv : List (Nat × Value)) (st : List Value) (h : MH) : Option MA := match m_lk lv k with
  | some (.int x) => if k < n then m_go (pc + 3) (m_s1 lv k (.int (x + Int32.ofInt z))) st h else none
  | _ => none
def e_get (i idx pc : Nat) (lv : List (Nat × Value)) (st : List Value) (h : MH) : Option MA := match st, m_fl i idx with
  | .ref a :: r, some (_, c, k) => if (h_k h a).1 = c + 1 then (match (m_ty c k).1 with
      | 0 => m_go (pc + 3) lv (.int (h_i h a k) :: r) h
      | 1 => m_go (pc + 3) lv (.long (h_l h a k) :: r) h
      | _ => m_go (pc + 3) lv (.ref (h_r h a k) :: r) h) else none
  | _, _ => none
def e_put (i idx pc : Nat) (lv : List (Nat × Value)) (st : List Value) (h : MH) : Option MA := match st, m_fl i idx with
  | .int x :: .ref a :: r, some (nest, c, k) => if (h_k h a).1 = c + 1 ∧ c < 10 ∧ k < m_nf c ∧ m_ty c k = (0, false) then m_go (pc + 3) lv r (h_si h a k x) else none
  | .long x :: .ref a :: r, some (nest, c, k) => if (h_k h a).1 = c + 1 ∧ c < 10 ∧ k < m_nf c ∧ m_ty c k = (1, false) then m_go (pc + 3) lv r (h_sl h a k x) else none
  | .ref x :: .ref a :: r, some (nest, c, k) => if (h_k h a).1 = c + 1 ∧ c < 10 ∧ k < m_nf c ∧ (m_ty c k).1 = 2 ∧ ((m_ty c k).2 = true → nest = 0 ∧ m_kind i = 2 ∧ m_ownL.getD i 0 = m_ow i ∧ m_cnm c = (m_m i).2.1.cls) then m_go (pc + 3) lv r (h_sr h a k x) else none
  | _, _ => none
def e_iald (k0 k1 pc : Nat) (lv : List (Nat × Value)) (st : List Value) (h : MH) : Option MA := match st with
  | .int j :: .ref a :: r => if ((h_k h a).1 = k0 ∨ (h_k h a).1 = k1) ∧ m_in j (h_k h a).2 = true then m_go (pc + 1) lv (.int (h_i h a j.toNatClampNeg) :: r) h else none
  | _ => none
def e_lald (pc : Nat) (lv : List (Nat × Value)) (st : List Value) (h : MH) : Option MA := match st with
  | .int j :: .ref a :: r => if (h_k h a).1 = 25 ∧ m_in j (h_k h a).2 = true then m_go (pc + 1) lv (.long (h_l h a j.toNatClampNeg) :: r) h else none
  | _ => none
def e_aald (pc : Nat) (lv : List (Nat × Value)) (st : List Value) (h : MH) : Option MA := match st with
  | .int j :: .ref a :: r => if (30 ≤ (h_k h a).1 ∧ (h_k h a).1 < 34) ∧ m_in j (h_k h a).2 = true then m_go (pc + 1) lv (.ref (h_r h a j.toNatClampNeg) :: r) h else none
  | _ => none
def e_iast (pc : Nat) (lv : List (Nat × Value)) (st : List Value) (h : MH) : Option MA := match st with
  | .int x :: .int j :: .ref a :: r => if 16 ≤ a ∧ (h_k h a).1 = 20 ∧ m_in j (h_k h a).2 = true then m_go (pc + 1) lv r (h_si h a j.toNatClampNeg x) else none
  | _ => none
def e_bast (pc : Nat) (lv : List (Nat × Value)) (st : List Value) (h : MH) : Option MA := match st with
  | .int x :: .int j :: .ref a :: r => if 16 ≤ a ∧ (h_k h a).1 = 21 ∧ m_in j (h_k h a).2 = true then m_go (pc + 1) lv r (h_si h a j.toNatClampNeg x.toInt8.toInt32)
      else if 16 ≤ a ∧ (h_k h a).1 = 22 ∧ m_in j (h_k h a).2 = true then m_go (pc + 1) lv r (h_si h a j.toNatClampNeg (x &&& 1)) else none
  | _ => none
def e_last (pc : Nat) (lv : List (Nat × Value)) (st : List Value) (h : MH) : Option MA := match st with
  | .long x :: .int j :: .ref a :: r => if 16 ≤ a ∧ (h_k h a).1 = 25 ∧ m_in j (h_k h a).2 = true then m_go (pc + 1) lv r (h_sl h a j.toNatClampNeg x) else none
  | _ => none
def m_el (k : Nat) : Nat := match k with
  | 30 => 7
  | 31 => 4
  | _ => 1
def e_aast (pc : Nat) (lv : List (Nat × Value)) (st : List Value) (h : MH) : Option MA := match st with
  | .ref x :: .int j :: .ref a :: r => if 16 ≤ a ∧ (30 ≤ (h_k h a).1 ∧ (h_k h a).1 < 33) ∧ m_in j (h_k h a).2 = true ∧ 16 ≤ x ∧ (h_k h x).1 = m_el (h_k h a).1 then m_go (pc + 1) lv r (h_sr h a j.toNatClampNeg x) else none
  | _ => none
def e_alen (pc : Nat) (lv : List (Nat × Value)) (st : List Value) (h : MH) : Option MA := match st with
  | .ref a :: r => if 20 ≤ (h_k h a).1 ∧ (h_k h a).1 < 34 then m_go (pc + 1) lv (.int (Int32.ofNat (h_k h a).2) :: r) h else none
  | _ => none
def m_ak (t : ArrayType) : Nat := match t with
  | .int => 20
  | .byte => 21
  | .boolean => 22
  | .long => 25
  | _ => 0
def e_newa (t : ArrayType) (pc : Nat) (lv : List (Nat × Value)) (st : List Value) (h : MH) : Option MA := match st with
  | .int n :: r => if m_ak t ≠ 0 ∧ ¬ n < 0 ∧ n.toNatClampNeg ≤ 1000000 then m_go (pc + 2) lv (.ref (16 + h_n h) :: r) (h_new h (m_ak t) n.toNatClampNeg n.toNatClampNeg) else none
  | _ => none
def e_new (i idx pc : Nat) (lv : List (Nat × Value)) (st : List Value) (h : MH) : Option MA := match m_cc i idx with
  | some c => if c < 10 then m_go (pc + 3) lv (.ref (16 + h_n h) :: st) (h_new h (c + 1) (m_nf c) (m_nf c)) else none
  | none => none
def m_ek (c : Nat) : Nat := match c with
  | 6 => 30
  | 3 => 31
  | 0 => 32
  | _ => 0
def e_anew (i idx pc : Nat) (lv : List (Nat × Value)) (st : List Value) (h : MH) : Option MA := match st, m_cc i idx with
  | .int n :: r, some c => if m_ek c ≠ 0 ∧ ¬ n < 0 ∧ n.toNatClampNeg ≤ 1000000 then m_go (pc + 3) lv (.ref (16 + h_n h) :: r) (h_new h (m_ek c) n.toNatClampNeg n.toNatClampNeg) else none
  | _, _ => none
def e_grid (i idx pc : Nat) (lv : List (Nat × Value)) (st : List Value) (h : MH) : Option MA := match st, m_cc i idx with
  | .int k :: .int n :: r, some 33 => if ¬ n < 0 ∧ ¬ k < 0 ∧ n.toNatClampNeg ≤ 1000000 ∧ k.toNatClampNeg ≤ 1000000 then m_go (pc + 4) lv (.ref (16 + h_n h) :: r) (h_grid h n.toNatClampNeg k.toNatClampNeg) else none
  | _, _ => none
def e_gets (i idx pc : Nat) (lv : List (Nat × Value)) (st : List Value) (h : MH) : Option MA := match m_sf i idx with
  | some 1 => m_go (pc + 3) lv (.int 1 :: st) h
  | some 2 => m_go (pc + 3) lv (.ref 1 :: st) h
  | some 3 => m_go (pc + 3) lv (.ref 15 :: st) h
  | _ => none
def e_ldc (w : Nat) (i idx pc : Nat) (lv : List (Nat × Value)) (st : List Value) (h : MH) : Option MA := match m_ic i idx with
  | some x => m_go (pc + w) lv (.int x :: st) h
  | none => if w = 2 then (match m_sc i idx with
      | some a => m_go (pc + w) lv (.ref a :: st) h
      | none => none) else none
def e_cp (i pc : Nat) (lv : List (Nat × Value)) (st : List Value) (h : MH) : Option MA := match st with
  | .int n :: .int dp :: .ref a1 :: .int sp :: .ref a0 :: r => if (16 ≤ a0 ∧ 16 ≤ a1 ∧ ¬ sp < 0 ∧ ¬ dp < 0 ∧ ¬ n < 0 ∧ sp.toNatClampNeg + n.toNatClampNeg ≤ (h_k h a0).2 ∧ dp.toNatClampNeg + n.toNatClampNeg ≤ (h_k h a1).2 ∧ 1 ≤ m_fr i ∧ m_cat r + 18 ≤ m_lo i ∧ m_cat r ≤ 8) then
      (if ((h_k h a0).1 = 20 ∧ (h_k h a1).1 = 20) ∨ ((h_k h a0).1 = 21 ∧ (h_k h a1).1 = 21) then m_go (pc + 3) lv r (h_cpi h a0 a1 sp.toNatClampNeg dp.toNatClampNeg n.toNatClampNeg)
       else if (h_k h a0).1 = 25 ∧ (h_k h a1).1 = 25 then m_go (pc + 3) lv r (h_cpl h a0 a1 sp.toNatClampNeg dp.toNatClampNeg n.toNatClampNeg) else none) else none
  | _ => none
-- a call: kind 0 static, 1 virtual, 2 special
def e_call (kd i idx pc : Nat) (lv : List (Nat × Value)) (st : List Value) (h : MH) : Option MA := match m_ml i idx with
  | some (nest, j) =>
    if j = 900 then (match st with
      | .ref a :: r => if kd = 2 ∧ 16 ≤ a ∧ 1 ≤ m_fr i ∧ m_cat r + 12 ≤ m_lo i ∧ m_cat r ≤ 8 then m_go (pc + 3) lv r h else none
      | _ => none)
    else if j = 901 then (if kd = 0 then e_cp i pc lv st h else none)
    else if j = m_jmin ∨ j = m_jmax then (match st with
      | .int y :: .int x :: r => if kd = 0 ∧ nest = 0 ∧ 1 ≤ m_fr i ∧ m_cat r + 13 ≤ m_lo i then m_go (pc + 3) lv (.int (if j = m_jmin then (if y < x then y else x) else (if x < y then y else x)) :: r) h else none
      | _ => none)
    else if j = m_jminl ∨ j = m_jmaxl then (match st with
      | .long y :: .long x :: r => if kd = 0 ∧ nest = 0 ∧ 1 ≤ m_fr i ∧ m_cat r + 15 ≤ m_lo i then m_go (pc + 3) lv (.long (if j = m_jminl then (if y < x then y else x) else (if y < x then x else y)) :: r) h else none
      | _ => none)
    else if 0 < j ∧ j < 292 ∧ m_kind j = kd ∧ m_fr j + 1 ≤ m_fr i ∧ 8 + (m_lc j + 11) + m_lo j ≤ m_lo i then
      (if kd = 0 then (if m_na j ≤ st.length ∧ m_cat (st.drop (m_na j)) ≤ 8 then some (.inr (.inr (j, (st.take (m_na j)).reverse, st.drop (m_na j), pc + 3))) else none)
       else match st.drop (m_na j) with
        | .ref a :: r => if m_na j + 1 ≤ st.length ∧ m_cat r ≤ 8 ∧ (if (m_m j).2.1.cls = "java/lang/String" then (h_k h a).1 = 40 else m_cnm ((h_k h a).1 - 1) = (m_m j).2.1.cls ∧ 16 ≤ a ∧ 0 < (h_k h a).1 ∧ (h_k h a).1 < 11) then some (.inr (.inr (j, .ref a :: (st.take (m_na j)).reverse, r, pc + 3))) else none
        | _ => none)
    else none
  | none => none
def m_rok (t : Option FieldType) (v : Int32) : Bool := match t with
  | some .int => true
  | some .boolean => decide (v &&& 1 = v)
  | some .byte => decide (v.toInt8.toInt32 = v)
  | some .char => decide (v.toUInt32.toUInt16.toUInt32.toInt32 = v)
  | _ => false
def m_rr (t : Option FieldType) : Bool := match t with
  | some (.object _) => true
  | some (.array _) => true
  | _ => false
def m_ex (i pc : Nat) (ins : Instr) (lv : List (Nat × Value)) (st : List Value) (h : MH) : Option MA := match ins with
  | .iconst n => m_go (pc + 1) lv (.int (Int32.ofInt n) :: st) h
  | .bipush n => m_go (pc + 2) lv (.int (Int8.ofInt n).toInt32 :: st) h
  | .sipush n => m_go (pc + 3) lv (.int (Int16.ofInt n).toInt32 :: st) h
  | .lconst n => m_go (pc + 1) lv (.long (Int64.ofNat n) :: st) h
  | .aconst_null => m_go (pc + 1) lv (.ref 0 :: st) h
  | .ldc idx => e_ldc 2 i idx pc lv st h
  | .ldc_w idx => e_ldc 3 i idx pc lv st h
  | .ldc2_w idx => (match m_jc i idx with
      | some x => m_go (pc + 3) lv (.long x :: st) h
      | none => none)
  | .iload_n k => e_ild k (pc + 1) lv st h
  | .iload k => e_ild k (pc + 2) lv st h
  | .lload_n k => e_lld k (pc + 1) lv st h
  | .lload k => e_lld k (pc + 2) lv st h
  | .aload_n k => e_ald k (pc + 1) lv st h
  | .aload k => e_ald k (pc + 2) lv st h
  | .istore_n k => e_ist (m_lc i) k (pc + 1) lv st h
  | .istore k => e_ist (m_lc i) k (pc + 2) lv st h
  | .lstore_n k => e_lst (m_lc i) k (pc + 1) lv st h
  | .lstore k => e_lst (m_lc i) k (pc + 2) lv st h
  | .astore_n k => e_ast (m_lc i) k (pc + 1) lv st h
  | .astore k => e_ast (m_lc i) k (pc + 2) lv st h
  | .iinc k z => e_inc (m_lc i) k z pc lv st h
  | .iadd => e_ii (fun x y => x + y) pc lv st h
  | .isub => e_ii (fun x y => x - y) pc lv st h
  | .imul => e_ii (fun x y => x * y) pc lv st h
  | .iand => e_ii (fun x y => x &&& y) pc lv st h
  | .ior => e_ii (fun x y => x ||| y) pc lv st h
  | .ixor => e_ii (fun x y => x ^^^ y) pc lv st h
  | .idiv => e_dv (fun x y => x / y) pc lv st h
  | .irem => e_dv (fun x y => x - x / y * y) pc lv st h
  | .ineg => e_i (fun x => .int (-x)) pc lv st h
  | .ishl => e_ii (fun x y => x <<< (y &&& 31)) pc lv st h
  | .ishr => e_ii (fun x y => x >>> (y &&& 31)) pc lv st h
  | .iushr => e_ii (fun x y => (x.toUInt32 >>> (y.toUInt32 &&& Int32.toUInt32 31)).toInt32) pc lv st h
  | .ladd => e_ll (fun x y => x + y) pc lv st h
  | .lsub => e_ll (fun x y => x - y) pc lv st h
  | .land => e_ll (fun x y => x &&& y) pc lv st h
  | .lor => e_ll (fun x y => x ||| y) pc lv st h
  | .lxor => e_ll (fun x y => x ^^^ y) pc lv st h
  | .lneg => e_l (fun x => .long (-x)) pc lv st h
  | .lshl => e_li (fun x y => x <<< (y.toInt64 &&& 63)) pc lv st h
  | .lshr => e_li (fun x y => x >>> (y.toInt64 &&& 63)) pc lv st h
  | .lushr => e_li (fun x y => (x.toUInt64 >>> (y.toInt64.toUInt64 &&& Int64.toUInt64 63)).toInt64) pc lv st h
  | .lcmp => (match st with
      | .long y :: .long x :: r => m_go (pc + 1) lv (.int (lg_cmp x y) :: r) h
      | _ => none)
  | .i2l => e_i (fun x => .long x.toInt64) pc lv st h
  | .l2i => e_l (fun x => .int x.toInt32) pc lv st h
  | .i2b => e_i (fun x => .int x.toInt8.toInt32) pc lv st h
  | .i2c => e_i (fun x => .int (x.toUInt32 % 65536).toInt32) pc lv st h
  | .dup => (match st with
      | v :: r => if v.category = 1 then m_go (pc + 1) lv (v :: v :: r) h else none
      | _ => none)
  | .pop => (match st with
      | v :: r => if v.category = 1 then m_go (pc + 1) lv r h else none
      | _ => none)
  | .dup2 => (match st with
      | v :: w :: r => if v.category = 1 ∧ w.category = 1 then m_go (pc + 1) lv (v :: w :: v :: w :: r) h else none
      | _ => none)
  | .goto off => m_tg pc off lv st h
  | .ifCond c off => (match st with
      | .int x :: r => m_br (m_cmp c x 0) pc off lv r h
      | _ => none)
  | .if_icmp c off => (match st with
      | .int y :: .int x :: r => m_br (m_cmp c x y) pc off lv r h
      | _ => none)
  | .ifnull off => (match st with
      | .ref a :: r => if a = 0 then m_tg pc off lv r h else if 16 ≤ a then m_go (pc + 3) lv r h else none
      | _ => none)
  | .ifnonnull off => (match st with
      | .ref a :: r => if a = 0 then m_go (pc + 3) lv r h else if 16 ≤ a then m_tg pc off lv r h else none
      | _ => none)
  | .tableswitch d lo hi offs => (match st with
      | .int x :: r => if x.toInt < lo ∨ hi < x.toInt then m_tg pc d lv r h else (match offs[(x.toInt - lo).toNat]? with
          | some o => m_tg pc o lv r h
          | none => none)
      | _ => none)
  | .getfield idx => e_get i idx pc lv st h
  | .putfield idx => e_put i idx pc lv st h
  | .getstatic idx => e_gets i idx pc lv st h
  | .iaload => e_iald 20 20 pc lv st h
  | .baload => e_iald 21 22 pc lv st h
  | .laload => e_lald pc lv st h
  | .aaload => e_aald pc lv st h
  | .iastore => e_iast pc lv st h
  | .bastore => e_bast pc lv st h
  | .lastore => e_last pc lv st h
  | .aastore => e_aast pc lv st h
  | .arraylength => e_alen pc lv st h
  | .newarray t => e_newa t pc lv st h
  | .new idx => e_new i idx pc lv st h
  | .anewarray idx => e_anew i idx pc lv st h
  | .multianewarray idx d => if d = 2 then e_grid i idx pc lv st h else none
  | .invokestatic idx => e_call 0 i idx pc lv st h
  | .invokevirtual idx => e_call 1 i idx pc lv st h
  | .invokespecial idx => e_call 2 i idx pc lv st h
  | .ireturn => (match st with
      | [.int v] => if m_rok (m_rt i) v = true then some (.inr (.inl (some (.int v), h))) else none
      | _ => none)
  | .lreturn => (match st with
      | [.long v] => if m_rt i = some .long then some (.inr (.inl (some (.long v), h))) else none
      | _ => none)
  | .areturn => (match st with
      | [.ref v] => if m_rr (m_rt i) = true then some (.inr (.inl (some (.ref v), h))) else none
      | _ => none)
  | .return_ => (match st with
      | [] => if m_rt i = none then some (.inr (.inl (none, h))) else none
      | _ => none)
  | _ => none
-- how long each is
def m_ln (ins : Instr) : Nat := match ins with
  | .bipush _ => 2
  | .ldc _ => 2
  | .iload _ => 2
  | .lload _ => 2
  | .aload _ => 2
  | .istore _ => 2
  | .lstore _ => 2
  | .astore _ => 2
  | .newarray _ => 2
  | .sipush _ => 3
  | .ldc_w _ => 3
  | .ldc2_w _ => 3
  | .iinc _ _ => 3
  | .goto _ => 3
  | .ifCond _ _ => 3
  | .if_icmp _ _ => 3
  | .ifnull _ => 3
  | .ifnonnull _ => 3
  | .getfield _ => 3
  | .putfield _ => 3
  | .getstatic _ => 3
  | .new _ => 3
  | .anewarray _ => 3
  | .invokestatic _ => 3
  | .invokevirtual _ => 3
  | .invokespecial _ => 3
  | .multianewarray _ _ => 4
  | .tableswitch _ _ _ _ => 0
  | _ => 1
def m_st (i pc : Nat) (lv : List (Nat × Value)) (st : List Value) (h : MH) : Option MA := match m_at i pc with
  | some e => if m_ln e.1 = e.2 ∨ m_ln e.1 = 0 then m_ex i pc e.1 lv st h else none
  | none => none
def m_run : Nat → Nat → Nat → List (Nat × Value) → List Value → MH → Option (Option Value × MH)
  | 0, _, _, _, _, _ => none
  | n + 1, i, pc, lv, st, h => match m_st i pc lv st h with
    | some (.inl (pc', lv', st', h')) => m_run n i pc' lv' st' h'
    | some (.inr (.inl q)) => some q
    | some (.inr (.inr (j, as, r, pc'))) => (match m_run n j 0 (lv_args 0 as) [] h with
      | some (v, h') => m_run n i pc' lv (v.toList ++ r) h'
      | none => none)
    | none => none
end
section
theorem m_kk_0 : ∀ q ∈ m_meths_0, m_dok q = true := List.forall_mem_cons.mpr ⟨m_k0, List.forall_mem_cons.mpr ⟨m_k1, List.forall_mem_cons.mpr ⟨m_k2, List.forall_mem_cons.mpr ⟨m_k3, List.forall_mem_cons.mpr ⟨m_k4, List.forall_mem_cons.mpr ⟨m_k5, List.forall_mem_cons.mpr ⟨m_k6, List.forall_mem_cons.mpr ⟨m_k7, List.forall_mem_cons.mpr ⟨m_k8, List.forall_mem_cons.mpr ⟨m_k9, List.forall_mem_cons.mpr ⟨m_k10, List.forall_mem_cons.mpr ⟨m_k11, List.forall_mem_cons.mpr ⟨m_k12, List.forall_mem_cons.mpr ⟨m_k13, List.forall_mem_cons.mpr ⟨m_k14, List.forall_mem_cons.mpr ⟨m_k15, List.forall_mem_cons.mpr ⟨m_k16, List.forall_mem_cons.mpr ⟨m_k17, List.forall_mem_cons.mpr ⟨m_k18, List.forall_mem_cons.mpr ⟨m_k19, List.forall_mem_cons.mpr ⟨m_k20, List.forall_mem_cons.mpr ⟨m_k21, List.forall_mem_cons.mpr ⟨m_k22, List.forall_mem_cons.mpr ⟨m_k23, fun _ h => absurd h List.not_mem_nil⟩⟩⟩⟩⟩⟩⟩⟩⟩⟩⟩⟩⟩⟩⟩⟩⟩⟩⟩⟩⟩⟩⟩⟩
theorem m_kk_1 : ∀ q ∈ m_meths_1, m_dok q = true := List.forall_mem_cons.mpr ⟨m_k24, List.forall_mem_cons.mpr ⟨m_k25, List.forall_mem_cons.mpr ⟨m_k26, List.forall_mem_cons.mpr ⟨m_k27, List.forall_mem_cons.mpr ⟨m_k28, List.forall_mem_cons.mpr ⟨m_k29, List.forall_mem_cons.mpr ⟨m_k30, List.forall_mem_cons.mpr ⟨m_k31, List.forall_mem_cons.mpr ⟨m_k32, List.forall_mem_cons.mpr ⟨m_k33, List.forall_mem_cons.mpr ⟨m_k34, List.forall_mem_cons.mpr ⟨m_k35, List.forall_mem_cons.mpr ⟨m_k36, List.forall_mem_cons.mpr ⟨m_k37, List.forall_mem_cons.mpr ⟨m_k38, List.forall_mem_cons.mpr ⟨m_k39, List.forall_mem_cons.mpr ⟨m_k40, List.forall_mem_cons.mpr ⟨m_k41, List.forall_mem_cons.mpr ⟨m_k42, List.forall_mem_cons.mpr ⟨m_k43, List.forall_mem_cons.mpr ⟨m_k44, List.forall_mem_cons.mpr ⟨m_k45, List.forall_mem_cons.mpr ⟨m_k46, List.forall_mem_cons.mpr ⟨m_k47, fun _ h => absurd h List.not_mem_nil⟩⟩⟩⟩⟩⟩⟩⟩⟩⟩⟩⟩⟩⟩⟩⟩⟩⟩⟩⟩⟩⟩⟩⟩
theorem m_kk_2 : ∀ q ∈ m_meths_2, m_dok q = true := List.forall_mem_cons.mpr ⟨m_k48, List.forall_mem_cons.mpr ⟨m_k49, List.forall_mem_cons.mpr ⟨m_k50, List.forall_mem_cons.mpr ⟨m_k51, List.forall_mem_cons.mpr ⟨m_k52, List.forall_mem_cons.mpr ⟨m_k53, List.forall_mem_cons.mpr ⟨m_k54, List.forall_mem_cons.mpr ⟨m_k55, List.forall_mem_cons.mpr ⟨m_k56, List.forall_mem_cons.mpr ⟨m_k57, List.forall_mem_cons.mpr ⟨m_k58, List.forall_mem_cons.mpr ⟨m_k59, List.forall_mem_cons.mpr ⟨m_k60, List.forall_mem_cons.mpr ⟨m_k61, List.forall_mem_cons.mpr ⟨m_k62, List.forall_mem_cons.mpr ⟨m_k63, List.forall_mem_cons.mpr ⟨m_k64, List.forall_mem_cons.mpr ⟨m_k65, List.forall_mem_cons.mpr ⟨m_k66, List.forall_mem_cons.mpr ⟨m_k67, List.forall_mem_cons.mpr ⟨m_k68, List.forall_mem_cons.mpr ⟨m_k69, List.forall_mem_cons.mpr ⟨m_k70, List.forall_mem_cons.mpr ⟨m_k71, fun _ h => absurd h List.not_mem_nil⟩⟩⟩⟩⟩⟩⟩⟩⟩⟩⟩⟩⟩⟩⟩⟩⟩⟩⟩⟩⟩⟩⟩⟩
theorem m_kk_3 : ∀ q ∈ m_meths_3, m_dok q = true := List.forall_mem_cons.mpr ⟨m_k72, List.forall_mem_cons.mpr ⟨m_k73, List.forall_mem_cons.mpr ⟨m_k74, List.forall_mem_cons.mpr ⟨m_k75, List.forall_mem_cons.mpr ⟨m_k76, List.forall_mem_cons.mpr ⟨m_k77, List.forall_mem_cons.mpr ⟨m_k78, List.forall_mem_cons.mpr ⟨m_k79, List.forall_mem_cons.mpr ⟨m_k80, List.forall_mem_cons.mpr ⟨m_k81, List.forall_mem_cons.mpr ⟨m_k82, List.forall_mem_cons.mpr ⟨m_k83, List.forall_mem_cons.mpr ⟨m_k84, List.forall_mem_cons.mpr ⟨m_k85, List.forall_mem_cons.mpr ⟨m_k86, List.forall_mem_cons.mpr ⟨m_k87, List.forall_mem_cons.mpr ⟨m_k88, List.forall_mem_cons.mpr ⟨m_k89, List.forall_mem_cons.mpr ⟨m_k90, List.forall_mem_cons.mpr ⟨m_k91, List.forall_mem_cons.mpr ⟨m_k92, List.forall_mem_cons.mpr ⟨m_k93, List.forall_mem_cons.mpr ⟨m_k94, List.forall_mem_cons.mpr ⟨m_k95, fun _ h => absurd h List.not_mem_nil⟩⟩⟩⟩⟩⟩⟩⟩⟩⟩⟩⟩⟩⟩⟩⟩⟩⟩⟩⟩⟩⟩⟩⟩
theorem m_kk_4 : ∀ q ∈ m_meths_4, m_dok q = true := List.forall_mem_cons.mpr ⟨m_k96, List.forall_mem_cons.mpr ⟨m_k97, List.forall_mem_cons.mpr ⟨m_k98, List.forall_mem_cons.mpr ⟨m_k99, List.forall_mem_cons.mpr ⟨m_k100, List.forall_mem_cons.mpr ⟨m_k101, List.forall_mem_cons.mpr ⟨m_k102, List.forall_mem_cons.mpr ⟨m_k103, List.forall_mem_cons.mpr ⟨m_k104, List.forall_mem_cons.mpr ⟨m_k105, List.forall_mem_cons.mpr ⟨m_k106, List.forall_mem_cons.mpr ⟨m_k107, List.forall_mem_cons.mpr ⟨m_k108, List.forall_mem_cons.mpr ⟨m_k109, List.forall_mem_cons.mpr ⟨m_k110, List.forall_mem_cons.mpr ⟨m_k111, List.forall_mem_cons.mpr ⟨m_k112, List.forall_mem_cons.mpr ⟨m_k113, List.forall_mem_cons.mpr ⟨m_k114, List.forall_mem_cons.mpr ⟨m_k115, List.forall_mem_cons.mpr ⟨m_k116, List.forall_mem_cons.mpr ⟨m_k117, List.forall_mem_cons.mpr ⟨m_k118, List.forall_mem_cons.mpr ⟨m_k119, fun _ h => absurd h List.not_mem_nil⟩⟩⟩⟩⟩⟩⟩⟩⟩⟩⟩⟩⟩⟩⟩⟩⟩⟩⟩⟩⟩⟩⟩⟩
theorem m_kk_5 : ∀ q ∈ m_meths_5, m_dok q = true := List.forall_mem_cons.mpr ⟨m_k120, List.forall_mem_cons.mpr ⟨m_k121, List.forall_mem_cons.mpr ⟨m_k122, List.forall_mem_cons.mpr ⟨m_k123, List.forall_mem_cons.mpr ⟨m_k124, List.forall_mem_cons.mpr ⟨m_k125, List.forall_mem_cons.mpr ⟨m_k126, List.forall_mem_cons.mpr ⟨m_k127, List.forall_mem_cons.mpr ⟨m_k128, List.forall_mem_cons.mpr ⟨m_k129, List.forall_mem_cons.mpr ⟨m_k130, List.forall_mem_cons.mpr ⟨m_k131, List.forall_mem_cons.mpr ⟨m_k132, List.forall_mem_cons.mpr ⟨m_k133, List.forall_mem_cons.mpr ⟨m_k134, List.forall_mem_cons.mpr ⟨m_k135, List.forall_mem_cons.mpr ⟨m_k136, List.forall_mem_cons.mpr ⟨m_k137, List.forall_mem_cons.mpr ⟨m_k138, List.forall_mem_cons.mpr ⟨m_k139, List.forall_mem_cons.mpr ⟨m_k140, List.forall_mem_cons.mpr ⟨m_k141, List.forall_mem_cons.mpr ⟨m_k142, List.forall_mem_cons.mpr ⟨m_k143, fun _ h => absurd h List.not_mem_nil⟩⟩⟩⟩⟩⟩⟩⟩⟩⟩⟩⟩⟩⟩⟩⟩⟩⟩⟩⟩⟩⟩⟩⟩
theorem m_kk_6 : ∀ q ∈ m_meths_6, m_dok q = true := List.forall_mem_cons.mpr ⟨m_k144, List.forall_mem_cons.mpr ⟨m_k145, List.forall_mem_cons.mpr ⟨m_k146, List.forall_mem_cons.mpr ⟨m_k147, List.forall_mem_cons.mpr ⟨m_k148, List.forall_mem_cons.mpr ⟨m_k149, List.forall_mem_cons.mpr ⟨m_k150, List.forall_mem_cons.mpr ⟨m_k151, List.forall_mem_cons.mpr ⟨m_k152, List.forall_mem_cons.mpr ⟨m_k153, List.forall_mem_cons.mpr ⟨m_k154, List.forall_mem_cons.mpr ⟨m_k155, List.forall_mem_cons.mpr ⟨m_k156, List.forall_mem_cons.mpr ⟨m_k157, List.forall_mem_cons.mpr ⟨m_k158, List.forall_mem_cons.mpr ⟨m_k159, List.forall_mem_cons.mpr ⟨m_k160, List.forall_mem_cons.mpr ⟨m_k161, List.forall_mem_cons.mpr ⟨m_k162, List.forall_mem_cons.mpr ⟨m_k163, List.forall_mem_cons.mpr ⟨m_k164, List.forall_mem_cons.mpr ⟨m_k165, List.forall_mem_cons.mpr ⟨m_k166, List.forall_mem_cons.mpr ⟨m_k167, fun _ h => absurd h List.not_mem_nil⟩⟩⟩⟩⟩⟩⟩⟩⟩⟩⟩⟩⟩⟩⟩⟩⟩⟩⟩⟩⟩⟩⟩⟩
theorem m_kk_7 : ∀ q ∈ m_meths_7, m_dok q = true := List.forall_mem_cons.mpr ⟨m_k168, List.forall_mem_cons.mpr ⟨m_k169, List.forall_mem_cons.mpr ⟨m_k170, List.forall_mem_cons.mpr ⟨m_k171, List.forall_mem_cons.mpr ⟨m_k172, List.forall_mem_cons.mpr ⟨m_k173, List.forall_mem_cons.mpr ⟨m_k174, List.forall_mem_cons.mpr ⟨m_k175, List.forall_mem_cons.mpr ⟨m_k176, List.forall_mem_cons.mpr ⟨m_k177, List.forall_mem_cons.mpr ⟨m_k178, List.forall_mem_cons.mpr ⟨m_k179, List.forall_mem_cons.mpr ⟨m_k180, List.forall_mem_cons.mpr ⟨m_k181, List.forall_mem_cons.mpr ⟨m_k182, List.forall_mem_cons.mpr ⟨m_k183, List.forall_mem_cons.mpr ⟨m_k184, List.forall_mem_cons.mpr ⟨m_k185, List.forall_mem_cons.mpr ⟨m_k186, List.forall_mem_cons.mpr ⟨m_k187, List.forall_mem_cons.mpr ⟨m_k188, List.forall_mem_cons.mpr ⟨m_k189, List.forall_mem_cons.mpr ⟨m_k190, List.forall_mem_cons.mpr ⟨m_k191, fun _ h => absurd h List.not_mem_nil⟩⟩⟩⟩⟩⟩⟩⟩⟩⟩⟩⟩⟩⟩⟩⟩⟩⟩⟩⟩⟩⟩⟩⟩
theorem m_kk_8 : ∀ q ∈ m_meths_8, m_dok q = true := List.forall_mem_cons.mpr ⟨m_k192, List.forall_mem_cons.mpr ⟨m_k193, List.forall_mem_cons.mpr ⟨m_k194, List.forall_mem_cons.mpr ⟨m_k195, List.forall_mem_cons.mpr ⟨m_k196, List.forall_mem_cons.mpr ⟨m_k197, List.forall_mem_cons.mpr ⟨m_k198, List.forall_mem_cons.mpr ⟨m_k199, List.forall_mem_cons.mpr ⟨m_k200, List.forall_mem_cons.mpr ⟨m_k201, List.forall_mem_cons.mpr ⟨m_k202, List.forall_mem_cons.mpr ⟨m_k203, List.forall_mem_cons.mpr ⟨m_k204, List.forall_mem_cons.mpr ⟨m_k205, List.forall_mem_cons.mpr ⟨m_k206, List.forall_mem_cons.mpr ⟨m_k207, List.forall_mem_cons.mpr ⟨m_k208, List.forall_mem_cons.mpr ⟨m_k209, List.forall_mem_cons.mpr ⟨m_k210, List.forall_mem_cons.mpr ⟨m_k211, List.forall_mem_cons.mpr ⟨m_k212, List.forall_mem_cons.mpr ⟨m_k213, List.forall_mem_cons.mpr ⟨m_k214, List.forall_mem_cons.mpr ⟨m_k215, fun _ h => absurd h List.not_mem_nil⟩⟩⟩⟩⟩⟩⟩⟩⟩⟩⟩⟩⟩⟩⟩⟩⟩⟩⟩⟩⟩⟩⟩⟩
theorem m_kk_9 : ∀ q ∈ m_meths_9, m_dok q = true := List.forall_mem_cons.mpr ⟨m_k216, List.forall_mem_cons.mpr ⟨m_k217, List.forall_mem_cons.mpr ⟨m_k218, List.forall_mem_cons.mpr ⟨m_k219, List.forall_mem_cons.mpr ⟨m_k220, List.forall_mem_cons.mpr ⟨m_k221, List.forall_mem_cons.mpr ⟨m_k222, List.forall_mem_cons.mpr ⟨m_k223, List.forall_mem_cons.mpr ⟨m_k224, List.forall_mem_cons.mpr ⟨m_k225, List.forall_mem_cons.mpr ⟨m_k226, List.forall_mem_cons.mpr ⟨m_k227, List.forall_mem_cons.mpr ⟨m_k228, List.forall_mem_cons.mpr ⟨m_k229, List.forall_mem_cons.mpr ⟨m_k230, List.forall_mem_cons.mpr ⟨m_k231, List.forall_mem_cons.mpr ⟨m_k232, List.forall_mem_cons.mpr ⟨m_k233, List.forall_mem_cons.mpr ⟨m_k234, List.forall_mem_cons.mpr ⟨m_k235, List.forall_mem_cons.mpr ⟨m_k236, List.forall_mem_cons.mpr ⟨m_k237, List.forall_mem_cons.mpr ⟨m_k238, List.forall_mem_cons.mpr ⟨m_k239, fun _ h => absurd h List.not_mem_nil⟩⟩⟩⟩⟩⟩⟩⟩⟩⟩⟩⟩⟩⟩⟩⟩⟩⟩⟩⟩⟩⟩⟩⟩
theorem m_kk_10 : ∀ q ∈ m_meths_10, m_dok q = true := List.forall_mem_cons.mpr ⟨m_k240, List.forall_mem_cons.mpr ⟨m_k241, List.forall_mem_cons.mpr ⟨m_k242, List.forall_mem_cons.mpr ⟨m_k243, List.forall_mem_cons.mpr ⟨m_k244, List.forall_mem_cons.mpr ⟨m_k245, List.forall_mem_cons.mpr ⟨m_k246, List.forall_mem_cons.mpr ⟨m_k247, List.forall_mem_cons.mpr ⟨m_k248, List.forall_mem_cons.mpr ⟨m_k249, List.forall_mem_cons.mpr ⟨m_k250, List.forall_mem_cons.mpr ⟨m_k251, List.forall_mem_cons.mpr ⟨m_k252, List.forall_mem_cons.mpr ⟨m_k253, List.forall_mem_cons.mpr ⟨m_k254, List.forall_mem_cons.mpr ⟨m_k255, List.forall_mem_cons.mpr ⟨m_k256, List.forall_mem_cons.mpr ⟨m_k257, List.forall_mem_cons.mpr ⟨m_k258, List.forall_mem_cons.mpr ⟨m_k259, List.forall_mem_cons.mpr ⟨m_k260, List.forall_mem_cons.mpr ⟨m_k261, List.forall_mem_cons.mpr ⟨m_k262, List.forall_mem_cons.mpr ⟨m_k263, fun _ h => absurd h List.not_mem_nil⟩⟩⟩⟩⟩⟩⟩⟩⟩⟩⟩⟩⟩⟩⟩⟩⟩⟩⟩⟩⟩⟩⟩⟩
theorem m_kk_11 : ∀ q ∈ m_meths_11, m_dok q = true := List.forall_mem_cons.mpr ⟨m_k264, List.forall_mem_cons.mpr ⟨m_k265, List.forall_mem_cons.mpr ⟨m_k266, List.forall_mem_cons.mpr ⟨m_k267, List.forall_mem_cons.mpr ⟨m_k268, List.forall_mem_cons.mpr ⟨m_k269, List.forall_mem_cons.mpr ⟨m_k270, List.forall_mem_cons.mpr ⟨m_k271, List.forall_mem_cons.mpr ⟨m_k272, List.forall_mem_cons.mpr ⟨m_k273, List.forall_mem_cons.mpr ⟨m_k274, List.forall_mem_cons.mpr ⟨m_k275, List.forall_mem_cons.mpr ⟨m_k276, List.forall_mem_cons.mpr ⟨m_k277, List.forall_mem_cons.mpr ⟨m_k278, List.forall_mem_cons.mpr ⟨m_k279, List.forall_mem_cons.mpr ⟨m_k280, List.forall_mem_cons.mpr ⟨m_k281, List.forall_mem_cons.mpr ⟨m_k282, List.forall_mem_cons.mpr ⟨m_k283, List.forall_mem_cons.mpr ⟨m_k284, List.forall_mem_cons.mpr ⟨m_k285, List.forall_mem_cons.mpr ⟨m_k286, List.forall_mem_cons.mpr ⟨m_k287, fun _ h => absurd h List.not_mem_nil⟩⟩⟩⟩⟩⟩⟩⟩⟩⟩⟩⟩⟩⟩⟩⟩⟩⟩⟩⟩⟩⟩⟩⟩
theorem m_kk_12 : ∀ q ∈ m_meths_12, m_dok q = true := List.forall_mem_cons.mpr ⟨m_k288, List.forall_mem_cons.mpr ⟨m_k289, List.forall_mem_cons.mpr ⟨m_k290, List.forall_mem_cons.mpr ⟨m_k291, fun _ h => absurd h List.not_mem_nil⟩⟩⟩⟩
theorem m_kk : ∀ q ∈ m_meths, m_dok q = true := (fun q h => (List.mem_append.mp h).elim (m_kk_0 q) ((fun q h => (List.mem_append.mp h).elim (m_kk_1 q) ((fun q h => (List.mem_append.mp h).elim (m_kk_2 q) ((fun q h => (List.mem_append.mp h).elim (m_kk_3 q) ((fun q h => (List.mem_append.mp h).elim (m_kk_4 q) ((fun q h => (List.mem_append.mp h).elim (m_kk_5 q) ((fun q h => (List.mem_append.mp h).elim (m_kk_6 q) ((fun q h => (List.mem_append.mp h).elim (m_kk_7 q) ((fun q h => (List.mem_append.mp h).elim (m_kk_8 q) ((fun q h => (List.mem_append.mp h).elim (m_kk_9 q) ((fun q h => (List.mem_append.mp h).elim (m_kk_10 q) ((fun q h => (List.mem_append.mp h).elim (m_kk_11 q) (m_kk_12 q)) q)) q)) q)) q)) q)) q)) q)) q)) q)) q)) q))
def m_cw (q : m_M) : Cond := Cond.code q.2.1 q.2.2.1 q.2.2.2.1 q.2.2.2.2.1
set_option maxRecDepth 100000 in
theorem m_kc0 : ∀ w ∈ (m_meths_0.drop 1).map m_cw, w ∈ lw_tbl := m_memL [128, 136, 143, 191, 229, 276, 319, 323, 327, 331, 335, 339, 342, 346, 350, 354, 357, 361, 364, 374, 378, 382, 388] rfl
set_option maxRecDepth 100000 in
theorem m_kc1 : ∀ w ∈ m_meths_1.map m_cw, w ∈ lw_tbl := m_memL [392, 395, 398, 403, 406, 409, 412, 416, 425, 429, 433, 437, 441, 444, 447, 453, 457, 464, 468, 474, 510, 582, 586, 590] rfl
set_option maxRecDepth 100000 in
theorem m_kc2 : ∀ w ∈ m_meths_2.map m_cw, w ∈ lw_tbl := m_memL [593, 597, 602, 606, 609, 613, 617, 621, 625, 629, 633, 637, 640, 644, 647, 659, 669, 673, 677, 681, 686, 690, 694, 698] rfl
set_option maxRecDepth 100000 in
theorem m_kc3 : ∀ w ∈ m_meths_3.map m_cw, w ∈ lw_tbl := m_memL [702, 708, 712, 716, 723, 726, 729, 734, 738, 743, 746, 753, 757, 761, 767, 771, 775, 781, 785, 789, 794, 798, 802, 806] rfl
set_option maxRecDepth 100000 in
theorem m_kc4 : ∀ w ∈ m_meths_4.map m_cw, w ∈ lw_tbl := m_memL [812, 816, 824, 828, 832, 837, 841, 846, 850, 854, 859, 863, 869, 874, 878, 882, 886, 890, 894, 898, 902, 906, 910, 914] rfl
set_option maxRecDepth 100000 in
theorem m_kc5 : ∀ w ∈ m_meths_5.map m_cw, w ∈ lw_tbl := m_memL [918, 923, 927, 931, 935, 939, 942, 946, 950, 954, 958, 962, 966, 970, 974, 978, 982, 985, 988, 992, 995, 999, 1004, 1009] rfl
set_option maxRecDepth 100000 in
theorem m_kc6 : ∀ w ∈ m_meths_6.map m_cw, w ∈ lw_tbl := m_memL [1013, 1017, 1021, 1025, 1029, 1035, 1039, 1043, 1047, 1051, 1055, 1058, 1067, 1071, 1075, 1079, 1083, 1088, 1092, 1096, 1100, 1104, 1112, 1116] rfl
set_option maxRecDepth 100000 in
theorem m_kc7 : ∀ w ∈ m_meths_7.map m_cw, w ∈ lw_tbl := m_memL [1121, 1125, 1129, 1133, 1137, 1141, 1145, 1149, 1153, 1157, 1161, 1165, 1169, 1174, 1179, 1390, 1394, 1398, 1401, 1405, 1409, 1413, 1417, 1421] rfl
set_option maxRecDepth 100000 in
theorem m_kc8 : ∀ w ∈ m_meths_8.map m_cw, w ∈ lw_tbl := m_memL [1425, 1435, 1439, 1443, 1447, 1451, 1455, 1459, 1463, 1467, 1471, 1475, 1479, 1483, 1487, 1491, 1495, 1499, 1503, 1507, 1511, 1515, 1519, 1523] rfl
set_option maxRecDepth 100000 in
theorem m_kc9 : ∀ w ∈ m_meths_9.map m_cw, w ∈ lw_tbl := m_memL [1527, 1531, 1535, 1539, 1543, 1547, 1551, 1555, 1560, 1564, 1568, 1572, 1576, 1580, 1584, 1588, 1591, 1596, 1600, 1604, 1608, 1612, 1616, 1620] rfl
set_option maxRecDepth 100000 in
theorem m_kc10 : ∀ w ∈ m_meths_10.map m_cw, w ∈ lw_tbl := m_memL [1624, 1628, 1632, 1636, 1640, 1644, 1648, 1652, 1656, 1660, 1663, 1667, 1671, 1675, 1679, 1683, 1686, 1690, 1694, 1697, 1701, 1705, 1709, 1713] rfl
set_option maxRecDepth 100000 in
theorem m_kc11 : ∀ w ∈ m_meths_11.map m_cw, w ∈ lw_tbl := m_memL [1717, 1721, 1725, 1729, 1733, 1736, 1740, 1744, 1748, 1752, 1756, 1760, 1764, 1769, 1773, 1777, 1781, 1785, 1789, 1793, 1797, 1801, 1805, 1809] rfl
set_option maxRecDepth 100000 in
theorem m_kc12 : ∀ w ∈ m_meths_12.map m_cw, w ∈ lw_tbl := m_memL [1813, 1817, 1820, 1824] rfl
def m_kw (q : m_M) : List Cond := match q.2.2.2.2.2.1 with | 0 => [.initialized q.2.1.cls, .static q.2.1] | 1 => [.initialized q.2.1.cls, .instanceMethod q.2.1, .selects q.2.1.cls q.2.1 q.2.1] | _ => [.initialized q.2.1.cls, .instanceMethod q.2.1]
theorem m_kw0 : ∀ w ∈ (m_meths_0.drop 1).flatMap m_kw, w ∈ lw_tbl := m_memL [105, 127, 106, 135, 107, 142, 108, 190, 109, 228, 110, 275, 105, 317, 318, 106, 321, 322, 105, 325, 326, 105, 329, 330, 105, 334, 0, 108, 337, 338, 112, 341, 107, 344, 345, 108, 349, 1, 108, 353, 2, 108, 356, 108, 360, 3, 108, 363, 108, 373, 4, 113, 376, 377, 113, 380, 381, 113, 386, 387] (by decide +kernel)
theorem m_kw1 : ∀ w ∈ m_meths_1.flatMap m_kw, w ∈ lw_tbl := m_memL [113, 390, 391, 114, 394, 113, 397, 115, 402, 116, 405, 116, 408, 116, 411, 116, 415, 108, 424, 108, 428, 5, 108, 432, 6, 108, 436, 7, 107, 439, 440, 117, 443, 117, 446, 107, 451, 452, 107, 455, 456, 105, 463, 8, 119, 467, 120, 473, 121, 509, 119, 580, 581, 120, 584, 585, 112, 589] (by decide +kernel)
theorem m_kw2 : ∀ w ∈ m_meths_2.flatMap m_kw, w ∈ lw_tbl := m_memL [117, 592, 119, 596, 9, 119, 601, 10, 121, 604, 605, 105, 608, 121, 612, 11, 107, 615, 616, 107, 619, 620, 119, 624, 12, 119, 627, 628, 119, 632, 13, 119, 636, 14, 105, 639, 120, 642, 643, 117, 646, 117, 658, 120, 667, 668, 120, 672, 15, 120, 675, 676, 120, 679, 680, 120, 685, 16, 120, 688, 689, 119, 693, 17, 120, 696, 697] (by decide +kernel)
theorem m_kw3 : ∀ w ∈ m_meths_3.flatMap m_kw, w ∈ lw_tbl := m_memL [120, 700, 701, 120, 706, 707, 109, 710, 711, 109, 715, 18, 109, 721, 722, 105, 725, 105, 728, 120, 733, 19, 120, 736, 737, 119, 742, 20, 122, 745, 119, 751, 752, 119, 755, 756, 119, 760, 21, 120, 765, 766, 105, 769, 770, 105, 773, 774, 105, 779, 780, 105, 784, 22, 105, 787, 788, 105, 792, 793, 105, 796, 797, 105, 800, 801, 106, 804, 805] (by decide +kernel)
theorem m_kw4 : ∀ w ∈ m_meths_4.flatMap m_kw, w ∈ lw_tbl := m_memL [105, 810, 811, 105, 814, 815, 110, 822, 823, 120, 826, 827, 110, 830, 831, 110, 835, 836, 105, 840, 23, 109, 844, 845, 109, 848, 849, 109, 852, 853, 119, 857, 858, 105, 861, 862, 105, 867, 868, 105, 872, 873, 105, 876, 877, 109, 880, 881, 105, 884, 885, 109, 888, 889, 105, 892, 893, 109, 896, 897, 109, 900, 901, 109, 905, 24, 109, 909, 25, 105, 912, 913] (by decide +kernel)
theorem m_kw5 : ∀ w ∈ m_meths_5.flatMap m_kw, w ∈ lw_tbl := m_memL [121, 916, 917, 109, 921, 922, 105, 925, 926, 105, 930, 26, 109, 933, 934, 109, 938, 27, 109, 941, 105, 944, 945, 109, 948, 949, 109, 952, 953, 105, 956, 957, 121, 960, 961, 105, 964, 965, 121, 968, 969, 121, 973, 28, 117, 977, 121, 981, 29, 112, 984, 112, 987, 121, 990, 991, 105, 994, 105, 997, 998, 121, 1002, 1003, 121, 1007, 1008] (by decide +kernel)
theorem m_kw6 : ∀ w ∈ m_meths_6.flatMap m_kw, w ∈ lw_tbl := m_memL [105, 1011, 1012, 119, 1015, 1016, 105, 1019, 1020, 105, 1023, 1024, 110, 1027, 1028, 105, 1033, 1034, 119, 1037, 1038, 110, 1041, 1042, 105, 1045, 1046, 110, 1049, 1050, 105, 1054, 123, 1057, 105, 1065, 1066, 110, 1069, 1070, 110, 1074, 30, 110, 1078, 31, 110, 1082, 32, 110, 1087, 33, 105, 1090, 1091, 110, 1094, 1095, 105, 1098, 1099, 110, 1102, 1103, 105, 1110, 1111, 110, 1114, 1115] (by decide +kernel)
theorem m_kw7 : ∀ w ∈ m_meths_7.flatMap m_kw, w ∈ lw_tbl := m_memL [105, 1119, 1120, 119, 1123, 1124, 105, 1127, 1128, 119, 1131, 1132, 119, 1135, 1136, 119, 1140, 34, 119, 1144, 35, 119, 1148, 36, 105, 1151, 1152, 119, 1155, 1156, 105, 1159, 1160, 119, 1163, 1164, 119, 1168, 37, 119, 1173, 38, 111, 1178, 111, 1388, 1389, 111, 1393, 39, 111, 1396, 1397, 111, 1400, 111, 1403, 1404, 111, 1408, 40, 111, 1412, 41, 111, 1416, 42, 111, 1420, 43] (by decide +kernel)
theorem m_kw8 : ∀ w ∈ m_meths_8.flatMap m_kw, w ∈ lw_tbl := m_memL [111, 1424, 44, 111, 1434, 45, 111, 1438, 46, 111, 1442, 47, 111, 1445, 1446, 111, 1449, 1450, 111, 1454, 48, 111, 1458, 49, 111, 1461, 1462, 111, 1466, 50, 111, 1470, 51, 111, 1474, 52, 111, 1478, 53, 111, 1482, 54, 111, 1486, 55, 111, 1490, 56, 111, 1494, 57, 111, 1498, 58, 111, 1502, 59, 111, 1506, 60, 111, 1510, 61, 111, 1514, 62, 111, 1518, 63, 111, 1522, 64] (by decide +kernel)
theorem m_kw9 : ∀ w ∈ m_meths_9.flatMap m_kw, w ∈ lw_tbl := m_memL [111, 1526, 65, 111, 1530, 66, 111, 1534, 67, 111, 1538, 68, 111, 1542, 69, 111, 1546, 70, 111, 1550, 71, 111, 1553, 1554, 111, 1559, 72, 111, 1563, 73, 111, 1566, 1567, 111, 1570, 1571, 111, 1575, 74, 111, 1579, 75, 111, 1583, 76, 111, 1587, 77, 111, 1590, 111, 1595, 78, 111, 1599, 79, 111, 1602, 1603, 111, 1606, 1607, 111, 1610, 1611, 111, 1614, 1615, 111, 1618, 1619] (by decide +kernel)
theorem m_kw10 : ∀ w ∈ m_meths_10.flatMap m_kw, w ∈ lw_tbl := m_memL [111, 1623, 80, 111, 1626, 1627, 111, 1631, 81, 111, 1634, 1635, 111, 1638, 1639, 111, 1643, 82, 111, 1647, 83, 111, 1650, 1651, 111, 1654, 1655, 111, 1659, 84, 111, 1662, 111, 1666, 85, 111, 1670, 86, 111, 1673, 1674, 111, 1678, 87, 111, 1682, 88, 111, 1685, 111, 1689, 89, 111, 1693, 90, 111, 1696, 111, 1700, 91, 111, 1704, 92, 111, 1707, 1708, 111, 1712, 93] (by decide +kernel)
theorem m_kw11 : ∀ w ∈ m_meths_11.flatMap m_kw, w ∈ lw_tbl := m_memL [111, 1715, 1716, 111, 1719, 1720, 111, 1724, 94, 111, 1728, 95, 111, 1731, 1732, 111, 1735, 111, 1738, 1739, 111, 1742, 1743, 111, 1747, 96, 111, 1750, 1751, 111, 1754, 1755, 111, 1758, 1759, 111, 1763, 97, 111, 1767, 1768, 111, 1772, 98, 111, 1776, 99, 111, 1779, 1780, 111, 1784, 100, 111, 1787, 1788, 111, 1792, 101, 111, 1795, 1796, 111, 1799, 1800, 111, 1804, 102, 111, 1807, 1808] (by decide +kernel)
theorem m_kw12 : ∀ w ∈ m_meths_12.flatMap m_kw, w ∈ lw_tbl := m_memL [111, 1811, 1812, 111, 1816, 103, 111, 1819, 111, 1822, 1823] (by decide +kernel)
-- names: plain, no method handle; as many arguments as the table says
def m_nok (q : m_M) : Bool := (decide (q.2.1.cls = "java/lang/Math") || plainName q.2.1.cls) && decide (q.2.1.cls ≠ "java/lang/invoke/MethodHandle" ∧ q.2.1.cls ≠ "java/lang/invoke/VarHandle" ∧ (parseMethodDescriptor q.2.1.desc).map (fun d => d.parameters.length) = some q.2.2.2.2.2.2.2.2 ∧ (q.2.2.2.2.2.1 = 2 → q.2.1.name = "<init>" ∧ q.2.2.2.2.1 = none))
theorem m_kn0 : ∀ q ∈ m_meths_0, m_nok q = true := List.all_eq_true.mp (by decide +kernel)
theorem m_kn1 : ∀ q ∈ m_meths_1, m_nok q = true := List.all_eq_true.mp (by decide +kernel)
theorem m_kn2 : ∀ q ∈ m_meths_2, m_nok q = true := List.all_eq_true.mp (by decide +kernel)
theorem m_kn3 : ∀ q ∈ m_meths_3, m_nok q = true := List.all_eq_true.mp (by decide +kernel)
theorem m_kn4 : ∀ q ∈ m_meths_4, m_nok q = true := List.all_eq_true.mp (by decide +kernel)
theorem m_kn5 : ∀ q ∈ m_meths_5, m_nok q = true := List.all_eq_true.mp (by decide +kernel)
theorem m_kn6 : ∀ q ∈ m_meths_6, m_nok q = true := List.all_eq_true.mp (by decide +kernel)
theorem m_kn7 : ∀ q ∈ m_meths_7, m_nok q = true := List.all_eq_true.mp (by decide +kernel)
theorem m_kn8 : ∀ q ∈ m_meths_8, m_nok q = true := List.all_eq_true.mp (by decide +kernel)
theorem m_kn9 : ∀ q ∈ m_meths_9, m_nok q = true := List.all_eq_true.mp (by decide +kernel)
theorem m_kn10 : ∀ q ∈ m_meths_10, m_nok q = true := List.all_eq_true.mp (by decide +kernel)
theorem m_kn11 : ∀ q ∈ m_meths_11, m_nok q = true := List.all_eq_true.mp (by decide +kernel)
theorem m_kn12 : ∀ q ∈ m_meths_12, m_nok q = true := List.all_eq_true.mp (by decide +kernel)
theorem m_kn : ∀ q ∈ m_meths, m_nok q = true := (fun q h => (List.mem_append.mp h).elim (m_kn0 q) ((fun q h => (List.mem_append.mp h).elim (m_kn1 q) ((fun q h => (List.mem_append.mp h).elim (m_kn2 q) ((fun q h => (List.mem_append.mp h).elim (m_kn3 q) ((fun q h => (List.mem_append.mp h).elim (m_kn4 q) ((fun q h => (List.mem_append.mp h).elim (m_kn5 q) ((fun q h => (List.mem_append.mp h).elim (m_kn6 q) ((fun q h => (List.mem_append.mp h).elim (m_kn7 q) ((fun q h => (List.mem_append.mp h).elim (m_kn8 q) ((fun q h => (List.mem_append.mp h).elim (m_kn9 q) ((fun q h => (List.mem_append.mp h).elim (m_kn10 q) ((fun q h => (List.mem_append.mp h).elim (m_kn11 q) (m_kn12 q)) q)) q)) q)) q)) q)) q)) q)) q)) q)) q)) q))
def m_mw (o : String) (e : Nat × Nat × Nat) : Cond := if e.2.1 = 0 then .methodLink o e.1 (m_name e.2.2) else .methodLinkNest o e.1 (m_name e.2.2) "PastHeaps"
theorem m_kl0 : ∀ w ∈ m_mlk_0.map (m_mw "PastHeapsLaw"), w ∈ lw_tbl := m_memL [126, 1177, 316, 1387, 324, 1395, 328, 1402, 768, 1444, 772, 1448, 778, 1460, 786, 1552, 791, 1565, 813, 1569, 860, 1601, 866, 1605, 871, 1609, 875, 1613, 955, 1617, 963, 1625, 1018, 1633, 1032, 1637, 1044, 1649, 1064, 1653, 924, 1672, 943, 1706, 1118, 1714, 1126, 1718, 1150, 1730, 883, 1737, 1097, 1741, 1109, 1749, 1010, 1753, 1158, 1757, 891, 1766, 996, 1778, 911, 1786, 1022, 1794, 1089, 1798, 795, 1806, 799, 1810, 809, 1821] (by decide +kernel)
theorem m_kl1 : ∀ w ∈ m_mlk_1.map (m_mw "PastHeaps"), w ∈ lw_tbl := m_memL [129, 134, 189, 224, 227, 274, 320, 332, 336, 454, 461, 579, 776, 777, 782, 803, 817, 818, 819, 820, 821, 829, 838, 847, 851, 856, 864, 865, 870, 879, 887, 895, 899, 915, 919, 920, 928, 932, 947, 951, 959, 967, 989, 1001, 1006, 1014, 1026, 1036, 1040, 1048, 1056, 1068, 1093, 1101, 1107, 1108, 1113, 1122, 1130, 1134, 1154, 1162, 466, 842, 843] (by decide +kernel)
theorem m_kl2 : ∀ w ∈ m_mlk_2.map (m_mw "PastHeaps$Told"), w ∈ lw_tbl := m_memL [137, 141, 807, 808] (by decide +kernel)
theorem m_kl3 : ∀ w ∈ m_mlk_3.map (m_mw "PastHeaps$Acts"), w ∈ lw_tbl := m_memL [144, 442, 458] (by decide +kernel)
theorem m_kl4 : ∀ w ∈ m_mlk_4.map (m_mw "PastHeaps$Reader"), w ∈ lw_tbl := m_memL [192, 340, 343, 347, 434, 351, 430, 438, 450, 355, 358, 423, 426, 362, 371, 375, 385] (by decide +kernel)
theorem m_kl5 : ∀ w ∈ m_mlk_5.map (m_mw "PastHeaps$Walk"), w ∈ lw_tbl := m_memL [230, 713, 717, 718, 719, 724, 727, 855, 903, 907, 936, 940] (by decide +kernel)
theorem m_kl6 : ∀ w ∈ m_mlk_6.map (m_mw "PastHeaps$Shares"), w ∈ lw_tbl := m_memL [277, 825, 834, 1030, 1031, 1052, 1053, 1062, 1063, 1072, 1076, 1080, 1084, 1085, 1105, 1106, 1117] (by decide +kernel)
theorem m_kl7 : ∀ w ∈ m_mlk_7.map (m_mw "java/lang/Math"), w ∈ lw_tbl := m_memL [] (by decide +kernel)
theorem m_kl8 : ∀ w ∈ m_mlk_8.map (m_mw "java/lang/String"), w ∈ lw_tbl := m_memL [379, 389, 393, 404, 401] (by decide +kernel)
theorem m_kl9 : ∀ w ∈ m_mlk_9.map (m_mw "java/lang/StringLatin1"), w ∈ lw_tbl := m_memL [396] (by decide +kernel)
theorem m_kl10 : ∀ w ∈ m_mlk_10.map (m_mw "jdk/internal/util/Preconditions"), w ∈ lw_tbl := m_memL [] (by decide +kernel)
theorem m_kl11 : ∀ w ∈ m_mlk_11.map (m_mw "java/lang/StringUTF16"), w ∈ lw_tbl := m_memL [410, 407, 414, 413] (by decide +kernel)
theorem m_kl12 : ∀ w ∈ m_mlk_12.map (m_mw "java/util/Arrays"), w ∈ lw_tbl := m_memL [445, 656, 655] (by decide +kernel)
theorem m_kl13 : ∀ w ∈ m_mlk_13.map (m_mw "PastHeaps$Past"), w ∈ lw_tbl := m_memL [469, 472, 508, 763, 626, 754, 744, 583, 591, 594, 603, 614, 618, 622, 740, 758, 762, 764, 599, 750, 598, 630, 634, 691, 695, 705, 735, 638, 641, 666, 1138, 1142, 1146, 1166, 1171] (by decide +kernel)
theorem m_kl14 : ∀ w ∈ m_mlk_14.map (m_mw "PastHeaps$Nodes"), w ∈ lw_tbl := m_memL [475, 477, 587, 588, 645, 657, 665, 674, 678, 682, 683, 687, 670, 699, 739, 703, 704, 709, 720, 730, 731] (by decide +kernel)
theorem m_kl15 : ∀ w ∈ m_mlk_15.map (m_mw "PastHeaps$Lines"), w ∈ lw_tbl := m_memL [511, 607, 610, 993, 976, 971, 979, 983, 986, 1005] (by decide +kernel)
theorem m_kl16 : ∀ w ∈ m_mlk_16.map (m_mw "java/lang/Integer"), w ∈ lw_tbl := m_memL [] (by decide +kernel)
theorem m_kl17 : ∀ w ∈ m_mlk_17.map (m_mw "java/lang/Long"), w ∈ lw_tbl := m_memL [] (by decide +kernel)
theorem m_kl18 : ∀ w ∈ m_mlk_18.map (m_mw "PastHeapsModel"), w ∈ lw_tbl := m_memL [1180, 1818, 1399, 1391, 1418, 1432, 1436, 1414, 1440, 1422, 1406, 1410, 1452, 1456, 1504, 1508, 1500, 1516, 1520, 1496, 1528, 1524, 1540, 1536, 1544, 1480, 1488, 1492, 1468, 1484, 1512, 1532, 1548, 1472, 1476, 1464, 1561, 1557, 1589, 1573, 1577, 1581, 1585, 1593, 1597, 1621, 1629, 1641, 1645, 1657, 1661, 1664, 1668, 1695, 1698, 1684, 1687, 1691, 1702, 1676, 1680, 1710, 1722, 1726, 1734, 1745, 1761, 1774, 1770, 1782, 1790, 1802, 1814] (by decide +kernel)
def m_fw (o : String) (e : Nat × Nat × Nat × Nat) : Cond := match m_cl[e.2.2.1]? with | some q => (if e.2.1 = 0 then .fieldLink o e.1 q.1 (q.2.1 e.2.2.2).2.1 (q.2.1 e.2.2.2).2.2.1 else .fieldLinkNest o e.1 q.1 (q.2.1 e.2.2.2).2.1 (q.2.1 e.2.2.2).2.2.1 "PastHeaps") | none => (if e.2.2.2 = 0 then .fieldLink o e.1 "java/lang/String" "value" "[B" else .fieldLink o e.1 "java/lang/String" "coder" "B")
theorem m_kf0 : ∀ w ∈ m_flk_0.map (m_fw "PastHeapsLaw"), w ∈ lw_tbl := m_memL [] (by decide +kernel)
theorem m_kf1 : ∀ w ∈ m_flk_1.map (m_fw "PastHeaps"), w ∈ lw_tbl := m_memL [291, 292, 293, 294, 295, 296, 297, 298, 163, 166, 168, 170, 160, 201, 203, 162, 148, 546, 535, 537, 539, 548, 528, 487, 236, 243, 234, 241, 532, 530, 544] (by decide +kernel)
theorem m_kf2 : ∀ w ∈ m_flk_2.map (m_fw "PastHeaps$Told"), w ∈ lw_tbl := m_memL [159, 161, 167, 164, 165, 169] (by decide +kernel)
theorem m_kf3 : ∀ w ∈ m_flk_3.map (m_fw "PastHeaps$Acts"), w ∈ lw_tbl := m_memL [145, 146, 147] (by decide +kernel)
theorem m_kf4 : ∀ w ∈ m_flk_4.map (m_fw "PastHeaps$Reader"), w ∈ lw_tbl := m_memL [193, 194, 196, 199, 200, 202, 197, 198, 195] (by decide +kernel)
theorem m_kf5 : ∀ w ∈ m_flk_5.map (m_fw "PastHeaps$Walk"), w ∈ lw_tbl := m_memL [231, 235, 237, 239, 242, 244, 245, 246, 247, 249] (by decide +kernel)
theorem m_kf6 : ∀ w ∈ m_flk_6.map (m_fw "PastHeaps$Shares"), w ∈ lw_tbl := m_memL [278, 279, 280, 485, 281] (by decide +kernel)
theorem m_kf7 : ∀ w ∈ m_flk_7.map (m_fw "java/lang/Math"), w ∈ lw_tbl := m_memL [] (by decide +kernel)
theorem m_kf8 : ∀ w ∈ m_flk_8.map (m_fw "java/lang/String"), w ∈ lw_tbl := m_memL [1826, 1827] (by decide +kernel)
theorem m_kf9 : ∀ w ∈ m_flk_9.map (m_fw "java/lang/StringLatin1"), w ∈ lw_tbl := m_memL [] (by decide +kernel)
theorem m_kf10 : ∀ w ∈ m_flk_10.map (m_fw "jdk/internal/util/Preconditions"), w ∈ lw_tbl := m_memL [] (by decide +kernel)
theorem m_kf11 : ∀ w ∈ m_flk_11.map (m_fw "java/lang/StringUTF16"), w ∈ lw_tbl := m_memL [] (by decide +kernel)
theorem m_kf12 : ∀ w ∈ m_flk_12.map (m_fw "java/util/Arrays"), w ∈ lw_tbl := m_memL [] (by decide +kernel)
theorem m_kf13 : ∀ w ∈ m_flk_13.map (m_fw "PastHeaps$Past"), w ∈ lw_tbl := m_memL [527, 529, 531, 533, 534, 536, 538, 540, 541, 542, 543, 545, 547, 149, 486, 489, 483, 248, 232, 549] (by decide +kernel)
theorem m_kf14 : ∀ w ∈ m_flk_14.map (m_fw "PastHeaps$Nodes"), w ∈ lw_tbl := m_memL [478, 479, 480, 481, 482, 484, 488, 240, 233, 238] (by decide +kernel)
theorem m_kf15 : ∀ w ∈ m_flk_15.map (m_fw "PastHeaps$Lines"), w ∈ lw_tbl := m_memL [512, 513, 514, 515] (by decide +kernel)
theorem m_kf16 : ∀ w ∈ m_flk_16.map (m_fw "java/lang/Integer"), w ∈ lw_tbl := m_memL [] (by decide +kernel)
theorem m_kf17 : ∀ w ∈ m_flk_17.map (m_fw "java/lang/Long"), w ∈ lw_tbl := m_memL [] (by decide +kernel)
theorem m_kf18 : ∀ w ∈ m_flk_18.map (m_fw "PastHeapsModel"), w ∈ lw_tbl := m_memL [1183, 1184, 1185, 1186, 1187, 1188, 1198, 1202, 1203, 1204, 1205, 1206, 1207, 1209, 1210, 1211, 1212, 1213, 1214, 1215, 1216, 1218, 1219, 1220, 1221, 1222, 1223, 1224, 1226, 1227, 1228, 1230, 1232, 1234, 1235, 1236, 1237, 1238, 1240, 1241, 1242, 1243, 1245, 1246, 1247, 1248, 1249, 1182, 1189, 1190, 1191, 1194, 1192, 1193, 1195, 1196, 1197, 1199, 1201, 1200, 1208, 1217, 1225, 1229, 1231, 1233, 1239, 1244] (by decide +kernel)
def m_clw (o : String) (e : Nat × Nat) : Cond := .classLink o e.1 (m_cnm e.2)
def m_icw (o : String) (e : Nat × Int32) : Cond := .constant o e.1 e.2
def m_lcw (o : String) (e : Nat × Int64) : Cond := .constantLong o e.1 e.2
theorem m_kq0 : ∀ w ∈ m_clk_0.map (m_clw "PastHeapsLaw"), w ∈ lw_tbl := m_memL [124, 1175] (by decide +kernel)
theorem m_ki0 : ∀ w ∈ m_ick_0.map (m_icw "PastHeapsLaw"), w ∈ lw_tbl := m_memL [] (by decide +kernel)
theorem m_kj0 : ∀ w ∈ m_lck_0.map (m_lcw "PastHeapsLaw"), w ∈ lw_tbl := m_memL [1825] (by decide +kernel)
theorem m_kq1 : ∀ w ∈ m_clk_1.map (m_clw "PastHeaps"), w ∈ lw_tbl := m_memL [132, 185, 187, 223, 225, 272] (by decide +kernel)
theorem m_ki1 : ∀ w ∈ m_ick_1.map (m_icw "PastHeaps"), w ∈ lw_tbl := m_memL [790] (by decide +kernel)
theorem m_kj1 : ∀ w ∈ m_lck_1.map (m_lcw "PastHeaps"), w ∈ lw_tbl := m_memL [1000] (by decide +kernel)
theorem m_kq2 : ∀ w ∈ m_clk_2.map (m_clw "PastHeaps$Told"), w ∈ lw_tbl := m_memL [138] (by decide +kernel)
theorem m_ki2 : ∀ w ∈ m_ick_2.map (m_icw "PastHeaps$Told"), w ∈ lw_tbl := m_memL [] (by decide +kernel)
theorem m_kj2 : ∀ w ∈ m_lck_2.map (m_lcw "PastHeaps$Told"), w ∈ lw_tbl := m_memL [] (by decide +kernel)
theorem m_kq3 : ∀ w ∈ m_clk_3.map (m_clw "PastHeaps$Acts"), w ∈ lw_tbl := m_memL [] (by decide +kernel)
theorem m_ki3 : ∀ w ∈ m_ick_3.map (m_icw "PastHeaps$Acts"), w ∈ lw_tbl := m_memL [] (by decide +kernel)
theorem m_kj3 : ∀ w ∈ m_lck_3.map (m_lcw "PastHeaps$Acts"), w ∈ lw_tbl := m_memL [] (by decide +kernel)
theorem m_kq4 : ∀ w ∈ m_clk_4.map (m_clw "PastHeaps$Reader"), w ∈ lw_tbl := m_memL [] (by decide +kernel)
theorem m_ki4 : ∀ w ∈ m_ick_4.map (m_icw "PastHeaps$Reader"), w ∈ lw_tbl := m_memL [] (by decide +kernel)
theorem m_kj4 : ∀ w ∈ m_lck_4.map (m_lcw "PastHeaps$Reader"), w ∈ lw_tbl := m_memL [] (by decide +kernel)
theorem m_kq5 : ∀ w ∈ m_clk_5.map (m_clw "PastHeaps$Walk"), w ∈ lw_tbl := m_memL [] (by decide +kernel)
theorem m_ki5 : ∀ w ∈ m_ick_5.map (m_icw "PastHeaps$Walk"), w ∈ lw_tbl := m_memL [] (by decide +kernel)
theorem m_kj5 : ∀ w ∈ m_lck_5.map (m_lcw "PastHeaps$Walk"), w ∈ lw_tbl := m_memL [] (by decide +kernel)
theorem m_kq6 : ∀ w ∈ m_clk_6.map (m_clw "PastHeaps$Shares"), w ∈ lw_tbl := m_memL [] (by decide +kernel)
theorem m_ki6 : ∀ w ∈ m_ick_6.map (m_icw "PastHeaps$Shares"), w ∈ lw_tbl := m_memL [] (by decide +kernel)
theorem m_kj6 : ∀ w ∈ m_lck_6.map (m_lcw "PastHeaps$Shares"), w ∈ lw_tbl := m_memL [833] (by decide +kernel)
theorem m_kq7 : ∀ w ∈ m_clk_7.map (m_clw "java/lang/Math"), w ∈ lw_tbl := m_memL [] (by decide +kernel)
theorem m_ki7 : ∀ w ∈ m_ick_7.map (m_icw "java/lang/Math"), w ∈ lw_tbl := m_memL [] (by decide +kernel)
theorem m_kj7 : ∀ w ∈ m_lck_7.map (m_lcw "java/lang/Math"), w ∈ lw_tbl := m_memL [] (by decide +kernel)
theorem m_kq8 : ∀ w ∈ m_clk_8.map (m_clw "java/lang/String"), w ∈ lw_tbl := m_memL [] (by decide +kernel)
theorem m_ki8 : ∀ w ∈ m_ick_8.map (m_icw "java/lang/String"), w ∈ lw_tbl := m_memL [] (by decide +kernel)
theorem m_kj8 : ∀ w ∈ m_lck_8.map (m_lcw "java/lang/String"), w ∈ lw_tbl := m_memL [] (by decide +kernel)
theorem m_kq9 : ∀ w ∈ m_clk_9.map (m_clw "java/lang/StringLatin1"), w ∈ lw_tbl := m_memL [] (by decide +kernel)
theorem m_ki9 : ∀ w ∈ m_ick_9.map (m_icw "java/lang/StringLatin1"), w ∈ lw_tbl := m_memL [] (by decide +kernel)
theorem m_kj9 : ∀ w ∈ m_lck_9.map (m_lcw "java/lang/StringLatin1"), w ∈ lw_tbl := m_memL [] (by decide +kernel)
theorem m_kq10 : ∀ w ∈ m_clk_10.map (m_clw "jdk/internal/util/Preconditions"), w ∈ lw_tbl := m_memL [] (by decide +kernel)
theorem m_ki10 : ∀ w ∈ m_ick_10.map (m_icw "jdk/internal/util/Preconditions"), w ∈ lw_tbl := m_memL [] (by decide +kernel)
theorem m_kj10 : ∀ w ∈ m_lck_10.map (m_lcw "jdk/internal/util/Preconditions"), w ∈ lw_tbl := m_memL [] (by decide +kernel)
theorem m_kq11 : ∀ w ∈ m_clk_11.map (m_clw "java/lang/StringUTF16"), w ∈ lw_tbl := m_memL [] (by decide +kernel)
theorem m_ki11 : ∀ w ∈ m_ick_11.map (m_icw "java/lang/StringUTF16"), w ∈ lw_tbl := m_memL [] (by decide +kernel)
theorem m_kj11 : ∀ w ∈ m_lck_11.map (m_lcw "java/lang/StringUTF16"), w ∈ lw_tbl := m_memL [] (by decide +kernel)
theorem m_kq12 : ∀ w ∈ m_clk_12.map (m_clw "java/util/Arrays"), w ∈ lw_tbl := m_memL [] (by decide +kernel)
theorem m_ki12 : ∀ w ∈ m_ick_12.map (m_icw "java/util/Arrays"), w ∈ lw_tbl := m_memL [] (by decide +kernel)
theorem m_kj12 : ∀ w ∈ m_lck_12.map (m_lcw "java/util/Arrays"), w ∈ lw_tbl := m_memL [] (by decide +kernel)
theorem m_kq13 : ∀ w ∈ m_clk_13.map (m_clw "PastHeaps$Past"), w ∈ lw_tbl := m_memL [470, 506, 525] (by decide +kernel)
theorem m_ki13 : ∀ w ∈ m_ick_13.map (m_icw "PastHeaps$Past"), w ∈ lw_tbl := m_memL [1170] (by decide +kernel)
theorem m_kj13 : ∀ w ∈ m_lck_13.map (m_lcw "PastHeaps$Past"), w ∈ lw_tbl := m_memL [] (by decide +kernel)
theorem m_kq14 : ∀ w ∈ m_clk_14.map (m_clw "PastHeaps$Nodes"), w ∈ lw_tbl := m_memL [476] (by decide +kernel)
theorem m_ki14 : ∀ w ∈ m_ick_14.map (m_icw "PastHeaps$Nodes"), w ∈ lw_tbl := m_memL [] (by decide +kernel)
theorem m_kj14 : ∀ w ∈ m_lck_14.map (m_lcw "PastHeaps$Nodes"), w ∈ lw_tbl := m_memL [] (by decide +kernel)
theorem m_kq15 : ∀ w ∈ m_clk_15.map (m_clw "PastHeaps$Lines"), w ∈ lw_tbl := m_memL [] (by decide +kernel)
theorem m_ki15 : ∀ w ∈ m_ick_15.map (m_icw "PastHeaps$Lines"), w ∈ lw_tbl := m_memL [] (by decide +kernel)
theorem m_kj15 : ∀ w ∈ m_lck_15.map (m_lcw "PastHeaps$Lines"), w ∈ lw_tbl := m_memL [975] (by decide +kernel)
theorem m_kq16 : ∀ w ∈ m_clk_16.map (m_clw "java/lang/Integer"), w ∈ lw_tbl := m_memL [] (by decide +kernel)
theorem m_ki16 : ∀ w ∈ m_ick_16.map (m_icw "java/lang/Integer"), w ∈ lw_tbl := m_memL [747, 748, 749] (by decide +kernel)
theorem m_kj16 : ∀ w ∈ m_lck_16.map (m_lcw "java/lang/Integer"), w ∈ lw_tbl := m_memL [] (by decide +kernel)
theorem m_kq17 : ∀ w ∈ m_clk_17.map (m_clw "java/lang/Long"), w ∈ lw_tbl := m_memL [] (by decide +kernel)
theorem m_ki17 : ∀ w ∈ m_ick_17.map (m_icw "java/lang/Long"), w ∈ lw_tbl := m_memL [] (by decide +kernel)
theorem m_kj17 : ∀ w ∈ m_lck_17.map (m_lcw "java/lang/Long"), w ∈ lw_tbl := m_memL [1059, 1060, 1061] (by decide +kernel)
theorem m_kq18 : ∀ w ∈ m_clk_18.map (m_clw "PastHeapsModel"), w ∈ lw_tbl := m_memL [] (by decide +kernel)
theorem m_ki18 : ∀ w ∈ m_ick_18.map (m_icw "PastHeapsModel"), w ∈ lw_tbl := m_memL [1181, 1556, 1765] (by decide +kernel)
theorem m_kj18 : ∀ w ∈ m_lck_18.map (m_lcw "PastHeapsModel"), w ∈ lw_tbl := m_memL [1426, 1427, 1428, 1429, 1430, 1431, 1592] (by decide +kernel)
theorem m_ky0 : ∀ w ∈ u_ws RX0 TX0 3, w ∈ lw_tbl := m_memL [150, 152, 154] (by decide +kernel)
theorem nmX0 : ∀ a, a < 3 → ∀ b, b < 3 → a ≠ b → (TX0 a).2.1 ≠ (TX0 b).2.1 := by decide +kernel
theorem tyX0_ok : ∀ k, k < 3 → parseFieldDescriptor (TX0 k).2.2.1 = some (tyX0 k) := by decide +kernel
theorem m_ky1 : ∀ w ∈ u_ws RX1 TX1 4, w ∈ lw_tbl := m_memL [516, 518, 520, 522] (by decide +kernel)
theorem nmX1 : ∀ a, a < 4 → ∀ b, b < 4 → a ≠ b → (TX1 a).2.1 ≠ (TX1 b).2.1 := by decide +kernel
theorem tyX1_ok : ∀ k, k < 4 → parseFieldDescriptor (TX1 k).2.2.1 = some (tyX1 k) := by decide +kernel
theorem m_ky2 : ∀ w ∈ u_ws RX2 TX2 7, w ∈ lw_tbl := m_memL [490, 492, 494, 496, 498, 500, 502] (by decide +kernel)
theorem nmX2 : ∀ a, a < 7 → ∀ b, b < 7 → a ≠ b → (TX2 a).2.1 ≠ (TX2 b).2.1 := by decide +kernel
theorem tyX2_ok : ∀ k, k < 7 → parseFieldDescriptor (TX2 k).2.2.1 = some (tyX2 k) := by decide +kernel
theorem m_ky3 : ∀ w ∈ u_ws RX3 TX3 14, w ∈ lw_tbl := m_memL [550, 552, 554, 556, 558, 560, 562, 564, 566, 568, 570, 572, 574, 576] (by decide +kernel)
theorem nmX3 : ∀ a, a < 14 → ∀ b, b < 14 → a ≠ b → (TX3 a).2.1 ≠ (TX3 b).2.1 := by decide +kernel
theorem tyX3_ok : ∀ k, k < 14 → parseFieldDescriptor (TX3 k).2.2.1 = some (tyX3 k) := by decide +kernel
theorem m_ky4 : ∀ w ∈ u_ws RX4 TX4 9, w ∈ lw_tbl := m_memL [204, 206, 208, 210, 212, 214, 216, 218, 220] (by decide +kernel)
theorem nmX4 : ∀ a, a < 9 → ∀ b, b < 9 → a ≠ b → (TX4 a).2.1 ≠ (TX4 b).2.1 := by decide +kernel
theorem tyX4_ok : ∀ k, k < 9 → parseFieldDescriptor (TX4 k).2.2.1 = some (tyX4 k) := by decide +kernel
theorem m_ky5 : ∀ w ∈ u_ws RX5 TX5 4, w ∈ lw_tbl := m_memL [282, 284, 286, 288] (by decide +kernel)
theorem nmX5 : ∀ a, a < 4 → ∀ b, b < 4 → a ≠ b → (TX5 a).2.1 ≠ (TX5 b).2.1 := by decide +kernel
theorem tyX5_ok : ∀ k, k < 4 → parseFieldDescriptor (TX5 k).2.2.1 = some (tyX5 k) := by decide +kernel
theorem m_ky6 : ∀ w ∈ u_ws RX6 TX6 6, w ∈ lw_tbl := m_memL [171, 173, 175, 177, 179, 181] (by decide +kernel)
theorem nmX6 : ∀ a, a < 6 → ∀ b, b < 6 → a ≠ b → (TX6 a).2.1 ≠ (TX6 b).2.1 := by decide +kernel
theorem tyX6_ok : ∀ k, k < 6 → parseFieldDescriptor (TX6 k).2.2.1 = some (tyX6 k) := by decide +kernel
theorem m_ky7 : ∀ w ∈ u_ws RX7 TX7 10, w ∈ lw_tbl := m_memL [250, 252, 254, 256, 258, 260, 262, 264, 266, 268] (by decide +kernel)
theorem nmX7 : ∀ a, a < 10 → ∀ b, b < 10 → a ≠ b → (TX7 a).2.1 ≠ (TX7 b).2.1 := by decide +kernel
theorem tyX7_ok : ∀ k, k < 10 → parseFieldDescriptor (TX7 k).2.2.1 = some (tyX7 k) := by decide +kernel
theorem m_ky8 : ∀ w ∈ u_ws RX8 TX8 8, w ∈ lw_tbl := m_memL [299, 301, 303, 305, 307, 309, 311, 313] (by decide +kernel)
theorem nmX8 : ∀ a, a < 8 → ∀ b, b < 8 → a ≠ b → (TX8 a).2.1 ≠ (TX8 b).2.1 := by decide +kernel
theorem tyX8_ok : ∀ k, k < 8 → parseFieldDescriptor (TX8 k).2.2.1 = some (tyX8 k) := by decide +kernel
theorem m_ky9 : ∀ w ∈ u_ws RX9 TX9 68, w ∈ lw_tbl := m_memL [1250, 1252, 1254, 1256, 1258, 1260, 1262, 1264, 1266, 1268, 1270, 1272, 1274, 1276, 1278, 1280, 1282, 1284, 1286, 1288, 1290, 1292, 1294, 1296, 1298, 1300, 1302, 1304, 1306, 1308, 1310, 1312, 1314, 1316, 1318, 1320, 1322, 1324, 1326, 1328, 1330, 1332, 1334, 1336, 1338, 1340, 1342, 1344, 1346, 1348, 1350, 1352, 1354, 1356, 1358, 1360, 1362, 1364, 1366, 1368, 1370, 1372, 1374, 1376, 1378, 1380, 1382, 1384] (by decide +kernel)
theorem nmX9 : ∀ a, a < 68 → ∀ b, b < 68 → a ≠ b → (TX9 a).2.1 ≠ (TX9 b).2.1 := by decide +kernel
theorem tyX9_ok : ∀ k, k < 68 → parseFieldDescriptor (TX9 k).2.2.1 = some (tyX9 k) := by decide +kernel
theorem m_kinst : ∀ w ∈ m_cl.flatMap (fun q => [Cond.instantiable q.1 q.2.2, Cond.initialized q.1]), w ∈ lw_tbl := m_memL [140, 107, 507, 121, 471, 120, 465, 119, 188, 108, 273, 110, 133, 106, 226, 109, 125, 105, 1176, 111] (by decide +kernel)
theorem m_karr : ∀ w ∈ [Cond.arrayClass .int, .arrayClass .byte, .arrayClass .boolean, .arrayClass .long, .arrayOver (.object RX6), .arrayOver (.object RX3), .arrayOver (.object RX0), .arrayOver (.array .int), .native arraycopyName, .static arraycopyName, .initialized "java/lang/System", .instanceMethod objectInit, .initialized "java/lang/String"], w ∈ lw_tbl := m_memL [158, 157, 271, 505, 184, 186, 139, 526, 460, 459, 118, 130, 113] (by decide +kernel)
set_option maxRecDepth 100000 in
theorem m_kobj : Cond.code objectInit ⟨#[0xb1]⟩ 1 none ∈ lw_tbl := List.mem_of_getElem? (i := 131) rfl
theorem m_KL : ∀ (k : Nat) (o : String) (l : List (Nat × Nat × Nat)), m_own[k]? = some o → m_mlk[k]? = some l → ∀ w ∈ l.map (m_mw o), w ∈ lw_tbl
  | 0, _, _, h1, h2 => by cases h1; cases h2; exact m_kl0
  | 1, _, _, h1, h2 => by cases h1; cases h2; exact m_kl1
  | 2, _, _, h1, h2 => by cases h1; cases h2; exact m_kl2
  | 3, _, _, h1, h2 => by cases h1; cases h2; exact m_kl3
  | 4, _, _, h1, h2 => by cases h1; cases h2; exact m_kl4
  | 5, _, _, h1, h2 => by cases h1; cases h2; exact m_kl5
  | 6, _, _, h1, h2 => by cases h1; cases h2; exact m_kl6
  | 7, _, _, h1, h2 => by cases h1; cases h2; exact m_kl7
  | 8, _, _, h1, h2 => by cases h1; cases h2; exact m_kl8
  | 9, _, _, h1, h2 => by cases h1; cases h2; exact m_kl9
  | 10, _, _, h1, h2 => by cases h1; cases h2; exact m_kl10
  | 11, _, _, h1, h2 => by cases h1; cases h2; exact m_kl11
  | 12, _, _, h1, h2 => by cases h1; cases h2; exact m_kl12
  | 13, _, _, h1, h2 => by cases h1; cases h2; exact m_kl13
  | 14, _, _, h1, h2 => by cases h1; cases h2; exact m_kl14
  | 15, _, _, h1, h2 => by cases h1; cases h2; exact m_kl15
  | 16, _, _, h1, h2 => by cases h1; cases h2; exact m_kl16
  | 17, _, _, h1, h2 => by cases h1; cases h2; exact m_kl17
  | 18, _, _, h1, h2 => by cases h1; cases h2; exact m_kl18
  | k + 19, _, _, h1, h2 => by simp [m_own] at h1
theorem m_KF : ∀ (k : Nat) (o : String) (l : List (Nat × Nat × Nat × Nat)), m_own[k]? = some o → m_flk[k]? = some l → ∀ w ∈ l.map (m_fw o), w ∈ lw_tbl
  | 0, _, _, h1, h2 => by cases h1; cases h2; exact m_kf0
  | 1, _, _, h1, h2 => by cases h1; cases h2; exact m_kf1
  | 2, _, _, h1, h2 => by cases h1; cases h2; exact m_kf2
  | 3, _, _, h1, h2 => by cases h1; cases h2; exact m_kf3
  | 4, _, _, h1, h2 => by cases h1; cases h2; exact m_kf4
  | 5, _, _, h1, h2 => by cases h1; cases h2; exact m_kf5
  | 6, _, _, h1, h2 => by cases h1; cases h2; exact m_kf6
  | 7, _, _, h1, h2 => by cases h1; cases h2; exact m_kf7
  | 8, _, _, h1, h2 => by cases h1; cases h2; exact m_kf8
  | 9, _, _, h1, h2 => by cases h1; cases h2; exact m_kf9
  | 10, _, _, h1, h2 => by cases h1; cases h2; exact m_kf10
  | 11, _, _, h1, h2 => by cases h1; cases h2; exact m_kf11
  | 12, _, _, h1, h2 => by cases h1; cases h2; exact m_kf12
  | 13, _, _, h1, h2 => by cases h1; cases h2; exact m_kf13
  | 14, _, _, h1, h2 => by cases h1; cases h2; exact m_kf14
  | 15, _, _, h1, h2 => by cases h1; cases h2; exact m_kf15
  | 16, _, _, h1, h2 => by cases h1; cases h2; exact m_kf16
  | 17, _, _, h1, h2 => by cases h1; cases h2; exact m_kf17
  | 18, _, _, h1, h2 => by cases h1; cases h2; exact m_kf18
  | k + 19, _, _, h1, h2 => by simp [m_own] at h1
theorem m_KQ : ∀ (k : Nat) (o : String) (l : List (Nat × Nat)), m_own[k]? = some o → m_clk[k]? = some l → ∀ w ∈ l.map (m_clw o), w ∈ lw_tbl
  | 0, _, _, h1, h2 => by cases h1; cases h2; exact m_kq0
  | 1, _, _, h1, h2 => by cases h1; cases h2; exact m_kq1
  | 2, _, _, h1, h2 => by cases h1; cases h2; exact m_kq2
  | 3, _, _, h1, h2 => by cases h1; cases h2; exact m_kq3
  | 4, _, _, h1, h2 => by cases h1; cases h2; exact m_kq4
  | 5, _, _, h1, h2 => by cases h1; cases h2; exact m_kq5
  | 6, _, _, h1, h2 => by cases h1; cases h2; exact m_kq6
  | 7, _, _, h1, h2 => by cases h1; cases h2; exact m_kq7
  | 8, _, _, h1, h2 => by cases h1; cases h2; exact m_kq8
  | 9, _, _, h1, h2 => by cases h1; cases h2; exact m_kq9
  | 10, _, _, h1, h2 => by cases h1; cases h2; exact m_kq10
  | 11, _, _, h1, h2 => by cases h1; cases h2; exact m_kq11
  | 12, _, _, h1, h2 => by cases h1; cases h2; exact m_kq12
  | 13, _, _, h1, h2 => by cases h1; cases h2; exact m_kq13
  | 14, _, _, h1, h2 => by cases h1; cases h2; exact m_kq14
  | 15, _, _, h1, h2 => by cases h1; cases h2; exact m_kq15
  | 16, _, _, h1, h2 => by cases h1; cases h2; exact m_kq16
  | 17, _, _, h1, h2 => by cases h1; cases h2; exact m_kq17
  | 18, _, _, h1, h2 => by cases h1; cases h2; exact m_kq18
  | k + 19, _, _, h1, h2 => by simp [m_own] at h1
theorem m_KI : ∀ (k : Nat) (o : String) (l : List (Nat × Int32)), m_own[k]? = some o → m_ick[k]? = some l → ∀ w ∈ l.map (m_icw o), w ∈ lw_tbl
  | 0, _, _, h1, h2 => by cases h1; cases h2; exact m_ki0
  | 1, _, _, h1, h2 => by cases h1; cases h2; exact m_ki1
  | 2, _, _, h1, h2 => by cases h1; cases h2; exact m_ki2
  | 3, _, _, h1, h2 => by cases h1; cases h2; exact m_ki3
  | 4, _, _, h1, h2 => by cases h1; cases h2; exact m_ki4
  | 5, _, _, h1, h2 => by cases h1; cases h2; exact m_ki5
  | 6, _, _, h1, h2 => by cases h1; cases h2; exact m_ki6
  | 7, _, _, h1, h2 => by cases h1; cases h2; exact m_ki7
  | 8, _, _, h1, h2 => by cases h1; cases h2; exact m_ki8
  | 9, _, _, h1, h2 => by cases h1; cases h2; exact m_ki9
  | 10, _, _, h1, h2 => by cases h1; cases h2; exact m_ki10
  | 11, _, _, h1, h2 => by cases h1; cases h2; exact m_ki11
  | 12, _, _, h1, h2 => by cases h1; cases h2; exact m_ki12
  | 13, _, _, h1, h2 => by cases h1; cases h2; exact m_ki13
  | 14, _, _, h1, h2 => by cases h1; cases h2; exact m_ki14
  | 15, _, _, h1, h2 => by cases h1; cases h2; exact m_ki15
  | 16, _, _, h1, h2 => by cases h1; cases h2; exact m_ki16
  | 17, _, _, h1, h2 => by cases h1; cases h2; exact m_ki17
  | 18, _, _, h1, h2 => by cases h1; cases h2; exact m_ki18
  | k + 19, _, _, h1, h2 => by simp [m_own] at h1
theorem m_KJ : ∀ (k : Nat) (o : String) (l : List (Nat × Int64)), m_own[k]? = some o → m_lck[k]? = some l → ∀ w ∈ l.map (m_lcw o), w ∈ lw_tbl
  | 0, _, _, h1, h2 => by cases h1; cases h2; exact m_kj0
  | 1, _, _, h1, h2 => by cases h1; cases h2; exact m_kj1
  | 2, _, _, h1, h2 => by cases h1; cases h2; exact m_kj2
  | 3, _, _, h1, h2 => by cases h1; cases h2; exact m_kj3
  | 4, _, _, h1, h2 => by cases h1; cases h2; exact m_kj4
  | 5, _, _, h1, h2 => by cases h1; cases h2; exact m_kj5
  | 6, _, _, h1, h2 => by cases h1; cases h2; exact m_kj6
  | 7, _, _, h1, h2 => by cases h1; cases h2; exact m_kj7
  | 8, _, _, h1, h2 => by cases h1; cases h2; exact m_kj8
  | 9, _, _, h1, h2 => by cases h1; cases h2; exact m_kj9
  | 10, _, _, h1, h2 => by cases h1; cases h2; exact m_kj10
  | 11, _, _, h1, h2 => by cases h1; cases h2; exact m_kj11
  | 12, _, _, h1, h2 => by cases h1; cases h2; exact m_kj12
  | 13, _, _, h1, h2 => by cases h1; cases h2; exact m_kj13
  | 14, _, _, h1, h2 => by cases h1; cases h2; exact m_kj14
  | 15, _, _, h1, h2 => by cases h1; cases h2; exact m_kj15
  | 16, _, _, h1, h2 => by cases h1; cases h2; exact m_kj16
  | 17, _, _, h1, h2 => by cases h1; cases h2; exact m_kj17
  | 18, _, _, h1, h2 => by cases h1; cases h2; exact m_kj18
  | k + 19, _, _, h1, h2 => by simp [m_own] at h1
theorem m_kfok : ∀ l ∈ m_flk, ∀ e ∈ l, decide (e.2.2.1 = 39 ∧ e.2.1 = 0 ∧ e.2.2.2 < 2 ∨ e.2.2.1 < 10 ∧ e.2.2.2 < m_nf e.2.2.1 ∧ e.2.1 < 2) = true := by decide +kernel
def m_cf (c : Nat) (q : vw_C) (ty : Nat → FieldType) : Prop := m_cl[c]? = some q ∧ m_nf c = q.2.2 ∧ (∀ w ∈ u_ws q.1 q.2.1 q.2.2, w ∈ lw_tbl) ∧ (∀ a, a < q.2.2 → ∀ b, b < q.2.2 → a ≠ b → (q.2.1 a).2.1 ≠ (q.2.1 b).2.1) ∧ (∀ k, k < q.2.2 → parseFieldDescriptor (q.2.1 k).2.2.1 = some (ty k)) ∧ (∀ k, k < q.2.2 → (q.2.1 k).1 = q.1 ∧ (q.2.1 k).2.2.2 = (m_ty c k).2 ∧ ((m_ty c k).1 = 0 → ty k = .int) ∧ ((m_ty c k).1 = 1 → ty k = .long) ∧ ((m_ty c k).1 ≠ 0 → (m_ty c k).1 ≠ 1 → m_rr (some (ty k)) = true)) ∧ Cond.instantiable q.1 q.2.2 ∈ lw_tbl ∧ Cond.initialized q.1 ∈ lw_tbl
theorem m_cf0 : m_cf 0 (RX0, TX0, 3) tyX0 := ⟨rfl, by decide +kernel, m_ky0, nmX0, tyX0_ok, by decide +kernel, m_kinst _ (List.mem_of_getElem? (i := 0) rfl), m_kinst _ (List.mem_of_getElem? (i := 1) rfl)⟩
theorem m_cf1 : m_cf 1 (RX1, TX1, 4) tyX1 := ⟨rfl, by decide +kernel, m_ky1, nmX1, tyX1_ok, by decide +kernel, m_kinst _ (List.mem_of_getElem? (i := 2) rfl), m_kinst _ (List.mem_of_getElem? (i := 3) rfl)⟩
theorem m_cf2 : m_cf 2 (RX2, TX2, 7) tyX2 := ⟨rfl, by decide +kernel, m_ky2, nmX2, tyX2_ok, by decide +kernel, m_kinst _ (List.mem_of_getElem? (i := 4) rfl), m_kinst _ (List.mem_of_getElem? (i := 5) rfl)⟩
theorem m_cf3 : m_cf 3 (RX3, TX3, 14) tyX3 := ⟨rfl, by decide +kernel, m_ky3, nmX3, tyX3_ok, by decide +kernel, m_kinst _ (List.mem_of_getElem? (i := 6) rfl), m_kinst _ (List.mem_of_getElem? (i := 7) rfl)⟩
theorem m_cf4 : m_cf 4 (RX4, TX4, 9) tyX4 := ⟨rfl, by decide +kernel, m_ky4, nmX4, tyX4_ok, by decide +kernel, m_kinst _ (List.mem_of_getElem? (i := 8) rfl), m_kinst _ (List.mem_of_getElem? (i := 9) rfl)⟩
theorem m_cf5 : m_cf 5 (RX5, TX5, 4) tyX5 := ⟨rfl, by decide +kernel, m_ky5, nmX5, tyX5_ok, by decide +kernel, m_kinst _ (List.mem_of_getElem? (i := 10) rfl), m_kinst _ (List.mem_of_getElem? (i := 11) rfl)⟩
theorem m_cf6 : m_cf 6 (RX6, TX6, 6) tyX6 := ⟨rfl, by decide +kernel, m_ky6, nmX6, tyX6_ok, by decide +kernel, m_kinst _ (List.mem_of_getElem? (i := 12) rfl), m_kinst _ (List.mem_of_getElem? (i := 13) rfl)⟩
theorem m_cf7 : m_cf 7 (RX7, TX7, 10) tyX7 := ⟨rfl, by decide +kernel, m_ky7, nmX7, tyX7_ok, by decide +kernel, m_kinst _ (List.mem_of_getElem? (i := 14) rfl), m_kinst _ (List.mem_of_getElem? (i := 15) rfl)⟩
theorem m_cf8 : m_cf 8 (RX8, TX8, 8) tyX8 := ⟨rfl, by decide +kernel, m_ky8, nmX8, tyX8_ok, by decide +kernel, m_kinst _ (List.mem_of_getElem? (i := 16) rfl), m_kinst _ (List.mem_of_getElem? (i := 17) rfl)⟩
theorem m_cf9 : m_cf 9 (RX9, TX9, 68) tyX9 := ⟨rfl, by decide +kernel, m_ky9, nmX9, tyX9_ok, by decide +kernel, m_kinst _ (List.mem_of_getElem? (i := 18) rfl), m_kinst _ (List.mem_of_getElem? (i := 19) rfl)⟩
theorem m_cfs : ∀ c, c < 10 → ∃ (q : vw_C) (ty : Nat → FieldType), m_cf c q ty
  | 0, _ => ⟨_, _, m_cf0⟩
  | 1, _ => ⟨_, _, m_cf1⟩
  | 2, _ => ⟨_, _, m_cf2⟩
  | 3, _ => ⟨_, _, m_cf3⟩
  | 4, _ => ⟨_, _, m_cf4⟩
  | 5, _ => ⟨_, _, m_cf5⟩
  | 6, _ => ⟨_, _, m_cf6⟩
  | 7, _ => ⟨_, _, m_cf7⟩
  | 8, _ => ⟨_, _, m_cf8⟩
  | 9, _ => ⟨_, _, m_cf9⟩
  | c + 10, h => absurd h (by omega)
end
section
-- HOW THE SMALL MACHINE'S HEAP AND THE REAL ONE AGREE
def mv (cst : Nat → Value) (b : Nat) : Value → Value
  | .ref a => if a = 0 then .null else if a < 16 then cst a else .ref (b + (a - 16))
  | v => v
def m_cok (cst : Nat → Value) : Prop := ∀ a, cst a = .null ∨ ∃ r, cst a = .ref r
theorem mv_ref {cst : Nat → Value} {b : Nat} (hc : m_cok cst) (a : Nat) : mv cst b (.ref a) = .null ∨ ∃ r, mv cst b (.ref a) = .ref r := by
  unfold mv
  by_cases h : a = 0
  · simp [h]
  · by_cases h2 : a < 16
    · simp only [h, h2, if_true, if_false]
      exact hc a
    · simp [h, h2]
theorem mv_cat {cst : Nat → Value} {b : Nat} (hc : m_cok cst) (v : Value) : (mv cst b v).category = v.category := by
  cases v with
  | ref a =>
    rcases mv_ref (b := b) hc a with h | ⟨r, h⟩ <;> rw [h] <;> rfl
  | _ => rfl
theorem mv_dyn {cst : Nat → Value} {b a : Nat} (h : 16 ≤ a) : mv cst b (.ref a) = .ref (b + (a - 16)) := by
  unfold mv
  simp [show ¬ a = 0 by omega, show ¬ a < 16 by omega]
theorem mv_0 {cst : Nat → Value} {b : Nat} : mv cst b (.ref 0) = .null := rfl
theorem mv_cst {cst : Nat → Value} {b a : Nat} (h0 : a ≠ 0) (h : a < 16) : mv cst b (.ref a) = cst a := by
  unfold mv
  simp [h0, h]
theorem mv_sum {cst : Nat → Value} {b : Nat} (hc : m_cok cst) (st : List Value) : ((st.map (mv cst b)).map fun v => v.category).sum = m_cat st := by
  unfold m_cat
  congr 1
  rw [List.map_map]
  apply List.map_congr_left
  intro v _
  exact mv_cat hc v
-- locals
def ml (cst : Nat → Value) (b : Nat) (lv : List (Nat × Value)) : List (Nat × Value) := lv.map (fun q => (q.1, mv cst b q.2))
theorem ml_get {cst : Nat → Value} {b nL k : Nat} {lv : List (Nat × Value)} {ls : Array Slot} {v : Value} (hl : lv_has ls nL (ml cst b lv)) (h : m_lk lv k = some v) : ls[k]? = some (.val (mv cst b v)) := by
  unfold m_lk at h
  cases hf : lv.find? (fun e => e.1 == k) with
  | none => rw [hf] at h; cases h
  | some q =>
    rw [hf] at h
    cases h
    have h1 := List.mem_of_find?_eq_some hf
    have h2 := List.find?_some hf
    have h3 : q.1 = k := by simpa using h2
    have := hl.2.2 (q.1, mv cst b q.2) (List.mem_map.mpr ⟨q, h1, rfl⟩)
    rw [h3] at this
    exact this
theorem ml_filter {cst : Nat → Value} {b : Nat} (hc : m_cok cst) (lv : List (Nat × Value)) (p : Nat → Nat → Bool) : (ml cst b lv).filter (fun q => p q.1 q.2.category) = ml cst b (lv.filter (fun q => p q.1 q.2.category)) := by
  unfold ml
  induction lv with
  | nil => rfl
  | cons x t ih =>
    simp only [List.map_cons, List.filter_cons, mv_cat hc]
    cases p x.1 x.2.category
    · simpa using ih
    · simp [ih]
theorem ml_s1 {cst : Nat → Value} {b : Nat} (hc : m_cok cst) (lv : List (Nat × Value)) (i : Nat) (v : Value) : (i, mv cst b v) :: (ml cst b lv).filter (fun q => !(q.1 == i) && !(q.1 + 1 == i && q.2.category == 2)) = ml cst b (m_s1 lv i v) := by
  have h := ml_filter (b := b) hc lv (fun a c => !(a == i) && !(a + 1 == i && c == 2))
  show _ :: _ = _ :: _
  rw [h]
  rfl
theorem ml_s2 {cst : Nat → Value} {b : Nat} (hc : m_cok cst) (lv : List (Nat × Value)) (i : Nat) (v : Value) : (i, mv cst b v) :: (ml cst b lv).filter (fun q => !(q.1 == i) && (!(q.1 == i + 1) && !(q.1 + 1 == i && q.2.category == 2))) = ml cst b (m_s2 lv i v) := by
  have h := ml_filter (b := b) hc lv (fun a c => !(a == i) && (!(a == i + 1) && !(a + 1 == i && c == 2)))
  show _ :: _ = _ :: _
  rw [h]
  rfl
theorem ml_args {cst : Nat → Value} {b : Nat} (hc : m_cok cst) : ∀ (vs : List Value) (i : Nat), lv_args i (vs.map (mv cst b)) = ml cst b (lv_args i vs)
  | [], _ => rfl
  | v :: vs, i => by
    show (i, mv cst b v) :: lv_args _ (vs.map (mv cst b)) = (i, mv cst b v) :: ml cst b (lv_args _ vs)
    rw [mv_cat hc, ml_args hc vs]
-- the cells
def m_fv (cst : Nat → Value) (b : Nat) (h : MH) (a c k : Nat) : Value := match (m_ty c k).1 with
  | 0 => .int (h_i h a k)
  | 1 => .long (h_l h a k)
  | _ => mv cst b (.ref (h_r h a k))
def m_av (cst : Nat → Value) (b : Nat) (h : MH) (a kd j : Nat) : Value := if kd < 25 then .int (h_i h a j) else if kd = 25 then .long (h_l h a j) else mv cst b (.ref (h_r h a j))
def m_okk (k : Nat) : Bool := k == 20 || k == 21 || k == 22 || k == 25 || k == 30 || k == 31 || k == 32 || k == 33
def m_cell (D : va_G) (tA : Nat → ClassId) (cst : Nat → Value) (b : Nat) (h : MH) (a : Nat) (H : Heap) : Prop :=
  (0 < (h_k h a).1 ∧ (h_k h a).1 < 11 ∧ t_OB (b + (a - 16)) (D.1 ((h_k h a).1 - 1)) (m_nf ((h_k h a).1 - 1)) (D.2 ((h_k h a).1 - 1)) H (m_fv cst b h a ((h_k h a).1 - 1))) ∨
  (m_okk (h_k h a).1 = true ∧ H[b + (a - 16)]? = some (arrV (tA (h_k h a).1) (h_k h a).2 (m_av cst b h a (h_k h a).1)) ∧ ((h_k h a).1 = 21 → ∀ j, fits .byte (.int (h_i h a j)) = true))
def m_cst (cst : Nat → Value) (b : Nat) (U : State) (h : MH) (a : Nat) (H : Heap) : Prop := match (h_k h a).1 with
  | 0 => True
  | 20 => ∃ (r : Nat) (cell : Cell), cst a = .ref r ∧ r < b ∧ H[r]? = some cell ∧ U.isArrayOf cell .int ∧ cell.vm ≠ .unknown ∧ (h_k h a).2 ≤ cell.slots.size ∧ cell.slots.size.toInt32 = Int32.ofNat (h_k h a).2 ∧ ∀ j : Nat, j < (h_k h a).2 → cell.slots[j]? = some (.int (h_i h a j))
  | 21 => ∃ (r : Nat) (cell : Cell), cst a = .ref r ∧ r < b ∧ H[r]? = some cell ∧ U.isArrayOf cell .byte ∧ cell.vm ≠ .unknown ∧ (h_k h a).2 ≤ cell.slots.size ∧ cell.slots.size.toInt32 = Int32.ofNat (h_k h a).2 ∧ ∀ j : Nat, j < (h_k h a).2 → cell.slots[j]? = some (.int (h_i h a j))
  | 40 => ∃ r : Nat, cst a = .ref r ∧ r < b ∧ va_O "java/lang/String" r (fun q => b ≤ q) U H ∧ va_OF "java/lang/String" "coder" "B" (.int (h_i h a 1)) r (fun q => b ≤ q) U H ∧ va_OF "java/lang/String" "value" "[B" (mv cst b (.ref (h_r h a 0))) r (fun q => b ≤ q) U H
  | _ => False
def m_stat (cst : Nat → Value) (b : Nat) (U : State) (H : Heap) : Prop := va_Z "java/lang/String" "COMPACT_STRINGS" "Z" (.int 1) (fun q => b ≤ q) U H ∧ va_Z "PastHeaps" "LIMITS" "[I" (cst 1) (fun q => b ≤ q) U H ∧ va_Z "jdk/internal/util/Preconditions" "SIOOBE_FORMATTER" "Ljava/util/function/BiFunction;" (cst 15) (fun q => b ≤ q) U H
def HR (D : va_G) (tA : Nat → ClassId) (cst : Nat → Value) (b : Nat) (U : State) (h : MH) (H : Heap) : Prop :=
  H.size = b + h_n h ∧ (∀ a, 16 ≤ a → a < 16 + h_n h → m_cell D tA cst b h a H) ∧ (∀ a, 16 + h_n h ≤ a → (h_k h a).1 = 0) ∧ (∀ a, a < 16 → m_cst cst b U h a H) ∧ m_stat cst b U H ∧ (h_k h 0).1 = 0
theorem m_cell.congr {D : va_G} {tA : Nat → ClassId} {cst : Nat → Value} {b a : Nat} {h h' : MH} {H H' : Heap} (hk : h_k h' a = h_k h a) (hi : h_i h' a = h_i h a) (hl : h_l h' a = h_l h a) (hr : h_r h' a = h_r h a) (hH : H'[b + (a - 16)]? = H[b + (a - 16)]?) (q : m_cell D tA cst b h a H) : m_cell D tA cst b h' a H' := by
  have e1 : ∀ c k, m_fv cst b h' a c k = m_fv cst b h a c k := fun c k => by unfold m_fv; rw [hi, hl, hr]
  have e2 : ∀ k j, m_av cst b h' a k j = m_av cst b h a k j := fun c k => by unfold m_av; rw [hi, hl, hr]
  rcases q with ⟨q1, q2, q3⟩ | ⟨q1, q2, q3⟩
  · refine Or.inl ⟨by rw [hk]; exact q1, by rw [hk]; exact q2, ?_⟩
    rw [hk]
    exact (q3.kept hH).to (fun k _ => (e1 _ k).symm)
  · refine Or.inr ⟨by rw [hk]; exact q1, ?_, by rw [hk, hi]; exact q3⟩
    rw [hk, hH, q2, show m_av cst b h' a (h_k h a).1 = m_av cst b h a (h_k h a).1 from funext (e2 _)]
theorem m_cst.congr {cst : Nat → Value} {b a : Nat} {U : State} {h h' : MH} {H H' : Heap} (hk : h_k h' a = h_k h a) (hi : h_i h' a = h_i h a) (hr : h_r h' a = h_r h a) (hH : ∀ q, q < b → H'[q]? = H[q]?) (q : m_cst cst b U h a H) : m_cst cst b U h' a H' := by
  unfold m_cst at q ⊢
  rw [hk, hi, hr]
  split at q
  · trivial
  · obtain ⟨r, cell, q1, q2, q3, q4⟩ := q
    exact ⟨r, cell, q1, q2, by rw [hH r q2]; exact q3, q4⟩
  · obtain ⟨r, cell, q1, q2, q3, q4⟩ := q
    exact ⟨r, cell, q1, q2, by rw [hH r q2]; exact q3, q4⟩
  · obtain ⟨r, q1, q2, ⟨cell, g1, g2, g3, g4⟩, ⟨cf, k, i, f, cl, f1, f2, f3, f4, f5, f6⟩, ⟨cf', k', i', f', cl', f1', f2', f3', f4', f5', f6'⟩⟩ := q
    exact ⟨r, q1, q2, ⟨cell, by rw [hH r q2]; exact g1, g2, g3, g4⟩, ⟨cf, k, i, f, cl, f1, f2, by rw [hH r q2]; exact f3, f4, f5, f6⟩, ⟨cf', k', i', f', cl', f1', f2', by rw [hH r q2]; exact f3', f4', f5', f6'⟩⟩
  · exact q
theorem m_stat.kept {cst : Nat → Value} {b : Nat} {U : State} {H H' : Heap} (hH : ∀ q, q < b → H'[q]? = H[q]?) (q : m_stat cst b U H) : m_stat cst b U H' :=
  ⟨q.1.kept (fun a _ h => hH a (Nat.lt_of_not_le h)), q.2.1.kept (fun a _ h => hH a (Nat.lt_of_not_le h)), q.2.2.kept (fun a _ h => hH a (Nat.lt_of_not_le h))⟩
theorem m_cst.moved {cst : Nat → Value} {b a : Nat} {u U : State} {h : MH} {H : Heap} (hvm : u.vm.Alike U.vm) (q : m_cst cst b u h a H) : m_cst cst b U h a H := by
  unfold m_cst at q ⊢
  split at q
  · trivial
  · obtain ⟨r, cell, q1, q2, q3, q4, q5⟩ := q
    exact ⟨r, cell, q1, q2, q3, State.isArrayOf_alike hvm q4, q5⟩
  · obtain ⟨r, cell, q1, q2, q3, q4, q5⟩ := q
    exact ⟨r, cell, q1, q2, q3, State.isArrayOf_alike hvm q4, q5⟩
  · obtain ⟨r, q1, q2, q3, q4, q5⟩ := q
    exact ⟨r, q1, q2, va_O.moved hvm q3, va_OF.moved hvm q4, va_OF.moved hvm q5⟩
  · exact q
theorem HR.moved {D : va_G} {tA : Nat → ClassId} {cst : Nat → Value} {b : Nat} {u U : State} {h : MH} {H : Heap} (hvm : u.vm.Alike U.vm) (q : HR D tA cst b u h H) : HR D tA cst b U h H :=
  ⟨q.1, q.2.1, q.2.2.1, fun a ha => (q.2.2.2.1 a ha).moved hvm, ⟨va_Z.moved hvm q.2.2.2.2.1.1, va_Z.moved hvm q.2.2.2.2.1.2.1, va_Z.moved hvm q.2.2.2.2.1.2.2⟩, q.2.2.2.2.2⟩
-- a cell of the world has changed
theorem HR.upd {D : va_G} {tA : Nat → ClassId} {cst : Nat → Value} {b a : Nat} {U : State} {h h' : MH} {H H' : Heap} (q : HR D tA cst b U h H) (ha : 16 ≤ a) (hn : h_n h' = h_n h) (hk : h_k h' = h_k h) (ho : ∀ x, x ≠ a → h_i h' x = h_i h x ∧ h_l h' x = h_l h x ∧ h_r h' x = h_r h x)
    (hz : H'.size = H.size) (hoH : ∀ x, x ≠ b + (a - 16) → H'[x]? = H[x]?) (hc : m_cell D tA cst b h' a H') : HR D tA cst b U h' H' := by
  obtain ⟨q1, q2, q3, q4, q5, q6⟩ := q
  have hlo : ∀ x, x < b → H'[x]? = H[x]? := fun x hx => hoH x (by omega)
  refine ⟨by rw [hz, hn]; exact q1, fun x h1 h2 => ?_, fun x hx => by rw [hk]; exact q3 x (by rw [← hn]; exact hx), fun x hx => (q4 x hx).congr (by rw [hk]) (ho x (by omega)).1 (ho x (by omega)).2.2 hlo, q5.kept hlo, by rw [hk]; exact q6⟩
  by_cases e : x = a
  · rw [e]; exact hc
  · exact (q2 x h1 (by rw [← hn]; exact h2)).congr (by rw [hk]) (ho x e).1 (ho x e).2.1 (ho x e).2.2 (hoH _ (by omega))
-- cells have come
theorem HR.grow {D : va_G} {tA : Nat → ClassId} {cst : Nat → Value} {b : Nat} {U : State} {h h' : MH} {H H' : Heap} (q : HR D tA cst b U h H) (m : Nat) (hn : h_n h' = h_n h + m)
    (ho : ∀ x, x < 16 + h_n h ∨ 16 + h_n h' ≤ x → h_k h' x = h_k h x) (hv : ∀ x, x < 16 + h_n h → h_i h' x = h_i h x ∧ h_l h' x = h_l h x ∧ h_r h' x = h_r h x)
    (hz : H'.size = H.size + m) (hoH : ∀ x, x < H.size → H'[x]? = H[x]?) (hc : ∀ x, 16 + h_n h ≤ x → x < 16 + h_n h' → m_cell D tA cst b h' x H') : HR D tA cst b U h' H' := by
  obtain ⟨q1, q2, q3, q4, q5, q6⟩ := q
  have hlo : ∀ x, x < b → H'[x]? = H[x]? := fun x hx => hoH x (by omega)
  refine ⟨by omega, fun x h1 h2 => ?_, fun x hx => by rw [ho x (Or.inr hx)]; exact q3 x (by omega), fun x hx => (q4 x hx).congr (ho x (Or.inl (by omega))) (hv x (by omega)).1 (hv x (by omega)).2.2 hlo, q5.kept hlo, by rw [ho 0 (Or.inl (by omega))]; exact q6⟩
  by_cases e : x < 16 + h_n h
  · exact (q2 x h1 e).congr (ho x (Or.inl e)) (hv x e).1 (hv x e).2.1 (hv x e).2.2 (hoH _ (by omega))
  · exact hc x (by omega) h2
-- what is there has its cell
theorem HR.cell {D : va_G} {tA : Nat → ClassId} {cst : Nat → Value} {b a : Nat} {U : State} {h : MH} {H : Heap} (q : HR D tA cst b U h H) (ha : 16 ≤ a) (hk : (h_k h a).1 ≠ 0) : m_cell D tA cst b h a H := by
  rcases Nat.lt_or_ge a (16 + h_n h) with h1 | h1
  · exact q.2.1 a ha h1
  · exact absurd (q.2.2.1 a h1) hk
theorem HR.obj {D : va_G} {tA : Nat → ClassId} {cst : Nat → Value} {b a c : Nat} {U : State} {h : MH} {H : Heap} (q : HR D tA cst b U h H) (hk : (h_k h a).1 = c + 1) (hc : c < 10) : 16 ≤ a ∧ t_OB (b + (a - 16)) (D.1 c) (m_nf c) (D.2 c) H (m_fv cst b h a c) := by
  have ha : 16 ≤ a := by
    rcases Nat.lt_or_ge a 16 with h1 | h1
    · have := q.2.2.2.1 a h1
      unfold m_cst at this
      rw [hk] at this
      match c, hc, this with
      | 0, _, this => exact this.elim
      | 1, _, this => exact this.elim
      | 2, _, this => exact this.elim
      | 3, _, this => exact this.elim
      | 4, _, this => exact this.elim
      | 5, _, this => exact this.elim
      | 6, _, this => exact this.elim
      | 7, _, this => exact this.elim
      | 8, _, this => exact this.elim
      | 9, _, this => exact this.elim
    · exact h1
  refine ⟨ha, ?_⟩
  rcases q.cell ha (by omega) with ⟨q1, q2, q3⟩ | ⟨q1, q2, q3⟩
  · rw [hk] at q3
    exact q3
  · rw [hk] at q1
    match c, hc, q1 with
    | 0, _, q1 => exact absurd q1 (by decide)
    | 1, _, q1 => exact absurd q1 (by decide)
    | 2, _, q1 => exact absurd q1 (by decide)
    | 3, _, q1 => exact absurd q1 (by decide)
    | 4, _, q1 => exact absurd q1 (by decide)
    | 5, _, q1 => exact absurd q1 (by decide)
    | 6, _, q1 => exact absurd q1 (by decide)
    | 7, _, q1 => exact absurd q1 (by decide)
    | 8, _, q1 => exact absurd q1 (by decide)
    | 9, _, q1 => exact absurd q1 (by decide)
theorem HR.arr {D : va_G} {tA : Nat → ClassId} {cst : Nat → Value} {b a : Nat} {U : State} {h : MH} {H : Heap} (q : HR D tA cst b U h H) (ha : 16 ≤ a) (hk : 20 ≤ (h_k h a).1) : m_okk (h_k h a).1 = true ∧ H[b + (a - 16)]? = some (arrV (tA (h_k h a).1) (h_k h a).2 (m_av cst b h a (h_k h a).1)) ∧ ((h_k h a).1 = 21 → ∀ j, fits .byte (.int (h_i h a j)) = true) := by
  rcases q.cell ha (by omega) with ⟨q1, q2, q3⟩ | q
  · omega
  · exact q
-- what the tables say, at any state of the run
def m_nest (w : Cond) : Bool := match w with
  | .fieldLinkNest _ _ _ _ _ _ => true
  | .methodLinkNest _ _ _ _ => true
  | _ => false
abbrev m_tys (tA : Nat → ClassId) : List (ClassId × FieldType) := [(tA 20, .int), (tA 21, .byte), (tA 22, .boolean), (tA 25, .long), (tA 30, .object RX6), (tA 31, .object RX3), (tA 32, .object RX0), (tA 33, .array .int)]
def KS (D : va_G) (tA : Nat → ClassId) (cst : Nat → Value) (U : State) : Prop :=
  va_K D m_cl (m_tys tA) U ∧ (∀ w ∈ lw_tbl, m_nest w = true → va_Nw w U) ∧ va_AO RX6 U ∧ va_AO RX3 U ∧ va_AO RX0 U ∧ (Cond.arrayOver (.array .int)).before #[] U = true ∧ (∀ (k : Nat) (q : String × Nat × String), m_strs[k]? = some q → ∃ r, cst (2 + k) = .ref r ∧ vk_R q.1 q.2.1 q.2.2 r U)
theorem va_Nw.warm {w : Cond} {s U : State} (hn : m_nest w = true) (hW : s.WarmedH U.vm) (h : va_Nw w s) : va_Nw w U := by
  cases w <;> first | exact va_Nw.warmF hW h | exact va_Nw.warmM hW h | exact absurd hn (by simp [m_nest])
theorem KS.warm {D : va_G} {tA : Nat → ClassId} {cst : Nat → Value} {s U : State} (hW : s.WarmedH U.vm) (h : KS D tA cst s) : KS D tA cst U := by
  obtain ⟨h1, h2, h3, h4, h5, h6, h7⟩ := h
  refine ⟨va_K.moved hW.alike h1, fun w hw hn => va_Nw.warm hn hW (h2 w hw hn), va_AO.moved hW.alike h3, va_AO.moved hW.alike h4, va_AO.moved hW.alike h5, over_moved hW.alike h6, fun k q hq => ?_⟩
  obtain ⟨r, g1, g2⟩ := h7 k q hq
  exact ⟨r, g1, g2.warm hW⟩
theorem KS.same {D : va_G} {tA : Nat → ClassId} {cst : Nat → Value} {s U : State} (hv : s.vm = U.vm) (h : KS D tA cst s) : KS D tA cst U := by
  obtain ⟨h1, h2, h3, h4, h5, h6, h7⟩ := h
  have hal : s.vm.Alike U.vm := by rw [hv]; exact Vm.Alike.refl _
  refine ⟨va_K.moved hal h1, fun w hw hn => ?_, va_AO.moved hal h3, va_AO.moved hal h4, va_AO.moved hal h5, over_moved hal h6, fun k q hq => ?_⟩
  · have hon : w.onTables = true := by cases w <;> first | rfl | exact absurd hn (by simp [m_nest])
    exact va_Nw.same hon hv (h2 w hw hn)
  · obtain ⟨r, g1, g2⟩ := h7 k q hq
    exact ⟨r, g1, g2.same hv.symm⟩
def m_tg0 : List Cond := lw_tbl.filter goodWord
end
section
-- THE STEPS OF THE SMALL MACHINE ARE STEPS OF THE REAL ONE
theorem m_lk_mem {α : Type} {l : List (Nat × α)} {k : Nat} {v : α} (h : m_lk l k = some v) : (k, v) ∈ l := by
  unfold m_lk at h
  cases hf : l.find? (fun e => e.1 == k) with
  | none => rw [hf] at h; cases h
  | some q =>
    rw [hf] at h
    cases h
    have h1 := List.mem_of_find?_eq_some hf
    have h2 := List.find?_some hf
    have h3 : q.1 = k := by simpa using h2
    rw [← h3]
    exact h1
theorem m_mem (i : Nat) : m_m i ∈ m_meths := by
  unfold m_m
  rw [List.getD_eq_getElem?_getD]
  cases h : m_meths[i]? with
  | none => exact List.mem_of_getElem? (i := 0) rfl
  | some q => exact List.mem_of_getElem? h
theorem m_dec {i pc : Nat} {e : Instr × Nat} (h : m_at i pc = some e) : decode (m_m i).2.2.1 pc = .ok e := by
  have h1 := List.all_eq_true.mp (m_kk _ (m_mem i)) _ (m_lk_mem h)
  exact of_decide_eq_true h1
theorem m_tgI {w : Cond} (h : w ∈ lw_tbl) (hg : goodWord w = true) : w ∈ m_tg0 := List.mem_filter.mpr ⟨h, hg⟩
theorem u_ws_good {C : String} {T : u_T} {N : Nat} : ∀ w ∈ u_ws C T N, goodWord w = true := by
  intro w hw
  obtain ⟨k, -, rfl⟩ := List.mem_map.mp hw
  unfold u_lay
  split <;> rfl
theorem m_clf (ci : Nat) (hc : ci < 10) : ∃ (q : vw_C), m_cl[ci]? = some q ∧ m_nf ci = q.2.2 ∧ (∀ w ∈ u_ws q.1 q.2.1 q.2.2, w ∈ m_tg0) ∧ (∀ a, a < q.2.2 → ∀ b, b < q.2.2 → a ≠ b → (q.2.1 a).2.1 ≠ (q.2.1 b).2.1) ∧ (∃ ty : Nat → FieldType, (∀ k, k < q.2.2 → parseFieldDescriptor (q.2.1 k).2.2.1 = some (ty k)) ∧ ∀ k, k < q.2.2 → ((m_ty ci k).1 = 0 → ty k = .int) ∧ ((m_ty ci k).1 = 1 → ty k = .long) ∧ ((m_ty ci k).1 ≠ 0 → (m_ty ci k).1 ≠ 1 → m_rr (some (ty k)) = true)) ∧ (∀ k, k < q.2.2 → (q.2.1 k).2.2.2 = (m_ty ci k).2) ∧ Cond.instantiable q.1 q.2.2 ∈ m_tg0 ∧ Cond.initialized q.1 ∈ m_tg0 ∧ (∀ k, k < q.2.2 → (q.2.1 k).1 = q.1) := by
  obtain ⟨q, ty, h1, h2, h3, h4, h5, h6, h7, h8⟩ := m_cfs ci hc
  exact ⟨q, h1, h2, fun w hw => m_tgI (h3 w hw) (u_ws_good w hw), h4, ⟨ty, h5, fun k hk => (h6 k hk).2.2⟩, fun k hk => (h6 k hk).2.1, m_tgI h7 rfl, m_tgI h8 rfl, fun k hk => (h6 k hk).1⟩
def SC (p : Program) (s : State) (m : MethodId) (args : Array Value) (meth : Method) (c : Code) (R : Room) (i : Nat) (D : va_G) (tA : Nat → ClassId) (cst : Nat → Value) (b : Nat) : Prop :=
  p.tables.exec = Jvm.exec ∧ c.code = (m_m i).2.2.1 ∧ c.maxLocals = m_lc i ∧ s.vm.findClass (m_m i).2.1.cls = some m.cls ∧ (∀ w ∈ m_tg0, w.before args s = true) ∧ meth.locks = false ∧ (m_kind i = 2 → meth.name = "<init>") ∧ m_fr i ≤ R.frames ∧ m_lo i ≤ R.locals ∧ KS D tA cst s ∧ m_cok cst ∧ meth.sig.returnType = m_rt i
section SIM
variable {p : Program} {l : Launch} {e : Env} {R : Room} {s : State} {m : MethodId} {args : Array Value} {below : List Frame} {meth : Method} {c : Code} {Q : State → Prop} {i : Nat} {D : va_G} {tA : Nat → ClassId} {cst : Nat → Value} {b : Nat}
variable {H : Heap} {locs : List Loc} {cells slots : Nat} {pc : Nat} {ls : Array Slot} {lv : List (Nat × Value)} {st : List Value} {h : MH} {S : MS}
-- what a step that changes no heap owes
def PS (p : Program) (l : Launch) (e : Env) (R : Room) (s : State) (m : MethodId) (args : Array Value) (below : List Frame) (meth : Method) (c : Code) (H : Heap) (locs : List Loc) (cells slots : Nat) (Q : State → Prop) (i : Nat) (cst : Nat → Value) (b : Nat) (h : MH) (pc : Nat) (ls : Array Slot) (st : List Value) (S : MS) : Prop :=
  S.2.2.2 = h ∧ ((∀ ls', lv_has ls' (m_lc i) (ml cst b S.2.1) → W p l e R s m args below meth c H locs cells slots Q (F0 m S.1 ls' (S.2.2.1.map (mv cst b)))) → W p l e R s m args below meth c H locs cells slots Q (F0 m pc ls (st.map (mv cst b))))
theorem x_push (hl : lv_has ls (m_lc i) (ml cst b lv)) {pc' : Nat} {v : Value} (row : W p l e R s m args below meth c H locs cells slots Q (F0 m pc' ls (mv cst b v :: st.map (mv cst b))) → W p l e R s m args below meth c H locs cells slots Q (F0 m pc ls (st.map (mv cst b)))) (hs : m_go pc' lv (v :: st) h = some (.inl S)) : PS p l e R s m args below meth c H locs cells slots Q i cst b h pc ls st S := by
  cases hs
  exact ⟨rfl, fun k => row (k ls hl)⟩
theorem x_ii (hl : lv_has ls (m_lc i) (ml cst b lv)) {f : Int32 → Int32 → Int32} (row : ∀ x y rest, W p l e R s m args below meth c H locs cells slots Q (F0 m (pc + 1) ls (.int (f x y) :: rest)) → W p l e R s m args below meth c H locs cells slots Q (F0 m pc ls (.int y :: .int x :: rest))) (hs : e_ii f pc lv st h = some (.inl S)) : PS p l e R s m args below meth c H locs cells slots Q i cst b h pc ls st S := by
  unfold e_ii at hs
  split at hs
  · cases hs
    exact ⟨rfl, fun k => row _ _ _ (k ls hl)⟩
  · cases hs
theorem x_ll (hl : lv_has ls (m_lc i) (ml cst b lv)) {f : Int64 → Int64 → Int64} (row : ∀ x y rest, W p l e R s m args below meth c H locs cells slots Q (F0 m (pc + 1) ls (.long (f x y) :: rest)) → W p l e R s m args below meth c H locs cells slots Q (F0 m pc ls (.long y :: .long x :: rest))) (hs : e_ll f pc lv st h = some (.inl S)) : PS p l e R s m args below meth c H locs cells slots Q i cst b h pc ls st S := by
  unfold e_ll at hs
  split at hs
  · cases hs
    exact ⟨rfl, fun k => row _ _ _ (k ls hl)⟩
  · cases hs
theorem x_li (hl : lv_has ls (m_lc i) (ml cst b lv)) {f : Int64 → Int32 → Int64} (row : ∀ x y rest, W p l e R s m args below meth c H locs cells slots Q (F0 m (pc + 1) ls (.long (f x y) :: rest)) → W p l e R s m args below meth c H locs cells slots Q (F0 m pc ls (.int y :: .long x :: rest))) (hs : e_li f pc lv st h = some (.inl S)) : PS p l e R s m args below meth c H locs cells slots Q i cst b h pc ls st S := by
  unfold e_li at hs
  split at hs
  · cases hs
    exact ⟨rfl, fun k => row _ _ _ (k ls hl)⟩
  · cases hs
theorem x_dv (hl : lv_has ls (m_lc i) (ml cst b lv)) {f : Int32 → Int32 → Int32} (row : ∀ x y rest, ¬ y = 0 → W p l e R s m args below meth c H locs cells slots Q (F0 m (pc + 1) ls (.int (f x y) :: rest)) → W p l e R s m args below meth c H locs cells slots Q (F0 m pc ls (.int y :: .int x :: rest))) (hs : e_dv f pc lv st h = some (.inl S)) : PS p l e R s m args below meth c H locs cells slots Q i cst b h pc ls st S := by
  unfold e_dv at hs
  split at hs
  · split at hs
    · cases hs
    · next hy =>
      cases hs
      exact ⟨rfl, fun k => row _ _ _ hy (k ls hl)⟩
  · cases hs
theorem x_i (hl : lv_has ls (m_lc i) (ml cst b lv)) {f : Int32 → Value} (row : ∀ x rest, W p l e R s m args below meth c H locs cells slots Q (F0 m (pc + 1) ls (mv cst b (f x) :: rest)) → W p l e R s m args below meth c H locs cells slots Q (F0 m pc ls (.int x :: rest))) (hs : e_i f pc lv st h = some (.inl S)) : PS p l e R s m args below meth c H locs cells slots Q i cst b h pc ls st S := by
  unfold e_i at hs
  split at hs
  · cases hs
    exact ⟨rfl, fun k => row _ _ (k ls hl)⟩
  · cases hs
theorem x_l (hl : lv_has ls (m_lc i) (ml cst b lv)) {f : Int64 → Value} (row : ∀ x rest, W p l e R s m args below meth c H locs cells slots Q (F0 m (pc + 1) ls (mv cst b (f x) :: rest)) → W p l e R s m args below meth c H locs cells slots Q (F0 m pc ls (.long x :: rest))) (hs : e_l f pc lv st h = some (.inl S)) : PS p l e R s m args below meth c H locs cells slots Q i cst b h pc ls st S := by
  unfold e_l at hs
  split at hs
  · cases hs
    exact ⟨rfl, fun k => row _ _ (k ls hl)⟩
  · cases hs
theorem x_ild (hl : lv_has ls (m_lc i) (ml cst b lv)) {k pc' : Nat} (row : ∀ x, ls[k]? = some (.val (.int x)) → W p l e R s m args below meth c H locs cells slots Q (F0 m pc' ls (.int x :: st.map (mv cst b))) → W p l e R s m args below meth c H locs cells slots Q (F0 m pc ls (st.map (mv cst b)))) (hs : e_ild k pc' lv st h = some (.inl S)) : PS p l e R s m args below meth c H locs cells slots Q i cst b h pc ls st S := by
  unfold e_ild at hs
  split at hs
  · next x hx =>
    cases hs
    exact ⟨rfl, fun k => row x (ml_get hl hx) (k ls hl)⟩
  · cases hs
theorem x_lld (hl : lv_has ls (m_lc i) (ml cst b lv)) {k pc' : Nat} (row : ∀ x, ls[k]? = some (.val (.long x)) → W p l e R s m args below meth c H locs cells slots Q (F0 m pc' ls (.long x :: st.map (mv cst b))) → W p l e R s m args below meth c H locs cells slots Q (F0 m pc ls (st.map (mv cst b)))) (hs : e_lld k pc' lv st h = some (.inl S)) : PS p l e R s m args below meth c H locs cells slots Q i cst b h pc ls st S := by
  unfold e_lld at hs
  split at hs
  · next x hx =>
    cases hs
    exact ⟨rfl, fun k => row x (ml_get hl hx) (k ls hl)⟩
  · cases hs
theorem x_ald (hc : m_cok cst) (hl : lv_has ls (m_lc i) (ml cst b lv)) {k pc' : Nat} (row : ∀ x : Nat, ls[k]? = some (.val (.ref x)) → W p l e R s m args below meth c H locs cells slots Q (F0 m pc' ls (.ref x :: st.map (mv cst b))) → W p l e R s m args below meth c H locs cells slots Q (F0 m pc ls (st.map (mv cst b)))) (rowN : ls[k]? = some (.val .null) → W p l e R s m args below meth c H locs cells slots Q (F0 m pc' ls (.null :: st.map (mv cst b))) → W p l e R s m args below meth c H locs cells slots Q (F0 m pc ls (st.map (mv cst b)))) (hs : e_ald k pc' lv st h = some (.inl S)) : PS p l e R s m args below meth c H locs cells slots Q i cst b h pc ls st S := by
  unfold e_ald at hs
  split at hs
  · next x hx =>
    cases hs
    refine ⟨rfl, fun k9 => ?_⟩
    have h1 := ml_get hl hx
    have h2 : W p l e R s m args below meth c H locs cells slots Q (F0 m pc' ls (mv cst b (.ref x) :: st.map (mv cst b))) := k9 ls hl
    rcases mv_ref (b := b) hc x with h3 | ⟨r, h3⟩
    · rw [h3] at h1 h2
      exact rowN h1 h2
    · rw [h3] at h1 h2
      exact row r h1 h2
  · cases hs
theorem x_ist (hc : m_cok cst) (hl : lv_has ls (m_lc i) (ml cst b lv)) {k pc' : Nat} (row : ∀ (x : Int32) (rest : List Value), k < m_lc i → (∀ ls', lv_has ls' (m_lc i) (ml cst b (m_s1 lv k (.int x))) → W p l e R s m args below meth c H locs cells slots Q (F0 m pc' ls' rest)) → W p l e R s m args below meth c H locs cells slots Q (F0 m pc ls (.int x :: rest))) (hs : e_ist (m_lc i) k pc' lv st h = some (.inl S)) : PS p l e R s m args below meth c H locs cells slots Q i cst b h pc ls st S := by
  unfold e_ist at hs
  split at hs
  · split at hs
    · next hk =>
      cases hs
      exact ⟨rfl, fun k9 => row _ _ hk k9⟩
    · cases hs
  · cases hs
theorem x_lst (hc : m_cok cst) (hl : lv_has ls (m_lc i) (ml cst b lv)) {k pc' : Nat} (row : ∀ (x : Int64) (rest : List Value), k + 1 < m_lc i → (∀ ls', lv_has ls' (m_lc i) (ml cst b (m_s2 lv k (.long x))) → W p l e R s m args below meth c H locs cells slots Q (F0 m pc' ls' rest)) → W p l e R s m args below meth c H locs cells slots Q (F0 m pc ls (.long x :: rest))) (hs : e_lst (m_lc i) k pc' lv st h = some (.inl S)) : PS p l e R s m args below meth c H locs cells slots Q i cst b h pc ls st S := by
  unfold e_lst at hs
  split at hs
  · split at hs
    · next hk =>
      cases hs
      exact ⟨rfl, fun k9 => row _ _ hk k9⟩
    · cases hs
  · cases hs
theorem x_ast (hc : m_cok cst) (hl : lv_has ls (m_lc i) (ml cst b lv)) {k pc' : Nat} (row : ∀ (x : Nat) (rest : List Value) (lv' : List (Nat × Value)), k < m_lc i → (k, Value.ref x) :: (ml cst b lv).filter (fun q => !(q.1 == k) && !(q.1 + 1 == k && q.2.category == 2)) = lv' → (∀ ls', lv_has ls' (m_lc i) lv' → W p l e R s m args below meth c H locs cells slots Q (F0 m pc' ls' rest)) → W p l e R s m args below meth c H locs cells slots Q (F0 m pc ls (.ref x :: rest))) (rowN : ∀ (rest : List Value) (lv' : List (Nat × Value)), k < m_lc i → (k, Value.null) :: (ml cst b lv).filter (fun q => !(q.1 == k) && !(q.1 + 1 == k && q.2.category == 2)) = lv' → (∀ ls', lv_has ls' (m_lc i) lv' → W p l e R s m args below meth c H locs cells slots Q (F0 m pc' ls' rest)) → W p l e R s m args below meth c H locs cells slots Q (F0 m pc ls (.null :: rest))) (hs : e_ast (m_lc i) k pc' lv st h = some (.inl S)) : PS p l e R s m args below meth c H locs cells slots Q i cst b h pc ls st S := by
  unfold e_ast at hs
  split at hs
  · next x r =>
    split at hs
    · next hk =>
      cases hs
      refine ⟨rfl, fun k9 => ?_⟩
      have h1 := ml_s1 (b := b) hc lv k (.ref x)
      show W p l e R s m args below meth c H locs cells slots Q (F0 m pc ls (mv cst b (.ref x) :: r.map (mv cst b)))
      rcases mv_ref (b := b) hc x with h3 | ⟨y, h3⟩
      · rw [h3] at h1 ⊢
        exact rowN _ _ hk h1 k9
      · rw [h3] at h1 ⊢
        exact row y _ _ hk h1 k9
    · cases hs
  · cases hs
theorem x_inc (hc : m_cok cst) (hl : lv_has ls (m_lc i) (ml cst b lv)) {k : Nat} {z : Int} (row : ∀ (x : Int32) (j : Nat), (ml cst b lv)[j]? = some (k, .int x) → k < m_lc i → (∀ ls', lv_has ls' (m_lc i) (ml cst b (m_s1 lv k (.int (x + Int32.ofInt z)))) → W p l e R s m args below meth c H locs cells slots Q (F0 m (pc + 3) ls' (st.map (mv cst b)))) → W p l e R s m args below meth c H locs cells slots Q (F0 m pc ls (st.map (mv cst b)))) (hs : e_inc (m_lc i) k z pc lv st h = some (.inl S)) : PS p l e R s m args below meth c H locs cells slots Q i cst b h pc ls st S := by
  unfold e_inc at hs
  split at hs
  · next x hx =>
    split at hs
    · next hk =>
      cases hs
      have h1 : (k, mv cst b (.int x)) ∈ ml cst b lv := List.mem_map.mpr ⟨_, m_lk_mem hx, rfl⟩
      obtain ⟨j, hj⟩ := List.getElem?_of_mem h1
      exact ⟨rfl, fun k9 => row x j hj hk k9⟩
    · cases hs
  · cases hs
theorem x_tg {off : Int} {r : List Value} (hl : lv_has ls (m_lc i) (ml cst b lv)) (row : ∀ tgt : Nat, (pc : Int) + off = (tgt : Int) → W p l e R s m args below meth c H locs cells slots Q (F0 m tgt ls (r.map (mv cst b))) → W p l e R s m args below meth c H locs cells slots Q (F0 m pc ls (st.map (mv cst b)))) (hs : m_tg pc off lv r h = some (.inl S)) : PS p l e R s m args below meth c H locs cells slots Q i cst b h pc ls st S := by
  unfold m_tg at hs
  split at hs
  · next h0 =>
    cases hs
    exact ⟨rfl, fun k => row _ (Int.toNat_of_nonneg h0).symm (k ls hl)⟩
  · cases hs
theorem x_br {off : Int} {r : List Value} {A B : Prop} {t : Bool} (hl : lv_has ls (m_lc i) (ml cst b lv)) (ht : t = true → A) (hf : t = false → B) (row : ∀ tgt : Nat, (pc : Int) + off = (tgt : Int) → A → W p l e R s m args below meth c H locs cells slots Q (F0 m tgt ls (r.map (mv cst b))) → W p l e R s m args below meth c H locs cells slots Q (F0 m pc ls (st.map (mv cst b)))) (rowF : ∀ tgt : Nat, (pc : Int) + off = (tgt : Int) → B → W p l e R s m args below meth c H locs cells slots Q (F0 m (pc + 3) ls (r.map (mv cst b))) → W p l e R s m args below meth c H locs cells slots Q (F0 m pc ls (st.map (mv cst b)))) (hs : m_br t pc off lv r h = some (.inl S)) : PS p l e R s m args below meth c H locs cells slots Q i cst b h pc ls st S := by
  unfold m_br at hs
  split at hs
  · next h0 =>
    split at hs
    · cases hs
      exact ⟨rfl, fun k => row _ (Int.toNat_of_nonneg h0).symm (ht rfl) (k ls hl)⟩
    · cases hs
      exact ⟨rfl, fun k => rowF _ (Int.toNat_of_nonneg h0).symm (hf rfl) (k ls hl)⟩
  · cases hs
theorem y_iconst (C : SC p s m args meth c R i D tA cst b) (hl : lv_has ls (m_lc i) (ml cst b lv)) {len : Nat} {n : Int} (hd : decode (m_m i).2.2.1 pc = .ok (.iconst n, len)) (hn : len = 1) (hs : m_ex i pc (.iconst n) lv st h = some (.inl S)) : PS p l e R s m args below meth c H locs cells slots Q i cst b h pc ls st S := by
  obtain ⟨hx, hb, hml, hown, hts, hlocks, hini, hfr, hlo9, hks, hc, hr⟩ := C
  subst hn
  exact x_push hl (fun k => lv_iconst hx hb hd rfl k) hs
theorem y_bipush (C : SC p s m args meth c R i D tA cst b) (hl : lv_has ls (m_lc i) (ml cst b lv)) {len : Nat} {n : Int} (hd : decode (m_m i).2.2.1 pc = .ok (.bipush n, len)) (hn : len = 2) (hs : m_ex i pc (.bipush n) lv st h = some (.inl S)) : PS p l e R s m args below meth c H locs cells slots Q i cst b h pc ls st S := by
  obtain ⟨hx, hb, hml, hown, hts, hlocks, hini, hfr, hlo9, hks, hc, hr⟩ := C
  subst hn
  exact x_push hl (fun k => lv_bipush hx hb hd rfl k) hs
theorem y_sipush (C : SC p s m args meth c R i D tA cst b) (hl : lv_has ls (m_lc i) (ml cst b lv)) {len : Nat} {n : Int} (hd : decode (m_m i).2.2.1 pc = .ok (.sipush n, len)) (hn : len = 3) (hs : m_ex i pc (.sipush n) lv st h = some (.inl S)) : PS p l e R s m args below meth c H locs cells slots Q i cst b h pc ls st S := by
  obtain ⟨hx, hb, hml, hown, hts, hlocks, hini, hfr, hlo9, hks, hc, hr⟩ := C
  subst hn
  exact x_push hl (fun k => lv_sipush hx hb hd rfl k) hs
theorem y_lconst (C : SC p s m args meth c R i D tA cst b) (hl : lv_has ls (m_lc i) (ml cst b lv)) {len : Nat} {n : Fin 2} (hd : decode (m_m i).2.2.1 pc = .ok (.lconst n, len)) (hn : len = 1) (hs : m_ex i pc (.lconst n) lv st h = some (.inl S)) : PS p l e R s m args below meth c H locs cells slots Q i cst b h pc ls st S := by
  obtain ⟨hx, hb, hml, hown, hts, hlocks, hini, hfr, hlo9, hks, hc, hr⟩ := C
  subst hn
  exact x_push hl (fun k => lv_lconst hx hb hd rfl k) hs
theorem y_aconst (C : SC p s m args meth c R i D tA cst b) (hl : lv_has ls (m_lc i) (ml cst b lv)) {len : Nat}  (hd : decode (m_m i).2.2.1 pc = .ok (.aconst_null, len)) (hn : len = 1) (hs : m_ex i pc (.aconst_null) lv st h = some (.inl S)) : PS p l e R s m args below meth c H locs cells slots Q i cst b h pc ls st S := by
  obtain ⟨hx, hb, hml, hown, hts, hlocks, hini, hfr, hlo9, hks, hc, hr⟩ := C
  subst hn
  exact x_push hl (fun k => lv_null hx hb hd k) hs
theorem y_iadd (C : SC p s m args meth c R i D tA cst b) (hl : lv_has ls (m_lc i) (ml cst b lv)) {len : Nat}  (hd : decode (m_m i).2.2.1 pc = .ok (.iadd, len)) (hn : len = 1) (hs : m_ex i pc (.iadd) lv st h = some (.inl S)) : PS p l e R s m args below meth c H locs cells slots Q i cst b h pc ls st S := by
  obtain ⟨hx, hb, hml, hown, hts, hlocks, hini, hfr, hlo9, hks, hc, hr⟩ := C
  subst hn
  exact x_ii hl (fun x y r k => lv_iadd hx hb hd k) hs
theorem y_isub (C : SC p s m args meth c R i D tA cst b) (hl : lv_has ls (m_lc i) (ml cst b lv)) {len : Nat}  (hd : decode (m_m i).2.2.1 pc = .ok (.isub, len)) (hn : len = 1) (hs : m_ex i pc (.isub) lv st h = some (.inl S)) : PS p l e R s m args below meth c H locs cells slots Q i cst b h pc ls st S := by
  obtain ⟨hx, hb, hml, hown, hts, hlocks, hini, hfr, hlo9, hks, hc, hr⟩ := C
  subst hn
  exact x_ii hl (fun x y r k => lv_isub hx hb hd k) hs
theorem y_imul (C : SC p s m args meth c R i D tA cst b) (hl : lv_has ls (m_lc i) (ml cst b lv)) {len : Nat}  (hd : decode (m_m i).2.2.1 pc = .ok (.imul, len)) (hn : len = 1) (hs : m_ex i pc (.imul) lv st h = some (.inl S)) : PS p l e R s m args below meth c H locs cells slots Q i cst b h pc ls st S := by
  obtain ⟨hx, hb, hml, hown, hts, hlocks, hini, hfr, hlo9, hks, hc, hr⟩ := C
  subst hn
  exact x_ii hl (fun x y r k => lv_imul hx hb hd k) hs
theorem y_iand (C : SC p s m args meth c R i D tA cst b) (hl : lv_has ls (m_lc i) (ml cst b lv)) {len : Nat}  (hd : decode (m_m i).2.2.1 pc = .ok (.iand, len)) (hn : len = 1) (hs : m_ex i pc (.iand) lv st h = some (.inl S)) : PS p l e R s m args below meth c H locs cells slots Q i cst b h pc ls st S := by
  obtain ⟨hx, hb, hml, hown, hts, hlocks, hini, hfr, hlo9, hks, hc, hr⟩ := C
  subst hn
  exact x_ii hl (fun x y r k => lv_iand hx hb hd k) hs
theorem y_ior (C : SC p s m args meth c R i D tA cst b) (hl : lv_has ls (m_lc i) (ml cst b lv)) {len : Nat}  (hd : decode (m_m i).2.2.1 pc = .ok (.ior, len)) (hn : len = 1) (hs : m_ex i pc (.ior) lv st h = some (.inl S)) : PS p l e R s m args below meth c H locs cells slots Q i cst b h pc ls st S := by
  obtain ⟨hx, hb, hml, hown, hts, hlocks, hini, hfr, hlo9, hks, hc, hr⟩ := C
  subst hn
  exact x_ii hl (fun x y r k => lv_ior hx hb hd k) hs
theorem y_ixor (C : SC p s m args meth c R i D tA cst b) (hl : lv_has ls (m_lc i) (ml cst b lv)) {len : Nat}  (hd : decode (m_m i).2.2.1 pc = .ok (.ixor, len)) (hn : len = 1) (hs : m_ex i pc (.ixor) lv st h = some (.inl S)) : PS p l e R s m args below meth c H locs cells slots Q i cst b h pc ls st S := by
  obtain ⟨hx, hb, hml, hown, hts, hlocks, hini, hfr, hlo9, hks, hc, hr⟩ := C
  subst hn
  exact x_ii hl (fun x y r k => lv_ixor hx hb hd k) hs
theorem y_ishl (C : SC p s m args meth c R i D tA cst b) (hl : lv_has ls (m_lc i) (ml cst b lv)) {len : Nat}  (hd : decode (m_m i).2.2.1 pc = .ok (.ishl, len)) (hn : len = 1) (hs : m_ex i pc (.ishl) lv st h = some (.inl S)) : PS p l e R s m args below meth c H locs cells slots Q i cst b h pc ls st S := by
  obtain ⟨hx, hb, hml, hown, hts, hlocks, hini, hfr, hlo9, hks, hc, hr⟩ := C
  subst hn
  exact x_ii hl (fun x y r k => lv_ishl hx hb hd k) hs
theorem y_ishr (C : SC p s m args meth c R i D tA cst b) (hl : lv_has ls (m_lc i) (ml cst b lv)) {len : Nat}  (hd : decode (m_m i).2.2.1 pc = .ok (.ishr, len)) (hn : len = 1) (hs : m_ex i pc (.ishr) lv st h = some (.inl S)) : PS p l e R s m args below meth c H locs cells slots Q i cst b h pc ls st S := by
  obtain ⟨hx, hb, hml, hown, hts, hlocks, hini, hfr, hlo9, hks, hc, hr⟩ := C
  subst hn
  exact x_ii hl (fun x y r k => lv_ishr hx hb hd k) hs
theorem y_iushr (C : SC p s m args meth c R i D tA cst b) (hl : lv_has ls (m_lc i) (ml cst b lv)) {len : Nat}  (hd : decode (m_m i).2.2.1 pc = .ok (.iushr, len)) (hn : len = 1) (hs : m_ex i pc (.iushr) lv st h = some (.inl S)) : PS p l e R s m args below meth c H locs cells slots Q i cst b h pc ls st S := by
  obtain ⟨hx, hb, hml, hown, hts, hlocks, hini, hfr, hlo9, hks, hc, hr⟩ := C
  subst hn
  exact x_ii hl (fun x y r k => lv_iushr hx hb hd rfl k) hs
theorem y_ladd (C : SC p s m args meth c R i D tA cst b) (hl : lv_has ls (m_lc i) (ml cst b lv)) {len : Nat}  (hd : decode (m_m i).2.2.1 pc = .ok (.ladd, len)) (hn : len = 1) (hs : m_ex i pc (.ladd) lv st h = some (.inl S)) : PS p l e R s m args below meth c H locs cells slots Q i cst b h pc ls st S := by
  obtain ⟨hx, hb, hml, hown, hts, hlocks, hini, hfr, hlo9, hks, hc, hr⟩ := C
  subst hn
  exact x_ll hl (fun x y r k => lv_ladd hx hb hd k) hs
theorem y_lsub (C : SC p s m args meth c R i D tA cst b) (hl : lv_has ls (m_lc i) (ml cst b lv)) {len : Nat}  (hd : decode (m_m i).2.2.1 pc = .ok (.lsub, len)) (hn : len = 1) (hs : m_ex i pc (.lsub) lv st h = some (.inl S)) : PS p l e R s m args below meth c H locs cells slots Q i cst b h pc ls st S := by
  obtain ⟨hx, hb, hml, hown, hts, hlocks, hini, hfr, hlo9, hks, hc, hr⟩ := C
  subst hn
  exact x_ll hl (fun x y r k => lv_lsub hx hb hd k) hs
theorem y_land (C : SC p s m args meth c R i D tA cst b) (hl : lv_has ls (m_lc i) (ml cst b lv)) {len : Nat}  (hd : decode (m_m i).2.2.1 pc = .ok (.land, len)) (hn : len = 1) (hs : m_ex i pc (.land) lv st h = some (.inl S)) : PS p l e R s m args below meth c H locs cells slots Q i cst b h pc ls st S := by
  obtain ⟨hx, hb, hml, hown, hts, hlocks, hini, hfr, hlo9, hks, hc, hr⟩ := C
  subst hn
  exact x_ll hl (fun x y r k => lv_land hx hb hd k) hs
theorem y_lor (C : SC p s m args meth c R i D tA cst b) (hl : lv_has ls (m_lc i) (ml cst b lv)) {len : Nat}  (hd : decode (m_m i).2.2.1 pc = .ok (.lor, len)) (hn : len = 1) (hs : m_ex i pc (.lor) lv st h = some (.inl S)) : PS p l e R s m args below meth c H locs cells slots Q i cst b h pc ls st S := by
  obtain ⟨hx, hb, hml, hown, hts, hlocks, hini, hfr, hlo9, hks, hc, hr⟩ := C
  subst hn
  exact x_ll hl (fun x y r k => lv_lor hx hb hd k) hs
theorem y_lxor (C : SC p s m args meth c R i D tA cst b) (hl : lv_has ls (m_lc i) (ml cst b lv)) {len : Nat}  (hd : decode (m_m i).2.2.1 pc = .ok (.lxor, len)) (hn : len = 1) (hs : m_ex i pc (.lxor) lv st h = some (.inl S)) : PS p l e R s m args below meth c H locs cells slots Q i cst b h pc ls st S := by
  obtain ⟨hx, hb, hml, hown, hts, hlocks, hini, hfr, hlo9, hks, hc, hr⟩ := C
  subst hn
  exact x_ll hl (fun x y r k => lv_lxor hx hb hd k) hs
theorem y_lshl (C : SC p s m args meth c R i D tA cst b) (hl : lv_has ls (m_lc i) (ml cst b lv)) {len : Nat}  (hd : decode (m_m i).2.2.1 pc = .ok (.lshl, len)) (hn : len = 1) (hs : m_ex i pc (.lshl) lv st h = some (.inl S)) : PS p l e R s m args below meth c H locs cells slots Q i cst b h pc ls st S := by
  obtain ⟨hx, hb, hml, hown, hts, hlocks, hini, hfr, hlo9, hks, hc, hr⟩ := C
  subst hn
  exact x_li hl (fun x y r k => lv_lshl hx hb hd rfl k) hs
theorem y_lshr (C : SC p s m args meth c R i D tA cst b) (hl : lv_has ls (m_lc i) (ml cst b lv)) {len : Nat}  (hd : decode (m_m i).2.2.1 pc = .ok (.lshr, len)) (hn : len = 1) (hs : m_ex i pc (.lshr) lv st h = some (.inl S)) : PS p l e R s m args below meth c H locs cells slots Q i cst b h pc ls st S := by
  obtain ⟨hx, hb, hml, hown, hts, hlocks, hini, hfr, hlo9, hks, hc, hr⟩ := C
  subst hn
  exact x_li hl (fun x y r k => lv_lshr hx hb hd rfl k) hs
theorem y_lushr (C : SC p s m args meth c R i D tA cst b) (hl : lv_has ls (m_lc i) (ml cst b lv)) {len : Nat}  (hd : decode (m_m i).2.2.1 pc = .ok (.lushr, len)) (hn : len = 1) (hs : m_ex i pc (.lushr) lv st h = some (.inl S)) : PS p l e R s m args below meth c H locs cells slots Q i cst b h pc ls st S := by
  obtain ⟨hx, hb, hml, hown, hts, hlocks, hini, hfr, hlo9, hks, hc, hr⟩ := C
  subst hn
  exact x_li hl (fun x y r k => lv_lushr hx hb hd rfl k) hs
theorem y_idiv (C : SC p s m args meth c R i D tA cst b) (hl : lv_has ls (m_lc i) (ml cst b lv)) {len : Nat}  (hd : decode (m_m i).2.2.1 pc = .ok (.idiv, len)) (hn : len = 1) (hs : m_ex i pc (.idiv) lv st h = some (.inl S)) : PS p l e R s m args below meth c H locs cells slots Q i cst b h pc ls st S := by
  obtain ⟨hx, hb, hml, hown, hts, hlocks, hini, hfr, hlo9, hks, hc, hr⟩ := C
  subst hn
  exact x_dv hl (fun x y r hy k => lv_idiv hx hb hd hy k) hs
theorem y_irem (C : SC p s m args meth c R i D tA cst b) (hl : lv_has ls (m_lc i) (ml cst b lv)) {len : Nat}  (hd : decode (m_m i).2.2.1 pc = .ok (.irem, len)) (hn : len = 1) (hs : m_ex i pc (.irem) lv st h = some (.inl S)) : PS p l e R s m args below meth c H locs cells slots Q i cst b h pc ls st S := by
  obtain ⟨hx, hb, hml, hown, hts, hlocks, hini, hfr, hlo9, hks, hc, hr⟩ := C
  subst hn
  exact x_dv hl (fun x y r hy k => lv_irem hx hb hd hy k) hs
theorem y_ineg (C : SC p s m args meth c R i D tA cst b) (hl : lv_has ls (m_lc i) (ml cst b lv)) {len : Nat}  (hd : decode (m_m i).2.2.1 pc = .ok (.ineg, len)) (hn : len = 1) (hs : m_ex i pc (.ineg) lv st h = some (.inl S)) : PS p l e R s m args below meth c H locs cells slots Q i cst b h pc ls st S := by
  obtain ⟨hx, hb, hml, hown, hts, hlocks, hini, hfr, hlo9, hks, hc, hr⟩ := C
  subst hn
  exact x_i hl (f := fun x => .int (-x)) (fun x r k => lv_ineg hx hb hd k) hs
theorem y_lneg (C : SC p s m args meth c R i D tA cst b) (hl : lv_has ls (m_lc i) (ml cst b lv)) {len : Nat}  (hd : decode (m_m i).2.2.1 pc = .ok (.lneg, len)) (hn : len = 1) (hs : m_ex i pc (.lneg) lv st h = some (.inl S)) : PS p l e R s m args below meth c H locs cells slots Q i cst b h pc ls st S := by
  obtain ⟨hx, hb, hml, hown, hts, hlocks, hini, hfr, hlo9, hks, hc, hr⟩ := C
  subst hn
  exact x_l hl (f := fun x => .long (-x)) (fun x r k => lv_lneg hx hb hd k) hs
theorem y_i2l (C : SC p s m args meth c R i D tA cst b) (hl : lv_has ls (m_lc i) (ml cst b lv)) {len : Nat}  (hd : decode (m_m i).2.2.1 pc = .ok (.i2l, len)) (hn : len = 1) (hs : m_ex i pc (.i2l) lv st h = some (.inl S)) : PS p l e R s m args below meth c H locs cells slots Q i cst b h pc ls st S := by
  obtain ⟨hx, hb, hml, hown, hts, hlocks, hini, hfr, hlo9, hks, hc, hr⟩ := C
  subst hn
  exact x_i hl (f := fun x => .long x.toInt64) (fun x r k => lv_i2l hx hb hd rfl k) hs
theorem y_i2b (C : SC p s m args meth c R i D tA cst b) (hl : lv_has ls (m_lc i) (ml cst b lv)) {len : Nat}  (hd : decode (m_m i).2.2.1 pc = .ok (.i2b, len)) (hn : len = 1) (hs : m_ex i pc (.i2b) lv st h = some (.inl S)) : PS p l e R s m args below meth c H locs cells slots Q i cst b h pc ls st S := by
  obtain ⟨hx, hb, hml, hown, hts, hlocks, hini, hfr, hlo9, hks, hc, hr⟩ := C
  subst hn
  exact x_i hl (f := fun x => .int x.toInt8.toInt32) (fun x r k => lv_i2b hx hb hd rfl k) hs
theorem y_i2c (C : SC p s m args meth c R i D tA cst b) (hl : lv_has ls (m_lc i) (ml cst b lv)) {len : Nat}  (hd : decode (m_m i).2.2.1 pc = .ok (.i2c, len)) (hn : len = 1) (hs : m_ex i pc (.i2c) lv st h = some (.inl S)) : PS p l e R s m args below meth c H locs cells slots Q i cst b h pc ls st S := by
  obtain ⟨hx, hb, hml, hown, hts, hlocks, hini, hfr, hlo9, hks, hc, hr⟩ := C
  subst hn
  exact x_i hl (f := fun x => .int (x.toUInt32 % 65536).toInt32) (fun x r k => lv_i2c hx hb hd rfl k) hs
theorem y_l2i (C : SC p s m args meth c R i D tA cst b) (hl : lv_has ls (m_lc i) (ml cst b lv)) {len : Nat}  (hd : decode (m_m i).2.2.1 pc = .ok (.l2i, len)) (hn : len = 1) (hs : m_ex i pc (.l2i) lv st h = some (.inl S)) : PS p l e R s m args below meth c H locs cells slots Q i cst b h pc ls st S := by
  obtain ⟨hx, hb, hml, hown, hts, hlocks, hini, hfr, hlo9, hks, hc, hr⟩ := C
  subst hn
  exact x_l hl (f := fun x => .int x.toInt32) (fun x r k => lv_l2i hx hb hd rfl k) hs
theorem y_lcmp (C : SC p s m args meth c R i D tA cst b) (hl : lv_has ls (m_lc i) (ml cst b lv)) {len : Nat}  (hd : decode (m_m i).2.2.1 pc = .ok (.lcmp, len)) (hn : len = 1) (hs : m_ex i pc (.lcmp) lv st h = some (.inl S)) : PS p l e R s m args below meth c H locs cells slots Q i cst b h pc ls st S := by
  obtain ⟨hx, hb, hml, hown, hts, hlocks, hini, hfr, hlo9, hks, hc, hr⟩ := C
  subst hn
  simp only [m_ex] at hs
  split at hs
  · cases hs
    exact ⟨rfl, fun k => W.lcmp hx hb hd (k ls hl)⟩
  · cases hs
theorem y_iload_n (C : SC p s m args meth c R i D tA cst b) (hl : lv_has ls (m_lc i) (ml cst b lv)) {len : Nat} {k : Fin 4} (hd : decode (m_m i).2.2.1 pc = .ok (.iload_n k, len)) (hn : len = 1) (hs : m_ex i pc (.iload_n k) lv st h = some (.inl S)) : PS p l e R s m args below meth c H locs cells slots Q i cst b h pc ls st S := by
  obtain ⟨hx, hb, hml, hown, hts, hlocks, hini, hfr, hlo9, hks, hc, hr⟩ := C
  subst hn
  exact x_ild hl (fun x hx9 k9 => lv_iload_n hx hb hd rfl hx9 k9) hs
theorem y_iload (C : SC p s m args meth c R i D tA cst b) (hl : lv_has ls (m_lc i) (ml cst b lv)) {len : Nat} {k : Nat} (hd : decode (m_m i).2.2.1 pc = .ok (.iload k, len)) (hn : len = 2) (hs : m_ex i pc (.iload k) lv st h = some (.inl S)) : PS p l e R s m args below meth c H locs cells slots Q i cst b h pc ls st S := by
  obtain ⟨hx, hb, hml, hown, hts, hlocks, hini, hfr, hlo9, hks, hc, hr⟩ := C
  subst hn
  exact x_ild hl (fun x hx9 k9 => lv_iload hx hb hd hx9 k9) hs
theorem y_lload_n (C : SC p s m args meth c R i D tA cst b) (hl : lv_has ls (m_lc i) (ml cst b lv)) {len : Nat} {k : Fin 4} (hd : decode (m_m i).2.2.1 pc = .ok (.lload_n k, len)) (hn : len = 1) (hs : m_ex i pc (.lload_n k) lv st h = some (.inl S)) : PS p l e R s m args below meth c H locs cells slots Q i cst b h pc ls st S := by
  obtain ⟨hx, hb, hml, hown, hts, hlocks, hini, hfr, hlo9, hks, hc, hr⟩ := C
  subst hn
  exact x_lld hl (fun x hx9 k9 => lv_lload_n hx hb hd rfl hx9 k9) hs
theorem y_lload (C : SC p s m args meth c R i D tA cst b) (hl : lv_has ls (m_lc i) (ml cst b lv)) {len : Nat} {k : Nat} (hd : decode (m_m i).2.2.1 pc = .ok (.lload k, len)) (hn : len = 2) (hs : m_ex i pc (.lload k) lv st h = some (.inl S)) : PS p l e R s m args below meth c H locs cells slots Q i cst b h pc ls st S := by
  obtain ⟨hx, hb, hml, hown, hts, hlocks, hini, hfr, hlo9, hks, hc, hr⟩ := C
  subst hn
  exact x_lld hl (fun x hx9 k9 => lv_lload hx hb hd hx9 k9) hs
theorem y_aload_n (C : SC p s m args meth c R i D tA cst b) (hl : lv_has ls (m_lc i) (ml cst b lv)) {len : Nat} {k : Fin 4} (hd : decode (m_m i).2.2.1 pc = .ok (.aload_n k, len)) (hn : len = 1) (hs : m_ex i pc (.aload_n k) lv st h = some (.inl S)) : PS p l e R s m args below meth c H locs cells slots Q i cst b h pc ls st S := by
  obtain ⟨hx, hb, hml, hown, hts, hlocks, hini, hfr, hlo9, hks, hc, hr⟩ := C
  subst hn
  exact x_ald hc hl (fun x hx9 k9 => lv_aload_n hx hb hd rfl hx9 k9) (fun hx9 k9 => lv_aload_nN hx hb hd rfl hx9 k9) hs
theorem y_aload (C : SC p s m args meth c R i D tA cst b) (hl : lv_has ls (m_lc i) (ml cst b lv)) {len : Nat} {k : Nat} (hd : decode (m_m i).2.2.1 pc = .ok (.aload k, len)) (hn : len = 2) (hs : m_ex i pc (.aload k) lv st h = some (.inl S)) : PS p l e R s m args below meth c H locs cells slots Q i cst b h pc ls st S := by
  obtain ⟨hx, hb, hml, hown, hts, hlocks, hini, hfr, hlo9, hks, hc, hr⟩ := C
  subst hn
  exact x_ald hc hl (fun x hx9 k9 => lv_aload hx hb hd hx9 k9) (fun hx9 k9 => lv_aloadN hx hb hd hx9 k9) hs
theorem y_istore_n (C : SC p s m args meth c R i D tA cst b) (hl : lv_has ls (m_lc i) (ml cst b lv)) {len : Nat} {k : Fin 4} (hd : decode (m_m i).2.2.1 pc = .ok (.istore_n k, len)) (hn : len = 1) (hs : m_ex i pc (.istore_n k) lv st h = some (.inl S)) : PS p l e R s m args below meth c H locs cells slots Q i cst b h pc ls st S := by
  obtain ⟨hx, hb, hml, hown, hts, hlocks, hini, hfr, hlo9, hks, hc, hr⟩ := C
  subst hn
  exact x_ist hc hl (fun x r hk k9 => lv_istore_n hx hb hd rfl hl hk (ml_s1 hc lv _ (.int x)) (fun ls9 h9 => k9 ls9 h9)) hs
theorem y_istore (C : SC p s m args meth c R i D tA cst b) (hl : lv_has ls (m_lc i) (ml cst b lv)) {len : Nat} {k : Nat} (hd : decode (m_m i).2.2.1 pc = .ok (.istore k, len)) (hn : len = 2) (hs : m_ex i pc (.istore k) lv st h = some (.inl S)) : PS p l e R s m args below meth c H locs cells slots Q i cst b h pc ls st S := by
  obtain ⟨hx, hb, hml, hown, hts, hlocks, hini, hfr, hlo9, hks, hc, hr⟩ := C
  subst hn
  exact x_ist hc hl (fun x r hk k9 => lv_istore hx hb hd hl hk (ml_s1 hc lv _ (.int x)) (fun ls9 h9 => k9 ls9 h9)) hs
theorem y_lstore_n (C : SC p s m args meth c R i D tA cst b) (hl : lv_has ls (m_lc i) (ml cst b lv)) {len : Nat} {k : Fin 4} (hd : decode (m_m i).2.2.1 pc = .ok (.lstore_n k, len)) (hn : len = 1) (hs : m_ex i pc (.lstore_n k) lv st h = some (.inl S)) : PS p l e R s m args below meth c H locs cells slots Q i cst b h pc ls st S := by
  obtain ⟨hx, hb, hml, hown, hts, hlocks, hini, hfr, hlo9, hks, hc, hr⟩ := C
  subst hn
  exact x_lst hc hl (fun x r hk k9 => lv_lstore_n hx hb hd rfl hl hk (ml_s2 hc lv _ (.long x)) (fun ls9 h9 => k9 ls9 h9)) hs
theorem y_lstore (C : SC p s m args meth c R i D tA cst b) (hl : lv_has ls (m_lc i) (ml cst b lv)) {len : Nat} {k : Nat} (hd : decode (m_m i).2.2.1 pc = .ok (.lstore k, len)) (hn : len = 2) (hs : m_ex i pc (.lstore k) lv st h = some (.inl S)) : PS p l e R s m args below meth c H locs cells slots Q i cst b h pc ls st S := by
  obtain ⟨hx, hb, hml, hown, hts, hlocks, hini, hfr, hlo9, hks, hc, hr⟩ := C
  subst hn
  exact x_lst hc hl (fun x r hk k9 => lv_lstore hx hb hd hl hk (ml_s2 hc lv _ (.long x)) (fun ls9 h9 => k9 ls9 h9)) hs
theorem y_astore_n (C : SC p s m args meth c R i D tA cst b) (hl : lv_has ls (m_lc i) (ml cst b lv)) {len : Nat} {k : Fin 4} (hd : decode (m_m i).2.2.1 pc = .ok (.astore_n k, len)) (hn : len = 1) (hs : m_ex i pc (.astore_n k) lv st h = some (.inl S)) : PS p l e R s m args below meth c H locs cells slots Q i cst b h pc ls st S := by
  obtain ⟨hx, hb, hml, hown, hts, hlocks, hini, hfr, hlo9, hks, hc, hr⟩ := C
  subst hn
  exact x_ast hc hl (fun x r lv9 hk h8 k9 => lv_astore_n hx hb hd rfl hl hk h8 (fun ls9 h9 => k9 ls9 h9)) (fun r lv9 hk h8 k9 => lv_astore_nN hx hb hd rfl hl hk h8 (fun ls9 h9 => k9 ls9 h9)) hs
theorem y_astore (C : SC p s m args meth c R i D tA cst b) (hl : lv_has ls (m_lc i) (ml cst b lv)) {len : Nat} {k : Nat} (hd : decode (m_m i).2.2.1 pc = .ok (.astore k, len)) (hn : len = 2) (hs : m_ex i pc (.astore k) lv st h = some (.inl S)) : PS p l e R s m args below meth c H locs cells slots Q i cst b h pc ls st S := by
  obtain ⟨hx, hb, hml, hown, hts, hlocks, hini, hfr, hlo9, hks, hc, hr⟩ := C
  subst hn
  exact x_ast hc hl (fun x r lv9 hk h8 k9 => lv_astore hx hb hd hl hk h8 (fun ls9 h9 => k9 ls9 h9)) (fun r lv9 hk h8 k9 => lv_astoreN hx hb hd hl hk h8 (fun ls9 h9 => k9 ls9 h9)) hs
theorem y_iinc (C : SC p s m args meth c R i D tA cst b) (hl : lv_has ls (m_lc i) (ml cst b lv)) {len : Nat} {k : Nat} {z : Int} (hd : decode (m_m i).2.2.1 pc = .ok (.iinc k z, len)) (hn : len = 3) (hs : m_ex i pc (.iinc k z) lv st h = some (.inl S)) : PS p l e R s m args below meth c H locs cells slots Q i cst b h pc ls st S := by
  obtain ⟨hx, hb, hml, hown, hts, hlocks, hini, hfr, hlo9, hks, hc, hr⟩ := C
  subst hn
  exact x_inc hc hl (fun x j hj hk k9 => lv_iinc hx hb hd hl hj rfl hk (ml_s1 hc lv _ (.int (x + Int32.ofInt z))) (fun ls9 h9 => k9 ls9 h9)) hs
theorem y_dup (C : SC p s m args meth c R i D tA cst b) (hl : lv_has ls (m_lc i) (ml cst b lv)) {len : Nat}  (hd : decode (m_m i).2.2.1 pc = .ok (.dup, len)) (hn : len = 1) (hs : m_ex i pc (.dup) lv st h = some (.inl S)) : PS p l e R s m args below meth c H locs cells slots Q i cst b h pc ls st S := by
  obtain ⟨hx, hb, hml, hown, hts, hlocks, hini, hfr, hlo9, hks, hc, hr⟩ := C
  subst hn
  simp only [m_ex] at hs
  split at hs
  · next v r =>
    split at hs
    · next hv =>
      cases hs
      exact ⟨rfl, fun k => lv_dup hx hb hd ((mv_cat hc v).trans hv) (k ls hl)⟩
    · cases hs
  · cases hs
theorem y_pop (C : SC p s m args meth c R i D tA cst b) (hl : lv_has ls (m_lc i) (ml cst b lv)) {len : Nat}  (hd : decode (m_m i).2.2.1 pc = .ok (.pop, len)) (hn : len = 1) (hs : m_ex i pc (.pop) lv st h = some (.inl S)) : PS p l e R s m args below meth c H locs cells slots Q i cst b h pc ls st S := by
  obtain ⟨hx, hb, hml, hown, hts, hlocks, hini, hfr, hlo9, hks, hc, hr⟩ := C
  subst hn
  simp only [m_ex] at hs
  split at hs
  · next v r =>
    split at hs
    · next hv =>
      cases hs
      exact ⟨rfl, fun k => lv_pop hx hb hd ((mv_cat hc v).trans hv) (k ls hl)⟩
    · cases hs
  · cases hs
theorem y_dup2 (C : SC p s m args meth c R i D tA cst b) (hl : lv_has ls (m_lc i) (ml cst b lv)) {len : Nat}  (hd : decode (m_m i).2.2.1 pc = .ok (.dup2, len)) (hn : len = 1) (hs : m_ex i pc (.dup2) lv st h = some (.inl S)) : PS p l e R s m args below meth c H locs cells slots Q i cst b h pc ls st S := by
  obtain ⟨hx, hb, hml, hown, hts, hlocks, hini, hfr, hlo9, hks, hc, hr⟩ := C
  subst hn
  simp only [m_ex] at hs
  split at hs
  · next v w r =>
    split at hs
    · next hv =>
      cases hs
      exact ⟨rfl, fun k => lv_dup2_11 hx hb hd ((mv_cat hc v).trans hv.1) ((mv_cat hc w).trans hv.2) (k ls hl)⟩
    · cases hs
  · cases hs
theorem y_goto (C : SC p s m args meth c R i D tA cst b) (hl : lv_has ls (m_lc i) (ml cst b lv)) {len : Nat} {off : Int} (hd : decode (m_m i).2.2.1 pc = .ok (.goto off, len)) (hn : len = 3) (hs : m_ex i pc (.goto off) lv st h = some (.inl S)) : PS p l e R s m args below meth c H locs cells slots Q i cst b h pc ls st S := by
  obtain ⟨hx, hb, hml, hown, hts, hlocks, hini, hfr, hlo9, hks, hc, hr⟩ := C
  subst hn
  exact x_tg hl (fun tgt ht k => lv_goto hx hb hd ht k) hs
theorem y_icmp_eq (C : SC p s m args meth c R i D tA cst b) (hl : lv_has ls (m_lc i) (ml cst b lv)) {len : Nat} {off : Int} (hd : decode (m_m i).2.2.1 pc = .ok (.if_icmp .eq off, len)) (hn : len = 3) (hs : m_ex i pc (.if_icmp .eq off) lv st h = some (.inl S)) : PS p l e R s m args below meth c H locs cells slots Q i cst b h pc ls st S := by
  obtain ⟨hx, hb, hml, hown, hts, hlocks, hini, hfr, hlo9, hks, hc, hr⟩ := C
  subst hn
  simp only [m_ex] at hs
  split at hs
  · next y x r =>
    exact x_br (A := x = y) (B := ¬ x = y) hl (fun h9 => of_decide_eq_true h9) (fun h9 => of_decide_eq_false h9) (fun tgt ht h8 k => lv_icmp_eq hx hb hd ht (fun _ => k) (fun h9 => absurd h8 h9)) (fun tgt ht h8 k => lv_icmp_eq hx hb hd ht (fun h9 => absurd h9 h8) (fun _ => k)) hs
  · cases hs
theorem y_if_eq (C : SC p s m args meth c R i D tA cst b) (hl : lv_has ls (m_lc i) (ml cst b lv)) {len : Nat} {off : Int} (hd : decode (m_m i).2.2.1 pc = .ok (.ifCond .eq off, len)) (hn : len = 3) (hs : m_ex i pc (.ifCond .eq off) lv st h = some (.inl S)) : PS p l e R s m args below meth c H locs cells slots Q i cst b h pc ls st S := by
  obtain ⟨hx, hb, hml, hown, hts, hlocks, hini, hfr, hlo9, hks, hc, hr⟩ := C
  subst hn
  simp only [m_ex] at hs
  split at hs
  · next x r =>
    exact x_br (A := x = 0) (B := ¬ x = 0) hl (fun h9 => of_decide_eq_true h9) (fun h9 => of_decide_eq_false h9) (fun tgt ht h8 k => lv_if_eq hx hb hd ht (fun _ => k) (fun h9 => absurd h8 h9)) (fun tgt ht h8 k => lv_if_eq hx hb hd ht (fun h9 => absurd h9 h8) (fun _ => k)) hs
  · cases hs
theorem y_icmp_ne (C : SC p s m args meth c R i D tA cst b) (hl : lv_has ls (m_lc i) (ml cst b lv)) {len : Nat} {off : Int} (hd : decode (m_m i).2.2.1 pc = .ok (.if_icmp .ne off, len)) (hn : len = 3) (hs : m_ex i pc (.if_icmp .ne off) lv st h = some (.inl S)) : PS p l e R s m args below meth c H locs cells slots Q i cst b h pc ls st S := by
  obtain ⟨hx, hb, hml, hown, hts, hlocks, hini, hfr, hlo9, hks, hc, hr⟩ := C
  subst hn
  simp only [m_ex] at hs
  split at hs
  · next y x r =>
    exact x_br (A := ¬ x = y) (B := x = y) hl (fun h9 => by simpa [m_cmp] using h9) (fun h9 => by simpa [m_cmp] using h9) (fun tgt ht h8 k => lv_icmp_ne hx hb hd ht (fun _ => k) (fun h9 => absurd h9 h8)) (fun tgt ht h8 k => lv_icmp_ne hx hb hd ht (fun h9 => absurd h8 h9) (fun _ => k)) hs
  · cases hs
theorem y_if_ne (C : SC p s m args meth c R i D tA cst b) (hl : lv_has ls (m_lc i) (ml cst b lv)) {len : Nat} {off : Int} (hd : decode (m_m i).2.2.1 pc = .ok (.ifCond .ne off, len)) (hn : len = 3) (hs : m_ex i pc (.ifCond .ne off) lv st h = some (.inl S)) : PS p l e R s m args below meth c H locs cells slots Q i cst b h pc ls st S := by
  obtain ⟨hx, hb, hml, hown, hts, hlocks, hini, hfr, hlo9, hks, hc, hr⟩ := C
  subst hn
  simp only [m_ex] at hs
  split at hs
  · next x r =>
    exact x_br (A := ¬ x = 0) (B := x = 0) hl (fun h9 => by simpa [m_cmp] using h9) (fun h9 => by simpa [m_cmp] using h9) (fun tgt ht h8 k => lv_if_ne hx hb hd ht (fun _ => k) (fun h9 => absurd h9 h8)) (fun tgt ht h8 k => lv_if_ne hx hb hd ht (fun h9 => absurd h8 h9) (fun _ => k)) hs
  · cases hs
theorem y_icmp_lt (C : SC p s m args meth c R i D tA cst b) (hl : lv_has ls (m_lc i) (ml cst b lv)) {len : Nat} {off : Int} (hd : decode (m_m i).2.2.1 pc = .ok (.if_icmp .lt off, len)) (hn : len = 3) (hs : m_ex i pc (.if_icmp .lt off) lv st h = some (.inl S)) : PS p l e R s m args below meth c H locs cells slots Q i cst b h pc ls st S := by
  obtain ⟨hx, hb, hml, hown, hts, hlocks, hini, hfr, hlo9, hks, hc, hr⟩ := C
  subst hn
  simp only [m_ex] at hs
  split at hs
  · next y x r =>
    exact x_br (A := x < y) (B := ¬ x < y) hl (fun h9 => of_decide_eq_true h9) (fun h9 => of_decide_eq_false h9) (fun tgt ht h8 k => lv_icmp_lt hx hb hd ht (fun _ => k) (fun h9 => absurd h8 h9)) (fun tgt ht h8 k => lv_icmp_lt hx hb hd ht (fun h9 => absurd h9 h8) (fun _ => k)) hs
  · cases hs
theorem y_if_lt (C : SC p s m args meth c R i D tA cst b) (hl : lv_has ls (m_lc i) (ml cst b lv)) {len : Nat} {off : Int} (hd : decode (m_m i).2.2.1 pc = .ok (.ifCond .lt off, len)) (hn : len = 3) (hs : m_ex i pc (.ifCond .lt off) lv st h = some (.inl S)) : PS p l e R s m args below meth c H locs cells slots Q i cst b h pc ls st S := by
  obtain ⟨hx, hb, hml, hown, hts, hlocks, hini, hfr, hlo9, hks, hc, hr⟩ := C
  subst hn
  simp only [m_ex] at hs
  split at hs
  · next x r =>
    exact x_br (A := x < 0) (B := ¬ x < 0) hl (fun h9 => of_decide_eq_true h9) (fun h9 => of_decide_eq_false h9) (fun tgt ht h8 k => lv_if_lt hx hb hd ht (fun _ => k) (fun h9 => absurd h8 h9)) (fun tgt ht h8 k => lv_if_lt hx hb hd ht (fun h9 => absurd h9 h8) (fun _ => k)) hs
  · cases hs
theorem y_icmp_ge (C : SC p s m args meth c R i D tA cst b) (hl : lv_has ls (m_lc i) (ml cst b lv)) {len : Nat} {off : Int} (hd : decode (m_m i).2.2.1 pc = .ok (.if_icmp .ge off, len)) (hn : len = 3) (hs : m_ex i pc (.if_icmp .ge off) lv st h = some (.inl S)) : PS p l e R s m args below meth c H locs cells slots Q i cst b h pc ls st S := by
  obtain ⟨hx, hb, hml, hown, hts, hlocks, hini, hfr, hlo9, hks, hc, hr⟩ := C
  subst hn
  simp only [m_ex] at hs
  split at hs
  · next y x r =>
    exact x_br (A := y ≤ x) (B := ¬ y ≤ x) hl (fun h9 => of_decide_eq_true h9) (fun h9 => of_decide_eq_false h9) (fun tgt ht h8 k => lv_icmp_ge hx hb hd ht (fun _ => k) (fun h9 => absurd h8 h9)) (fun tgt ht h8 k => lv_icmp_ge hx hb hd ht (fun h9 => absurd h9 h8) (fun _ => k)) hs
  · cases hs
theorem y_if_ge (C : SC p s m args meth c R i D tA cst b) (hl : lv_has ls (m_lc i) (ml cst b lv)) {len : Nat} {off : Int} (hd : decode (m_m i).2.2.1 pc = .ok (.ifCond .ge off, len)) (hn : len = 3) (hs : m_ex i pc (.ifCond .ge off) lv st h = some (.inl S)) : PS p l e R s m args below meth c H locs cells slots Q i cst b h pc ls st S := by
  obtain ⟨hx, hb, hml, hown, hts, hlocks, hini, hfr, hlo9, hks, hc, hr⟩ := C
  subst hn
  simp only [m_ex] at hs
  split at hs
  · next x r =>
    exact x_br (A := 0 ≤ x) (B := ¬ 0 ≤ x) hl (fun h9 => of_decide_eq_true h9) (fun h9 => of_decide_eq_false h9) (fun tgt ht h8 k => lv_if_ge hx hb hd ht (fun _ => k) (fun h9 => absurd h8 h9)) (fun tgt ht h8 k => lv_if_ge hx hb hd ht (fun h9 => absurd h9 h8) (fun _ => k)) hs
  · cases hs
theorem y_icmp_gt (C : SC p s m args meth c R i D tA cst b) (hl : lv_has ls (m_lc i) (ml cst b lv)) {len : Nat} {off : Int} (hd : decode (m_m i).2.2.1 pc = .ok (.if_icmp .gt off, len)) (hn : len = 3) (hs : m_ex i pc (.if_icmp .gt off) lv st h = some (.inl S)) : PS p l e R s m args below meth c H locs cells slots Q i cst b h pc ls st S := by
  obtain ⟨hx, hb, hml, hown, hts, hlocks, hini, hfr, hlo9, hks, hc, hr⟩ := C
  subst hn
  simp only [m_ex] at hs
  split at hs
  · next y x r =>
    exact x_br (A := y < x) (B := ¬ y < x) hl (fun h9 => of_decide_eq_true h9) (fun h9 => of_decide_eq_false h9) (fun tgt ht h8 k => lv_icmp_gt hx hb hd ht (fun _ => k) (fun h9 => absurd h8 h9)) (fun tgt ht h8 k => lv_icmp_gt hx hb hd ht (fun h9 => absurd h9 h8) (fun _ => k)) hs
  · cases hs
theorem y_if_gt (C : SC p s m args meth c R i D tA cst b) (hl : lv_has ls (m_lc i) (ml cst b lv)) {len : Nat} {off : Int} (hd : decode (m_m i).2.2.1 pc = .ok (.ifCond .gt off, len)) (hn : len = 3) (hs : m_ex i pc (.ifCond .gt off) lv st h = some (.inl S)) : PS p l e R s m args below meth c H locs cells slots Q i cst b h pc ls st S := by
  obtain ⟨hx, hb, hml, hown, hts, hlocks, hini, hfr, hlo9, hks, hc, hr⟩ := C
  subst hn
  simp only [m_ex] at hs
  split at hs
  · next x r =>
    exact x_br (A := 0 < x) (B := ¬ 0 < x) hl (fun h9 => of_decide_eq_true h9) (fun h9 => of_decide_eq_false h9) (fun tgt ht h8 k => lv_if_gt hx hb hd ht (fun _ => k) (fun h9 => absurd h8 h9)) (fun tgt ht h8 k => lv_if_gt hx hb hd ht (fun h9 => absurd h9 h8) (fun _ => k)) hs
  · cases hs
theorem y_icmp_le (C : SC p s m args meth c R i D tA cst b) (hl : lv_has ls (m_lc i) (ml cst b lv)) {len : Nat} {off : Int} (hd : decode (m_m i).2.2.1 pc = .ok (.if_icmp .le off, len)) (hn : len = 3) (hs : m_ex i pc (.if_icmp .le off) lv st h = some (.inl S)) : PS p l e R s m args below meth c H locs cells slots Q i cst b h pc ls st S := by
  obtain ⟨hx, hb, hml, hown, hts, hlocks, hini, hfr, hlo9, hks, hc, hr⟩ := C
  subst hn
  simp only [m_ex] at hs
  split at hs
  · next y x r =>
    exact x_br (A := x ≤ y) (B := ¬ x ≤ y) hl (fun h9 => of_decide_eq_true h9) (fun h9 => of_decide_eq_false h9) (fun tgt ht h8 k => lv_icmp_le hx hb hd ht (fun _ => k) (fun h9 => absurd h8 h9)) (fun tgt ht h8 k => lv_icmp_le hx hb hd ht (fun h9 => absurd h9 h8) (fun _ => k)) hs
  · cases hs
theorem y_if_le (C : SC p s m args meth c R i D tA cst b) (hl : lv_has ls (m_lc i) (ml cst b lv)) {len : Nat} {off : Int} (hd : decode (m_m i).2.2.1 pc = .ok (.ifCond .le off, len)) (hn : len = 3) (hs : m_ex i pc (.ifCond .le off) lv st h = some (.inl S)) : PS p l e R s m args below meth c H locs cells slots Q i cst b h pc ls st S := by
  obtain ⟨hx, hb, hml, hown, hts, hlocks, hini, hfr, hlo9, hks, hc, hr⟩ := C
  subst hn
  simp only [m_ex] at hs
  split at hs
  · next x r =>
    exact x_br (A := x ≤ 0) (B := ¬ x ≤ 0) hl (fun h9 => of_decide_eq_true h9) (fun h9 => of_decide_eq_false h9) (fun tgt ht h8 k => lv_if_le hx hb hd ht (fun _ => k) (fun h9 => absurd h8 h9)) (fun tgt ht h8 k => lv_if_le hx hb hd ht (fun h9 => absurd h9 h8) (fun _ => k)) hs
  · cases hs
theorem y_ifnull (C : SC p s m args meth c R i D tA cst b) (hl : lv_has ls (m_lc i) (ml cst b lv)) {len : Nat} {off : Int} (hd : decode (m_m i).2.2.1 pc = .ok (.ifnull off, len)) (hn : len = 3) (hs : m_ex i pc (.ifnull off) lv st h = some (.inl S)) : PS p l e R s m args below meth c H locs cells slots Q i cst b h pc ls st S := by
  obtain ⟨hx, hb, hml, hown, hts, hlocks, hini, hfr, hlo9, hks, hc, hr⟩ := C
  subst hn
  simp only [m_ex] at hs
  split at hs
  · next a r =>
    split at hs
    · next ha =>
      subst ha
      exact x_tg hl (fun tgt ht k => lv_ifnullN hx hb hd ht k) hs
    · split at hs
      · next h16 =>
        cases hs
        refine ⟨rfl, fun k => ?_⟩
        show W p l e R s m args below meth c H locs cells slots Q (F0 m pc ls (mv cst b (.ref a) :: r.map (mv cst b)))
        rw [mv_dyn h16]
        exact lv_ifnull hx hb hd (k ls hl)
      · cases hs
  · cases hs
theorem y_ifnonnull (C : SC p s m args meth c R i D tA cst b) (hl : lv_has ls (m_lc i) (ml cst b lv)) {len : Nat} {off : Int} (hd : decode (m_m i).2.2.1 pc = .ok (.ifnonnull off, len)) (hn : len = 3) (hs : m_ex i pc (.ifnonnull off) lv st h = some (.inl S)) : PS p l e R s m args below meth c H locs cells slots Q i cst b h pc ls st S := by
  obtain ⟨hx, hb, hml, hown, hts, hlocks, hini, hfr, hlo9, hks, hc, hr⟩ := C
  subst hn
  simp only [m_ex] at hs
  split at hs
  · next a r =>
    split at hs
    · next ha =>
      subst ha
      cases hs
      exact ⟨rfl, fun k => lv_ifnonnullN hx hb hd (k ls hl)⟩
    · split at hs
      · next h16 =>
        refine x_tg hl (fun tgt ht k => ?_) hs
        show W p l e R s m args below meth c H locs cells slots Q (F0 m pc ls (mv cst b (.ref a) :: r.map (mv cst b)))
        rw [mv_dyn h16]
        exact lv_ifnonnull hx hb hd ht k
      · cases hs
  · cases hs
theorem y_tsw (C : SC p s m args meth c R i D tA cst b) (hl : lv_has ls (m_lc i) (ml cst b lv)) {len : Nat} {d lo hi : Int} {offs : Array Int} (hd : decode (m_m i).2.2.1 pc = .ok (.tableswitch d lo hi offs, len)) (hs : m_ex i pc (.tableswitch d lo hi offs) lv st h = some (.inl S)) : PS p l e R s m args below meth c H locs cells slots Q i cst b h pc ls st S := by
  obtain ⟨hx, hb, hml, hown, hts, hlocks, hini, hfr, hlo9, hks, hc, hr⟩ := C
  simp only [m_ex] at hs
  split at hs
  · next x r =>
    split at hs
    · next h1 => exact x_tg hl (fun tgt ht k => lv_tableOut hx hb hd h1 ht k) hs
    · next h1 =>
      split at hs
      · next o ho => exact x_tg hl (fun tgt ht k => lv_tableIn hx hb hd (fun q => h1 (Or.inl q)) (fun q => h1 (Or.inr q)) ho ht k) hs
      · cases hs
  · cases hs
end SIM
end
section
-- WHAT TOUCHES THE HEAP
theorem m_own_ok (i : Nat) : m_own[m_ow i]? = some (m_m i).2.1.cls := by
  rcases Nat.lt_or_ge i 292 with h | h
  · have h2 : (List.range 292).all (fun i => decide (m_own[m_ow i]? = some (m_m i).2.1.cls)) = true := by decide +kernel
    exact of_decide_eq_true (List.all_eq_true.mp h2 i (List.mem_range.mpr h))
  · have e1 : m_ow i = 0 := by
      unfold m_ow
      rw [List.getD_eq_getElem?_getD, List.getElem?_eq_none (by have : m_ownL.length = 292 := by decide +kernel
                                                                omega)]
      rfl
    have e2 : m_m i = m_d0 := by
      unfold m_m
      rw [List.getD_eq_getElem?_getD, List.getElem?_eq_none (by have : m_meths.length = 292 := by decide +kernel
                                                                omega)]
      rfl
    rw [e1, e2]
    rfl
theorem m_flw {i idx nest c k : Nat} (h : m_fl i idx = some (nest, c, k)) : m_fw (m_m i).2.1.cls (idx, nest, c, k) ∈ lw_tbl ∧ (c = 39 ∧ nest = 0 ∧ k < 2 ∨ c < 10 ∧ k < m_nf c ∧ nest < 2) := by
  have h1 := m_lk_mem h
  cases hl : m_flk[m_ow i]? with
  | none =>
    rw [List.getD_eq_getElem?_getD, hl] at h1
    cases h1
  | some l =>
    rw [List.getD_eq_getElem?_getD, hl] at h1
    refine ⟨m_KF _ _ _ (m_own_ok i) hl _ (List.mem_map.mpr ⟨_, h1, rfl⟩), ?_⟩
    have h2 := m_kfok l (List.mem_of_getElem? hl) _ h1
    exact of_decide_eq_true h2
theorem m_mlw {i idx nest j : Nat} (h : m_ml i idx = some (nest, j)) : m_mw (m_m i).2.1.cls (idx, nest, j) ∈ lw_tbl := by
  have h1 := m_lk_mem h
  cases hl : m_mlk[m_ow i]? with
  | none =>
    rw [List.getD_eq_getElem?_getD, hl] at h1
    cases h1
  | some l =>
    rw [List.getD_eq_getElem?_getD, hl] at h1
    exact m_KL _ _ _ (m_own_ok i) hl _ (List.mem_map.mpr ⟨_, h1, rfl⟩)
theorem m_ccw {i idx c : Nat} (h : m_cc i idx = some c) : m_clw (m_m i).2.1.cls (idx, c) ∈ lw_tbl := by
  have h1 := m_lk_mem h
  cases hl : m_clk[m_ow i]? with
  | none =>
    rw [List.getD_eq_getElem?_getD, hl] at h1
    cases h1
  | some l =>
    rw [List.getD_eq_getElem?_getD, hl] at h1
    exact m_KQ _ _ _ (m_own_ok i) hl _ (List.mem_map.mpr ⟨_, h1, rfl⟩)
theorem m_icw' {i idx : Nat} {x : Int32} (h : m_ic i idx = some x) : m_icw (m_m i).2.1.cls (idx, x) ∈ lw_tbl := by
  have h1 := m_lk_mem h
  cases hl : m_ick[m_ow i]? with
  | none =>
    rw [List.getD_eq_getElem?_getD, hl] at h1
    cases h1
  | some l =>
    rw [List.getD_eq_getElem?_getD, hl] at h1
    exact m_KI _ _ _ (m_own_ok i) hl _ (List.mem_map.mpr ⟨_, h1, rfl⟩)
theorem m_jcw {i idx : Nat} {x : Int64} (h : m_jc i idx = some x) : m_lcw (m_m i).2.1.cls (idx, x) ∈ lw_tbl := by
  have h1 := m_lk_mem h
  cases hl : m_lck[m_ow i]? with
  | none =>
    rw [List.getD_eq_getElem?_getD, hl] at h1
    cases h1
  | some l =>
    rw [List.getD_eq_getElem?_getD, hl] at h1
    exact m_KJ _ _ _ (m_own_ok i) hl _ (List.mem_map.mpr ⟨_, h1, rfl⟩)
section SIMH
variable {p : Program} {l : Launch} {e : Env} {R : Room} {s : State} {m : MethodId} {args : Array Value} {below : List Frame} {meth : Method} {c : Code} {Q : State → Prop} {i : Nat} {D : va_G} {tA : Nat → ClassId} {cst : Nat → Value} {b : Nat}
variable {H : Heap} {locs : List Loc} {cells slots : Nat} {pc : Nat} {ls : Array Slot} {lv : List (Nat × Value)} {st : List Value} {h : MH} {S : MS}
theorem z_obP {ci a : Nat} {q : vw_C} {V : Nat → Value} (hq : m_cl[ci]? = some q) (hO : t_OB a (D.1 ci) q.2.2 (D.2 ci) H V) : va_P D m_cl [(a, .inr (ci, (List.range q.2.2).map V))] H := by
  intro k x hk
  have h0 : k < 1 := (List.getElem?_eq_some_iff.mp hk).1
  rw [show k = 0 by omega] at hk
  cases hk
  refine ⟨q, hq, hO.to fun j hj => ?_⟩
  show V j = ((List.range q.2.2).map V).getD j .null
  rw [List.getD_eq_getElem?_getD, List.getElem?_map, List.getElem?_range hj]
  rfl
theorem z_get (C : SC p s m args meth c R i D tA cst b) (hR : HR D tA cst b s h H) (hl : lv_has ls (m_lc i) (ml cst b lv)) {idx : Nat} (hd : decode (m_m i).2.2.1 pc = .ok (.getfield idx, 3)) (hs : e_get i idx pc lv st h = some (.inl S)) : PS p l e R s m args below meth c H locs cells slots Q i cst b h pc ls st S := by
  obtain ⟨hx, hb, hml, hown, hts, hlocks, hini, hfr, hlo9, hks, hc, hr⟩ := C
  unfold e_get at hs
  split at hs
  · next a r nest ci k hf =>
    split at hs
    · next hk9 =>
      obtain ⟨hw, hcase⟩ := m_flw hf
      have key : W p l e R s m args below meth c H locs cells slots Q (F0 m (pc + 3) ls (m_fv cst b h a ci k :: r.map (mv cst b))) → W p l e R s m args below meth c H locs cells slots Q (F0 m pc ls (mv cst b (.ref a) :: r.map (mv cst b))) := by
        intro kk
        rcases hcase with ⟨h39, h0, hk2⟩ | ⟨hc10, hkN, hn2⟩
        · subst h39
          subst h0
          have ha : a < 16 := by
            rcases Nat.lt_or_ge a 16 with h1 | h1
            · exact h1
            · rcases hR.cell h1 (by omega) with ⟨q1, q2, q3⟩ | ⟨q1, q2, q3⟩
              · omega
              · rw [hk9] at q1
                exact absurd q1 (by decide)
          have hcst := hR.2.2.2.1 a ha
          unfold m_cst at hcst
          rw [hk9] at hcst
          obtain ⟨r9, e1, e2, e3, e4, e5⟩ := hcst
          have ha0 : a ≠ 0 := by
            intro e9
            rw [e9] at hk9
            have := hR.2.2.2.2.2
            omega
          rw [mv_cst ha0 ha, e1]
          match k, hk2 with
          | 0, _ =>
            obtain ⟨cf, kf, fi, f, cell, f1, f2, f3, f4, f5, -⟩ := e5
            exact W.getf hx hb hown (hts _ (m_tgI hw rfl)) f1 f2 f3 f4 f5 rfl rfl hd kk
          | 1, _ =>
            obtain ⟨cf, kf, fi, f, cell, f1, f2, f3, f4, f5, -⟩ := e4
            exact W.getf hx hb hown (hts _ (m_tgI hw rfl)) f1 f2 f3 f4 f5 rfl rfl hd kk
        · obtain ⟨ha, hO⟩ := hR.obj hk9 hc10
          obtain ⟨q, hq, hN, hin, -, -, -, -, -, hT⟩ := m_clf ci hc10
          rw [hN] at hO hkN
          have hv : ((List.range q.2.2).map (m_fv cst b h a ci))[k]? = some (m_fv cst b h a ci k) := by
            rw [List.getElem?_map, List.getElem?_range hkN]
            rfl
          have hw2 := hw
          unfold m_fw at hw2
          rw [show m_cl[((idx, nest, ci, k) : Nat × Nat × Nat × Nat).2.2.1]? = some q from hq] at hw2
          rw [mv_dyn ha]
          match nest, hn2 with
          | 0, _ => exact va_get (D := D) (ci := ci) (C := q.1) (T := q.2.1) (N := q.2.2) hx hb hts hin hown hks.1 (z_obP hq hO) 0 rfl hq k hkN (hts _ (m_tgI hw2 rfl)) (fun x h9 => by rw [hT k hkN] at h9; exact h9) hv hd kk
          | 1, _ => exact va_getN (D := D) (ci := ci) (C := q.1) (T := q.2.1) (N := q.2.2) hx hb hts hin hown hks.1 (z_obP hq hO) 0 rfl hq k hkN (va_Nw.use rfl (hks.2.1 _ hw2 rfl)) (fun x h9 => by rw [hT k hkN] at h9; exact h9) hv hd kk
      split at hs
      · next ht =>
        cases hs
        exact ⟨rfl, fun k9 => key (by have := k9 ls hl; unfold m_fv; rw [ht]; exact this)⟩
      · next ht =>
        cases hs
        exact ⟨rfl, fun k9 => key (by have := k9 ls hl; unfold m_fv; rw [ht]; exact this)⟩
      · next h0 h1 =>
        cases hs
        exact ⟨rfl, fun k9 => key (by
          have h9 := k9 ls hl
          have e9 : m_fv cst b h a ci k = mv cst b (.ref (h_r h a k)) := by
            unfold m_fv
            split
            · next q => exact absurd q h0
            · next q => exact absurd q h1
            · rfl
          rw [e9]
          exact h9)⟩
    · cases hs
  · cases hs
theorem z_putW (C : SC p s m args meth c R i D tA cst b) {idx nest ci k a : Nat} {V : Nat → Value} {v : Value} {rest : List Value} (hf : m_fl i idx = some (nest, ci, k)) (hc10 : ci < 10) (hO : t_OB a (D.1 ci) (m_nf ci) (D.2 ci) H V)
    (hv : ∀ ty : FieldType, ((m_ty ci k).1 = 0 → ty = .int) → ((m_ty ci k).1 = 1 → ty = .long) → ((m_ty ci k).1 ≠ 0 → (m_ty ci k).1 ≠ 1 → m_rr (some ty) = true) → narrow ty v = v ∧ fits ty v = true)
    (hfin : (m_ty ci k).2 = true → nest = 0 ∧ m_kind i = 2 ∧ m_cnm ci = (m_m i).2.1.cls) (hd : decode (m_m i).2.2.1 pc = .ok (.putfield idx, 3))
    (kk : ∀ (H' : Heap) (z : Nat), t_OB a (D.1 ci) (m_nf ci) (D.2 ci) H' (updV V k v) → H'.size = H.size → (∀ q, q ≠ a → H'[q]? = H[q]?) → W p l e R s m args below meth c H' (locs ++ [⟨a, z⟩]) cells slots Q (F0 m (pc + 3) ls rest)) : W p l e R s m args below meth c H locs cells slots Q (F0 m pc ls (v :: .ref a :: rest)) := by
  obtain ⟨hx, hb, hml, hown, hts, hlocks, hini, hfr, hlo9, hks, hc, hr⟩ := C
  obtain ⟨hw, hcase⟩ := m_flw hf
  have hkN : k < m_nf ci := by rcases hcase with ⟨h39, -⟩ | ⟨-, h, -⟩ <;> omega
  have hn2 : nest < 2 := by rcases hcase with ⟨h39, -⟩ | ⟨-, -, h⟩ <;> omega
  obtain ⟨q, hq, hN, hin, hnm, ⟨ty, hty, hty2⟩, hfn, -, -, hT⟩ := m_clf ci hc10
  rw [hN] at hO hkN
  rw [hN] at kk
  have hw2 := hw
  unfold m_fw at hw2
  rw [show m_cl[((idx, nest, ci, k) : Nat × Nat × Nat × Nat).2.2.1]? = some q from hq] at hw2
  obtain ⟨hnar, hfit⟩ := hv (ty k) (hty2 k hkN).1 (hty2 k hkN).2.1 (hty2 k hkN).2.2
  have hap := va_apart (own := (m_m i).2.1.cls) (args := args) (C := q.1) (T := q.2.1) (N := q.2.2) (ci := ci) hts hin ty hty hnm hks.1 hq
  obtain ⟨cell, q1, q2, q3, q4⟩ := hO
  obtain ⟨hS, hfc, kC, hkC, hkind⟩ := hks.1.1 ci _ hq
  obtain ⟨cf, kf, fi, f, hi, hsl⟩ := hS k hkN
  have hlay := hts _ (hin _ (u_in_lay hkN))
  have hst := (u_facts hfc hkC (u_lays hts hin hkN) hi).1
  have hsame : ∀ x, s.fieldFound? (q.2.1 k).1 (q.2.1 k).2.1 (q.2.1 k).2.2.1 = some x → s.fieldFound? q.1 (q.2.1 k).2.1 (q.2.1 k).2.2.1 = some x := fun x h9 => by rw [hT k hkN] at h9; exact h9
  by_cases hfi : (m_ty ci k).2 = true
  · obtain ⟨hn0, hk2, hcn⟩ := hfin hfi
    subst hn0
    have hq1 : q.1 = (m_m i).2.1.cls := by
      rw [← hcn]
      unfold m_cnm
      rw [hq]
    have hfF : (q.2.1 k).2.2.2 = true := (hfn k hkN).trans hfi
    unfold u_lay at hlay
    rw [if_pos hfF] at hlay
    have hcf : m.cls = cf := by
      obtain ⟨_, _, c', _, _, _, -, -, hf', -, -, -, hown2, -⟩ := Cond.laysFinal_spec hlay
      have e1 : c' = cf := by have := hi.symm.trans hf'; simp at this; exact this.1.symm
      rw [hT k hkN, hq1] at hown2
      rw [← e1]; exact Option.some.inj (hown.symm.trans hown2)
    have h6 := u_fits hfc hkC hkind (Or.inr hlay) hi (hty k hkN) hnar hfit
    refine W.putFinK hx hb hown (hts _ (m_tgI hw2 rfl)) (hsame _ hi) hst hcf (hini hk2) (by rw [q2]; exact h6) q1 q3 (by rw [hsl]; exact k2_hasslot (q4 k hkN)) rfl rfl hd fun H' e1 e2 e3 => ?_
    rw [hsl] at e1
    exact kk H' _ ⟨_, e1, q2, q3, t_set q4 hap hkN v⟩ e2 e3
  · have hfF : (q.2.1 k).2.2.2 = false := (hfn k hkN).trans (by simpa using hfi)
    unfold u_lay at hlay
    rw [if_neg (by rw [hfF]; decide)] at hlay
    have h6 := u_store hfc hkC hkind hlay hi (hty k hkN) hnar hfit
    match nest, hn2 with
    | 0, _ =>
      refine W.putK hx hb (f := f) ⟨hown, hts _ (m_tgI hw2 rfl), ⟨_, _, _, hsame _ hi⟩, hst⟩ (by rw [q2]; exact h6) q1 q3 (by rw [hsl]; exact k2_hasslot (q4 k hkN)) rfl rfl hd fun H' e1 e2 e3 => ?_
      rw [hsl] at e1
      exact kk H' _ ⟨_, e1, q2, q3, t_set q4 hap hkN v⟩ e2 e3
    | 1, _ =>
      refine va_WputK hx hb (f := f) hown (va_Nw.use rfl (hks.2.1 _ hw2 rfl)) (hsame _ hi) hst (by rw [q2]; exact h6) q1 q3 (by rw [hsl]; exact k2_hasslot (q4 k hkN)) rfl rfl hd fun H' e1 e2 e3 => ?_
      rw [hsl] at e1
      exact kk H' _ ⟨_, e1, q2, q3, t_set q4 hap hkN v⟩ e2 e3
-- what a step that changes the heap, but makes nothing, owes
def HS (p : Program) (l : Launch) (e : Env) (R : Room) (s : State) (m : MethodId) (args : Array Value) (below : List Frame) (meth : Method) (c : Code) (H : Heap) (locs : List Loc) (cells slots : Nat) (Q : State → Prop) (i : Nat) (D : va_G) (tA : Nat → ClassId) (cst : Nat → Value) (b : Nat) (h : MH) (pc : Nat) (ls : Array Slot) (st : List Value) (S : MS) : Prop :=
  (h_n S.2.2.2 = h_n h ∧ h_z S.2.2.2 = h_z h) ∧ ((∀ H' locs' ls', HR D tA cst b s S.2.2.2 H' → (∀ q ∈ locs', b ≤ q.base) → lv_has ls' (m_lc i) (ml cst b S.2.1) → W p l e R s m args below meth c H' locs' cells slots Q (F0 m S.1 ls' (S.2.2.1.map (mv cst b)))) → W p l e R s m args below meth c H locs cells slots Q (F0 m pc ls (st.map (mv cst b))))
theorem z_loc {a z : Nat} (hlo : ∀ q ∈ locs, b ≤ q.base) (ha : b ≤ a) : ∀ q ∈ locs ++ [(⟨a, z⟩ : Loc)], b ≤ q.base := by
  intro q hq
  rcases List.mem_append.mp hq with h1 | h1
  · exact hlo q h1
  · rw [List.mem_singleton.mp h1]
    exact ha
theorem z_put (C : SC p s m args meth c R i D tA cst b) (hR : HR D tA cst b s h H) (hlo : ∀ q ∈ locs, b ≤ q.base) (hl : lv_has ls (m_lc i) (ml cst b lv)) {idx : Nat} (hd : decode (m_m i).2.2.1 pc = .ok (.putfield idx, 3)) (hs : e_put i idx pc lv st h = some (.inl S)) : HS p l e R s m args below meth c H locs cells slots Q i D tA cst b h pc ls st S := by
  unfold e_put at hs
  split at hs
  · next x a r nest ci k hf =>
    split at hs
    · next hk =>
      obtain ⟨hk9, hc10, hkN, hty⟩ := hk
      cases hs
      obtain ⟨ha, hO⟩ := hR.obj hk9 hc10
      refine ⟨⟨rfl, rfl⟩, fun K => ?_⟩
      show W p l e R s m args below meth c H locs cells slots Q (F0 m pc ls (.int x :: mv cst b (.ref a) :: r.map (mv cst b)))
      rw [mv_dyn ha]
      refine z_putW C hf hc10 hO (v := .int x) (fun ty h0 _ _ => by rw [h0 (by rw [hty])]; exact ⟨rfl, rfl⟩) (fun q => by rw [hty] at q; cases q) hd (fun H' z e1 e2 e3 => ?_)
      refine K H' _ ls (hR.upd ha rfl rfl (fun y hy => ⟨if_neg hy, rfl, rfl⟩) e2 e3 (Or.inl ?_)) (z_loc hlo (Nat.le_add_right b _)) hl
      have hk8 : (h_k (h_si h a k x) a).1 = ci + 1 := hk9
      rw [hk8]
      refine ⟨by omega, by omega, e1.to (fun j hj => ?_)⟩
      show updV (m_fv cst b h a ci) k (.int x) j = m_fv cst b (h_si h a k x) a ci j
      unfold updV m_fv h_si h_i h_l h_r
      by_cases e9 : j = k
      · subst e9
        simp [hty, m_u]
      · simp [e9, m_u]
    · cases hs
  · next x a r nest ci k hf =>
    split at hs
    · next hk =>
      obtain ⟨hk9, hc10, hkN, hty⟩ := hk
      cases hs
      obtain ⟨ha, hO⟩ := hR.obj hk9 hc10
      refine ⟨⟨rfl, rfl⟩, fun K => ?_⟩
      show W p l e R s m args below meth c H locs cells slots Q (F0 m pc ls (.long x :: mv cst b (.ref a) :: r.map (mv cst b)))
      rw [mv_dyn ha]
      refine z_putW C hf hc10 hO (v := .long x) (fun ty _ h0 _ => by rw [h0 (by rw [hty])]; exact ⟨rfl, rfl⟩) (fun q => by rw [hty] at q; cases q) hd (fun H' z e1 e2 e3 => ?_)
      refine K H' _ ls (hR.upd ha rfl rfl (fun y hy => ⟨rfl, if_neg hy, rfl⟩) e2 e3 (Or.inl ?_)) (z_loc hlo (Nat.le_add_right b _)) hl
      have hk8 : (h_k (h_sl h a k x) a).1 = ci + 1 := hk9
      rw [hk8]
      refine ⟨by omega, by omega, e1.to (fun j hj => ?_)⟩
      show updV (m_fv cst b h a ci) k (.long x) j = m_fv cst b (h_sl h a k x) a ci j
      unfold updV m_fv h_sl h_i h_l h_r
      by_cases e9 : j = k
      · subst e9
        simp [hty, m_u]
      · simp [e9, m_u]
    · cases hs
  · next x a r nest ci k hf =>
    split at hs
    · next hk =>
      obtain ⟨hk9, hc10, hkN, hty, hfi⟩ := hk
      cases hs
      obtain ⟨ha, hO⟩ := hR.obj hk9 hc10
      refine ⟨⟨rfl, rfl⟩, fun K => ?_⟩
      show W p l e R s m args below meth c H locs cells slots Q (F0 m pc ls (mv cst b (.ref x) :: mv cst b (.ref a) :: r.map (mv cst b)))
      rw [mv_dyn ha]
      have hcok := C.2.2.2.2.2.2.2.2.2.2.1
      refine z_putW C hf hc10 hO (v := mv cst b (.ref x)) (fun ty _ _ h0 => ?_) (fun q => ⟨(hfi q).1, (hfi q).2.1, (hfi q).2.2.2⟩) hd (fun H' z e1 e2 e3 => ?_)
      · have h9 := h0 (by rw [hty]; decide) (by rw [hty]; decide)
        rcases mv_ref (b := b) hcok x with q | ⟨y, q⟩ <;> rw [q] <;> cases ty <;> first | exact ⟨rfl, rfl⟩ | exact absurd h9 (by decide)
      · refine K H' _ ls (hR.upd ha rfl rfl (fun y hy => ⟨rfl, rfl, if_neg hy⟩) e2 e3 (Or.inl ?_)) (z_loc hlo (Nat.le_add_right b _)) hl
        have hk8 : (h_k (h_sr h a k x) a).1 = ci + 1 := hk9
        rw [hk8]
        refine ⟨by omega, by omega, e1.to (fun j hj => ?_)⟩
        show updV (m_fv cst b h a ci) k (mv cst b (.ref x)) j = m_fv cst b (h_sr h a k x) a ci j
        unfold updV m_fv h_sr h_i h_l h_r
        by_cases e9 : j = k
        · subst e9
          simp [hty, m_u]
        · simp [e9, m_u]
    · cases hs
  · cases hs
theorem m_okk_or {k : Nat} (h : m_okk k = true) : k = 20 ∨ k = 21 ∨ k = 22 ∨ k = 25 ∨ k = 30 ∨ k = 31 ∨ k = 32 ∨ k = 33 := by
  simp [m_okk] at h
  omega
theorem m_inS {j : Int32} {n : Nat} (h : m_in j n = true) : ¬ j < 0 ∧ j.toNatClampNeg < n := by
  simp only [m_in, Bool.and_eq_true, decide_eq_true_eq] at h
  exact h
theorem m_inA {j : Int32} {n : Nat} {cI : ClassId} {f : Nat → Value} (h : m_in j n = true) : ¬ (j < 0 ∨ (arrV cI n f).slots.size ≤ j.toNatClampNeg) := by
  obtain ⟨h1, h2⟩ := m_inS h
  rw [arrV_size]
  rintro (q | q)
  · exact h1 q
  · omega
theorem z_iald (C : SC p s m args meth c R i D tA cst b) (hR : HR D tA cst b s h H) (hl : lv_has ls (m_lc i) (ml cst b lv)) (hd : decode (m_m i).2.2.1 pc = .ok (.iaload, 1)) (hs : e_iald 20 20 pc lv st h = some (.inl S)) : PS p l e R s m args below meth c H locs cells slots Q i cst b h pc ls st S := by
  obtain ⟨hx, hb, hml, hown, hts, hlocks, hini, hfr, hlo9, hks, hc, hr⟩ := C
  unfold e_iald at hs
  split at hs
  · next j a r =>
    split at hs
    · next hk =>
      obtain ⟨hk, hin⟩ := hk
      have hk : (h_k h a).1 = 20 := hk.elim id id
      cases hs
      refine ⟨rfl, fun K => ?_⟩
      have K := K ls hl
      show W p l e R s m args below meth c H locs cells slots Q (F0 m pc ls (.int j :: mv cst b (.ref a) :: r.map (mv cst b)))
      rcases (Nat.lt_or_ge a 16).symm with ha | ha
      · obtain ⟨-, hcell, -⟩ := hR.arr ha (by omega)
        rw [hk] at hcell
        rw [mv_dyn ha]
        exact W.iald (v := .int (h_i h a j.toNatClampNeg)) hx hb hcell ((hks.1.2 0 _ rfl).1 _ _) (fun q => by cases q) (m_inA hin) (by rw [arrV_read _ _ (m_inS hin).2]; rfl) rfl rfl hd K
      · have hq := hR.2.2.2.1 a (by omega)
        unfold m_cst at hq
        rw [hk] at hq
        obtain ⟨r9, cell, q1, q2, q3, q4, q5, q6, q7, q8⟩ := hq
        have ha0 : a ≠ 0 := by
          intro e9
          rw [e9] at hk
          have := hR.2.2.2.2.2
          omega
        rw [mv_cst ha0 (by omega), q1]
        exact W.iald (v := .int (h_i h a j.toNatClampNeg)) hx hb q3 q4 q5 (by rintro (q | q); exact (m_inS hin).1 q; have := (m_inS hin).2; omega) (q8 _ (m_inS hin).2) rfl rfl hd K
    · cases hs
  · cases hs
theorem z_bald (C : SC p s m args meth c R i D tA cst b) (hR : HR D tA cst b s h H) (hl : lv_has ls (m_lc i) (ml cst b lv)) (hd : decode (m_m i).2.2.1 pc = .ok (.baload, 1)) (hs : e_iald 21 22 pc lv st h = some (.inl S)) : PS p l e R s m args below meth c H locs cells slots Q i cst b h pc ls st S := by
  obtain ⟨hx, hb, hml, hown, hts, hlocks, hini, hfr, hlo9, hks, hc, hr⟩ := C
  unfold e_iald at hs
  split at hs
  · next j a r =>
    split at hs
    · next hk =>
      obtain ⟨hk, hin⟩ := hk
      cases hs
      refine ⟨rfl, fun K => ?_⟩
      have K := K ls hl
      show W p l e R s m args below meth c H locs cells slots Q (F0 m pc ls (.int j :: mv cst b (.ref a) :: r.map (mv cst b)))
      rcases (Nat.lt_or_ge a 16).symm with ha | ha
      · obtain ⟨-, hcell, -⟩ := hR.arr ha (by omega)
        rw [mv_dyn ha]
        rcases hk with hk | hk
        · rw [hk] at hcell
          exact W.bald (v := .int (h_i h a j.toNatClampNeg)) hx hb hcell ((hks.1.2 1 _ rfl).1 _ _) (fun q => by cases q) (m_inA hin) (by rw [arrV_read _ _ (m_inS hin).2]; rfl) rfl rfl hd K
        · rw [hk] at hcell
          exact W.zald (v := .int (h_i h a j.toNatClampNeg)) hx hb hcell ((hks.1.2 2 _ rfl).1 _ _) (fun q => by cases q) (m_inA hin) (by rw [arrV_read _ _ (m_inS hin).2]; rfl) rfl rfl hd K
      · have hq := hR.2.2.2.1 a (by omega)
        unfold m_cst at hq
        have ha0 : a ≠ 0 := by
          intro e9
          rw [e9] at hk
          have := hR.2.2.2.2.2
          omega
        rcases hk with hk | hk
        · rw [hk] at hq
          obtain ⟨r9, cell, q1, q2, q3, q4, q5, q6, q7, q8⟩ := hq
          rw [mv_cst ha0 (by omega), q1]
          exact W.bald (v := .int (h_i h a j.toNatClampNeg)) hx hb q3 q4 q5 (by rintro (q | q); exact (m_inS hin).1 q; have := (m_inS hin).2; omega) (q8 _ (m_inS hin).2) rfl rfl hd K
        · rw [hk] at hq
          exact hq.elim
    · cases hs
  · cases hs
theorem z_dyn {a : Nat} (hR : HR D tA cst b s h H) (hk : 25 ≤ (h_k h a).1) (hk2 : (h_k h a).1 < 40) : 16 ≤ a := by
  rcases Nat.lt_or_ge a 16 with h1 | h1
  · have hq := hR.2.2.2.1 a h1
    unfold m_cst at hq
    generalize (h_k h a).1 = k at hk hk2 hq
    match k, hk, hk2, hq with
    | 0, hk, _, _ => omega
    | 20, hk, _, _ => omega
    | 21, hk, _, _ => omega
    | 40, _, hk2, _ => omega
    | k, _, _, hq =>
      split at hq
      · omega
      · omega
      · omega
      · omega
      · exact hq.elim
  · exact h1
theorem z_lald (C : SC p s m args meth c R i D tA cst b) (hR : HR D tA cst b s h H) (hl : lv_has ls (m_lc i) (ml cst b lv)) (hd : decode (m_m i).2.2.1 pc = .ok (.laload, 1)) (hs : e_lald pc lv st h = some (.inl S)) : PS p l e R s m args below meth c H locs cells slots Q i cst b h pc ls st S := by
  obtain ⟨hx, hb, hml, hown, hts, hlocks, hini, hfr, hlo9, hks, hc, hr⟩ := C
  unfold e_lald at hs
  split at hs
  · next j a r =>
    split at hs
    · next hk =>
      obtain ⟨hk, hin⟩ := hk
      cases hs
      refine ⟨rfl, fun K => ?_⟩
      have K := K ls hl
      show W p l e R s m args below meth c H locs cells slots Q (F0 m pc ls (.int j :: mv cst b (.ref a) :: r.map (mv cst b)))
      have ha : 16 ≤ a := z_dyn hR (by omega) (by omega)
      obtain ⟨-, hcell, -⟩ := hR.arr ha (by omega)
      rw [hk] at hcell
      rw [mv_dyn ha]
      exact W.lald (v := .long (h_l h a j.toNatClampNeg)) hx hb hcell ((hks.1.2 3 _ rfl).1 _ _) (fun q => by cases q) (m_inA hin) (by rw [arrV_read _ _ (m_inS hin).2]; rfl) rfl rfl hd K
    · cases hs
  · cases hs
theorem z_aald (C : SC p s m args meth c R i D tA cst b) (hR : HR D tA cst b s h H) (hl : lv_has ls (m_lc i) (ml cst b lv)) (hd : decode (m_m i).2.2.1 pc = .ok (.aaload, 1)) (hs : e_aald pc lv st h = some (.inl S)) : PS p l e R s m args below meth c H locs cells slots Q i cst b h pc ls st S := by
  obtain ⟨hx, hb, hml, hown, hts, hlocks, hini, hfr, hlo9, hks, hc, hr⟩ := C
  unfold e_aald at hs
  split at hs
  · next j a r =>
    split at hs
    · next hk =>
      obtain ⟨hk, hin⟩ := hk
      cases hs
      refine ⟨rfl, fun K => ?_⟩
      have K := K ls hl
      show W p l e R s m args below meth c H locs cells slots Q (F0 m pc ls (.int j :: mv cst b (.ref a) :: r.map (mv cst b)))
      have ha : 16 ≤ a := z_dyn hR (by omega) (by omega)
      obtain ⟨-, hcell, -⟩ := hR.arr ha (by omega)
      rw [mv_dyn ha]
      have hk4 : (h_k h a).1 = 30 ∨ (h_k h a).1 = 31 ∨ (h_k h a).1 = 32 ∨ (h_k h a).1 = 33 := by omega
      rcases hk4 with e9 | e9 | e9 | e9
      · rw [e9] at hcell
        exact W.aald (v := mv cst b (.ref (h_r h a j.toNatClampNeg))) (ty := .object RX6) hx hb hcell ((hks.1.2 4 _ rfl).1 _ _) rfl (fun q => by cases q) (m_inA hin) (by rw [arrV_read _ _ (m_inS hin).2]; rfl) rfl rfl hd K
      · rw [e9] at hcell
        exact W.aald (v := mv cst b (.ref (h_r h a j.toNatClampNeg))) (ty := .object RX3) hx hb hcell ((hks.1.2 5 _ rfl).1 _ _) rfl (fun q => by cases q) (m_inA hin) (by rw [arrV_read _ _ (m_inS hin).2]; rfl) rfl rfl hd K
      · rw [e9] at hcell
        exact W.aald (v := mv cst b (.ref (h_r h a j.toNatClampNeg))) (ty := .object RX0) hx hb hcell ((hks.1.2 6 _ rfl).1 _ _) rfl (fun q => by cases q) (m_inA hin) (by rw [arrV_read _ _ (m_inS hin).2]; rfl) rfl rfl hd K
      · rw [e9] at hcell
        exact W.aald (v := mv cst b (.ref (h_r h a j.toNatClampNeg))) (ty := .array .int) hx hb hcell ((hks.1.2 7 _ rfl).1 _ _) rfl (fun q => by cases q) (m_inA hin) (by rw [arrV_read _ _ (m_inS hin).2]; rfl) rfl rfl hd K
    · cases hs
  · cases hs
theorem z_isarr (hks : KS D tA cst s) {k n : Nat} {f : Nat → Value} (h : m_okk k = true) : ∃ ty, s.isArrayOf (arrV (tA k) n f) ty := by
  rcases m_okk_or h with e9 | e9 | e9 | e9 | e9 | e9 | e9 | e9 <;> subst e9
  · exact ⟨_, (hks.1.2 0 _ rfl).1 _ _⟩
  · exact ⟨_, (hks.1.2 1 _ rfl).1 _ _⟩
  · exact ⟨_, (hks.1.2 2 _ rfl).1 _ _⟩
  · exact ⟨_, (hks.1.2 3 _ rfl).1 _ _⟩
  · exact ⟨_, (hks.1.2 4 _ rfl).1 _ _⟩
  · exact ⟨_, (hks.1.2 5 _ rfl).1 _ _⟩
  · exact ⟨_, (hks.1.2 6 _ rfl).1 _ _⟩
  · exact ⟨_, (hks.1.2 7 _ rfl).1 _ _⟩
theorem z_alen (C : SC p s m args meth c R i D tA cst b) (hR : HR D tA cst b s h H) (hl : lv_has ls (m_lc i) (ml cst b lv)) (hd : decode (m_m i).2.2.1 pc = .ok (.arraylength, 1)) (hs : e_alen pc lv st h = some (.inl S)) : PS p l e R s m args below meth c H locs cells slots Q i cst b h pc ls st S := by
  obtain ⟨hx, hb, hml, hown, hts, hlocks, hini, hfr, hlo9, hks, hc, hr⟩ := C
  unfold e_alen at hs
  split at hs
  · next a r =>
    split at hs
    · next hk =>
      cases hs
      refine ⟨rfl, fun K => ?_⟩
      have K := K ls hl
      show W p l e R s m args below meth c H locs cells slots Q (F0 m pc ls (mv cst b (.ref a) :: r.map (mv cst b)))
      rcases (Nat.lt_or_ge a 16).symm with ha | ha
      · obtain ⟨ho, hcell, -⟩ := hR.arr ha (by omega)
        obtain ⟨ty, hty⟩ := z_isarr hks ho
        rw [mv_dyn ha]
        exact W.alen (n := Int32.ofNat (h_k h a).2) hx hb hcell hty (by rw [arrV_size]) rfl rfl hd K
      · have hq := hR.2.2.2.1 a (by omega)
        have ha0 : a ≠ 0 := by
          intro e9
          rw [e9] at hk
          have := hR.2.2.2.2.2
          omega
        rw [mv_cst ha0 (by omega)]
        unfold m_cst at hq
        split at hq
        · omega
        · obtain ⟨r9, cell, q1, q2, q3, q4, q5, q6, q7, q8⟩ := hq
          rw [q1]
          exact W.alen (n := Int32.ofNat (h_k h a).2) hx hb q3 q4 q7 rfl rfl hd K
        · obtain ⟨r9, cell, q1, q2, q3, q4, q5, q6, q7, q8⟩ := hq
          rw [q1]
          exact W.alen (n := Int32.ofNat (h_k h a).2) hx hb q3 q4 q7 rfl rfl hd K
        · omega
        · exact hq.elim
    · cases hs
  · cases hs
-- behind a store into a row
theorem z_st {a j : Nat} {v : Value} {h' : MH} {H' : Heap} (hR : HR D tA cst b s h H) (ha : 16 ≤ a) (hk : 20 ≤ (h_k h a).1) (e1 : H'[b + (a - 16)]? = some ((arrV (tA (h_k h a).1) (h_k h a).2 (m_av cst b h a (h_k h a).1)).setSlot j v)) (e2 : H'.size = H.size) (e3 : ∀ q, q ≠ b + (a - 16) → H'[q]? = H[q]?)
    (hn : h_n h' = h_n h) (hkk : h_k h' = h_k h) (ho : ∀ x, x ≠ a → h_i h' x = h_i h x ∧ h_l h' x = h_l h x ∧ h_r h' x = h_r h x) (hv : ∀ z, updV (m_av cst b h a (h_k h a).1) j v z = m_av cst b h' a (h_k h a).1 z) (hf : (h_k h a).1 = 21 → ∀ z, fits .byte (.int (h_i h' a z)) = true) : HR D tA cst b s h' H' := by
  obtain ⟨ho9, -, -⟩ := hR.arr ha hk
  refine hR.upd ha hn hkk ho e2 e3 (Or.inr ⟨by rw [hkk]; exact ho9, ?_, by rw [hkk]; exact hf⟩)
  rw [hkk, e1, arrV_store, show updV (m_av cst b h a (h_k h a).1) j v = m_av cst b h' a (h_k h a).1 from funext hv]
theorem z_iast (C : SC p s m args meth c R i D tA cst b) (hR : HR D tA cst b s h H) (hlo : ∀ q ∈ locs, b ≤ q.base) (hl : lv_has ls (m_lc i) (ml cst b lv)) (hd : decode (m_m i).2.2.1 pc = .ok (.iastore, 1)) (hs : e_iast pc lv st h = some (.inl S)) : HS p l e R s m args below meth c H locs cells slots Q i D tA cst b h pc ls st S := by
  obtain ⟨hx, hb, hml, hown, hts, hlocks, hini, hfr, hlo9, hks, hc, hr⟩ := C
  unfold e_iast at hs
  split at hs
  · next x j a r =>
    split at hs
    · next hk =>
      obtain ⟨ha, hk, hin⟩ := hk
      cases hs
      refine ⟨⟨rfl, rfl⟩, fun K => ?_⟩
      show W p l e R s m args below meth c H locs cells slots Q (F0 m pc ls (.int x :: .int j :: mv cst b (.ref a) :: r.map (mv cst b)))
      obtain ⟨-, hcell, -⟩ := hR.arr ha (by omega)
      rw [mv_dyn ha]
      refine W.iast hx hb hcell (by rw [hk]; exact (hks.1.2 0 _ rfl).1 _ _) (fun q => by cases q) (m_inA hin) rfl rfl hd (fun H' e1 e2 e3 => ?_)
      refine K H' _ ls (z_st hR ha (by omega) e1 e2 e3 rfl rfl (fun y hy => ⟨if_neg hy, rfl, rfl⟩) (fun z => ?_) (fun q => by omega)) (z_loc hlo (Nat.le_add_right b _)) hl
      rw [hk]
      unfold updV m_av h_si h_i
      by_cases e9 : z = j.toNatClampNeg
      · simp [e9, m_u]
      · simp [e9, m_u]
    · cases hs
  · cases hs
theorem z_last (C : SC p s m args meth c R i D tA cst b) (hR : HR D tA cst b s h H) (hlo : ∀ q ∈ locs, b ≤ q.base) (hl : lv_has ls (m_lc i) (ml cst b lv)) (hd : decode (m_m i).2.2.1 pc = .ok (.lastore, 1)) (hs : e_last pc lv st h = some (.inl S)) : HS p l e R s m args below meth c H locs cells slots Q i D tA cst b h pc ls st S := by
  obtain ⟨hx, hb, hml, hown, hts, hlocks, hini, hfr, hlo9, hks, hc, hr⟩ := C
  unfold e_last at hs
  split at hs
  · next x j a r =>
    split at hs
    · next hk =>
      obtain ⟨ha, hk, hin⟩ := hk
      cases hs
      refine ⟨⟨rfl, rfl⟩, fun K => ?_⟩
      show W p l e R s m args below meth c H locs cells slots Q (F0 m pc ls (.long x :: .int j :: mv cst b (.ref a) :: r.map (mv cst b)))
      obtain ⟨-, hcell, -⟩ := hR.arr ha (by omega)
      rw [mv_dyn ha]
      refine W.last hx hb hcell (by rw [hk]; exact (hks.1.2 3 _ rfl).1 _ _) (fun q => by cases q) (m_inA hin) rfl rfl hd (fun H' e1 e2 e3 => ?_)
      refine K H' _ ls (z_st hR ha (by omega) e1 e2 e3 rfl rfl (fun y hy => ⟨rfl, if_neg hy, rfl⟩) (fun z => ?_) (fun q => by omega)) (z_loc hlo (Nat.le_add_right b _)) hl
      rw [hk]
      unfold updV m_av h_sl h_l
      by_cases e9 : z = j.toNatClampNeg
      · simp [e9, m_u]
      · simp [e9, m_u]
    · cases hs
  · cases hs
theorem z_fitb (x : Int32) : fits .byte (.int x.toInt8.toInt32) = true := pk_fb x
theorem z_bast (C : SC p s m args meth c R i D tA cst b) (hR : HR D tA cst b s h H) (hlo : ∀ q ∈ locs, b ≤ q.base) (hl : lv_has ls (m_lc i) (ml cst b lv)) (hd : decode (m_m i).2.2.1 pc = .ok (.bastore, 1)) (hs : e_bast pc lv st h = some (.inl S)) : HS p l e R s m args below meth c H locs cells slots Q i D tA cst b h pc ls st S := by
  obtain ⟨hx, hb, hml, hown, hts, hlocks, hini, hfr, hlo9, hks, hc, hr⟩ := C
  unfold e_bast at hs
  split at hs
  · next x j a r =>
    split at hs
    · next hk =>
      obtain ⟨ha, hk, hin⟩ := hk
      cases hs
      refine ⟨⟨rfl, rfl⟩, fun K => ?_⟩
      show W p l e R s m args below meth c H locs cells slots Q (F0 m pc ls (.int x :: .int j :: mv cst b (.ref a) :: r.map (mv cst b)))
      obtain ⟨-, hcell, hfit⟩ := hR.arr ha (by omega)
      rw [mv_dyn ha]
      refine W.bast hx hb hcell (by rw [hk]; exact (hks.1.2 1 _ rfl).1 _ _) (fun q => by cases q) (m_inA hin) rfl rfl hd (fun H' e1 e2 e3 => ?_)
      refine K H' _ ls (z_st hR ha (by omega) e1 e2 e3 rfl rfl (fun y hy => ⟨if_neg hy, rfl, rfl⟩) (fun z => ?_) (fun _ z => ?_)) (z_loc hlo (Nat.le_add_right b _)) hl
      · rw [hk, narrow_byte]
        unfold updV m_av h_si h_i
        by_cases e9 : z = j.toNatClampNeg
        · simp [e9, m_u]
        · simp [e9, m_u]
      · have h7 := hfit hk z
        unfold h_si h_i at *
        by_cases e9 : z = j.toNatClampNeg
        · simp only [m_u, e9, if_true]
          exact z_fitb x
        · simpa [m_u, e9] using h7
    · split at hs
      · next hk =>
        obtain ⟨ha, hk, hin⟩ := hk
        cases hs
        refine ⟨⟨rfl, rfl⟩, fun K => ?_⟩
        show W p l e R s m args below meth c H locs cells slots Q (F0 m pc ls (.int x :: .int j :: mv cst b (.ref a) :: r.map (mv cst b)))
        obtain ⟨-, hcell, -⟩ := hR.arr ha (by omega)
        rw [mv_dyn ha]
        refine W.zast hx hb hcell (by rw [hk]; exact (hks.1.2 2 _ rfl).1 _ _) (fun q => by cases q) (m_inA hin) rfl rfl hd (fun H' e1 e2 e3 => ?_)
        refine K H' _ ls (z_st hR ha (by omega) e1 e2 e3 rfl rfl (fun y hy => ⟨if_neg hy, rfl, rfl⟩) (fun z => ?_) (fun q => by omega)) (z_loc hlo (Nat.le_add_right b _)) hl
        rw [hk]
        unfold updV m_av h_si h_i
        by_cases e9 : z = j.toNatClampNeg
        · simp [e9, m_u, narrow]
        · simp [e9, m_u]
      · cases hs
  · cases hs
theorem z_objc {x : Nat} {ci : Nat} {r : vw_C} (hks : KS D tA cst s) (hR : HR D tA cst b s h H) (hk : (h_k h x).1 = ci + 1) (hc : ci < 10) (hq : m_cl[ci]? = some r) : ∃ (cv : Cell) (kC : Class), H[b + (x - 16)]? = some cv ∧ (∀ q, cv.vm ≠ .statics q) ∧ s.vm.classes[cv.cls]? = some kC ∧ s.vm.assignable cv.cls (D.1 ci) = true ∧ s.vm.classes[D.1 ci]? = some kC ∧ s.vm.findClass r.1 = some cv.cls ∧ cv.vm.isStatics = false := by
  obtain ⟨ha, cell, g1, g2, g3, -⟩ := hR.obj hk hc
  have hcls := (hks.1.1 ci r hq).2
  obtain ⟨kC, hkC, -⟩ := hcls.2
  exact ⟨cell, kC, g1, (fun q h => by rw [g3] at h; cases h), (by rw [g2]; exact hkC), (by rw [g2]; exact va_assign hcls), hkC, (by rw [g2]; exact hcls.1), (by rw [g3]; rfl)⟩
theorem z_aast (C : SC p s m args meth c R i D tA cst b) (hR : HR D tA cst b s h H) (hlo : ∀ q ∈ locs, b ≤ q.base) (hl : lv_has ls (m_lc i) (ml cst b lv)) (hd : decode (m_m i).2.2.1 pc = .ok (.aastore, 1)) (hs : e_aast pc lv st h = some (.inl S)) : HS p l e R s m args below meth c H locs cells slots Q i D tA cst b h pc ls st S := by
  obtain ⟨hx, hb, hml, hown, hts, hlocks, hini, hfr, hlo9, hks, hc, hr⟩ := C
  unfold e_aast at hs
  split at hs
  · next x j a r =>
    split at hs
    · next hk =>
      obtain ⟨ha, hk, hin, hx16, hkx⟩ := hk
      cases hs
      refine ⟨⟨rfl, rfl⟩, fun K => ?_⟩
      show W p l e R s m args below meth c H locs cells slots Q (F0 m pc ls (mv cst b (.ref x) :: .int j :: mv cst b (.ref a) :: r.map (mv cst b)))
      obtain ⟨-, hcell, -⟩ := hR.arr ha (by omega)
      rw [mv_dyn ha, mv_dyn hx16]
      have key : ∀ (t0 ci : Nat) (C9 : String) (r9 : vw_C), (m_tys tA)[t0]? = some (tA (h_k h a).1, .object C9) → m_cl[ci]? = some r9 → r9.1 = C9 → (h_k h x).1 = ci + 1 → ci < 10 → W p l e R s m args below meth c H locs cells slots Q (F0 m pc ls (.ref (b + (x - 16)) :: .int j :: .ref (b + (a - 16)) :: r.map (mv cst b))) := by
        intro t0 ci C9 r9 ht0 hq hr9 hkc hc10
        obtain ⟨cv, kC, g1, g2, g3, g4, g5, g6, -⟩ := z_objc hks hR hkc hc10 hq
        obtain ⟨kA, comp, k1, k2, k3, -⟩ := (hks.1.2 t0 _ ht0).2
        have hcomp : comp = D.1 ci := by
          have h7 := (hks.1.1 ci r9 hq).2.1
          rw [hr9] at h7
          exact Option.some.inj (k3.symm.trans h7)
        subst hcomp
        refine W.aast hx hb hcell (fun q h => by cases h) (fun h => by cases h) k1 k2 rfl g5 ⟨(m_inS hin).1, by rw [arrV_size]; exact (m_inS hin).2⟩ g1 g2 g3 g4 rfl rfl hd (fun H' e1 e2 e3 => ?_)
        refine K H' _ ls (z_st hR ha (by omega) e1 e2 e3 rfl rfl (fun y hy => ⟨rfl, rfl, if_neg hy⟩) (fun z => ?_) (fun q => by omega)) (z_loc hlo (Nat.le_add_right b _)) hl
        have n1 : ¬ (h_k h a).1 < 25 := by omega
        have n2 : ¬ (h_k h a).1 = 25 := by omega
        unfold updV m_av h_sr h_r
        by_cases e9 : z = j.toNatClampNeg
        · simp only [e9, m_u, n1, n2, if_true, if_false]
          exact (mv_dyn hx16).symm
        · simp [e9, m_u, n1, n2]
      have hk4 : (h_k h a).1 = 30 ∨ (h_k h a).1 = 31 ∨ (h_k h a).1 = 32 := by omega
      rcases hk4 with e9 | e9 | e9
      · rw [e9] at hkx
        exact key 4 6 RX6 (RX6, TX6, 6) (by rw [e9]; rfl) rfl rfl hkx (by omega)
      · rw [e9] at hkx
        exact key 5 3 RX3 (RX3, TX3, 14) (by rw [e9]; rfl) rfl rfl hkx (by omega)
      · rw [e9] at hkx
        exact key 6 0 RX0 (RX0, TX0, 3) (by rw [e9]; rfl) rfl rfl hkx (by omega)
    · cases hs
  · cases hs
end SIMH
end
section
-- statics and String constants, by their entries
theorem m_KSF : ∀ (k : Nat) (o : String) (l : List (Nat × Nat)), m_own[k]? = some o → m_sfl[k]? = some l → ∀ e ∈ l, (o = "PastHeaps$Reader" ∧ e = (70, 2)) ∨ (o = "java/lang/String" ∧ e = (38, 1)) ∨ (o = "java/lang/String" ∧ e = (1053, 3))
  | 0, _, _, h1, h2 => by cases h1; cases h2; decide +kernel
  | 1, _, _, h1, h2 => by cases h1; cases h2; decide +kernel
  | 2, _, _, h1, h2 => by cases h1; cases h2; decide +kernel
  | 3, _, _, h1, h2 => by cases h1; cases h2; decide +kernel
  | 4, _, _, h1, h2 => by cases h1; cases h2; decide +kernel
  | 5, _, _, h1, h2 => by cases h1; cases h2; decide +kernel
  | 6, _, _, h1, h2 => by cases h1; cases h2; decide +kernel
  | 7, _, _, h1, h2 => by cases h1; cases h2; decide +kernel
  | 8, _, _, h1, h2 => by cases h1; cases h2; decide +kernel
  | 9, _, _, h1, h2 => by cases h1; cases h2; decide +kernel
  | 10, _, _, h1, h2 => by cases h1; cases h2; decide +kernel
  | 11, _, _, h1, h2 => by cases h1; cases h2; decide +kernel
  | 12, _, _, h1, h2 => by cases h1; cases h2; decide +kernel
  | 13, _, _, h1, h2 => by cases h1; cases h2; decide +kernel
  | 14, _, _, h1, h2 => by cases h1; cases h2; decide +kernel
  | 15, _, _, h1, h2 => by cases h1; cases h2; decide +kernel
  | 16, _, _, h1, h2 => by cases h1; cases h2; decide +kernel
  | 17, _, _, h1, h2 => by cases h1; cases h2; decide +kernel
  | 18, _, _, h1, h2 => by cases h1; cases h2; decide +kernel
  | k + 19, _, _, h1, h2 => by simp [m_own] at h1
theorem m_KSS : ∀ (k : Nat) (o : String) (l : List (Nat × Nat)), m_own[k]? = some o → m_sck[k]? = some l → ∀ e ∈ l, ∃ k, k < m_strs.length ∧ e.2 = 2 + k ∧ (m_strs.map (fun q => (q.1, q.2.1)))[k]? = some (o, e.1)
  | 0, _, _, h1, h2 => by cases h1; cases h2; decide +kernel
  | 1, _, _, h1, h2 => by cases h1; cases h2; decide +kernel
  | 2, _, _, h1, h2 => by cases h1; cases h2; decide +kernel
  | 3, _, _, h1, h2 => by cases h1; cases h2; decide +kernel
  | 4, _, _, h1, h2 => by cases h1; cases h2; decide +kernel
  | 5, _, _, h1, h2 => by cases h1; cases h2; decide +kernel
  | 6, _, _, h1, h2 => by cases h1; cases h2; decide +kernel
  | 7, _, _, h1, h2 => by cases h1; cases h2; decide +kernel
  | 8, _, _, h1, h2 => by cases h1; cases h2; decide +kernel
  | 9, _, _, h1, h2 => by cases h1; cases h2; decide +kernel
  | 10, _, _, h1, h2 => by cases h1; cases h2; decide +kernel
  | 11, _, _, h1, h2 => by cases h1; cases h2; decide +kernel
  | 12, _, _, h1, h2 => by cases h1; cases h2; decide +kernel
  | 13, _, _, h1, h2 => by cases h1; cases h2; decide +kernel
  | 14, _, _, h1, h2 => by cases h1; cases h2; decide +kernel
  | 15, _, _, h1, h2 => by cases h1; cases h2; decide +kernel
  | 16, _, _, h1, h2 => by cases h1; cases h2; decide +kernel
  | 17, _, _, h1, h2 => by cases h1; cases h2; decide +kernel
  | 18, _, _, h1, h2 => by cases h1; cases h2; decide +kernel
  | k + 19, _, _, h1, h2 => by simp [m_own] at h1
theorem m_ksf1 : Cond.fieldLink "java/lang/String" 38 "java/lang/String" "COMPACT_STRINGS" "Z" ∈ lw_tbl := List.mem_of_getElem? (i := 383) (by decide +kernel)
def m_sfi1 : String × Nat := ("java/lang/String", 38)
theorem m_ksf2 : Cond.fieldLinkNest "PastHeaps$Reader" 70 "PastHeaps" "LIMITS" "[I" "PastHeaps" ∈ lw_tbl := List.mem_of_getElem? (i := 448) (by decide +kernel)
def m_sfi2 : String × Nat := ("PastHeaps$Reader", 70)
theorem m_ksf3 : Cond.fieldLink "java/lang/String" 1053 "jdk/internal/util/Preconditions" "SIOOBE_FORMATTER" "Ljava/util/function/BiFunction;" ∈ lw_tbl := List.mem_of_getElem? (i := 399) (by decide +kernel)
def m_sfi3 : String × Nat := ("java/lang/String", 1053)
theorem m_kjmin : (m_name m_jmin = Lib.Math.min.name ∧ m_jmin ≠ 900 ∧ m_jmin ≠ 901) ∧ Cond.static Lib.Math.min.name ∈ lw_tbl ∧ Cond.initialized "java/lang/Math" ∈ lw_tbl := ⟨by decide +kernel, List.mem_of_getElem? (i := 341) (by decide +kernel), List.mem_of_getElem? (i := 112) (by decide +kernel)⟩
set_option maxRecDepth 100000 in
theorem m_kcmin : Cond.code Lib.Math.min.name Lib.Math.min.code 2 (some .int) ∈ lw_tbl := List.mem_of_getElem? (i := 342) rfl
theorem m_kjmax : (m_name m_jmax = Lib.Math.max.name ∧ m_jmax ≠ 900 ∧ m_jmax ≠ 901) ∧ Cond.static Lib.Math.max.name ∈ lw_tbl ∧ Cond.initialized "java/lang/Math" ∈ lw_tbl := ⟨by decide +kernel, List.mem_of_getElem? (i := 589) (by decide +kernel), List.mem_of_getElem? (i := 112) (by decide +kernel)⟩
set_option maxRecDepth 100000 in
theorem m_kcmax : Cond.code Lib.Math.max.name Lib.Math.max.code 2 (some .int) ∈ lw_tbl := List.mem_of_getElem? (i := 590) rfl
theorem m_kjmaxl : (m_name m_jmaxl = Lib.MathLoose.max_long.x ∧ m_jmaxl ≠ 900 ∧ m_jmaxl ≠ 901) ∧ Cond.static Lib.MathLoose.max_long.x ∈ lw_tbl ∧ Cond.initialized "java/lang/Math" ∈ lw_tbl := ⟨by decide +kernel, List.mem_of_getElem? (i := 984) (by decide +kernel), List.mem_of_getElem? (i := 112) (by decide +kernel)⟩
set_option maxRecDepth 100000 in
theorem m_kcmaxl : Cond.code Lib.MathLoose.max_long.x Lib.MathLoose.max_long.code 4 (some .long) ∈ lw_tbl := List.mem_of_getElem? (i := 985) rfl
theorem m_kjminl : (m_name m_jminl = Lib.MathLoose.min_long.x ∧ m_jminl ≠ 900 ∧ m_jminl ≠ 901) ∧ Cond.static Lib.MathLoose.min_long.x ∈ lw_tbl ∧ Cond.initialized "java/lang/Math" ∈ lw_tbl := ⟨by decide +kernel, List.mem_of_getElem? (i := 987) (by decide +kernel), List.mem_of_getElem? (i := 112) (by decide +kernel)⟩
set_option maxRecDepth 100000 in
theorem m_kcminl : Cond.code Lib.MathLoose.min_long.x Lib.MathLoose.min_long.code 4 (some .long) ∈ lw_tbl := List.mem_of_getElem? (i := 988) rfl
theorem m_mem1 {j : Nat} (h0 : 0 < j) (h : j < 292) : m_m j ∈ m_meths_0.drop 1 ++ (m_meths_1 ++ (m_meths_2 ++ (m_meths_3 ++ (m_meths_4 ++ (m_meths_5 ++ (m_meths_6 ++ (m_meths_7 ++ (m_meths_8 ++ (m_meths_9 ++ (m_meths_10 ++ (m_meths_11 ++ (m_meths_12)))))))))))) := by
  have hl : m_meths.length = 292 := by decide +kernel
  have e9 : m_meths.drop 1 = m_meths_0.drop 1 ++ (m_meths_1 ++ (m_meths_2 ++ (m_meths_3 ++ (m_meths_4 ++ (m_meths_5 ++ (m_meths_6 ++ (m_meths_7 ++ (m_meths_8 ++ (m_meths_9 ++ (m_meths_10 ++ (m_meths_11 ++ (m_meths_12)))))))))))) := rfl
  rw [← e9]
  refine List.mem_of_getElem? (i := j - 1) ?_
  rw [List.getElem?_drop, show 1 + (j - 1) = j by omega]
  unfold m_m
  rw [List.getD_eq_getElem?_getD, List.getElem?_eq_getElem (by omega)]
  rfl
theorem m_KC (j : Nat) (h0 : 0 < j) (h : j < 292) : m_cw (m_m j) ∈ lw_tbl := (show ∀ q ∈ m_meths_0.drop 1 ++ (m_meths_1 ++ (m_meths_2 ++ (m_meths_3 ++ (m_meths_4 ++ (m_meths_5 ++ (m_meths_6 ++ (m_meths_7 ++ (m_meths_8 ++ (m_meths_9 ++ (m_meths_10 ++ (m_meths_11 ++ (m_meths_12)))))))))))), m_cw q ∈ lw_tbl from (fun q h => (List.mem_append.mp h).elim ((fun q hq => m_kc0 _ (List.mem_map.mpr ⟨q, hq, rfl⟩)) q) ((fun q h => (List.mem_append.mp h).elim ((fun q hq => m_kc1 _ (List.mem_map.mpr ⟨q, hq, rfl⟩)) q) ((fun q h => (List.mem_append.mp h).elim ((fun q hq => m_kc2 _ (List.mem_map.mpr ⟨q, hq, rfl⟩)) q) ((fun q h => (List.mem_append.mp h).elim ((fun q hq => m_kc3 _ (List.mem_map.mpr ⟨q, hq, rfl⟩)) q) ((fun q h => (List.mem_append.mp h).elim ((fun q hq => m_kc4 _ (List.mem_map.mpr ⟨q, hq, rfl⟩)) q) ((fun q h => (List.mem_append.mp h).elim ((fun q hq => m_kc5 _ (List.mem_map.mpr ⟨q, hq, rfl⟩)) q) ((fun q h => (List.mem_append.mp h).elim ((fun q hq => m_kc6 _ (List.mem_map.mpr ⟨q, hq, rfl⟩)) q) ((fun q h => (List.mem_append.mp h).elim ((fun q hq => m_kc7 _ (List.mem_map.mpr ⟨q, hq, rfl⟩)) q) ((fun q h => (List.mem_append.mp h).elim ((fun q hq => m_kc8 _ (List.mem_map.mpr ⟨q, hq, rfl⟩)) q) ((fun q h => (List.mem_append.mp h).elim ((fun q hq => m_kc9 _ (List.mem_map.mpr ⟨q, hq, rfl⟩)) q) ((fun q h => (List.mem_append.mp h).elim ((fun q hq => m_kc10 _ (List.mem_map.mpr ⟨q, hq, rfl⟩)) q) ((fun q h => (List.mem_append.mp h).elim ((fun q hq => m_kc11 _ (List.mem_map.mpr ⟨q, hq, rfl⟩)) q) ((fun q hq => m_kc12 _ (List.mem_map.mpr ⟨q, hq, rfl⟩)) q)) q)) q)) q)) q)) q)) q)) q)) q)) q)) q)) q))) _ (m_mem1 h0 h)
theorem m_KW (j : Nat) (h0 : 0 < j) (h : j < 292) : ∀ w ∈ m_kw (m_m j), w ∈ lw_tbl := (show ∀ q ∈ m_meths_0.drop 1 ++ (m_meths_1 ++ (m_meths_2 ++ (m_meths_3 ++ (m_meths_4 ++ (m_meths_5 ++ (m_meths_6 ++ (m_meths_7 ++ (m_meths_8 ++ (m_meths_9 ++ (m_meths_10 ++ (m_meths_11 ++ (m_meths_12)))))))))))), ∀ w ∈ m_kw q, w ∈ lw_tbl from (fun q h => (List.mem_append.mp h).elim ((fun (q : m_M) (hq : q ∈ m_meths_0.drop 1) (w : Cond) (hw : w ∈ m_kw q) => m_kw0 w (List.mem_flatMap.mpr ⟨q, hq, hw⟩)) q) ((fun q h => (List.mem_append.mp h).elim ((fun (q : m_M) (hq : q ∈ m_meths_1) (w : Cond) (hw : w ∈ m_kw q) => m_kw1 w (List.mem_flatMap.mpr ⟨q, hq, hw⟩)) q) ((fun q h => (List.mem_append.mp h).elim ((fun (q : m_M) (hq : q ∈ m_meths_2) (w : Cond) (hw : w ∈ m_kw q) => m_kw2 w (List.mem_flatMap.mpr ⟨q, hq, hw⟩)) q) ((fun q h => (List.mem_append.mp h).elim ((fun (q : m_M) (hq : q ∈ m_meths_3) (w : Cond) (hw : w ∈ m_kw q) => m_kw3 w (List.mem_flatMap.mpr ⟨q, hq, hw⟩)) q) ((fun q h => (List.mem_append.mp h).elim ((fun (q : m_M) (hq : q ∈ m_meths_4) (w : Cond) (hw : w ∈ m_kw q) => m_kw4 w (List.mem_flatMap.mpr ⟨q, hq, hw⟩)) q) ((fun q h => (List.mem_append.mp h).elim ((fun (q : m_M) (hq : q ∈ m_meths_5) (w : Cond) (hw : w ∈ m_kw q) => m_kw5 w (List.mem_flatMap.mpr ⟨q, hq, hw⟩)) q) ((fun q h => (List.mem_append.mp h).elim ((fun (q : m_M) (hq : q ∈ m_meths_6) (w : Cond) (hw : w ∈ m_kw q) => m_kw6 w (List.mem_flatMap.mpr ⟨q, hq, hw⟩)) q) ((fun q h => (List.mem_append.mp h).elim ((fun (q : m_M) (hq : q ∈ m_meths_7) (w : Cond) (hw : w ∈ m_kw q) => m_kw7 w (List.mem_flatMap.mpr ⟨q, hq, hw⟩)) q) ((fun q h => (List.mem_append.mp h).elim ((fun (q : m_M) (hq : q ∈ m_meths_8) (w : Cond) (hw : w ∈ m_kw q) => m_kw8 w (List.mem_flatMap.mpr ⟨q, hq, hw⟩)) q) ((fun q h => (List.mem_append.mp h).elim ((fun (q : m_M) (hq : q ∈ m_meths_9) (w : Cond) (hw : w ∈ m_kw q) => m_kw9 w (List.mem_flatMap.mpr ⟨q, hq, hw⟩)) q) ((fun q h => (List.mem_append.mp h).elim ((fun (q : m_M) (hq : q ∈ m_meths_10) (w : Cond) (hw : w ∈ m_kw q) => m_kw10 w (List.mem_flatMap.mpr ⟨q, hq, hw⟩)) q) ((fun q h => (List.mem_append.mp h).elim ((fun (q : m_M) (hq : q ∈ m_meths_11) (w : Cond) (hw : w ∈ m_kw q) => m_kw11 w (List.mem_flatMap.mpr ⟨q, hq, hw⟩)) q) ((fun (q : m_M) (hq : q ∈ m_meths_12) (w : Cond) (hw : w ∈ m_kw q) => m_kw12 w (List.mem_flatMap.mpr ⟨q, hq, hw⟩)) q)) q)) q)) q)) q)) q)) q)) q)) q)) q)) q)) q))) _ (m_mem1 h0 h)
theorem m_nameq {j : Nat} (h : j < 292) (h1 : ¬ j = 900) (h2 : ¬ j = 901) : m_name j = (m_m j).2.1 := by
  have hl : m_meths.length = 292 := by decide +kernel
  unfold m_name m_m
  rw [if_neg h1, if_neg h2, List.getD_eq_getElem?_getD, List.getElem?_eq_getElem (by omega)]
  rfl
end
section
-- WHAT MAKES CELLS, COPIES, READS WHAT STANDS STILL
section SIMN
variable {p : Program} {l : Launch} {e : Env} {R : Room} {s : State} {m : MethodId} {args : Array Value} {below : List Frame} {meth : Method} {c : Code} {Q : State → Prop} {i : Nat} {D : va_G} {tA : Nat → ClassId} {cst : Nat → Value} {b : Nat}
variable {H : Heap} {locs : List Loc} {cells slots : Nat} {pc : Nat} {ls : Array Slot} {lv : List (Nat × Value)} {st : List Value} {h : MH} {S : MS}
-- what any step owes
def GS (p : Program) (l : Launch) (e : Env) (R : Room) (s : State) (m : MethodId) (args : Array Value) (below : List Frame) (meth : Method) (c : Code) (H : Heap) (locs : List Loc) (cells slots : Nat) (Q : State → Prop) (i : Nat) (D : va_G) (tA : Nat → ClassId) (cst : Nat → Value) (b : Nat) (h : MH) (pc : Nat) (ls : Array Slot) (st : List Value) (S : MS) : Prop :=
  (h_n h ≤ h_n S.2.2.2 ∧ h_z h ≤ h_z S.2.2.2) ∧ (cells + (h_n S.2.2.2 - h_n h) ≤ R.cells → slots + (h_z S.2.2.2 - h_z h) ≤ R.slots → (∀ H' locs' ls', HR D tA cst b s S.2.2.2 H' → (∀ q ∈ locs', b ≤ q.base) → lv_has ls' (m_lc i) (ml cst b S.2.1) → W p l e R s m args below meth c H' locs' (cells + (h_n S.2.2.2 - h_n h)) (slots + (h_z S.2.2.2 - h_z h)) Q (F0 m S.1 ls' (S.2.2.1.map (mv cst b)))) → W p l e R s m args below meth c H locs cells slots Q (F0 m pc ls (st.map (mv cst b))))
theorem PS.gs (hR : HR D tA cst b s h H) (hlo : ∀ q ∈ locs, b ≤ q.base) (q : PS p l e R s m args below meth c H locs cells slots Q i cst b h pc ls st S) : GS p l e R s m args below meth c H locs cells slots Q i D tA cst b h pc ls st S := by
  obtain ⟨q1, q2⟩ := q
  unfold GS
  rw [q1]
  refine ⟨⟨Nat.le_refl _, Nat.le_refl _⟩, fun _ _ K => q2 fun ls' hl' => ?_⟩
  have := K H locs ls' hR hlo hl'
  rw [Nat.sub_self, Nat.sub_self] at this
  exact this
theorem HS.gs (q : HS p l e R s m args below meth c H locs cells slots Q i D tA cst b h pc ls st S) : GS p l e R s m args below meth c H locs cells slots Q i D tA cst b h pc ls st S := by
  obtain ⟨⟨q1, q3⟩, q2⟩ := q
  unfold GS
  rw [q1, q3]
  refine ⟨⟨Nat.le_refl _, Nat.le_refl _⟩, fun _ _ K => q2 fun H' locs' ls' a1 a2 a3 => ?_⟩
  have := K H' locs' ls' a1 a2 a3
  rw [Nat.sub_self, Nat.sub_self] at this
  exact this
theorem z_grow {k len sz : Nat} {H' : Heap} (hR : HR D tA cst b s h H) (hz : H'.size = H.size + 1) (ho : ∀ x, x < H.size → H'[x]? = H[x]?) (hc : m_cell D tA cst b (h_new h k len sz) (16 + h_n h) H') : HR D tA cst b s (h_new h k len sz) H' := by
  refine hR.grow 1 rfl (fun x hx => ?_) (fun x hx => ?_) hz ho (fun x h1 h2 => ?_)
  · have h9 : h_n (h_new h k len sz) = h_n h + 1 := rfl
    exact if_neg (show ¬ x = 16 + h.1.1 from fun q => by
      have : h_n h = h.1.1 := rfl
      omega)
  · have h9 : ¬ x = 16 + h.1.1 := fun q => by
      have : h_n h = h.1.1 := rfl
      omega
    exact ⟨if_neg h9, if_neg h9, if_neg h9⟩
  · have h9 : h_n (h_new h k len sz) = h_n h + 1 := rfl
    have e9 : x = 16 + h_n h := by omega
    rw [e9]
    exact hc
theorem z_newk {k len sz : Nat} : h_k (h_new h k len sz) (16 + h_n h) = (k, len) := if_pos rfl
theorem z_newi {k len sz : Nat} : h_i (h_new h k len sz) (16 + h_n h) = fun _ => 0 := if_pos rfl
theorem z_newl {k len sz : Nat} : h_l (h_new h k len sz) (16 + h_n h) = fun _ => 0 := if_pos rfl
theorem z_newr {k len sz : Nat} : h_r (h_new h k len sz) (16 + h_n h) = fun _ => 0 := if_pos rfl
theorem z_newrow {k len sz : Nat} {H' : Heap} {cA : ClassId} {v : Value} (hR : HR D tA cst b s h H) (hk : m_okk k = true) (hcA : cA = tA k) (hv : v = if k < 25 then .int 0 else if k = 25 then .long 0 else .null) (e1 : H'[H.size]? = some (arrV cA len (fun _ => v))) (hz : H'.size = H.size + 1) (ho : ∀ x, x < H.size → H'[x]? = H[x]?) : HR D tA cst b s (h_new h k len sz) H' := by
  refine z_grow hR hz ho (Or.inr ⟨by rw [z_newk]; exact hk, ?_, fun _ j => ?_⟩)
  · rw [z_newk, show b + (16 + h_n h - 16) = H.size by rw [hR.1]; omega, e1, hcA]
    have e9 : (fun _ : Nat => v) = m_av cst b (h_new h k len sz) (16 + h_n h) k := by
      funext j
      unfold m_av
      rw [z_newi, z_newl, z_newr, hv]
      rfl
    rw [e9]
  · rw [z_newi]
    rfl
theorem z_newst (hR : HR D tA cst b s h H) {a : Nat} (ha : a = H.size) : mv cst b (.ref (16 + h_n h)) = .ref a := by
  rw [mv_dyn (by omega), ha, hR.1, Nat.add_sub_cancel_left]
theorem z_newa (C : SC p s m args meth c R i D tA cst b) (hR : HR D tA cst b s h H) (hlo : ∀ q ∈ locs, b ≤ q.base) (hl : lv_has ls (m_lc i) (ml cst b lv)) {t : ArrayType} (hd : decode (m_m i).2.2.1 pc = .ok (.newarray t, 2)) (hs : e_newa t pc lv st h = some (.inl S)) : GS p l e R s m args below meth c H locs cells slots Q i D tA cst b h pc ls st S := by
  obtain ⟨hx, hb, hml, hown, hts, hlocks, hini, hfr, hlo9, hks, hc, hr⟩ := C
  unfold e_newa at hs
  split at hs
  · next n r =>
    split at hs
    · next hk =>
      obtain ⟨hk0, hn, hN⟩ := hk
      cases hs
      have f1 : h_n (h_new h (m_ak t) n.toNatClampNeg n.toNatClampNeg) - h_n h = 1 := by
        show h_n h + 1 - h_n h = 1
        omega
      have f2 : h_z (h_new h (m_ak t) n.toNatClampNeg n.toNatClampNeg) - h_z h = n.toNatClampNeg := by
        show h_z h + n.toNatClampNeg - h_z h = _
        omega
      refine ⟨⟨Nat.le_succ _, Nat.le_add_right _ _⟩, fun hc1 hs1 K => ?_⟩
      dsimp only at hc1 hs1 K
      rw [f1] at hc1
      rw [f2] at hs1
      rw [f1, f2] at K
      show W p l e R s m args below meth c H locs cells slots Q (F0 m pc ls (.int n :: r.map (mv cst b)))
      have fin : ∀ (H' : Heap) (cA : ClassId) (v : Value), m_okk (m_ak t) = true → cA = tA (m_ak t) → (v = if m_ak t < 25 then .int 0 else if m_ak t = 25 then .long 0 else .null) → H'[H.size]? = some (arrV cA n.toNatClampNeg (fun _ => v)) → H'.size = H.size + 1 → (∀ q, q < H.size → H'[q]? = H[q]?) → W p l e R s m args below meth c H' locs (cells + 1) (slots + n.toNatClampNeg) Q (F0 m (pc + 2) ls (.ref H.size :: r.map (mv cst b))) := by
        intro H' cA v g1 g2 g3 g4 g5 g6
        have K2 := K H' locs ls (z_newrow hR g1 g2 g3 g4 g5 g6) hlo hl
        rw [List.map_cons, z_newst hR rfl] at K2
        exact K2
      cases t with
      | int => exact va_newaK hx hb (hts _ (m_tgI (m_karr _ (List.mem_of_getElem? (i := 0) rfl)) rfl)) rfl hd rfl hn rfl (by show _ * 4 ≤ _; omega) hc1 hs1 rfl (fun H' cA e1 z1 o1 _ hNm => fin H' cA _ rfl (Option.some.inj (hNm.symm.trans (hks.1.2 0 _ rfl).2)) rfl e1 z1 o1)
      | byte => exact va_newaK hx hb (hts _ (m_tgI (m_karr _ (List.mem_of_getElem? (i := 1) rfl)) rfl)) rfl hd rfl hn rfl (by show _ * 1 ≤ _; omega) hc1 hs1 rfl (fun H' cA e1 z1 o1 _ hNm => fin H' cA _ rfl (Option.some.inj (hNm.symm.trans (hks.1.2 1 _ rfl).2)) rfl e1 z1 o1)
      | boolean => exact va_newaK hx hb (hts _ (m_tgI (m_karr _ (List.mem_of_getElem? (i := 2) rfl)) rfl)) rfl hd rfl hn rfl (by show _ * 1 ≤ _; omega) hc1 hs1 rfl (fun H' cA e1 z1 o1 _ hNm => fin H' cA _ rfl (Option.some.inj (hNm.symm.trans (hks.1.2 2 _ rfl).2)) rfl e1 z1 o1)
      | long => exact va_newaK hx hb (hts _ (m_tgI (m_karr _ (List.mem_of_getElem? (i := 3) rfl)) rfl)) rfl hd rfl hn rfl (by show _ * 8 ≤ _; omega) hc1 hs1 rfl (fun H' cA e1 z1 o1 _ hNm => fin H' cA _ rfl (Option.some.inj (hNm.symm.trans (hks.1.2 3 _ rfl).2)) rfl e1 z1 o1)
      | _ => exact absurd rfl hk0
    · cases hs
  · cases hs
theorem z_new (C : SC p s m args meth c R i D tA cst b) (hR : HR D tA cst b s h H) (hlo : ∀ q ∈ locs, b ≤ q.base) (hl : lv_has ls (m_lc i) (ml cst b lv)) {idx : Nat} (hd : decode (m_m i).2.2.1 pc = .ok (.new idx, 3)) (hs : e_new i idx pc lv st h = some (.inl S)) : GS p l e R s m args below meth c H locs cells slots Q i D tA cst b h pc ls st S := by
  obtain ⟨hx, hb, hml, hown, hts, hlocks, hini, hfr, hlo9, hks, hc, hr⟩ := C
  unfold e_new at hs
  split at hs
  · next ci hf =>
    split at hs
    · next hc10 =>
      cases hs
      obtain ⟨q, hq, hN, hin, -, ⟨ty, hty, hty2⟩, -, hinst, hinit, -⟩ := m_clf ci hc10
      have hw := m_ccw hf
      unfold m_clw m_cnm at hw
      rw [show m_cl[((idx, ci) : Nat × Nat).2]? = some q from hq] at hw
      have f1 : h_n (h_new h (ci + 1) (m_nf ci) (m_nf ci)) - h_n h = 1 := by
        show h_n h + 1 - h_n h = 1
        omega
      have f2 : h_z (h_new h (ci + 1) (m_nf ci) (m_nf ci)) - h_z h = m_nf ci := by
        show h_z h + m_nf ci - h_z h = _
        omega
      refine ⟨⟨Nat.le_succ _, Nat.le_add_right _ _⟩, fun hc1 hs1 K => ?_⟩
      dsimp only at hc1 hs1 K
      rw [f1] at hc1
      rw [f2, hN] at hs1
      rw [f1, f2] at K
      have hKn := hks.1.1 ci q hq
      refine W.newcK hx hb hown (hts _ (m_tgI hw rfl)) (hts _ hinst) (hts _ hinit) rfl hd hc1 hs1 hKn.2.1 rfl (fun H' kC hkC e1 z1 o1 => ?_)
      have hO := u_born ty hts hin hKn hkC e1 hty
      have K2 := K H' locs ls (z_grow hR z1 o1 (Or.inl ?_)) hlo hl
      · rw [List.map_cons, z_newst hR rfl] at K2
        rw [← hN]
        exact K2
      · rw [z_newk]
        refine ⟨Nat.succ_pos _, by show ci + 1 < 11; omega, ?_⟩
        show t_OB (b + (16 + h_n h - 16)) (D.1 ci) (m_nf ci) (D.2 ci) H' _
        rw [show b + (16 + h_n h - 16) = H.size by rw [hR.1]; omega, hN]
        refine hO.to (fun k hk => ?_)
        show defaultValue (ty k) = m_fv cst b (h_new h (ci + 1) (m_nf ci) (m_nf ci)) (16 + h_n h) ci k
        obtain ⟨t1, t2, t3⟩ := hty2 k hk
        unfold m_fv
        rw [z_newi, z_newl, z_newr]
        split
        · next h0 => rw [t1 h0]; rfl
        · next h0 => rw [t2 h0]; rfl
        · next h0 h1 =>
          have h9 := t3 h0 h1
          cases hty9 : ty k <;> rw [hty9] at h9 <;> first | rfl | exact absurd h9 (by decide)
    · cases hs
  · cases hs
theorem z_anew (C : SC p s m args meth c R i D tA cst b) (hR : HR D tA cst b s h H) (hlo : ∀ q ∈ locs, b ≤ q.base) (hl : lv_has ls (m_lc i) (ml cst b lv)) {idx : Nat} (hd : decode (m_m i).2.2.1 pc = .ok (.anewarray idx, 3)) (hs : e_anew i idx pc lv st h = some (.inl S)) : GS p l e R s m args below meth c H locs cells slots Q i D tA cst b h pc ls st S := by
  obtain ⟨hx, hb, hml, hown, hts, hlocks, hini, hfr, hlo9, hks, hc, hr⟩ := C
  unfold e_anew at hs
  split at hs
  · next n r ci hf =>
    split at hs
    · next hk =>
      obtain ⟨hk0, hn, hN⟩ := hk
      cases hs
      have hw := m_ccw hf
      have f1 : h_n (h_new h (m_ek ci) n.toNatClampNeg n.toNatClampNeg) - h_n h = 1 := by
        show h_n h + 1 - h_n h = 1
        omega
      have f2 : h_z (h_new h (m_ek ci) n.toNatClampNeg n.toNatClampNeg) - h_z h = n.toNatClampNeg := by
        show h_z h + n.toNatClampNeg - h_z h = _
        omega
      refine ⟨⟨Nat.le_succ _, Nat.le_add_right _ _⟩, fun hc1 hs1 K => ?_⟩
      dsimp only at hc1 hs1 K
      rw [f1] at hc1
      rw [f2] at hs1
      rw [f1, f2] at K
      show W p l e R s m args below meth c H locs cells slots Q (F0 m pc ls (.int n :: r.map (mv cst b)))
      have fin : ∀ (cA : ClassId), m_okk (m_ek ci) = true → 30 ≤ m_ek ci → cA = tA (m_ek ci) → W p l e R s m args below meth c (H.push { cls := cA, slots := Array.replicate n.toNatClampNeg .null, vm := .none }) locs (cells + 1) (slots + n.toNatClampNeg) Q (F0 m (pc + 3) ls (.ref H.size :: r.map (mv cst b))) := by
        intro cA g1 g0 g2
        have K2 := K _ locs ls (z_newrow (v := .null) hR g1 g2 (by rw [if_neg (by omega), if_neg (by omega)]) (H' := H.push { cls := cA, slots := Array.replicate n.toNatClampNeg .null, vm := .none }) (by rw [← arrV_new]; simp) (by simp) (fun q hq => by rw [Array.getElem?_push, if_neg (Nat.ne_of_lt hq)])) hlo hl
        rw [List.map_cons, z_newst hR rfl] at K2
        exact K2
      have hcc : ci = 6 ∨ ci = 3 ∨ ci = 0 := by
        unfold m_ek at hk0
        split at hk0
        · exact Or.inl rfl
        · exact Or.inr (Or.inl rfl)
        · exact Or.inr (Or.inr rfl)
        · exact absurd rfl hk0
      rcases hcc with e9 | e9 | e9
      · subst e9
        exact W.anew (C := RX6) hx hb hown (hts _ (m_tgI hw rfl)) (va_AO.use hks.2.2.1) rfl hd rfl hn (by omega) hc1 hs1 (fun cA kA comp g1 g2 g3 g4 => fin cA rfl (by decide) (by obtain ⟨_, _, -, -, -, q4⟩ := (hks.1.2 4 _ rfl).2; exact Option.some.inj (g1.symm.trans q4)))
      · subst e9
        exact W.anew (C := RX3) hx hb hown (hts _ (m_tgI hw rfl)) (va_AO.use hks.2.2.2.1) rfl hd rfl hn (by omega) hc1 hs1 (fun cA kA comp g1 g2 g3 g4 => fin cA rfl (by decide) (by obtain ⟨_, _, -, -, -, q4⟩ := (hks.1.2 5 _ rfl).2; exact Option.some.inj (g1.symm.trans q4)))
      · subst e9
        exact W.anew (C := RX0) hx hb hown (hts _ (m_tgI hw rfl)) (va_AO.use hks.2.2.2.2.1) rfl hd rfl hn (by omega) hc1 hs1 (fun cA kA comp g1 g2 g3 g4 => fin cA rfl (by decide) (by obtain ⟨_, _, -, -, -, q4⟩ := (hks.1.2 6 _ rfl).2; exact Option.some.inj (g1.symm.trans q4)))
    · cases hs
  · cases hs
theorem z_gets (C : SC p s m args meth c R i D tA cst b) (hR : HR D tA cst b s h H) (hl : lv_has ls (m_lc i) (ml cst b lv)) {idx : Nat} (hd : decode (m_m i).2.2.1 pc = .ok (.getstatic idx, 3)) (hs : e_gets i idx pc lv st h = some (.inl S)) : PS p l e R s m args below meth c H locs cells slots Q i cst b h pc ls st S := by
  obtain ⟨hx, hb, hml, hown, hts, hlocks, hini, hfr, hlo9, hks, hc, hr⟩ := C
  unfold e_gets at hs
  have hw : ∀ v, m_sf i idx = some v → ((m_m i).2.1.cls = m_sfi1.1 ∧ idx = m_sfi1.2 ∧ v = 1) ∨ ((m_m i).2.1.cls = m_sfi2.1 ∧ idx = m_sfi2.2 ∧ v = 2) ∨ ((m_m i).2.1.cls = m_sfi3.1 ∧ idx = m_sfi3.2 ∧ v = 3) := by
    intro v hv
    have h1 := m_lk_mem hv
    cases hl : m_sfl[m_ow i]? with
    | none =>
      rw [List.getD_eq_getElem?_getD, hl] at h1
      cases h1
    | some l =>
      rw [List.getD_eq_getElem?_getD, hl] at h1
      have h2 := m_KSF _ _ _ (m_own_ok i) hl _ h1
      rcases h2 with ⟨g1, g2⟩ | ⟨g1, g2⟩ | ⟨g1, g2⟩ <;> (cases g2; first | exact Or.inl ⟨g1, rfl, rfl⟩ | exact Or.inr (Or.inl ⟨g1, rfl, rfl⟩) | exact Or.inr (Or.inr ⟨g1, rfl, rfl⟩))
  split at hs
  · next hv =>
    cases hs
    refine ⟨rfl, fun K => ?_⟩
    rcases hw _ hv with ⟨g1, g2, g3⟩ | ⟨-, -, g3⟩ | ⟨-, -, g3⟩
    · rw [g1] at hown
      rw [g2] at hd
      obtain ⟨cf, kf, fi, f, a, cell, h1, h2, h3, h4, h5, h6, h7, h8⟩ := hR.2.2.2.2.1.1
      exact W.gets hx hb hown (hts _ (m_tgI m_ksf1 rfl)) h1 h2 h3 h4 h5 (fun e9 => by rw [e9] at h6; cases h6) h7 rfl hd (K ls hl)
    · omega
    · omega
  · next hv =>
    cases hs
    refine ⟨rfl, fun K => ?_⟩
    rcases hw _ hv with ⟨-, -, g3⟩ | ⟨g1, g2, g3⟩ | ⟨-, -, g3⟩
    · omega
    · rw [g1] at hown
      rw [g2] at hd
      obtain ⟨cf, kf, fi, f, a, cell, h1, h2, h3, h4, h5, h6, h7, h8⟩ := hR.2.2.2.2.1.2.1
      have K2 := K ls hl
      rw [show (List.map (mv cst b) ((.ref 1 : Value) :: st)) = cst 1 :: st.map (mv cst b) from by rw [List.map_cons, mv_cst (by decide) (by decide)]] at K2
      exact va_WgetsN hx hb hown (va_Nw.use rfl (hks.2.1 _ m_ksf2 rfl)) h1 h2 h3 h4 h5 (fun e9 => by rw [e9] at h6; cases h6) h7 rfl hd K2
    · omega
  · next hv =>
    cases hs
    refine ⟨rfl, fun K => ?_⟩
    rcases hw _ hv with ⟨-, -, g3⟩ | ⟨-, -, g3⟩ | ⟨g1, g2, g3⟩
    · omega
    · omega
    · rw [g1] at hown
      rw [g2] at hd
      obtain ⟨cf, kf, fi, f, a, cell, h1, h2, h3, h4, h5, h6, h7, h8⟩ := hR.2.2.2.2.1.2.2
      have K2 := K ls hl
      rw [show (List.map (mv cst b) ((.ref 15 : Value) :: st)) = cst 15 :: st.map (mv cst b) from by rw [List.map_cons, mv_cst (by decide) (by decide)]] at K2
      exact W.gets hx hb hown (hts _ (m_tgI m_ksf3 rfl)) h1 h2 h3 h4 h5 (fun e9 => by rw [e9] at h6; cases h6) h7 rfl hd K2
  · cases hs
theorem z_ldc (C : SC p s m args meth c R i D tA cst b) (hl : lv_has ls (m_lc i) (ml cst b lv)) {idx : Nat} (hd : decode (m_m i).2.2.1 pc = .ok (.ldc idx, 2)) (hs : e_ldc 2 i idx pc lv st h = some (.inl S)) : PS p l e R s m args below meth c H locs cells slots Q i cst b h pc ls st S := by
  obtain ⟨hx, hb, hml, hown, hts, hlocks, hini, hfr, hlo9, hks, hc, hr⟩ := C
  unfold e_ldc at hs
  split at hs
  · next x hf =>
    exact x_push hl (fun k => lv_ldc hx hb hown (hts _ (m_tgI (m_icw' hf) rfl)) hd k) hs
  · rw [if_pos rfl] at hs
    split at hs
    · next a hf =>
      refine x_push hl (fun k => ?_) hs
      have h1 := m_lk_mem hf
      cases hl9 : m_sck[m_ow i]? with
      | none =>
        rw [List.getD_eq_getElem?_getD, hl9] at h1
        cases h1
      | some l =>
        rw [List.getD_eq_getElem?_getD, hl9] at h1
        obtain ⟨k9, g1, g2, g3⟩ := m_KSS _ _ _ (m_own_ok i) hl9 _ h1
        obtain ⟨q, g4⟩ : ∃ q, m_strs[k9]? = some q := ⟨_, List.getElem?_eq_getElem g1⟩
        rw [List.getElem?_map, g4] at g3
        have g3 := Option.some.inj g3
        obtain ⟨r9, g5, g6⟩ := hks.2.2.2.2.2.2 k9 q g4
        have g7 : q.1 = (m_m i).2.1.cls := congrArg Prod.fst g3
        have g8 : q.2.1 = idx := congrArg Prod.snd g3
        rw [g7, g8] at g6
        have hlen : m_strs.length = 6 := by decide
        have g2 : a = 2 + k9 := g2
        rw [g2, mv_cst (by omega) (by omega), g5] at k
        exact va_ldcS hx hb hown g6 hd k
    · cases hs
theorem z_ldcw (C : SC p s m args meth c R i D tA cst b) (hl : lv_has ls (m_lc i) (ml cst b lv)) {idx : Nat} (hd : decode (m_m i).2.2.1 pc = .ok (.ldc_w idx, 3)) (hs : e_ldc 3 i idx pc lv st h = some (.inl S)) : PS p l e R s m args below meth c H locs cells slots Q i cst b h pc ls st S := by
  obtain ⟨hx, hb, hml, hown, hts, hlocks, hini, hfr, hlo9, hks, hc, hr⟩ := C
  unfold e_ldc at hs
  split at hs
  · next x hf =>
    exact x_push hl (fun k => lv_ldcw hx hb hown (hts _ (m_tgI (m_icw' hf) rfl)) hd k) hs
  · rw [if_neg (by decide)] at hs
    cases hs
theorem z_ldc2 (C : SC p s m args meth c R i D tA cst b) (hl : lv_has ls (m_lc i) (ml cst b lv)) {idx : Nat} (hd : decode (m_m i).2.2.1 pc = .ok (.ldc2_w idx, 3)) (hs : m_ex i pc (.ldc2_w idx) lv st h = some (.inl S)) : PS p l e R s m args below meth c H locs cells slots Q i cst b h pc ls st S := by
  obtain ⟨hx, hb, hml, hown, hts, hlocks, hini, hfr, hlo9, hks, hc, hr⟩ := C
  simp only [m_ex] at hs
  split at hs
  · next x hf =>
    exact x_push hl (fun k => lv_ldc2 hx hb hown (hts _ (m_tgI (m_jcw hf) rfl)) hd k) hs
  · cases hs
end SIMN
end
section
-- COPIES OF ROWS, CALLS
theorem m_kobjT : ∀ l ∈ m_mlk, ∀ e ∈ l, e.2.2 = 900 ∨ e.2.2 = 901 → e.2.1 = 0 := by decide +kernel
theorem m_kobjn {i idx nest j : Nat} {o : String} (ho : m_own[m_ow i]? = some o) (h : m_ml i idx = some (nest, j)) : j = 900 ∨ j = 901 → nest = 0 := by
  intro hj
  have h1 := m_lk_mem h
  cases hl : m_mlk[m_ow i]? with
  | none =>
    rw [List.getD_eq_getElem?_getD, hl] at h1
    cases h1
  | some l =>
    rw [List.getD_eq_getElem?_getD, hl] at h1
    exact m_kobjT l (List.mem_of_getElem? hl) _ h1 hj
section SIMC
variable {p : Program} {l : Launch} {e : Env} {R : Room} {s : State} {m : MethodId} {args : Array Value} {below : List Frame} {meth : Method} {c : Code} {Q : State → Prop} {i : Nat} {D : va_G} {tA : Nat → ClassId} {cst : Nat → Value} {b : Nat}
variable {H : Heap} {locs : List Loc} {cells slots : Nat} {pc : Nat} {ls : Array Slot} {lv : List (Nat × Value)} {st : List Value} {h : MH} {S : MS}
theorem z_nn {z : Int32} (hz : ¬ z < 0) : z.toInt = (z.toNatClampNeg : Int) := by
  have hz0 : (0 : Int) ≤ z.toInt := by
    have := Int32.not_lt.mp hz
    simpa using Int32.le_iff_toInt_le.mp this
  show z.toInt = ((z.toInt.toNat : Nat) : Int)
  omega
-- a copy of whole numbers from a row to a row of the same kind
theorem z_cpW (C : SC p s m args meth c R i D tA cst b) (hls : ls.size = m_lc i) {idx a0 a1 n0 n1 : Nat} {f g : Nat → Int32} {c0 : ClassId} {ty : FieldType} (h0 : H[a0]? = some (vp_cell c0 (n0, .inl f))) (h1 : H[a1]? = some (vp_cell c0 (n1, .inl g))) (hA : ArrOfT s c0 ty) (hprim : refKind ty = false) {sp dp n : Int32} {rest : List Value} (g1 : ¬ sp < 0) (g2 : ¬ dp < 0) (g3 : ¬ n < 0) (g4 : sp.toNatClampNeg + n.toNatClampNeg ≤ n0) (g5 : dp.toNatClampNeg + n.toNatClampNeg ≤ n1) (hfit : ∀ k, k < n.toNatClampNeg → fits ty (.int (f (sp.toNatClampNeg + k))) = true)
    (hframes : 1 ≤ R.frames) (hlocals : (rest.map fun v => v.category).sum + 18 ≤ R.locals) (hlink : (Cond.methodLink (m_m i).2.1.cls idx arraycopyName).before args s = true) (hd : decode (m_m i).2.2.1 pc = .ok (.invokestatic idx, 3))
    (kk : ∀ (H1 : Heap) (L : List Loc), H1[a1]? = some (vp_cell c0 (n1, .inl (va_cpy f g sp.toNatClampNeg dp.toNatClampNeg n.toNatClampNeg))) → H1.size = H.size → (∀ q, q ≠ a1 → H1[q]? = H[q]?) → (∀ q ∈ L, q.base = a1) → W p l e R s m args below meth c H1 (locs ++ L) cells slots Q (F0 m (pc + 3) ls rest)) : W p l e R s m args below meth c H locs cells slots Q (F0 m pc ls (.int n :: .int dp :: .ref a1 :: .int sp :: .ref a0 :: rest)) := by
  obtain ⟨hx, hb, hml, hown, hts, hlocks, hini, hfr, hlo9, hks, hc, hr⟩ := C
  intro T hT X
  obtain ⟨-, k0, hk0, cm0, hkk0⟩ := hA n0 (fun j => .int (f j))
  obtain ⟨-, k1, hk1, cm1, hkk1⟩ := hA n1 (fun j => .int (g j))
  obtain ⟨vm', X', step⟩ := X.arraycopy hx hown hlink (hts _ (m_tgI (m_karr _ (List.mem_of_getElem? (i := 8) rfl)) rfl)) (hts _ (m_tgI (m_karr _ (List.mem_of_getElem? (i := 9) rfl)) rfl)) (hts _ (m_tgI (m_karr _ (List.mem_of_getElem? (i := 10) rfl)) rfl)) (src := a0) (dst := a1) (cs := vp_cell c0 (n0, .inl f)) (cd := vp_cell c0 (n1, .inl g)) (srcPos := sp) (destPos := dp) (n := n) (by rw [hT]; exact h0) (by rw [hT]; exact h1)
    (fun _ h => by cases h) (fun _ h => by cases h) (fun h => by cases h) (fun h => by cases h) hk0 hk1 hkk0 hkk1 (by simp [hprim]) g1 g2 g3
    (by rw [z_nn g1, z_nn g3]; show ¬ _ > ((arrV c0 n0 (fun j => .int (f j))).slots.size : Int); rw [arrV_size]; omega)
    (by rw [z_nn g2, z_nn g3]; show ¬ _ > ((arrV c0 n1 (fun j => .int (g j))).slots.size : Int); rw [arrV_size]; omega)
    (fun vm₁ _ k hk => by
      have e9 : (vp_cell c0 (n0, .inl f)).slots.getD (sp.toNatClampNeg + k) .null = .int (f (sp.toNatClampNeg + k)) := by
        show (arrV c0 n0 (fun j => .int (f j))).slots.getD _ _ = _
        rw [Array.getD_eq_getD_getElem?, arrV_read _ _ (by omega)]
        rfl
      refine ⟨?_, ?_⟩
      · rw [e9]
        exact hfit k hk
      · rw [e9]
        exact trivial)
    (g := F0 m pc ls (.int n :: .int dp :: .ref a1 :: .int sp :: .ref a0 :: rest)) rfl (by rw [hml]; exact hls) (rest := rest) rfl (by rw [hb]; exact hd) hframes (by have hz9 : nativeFrameWords "java/lang/System" "arraycopy" 5 = 7 := (by decide); show 2 * 0 + _ + _ ≤ _; omega)
  have e1 : copied (vp_cell c0 (n0, .inl f)) (vp_cell c0 (n1, .inl g)) sp dp n = vp_cell c0 (n1, .inl (va_cpy f g sp.toNatClampNeg dp.toNatClampNeg n.toNatClampNeg)) := va_copied (fun z => .int z) c0 c0 f g g4
  rw [e1] at X' step
  have hl : a1 < H.size := (Array.getElem?_eq_some_iff.mp h1).1
  have hheap : ((T.setVm vm').setCell a1 (vp_cell c0 (n1, .inl (va_cpy f g sp.toNatClampNeg dp.toNatClampNeg n.toNatClampNeg)))).heap = H.setIfInBounds a1 (vp_cell c0 (n1, .inl (va_cpy f g sp.toNatClampNeg dp.toNatClampNeg n.toNatClampNeg))) := by rw [← hT]; rfl
  obtain ⟨t, b1, b2⟩ := kk _ _ (show (H.setIfInBounds a1 _)[a1]? = some _ by simp [Array.getElem?_setIfInBounds, hl]) (by simp) (fun q hq => by simp [Array.getElem?_setIfInBounds, Ne.symm hq]) (fun q hq => by
    obtain ⟨z, -, hz⟩ := List.mem_map.mp hq
    rw [← hz]) _ hheap X'
  exact ⟨t, step t b1, b2⟩
theorem z_cpWL (C : SC p s m args meth c R i D tA cst b) (hls : ls.size = m_lc i) {idx a0 a1 n0 n1 : Nat} {f g : Nat → Int64} {c0 : ClassId} (h0 : H[a0]? = some (vp_cell c0 (n0, .inr (.inl f)))) (h1 : H[a1]? = some (vp_cell c0 (n1, .inr (.inl g)))) (hA : ArrOfT s c0 .long) {sp dp n : Int32} {rest : List Value} (g1 : ¬ sp < 0) (g2 : ¬ dp < 0) (g3 : ¬ n < 0) (g4 : sp.toNatClampNeg + n.toNatClampNeg ≤ n0) (g5 : dp.toNatClampNeg + n.toNatClampNeg ≤ n1)
    (hframes : 1 ≤ R.frames) (hlocals : (rest.map fun v => v.category).sum + 18 ≤ R.locals) (hlink : (Cond.methodLink (m_m i).2.1.cls idx arraycopyName).before args s = true) (hd : decode (m_m i).2.2.1 pc = .ok (.invokestatic idx, 3))
    (kk : ∀ (H1 : Heap) (L : List Loc), H1[a1]? = some (vp_cell c0 (n1, .inr (.inl (va_cpy f g sp.toNatClampNeg dp.toNatClampNeg n.toNatClampNeg)))) → H1.size = H.size → (∀ q, q ≠ a1 → H1[q]? = H[q]?) → (∀ q ∈ L, q.base = a1) → W p l e R s m args below meth c H1 (locs ++ L) cells slots Q (F0 m (pc + 3) ls rest)) : W p l e R s m args below meth c H locs cells slots Q (F0 m pc ls (.int n :: .int dp :: .ref a1 :: .int sp :: .ref a0 :: rest)) := by
  obtain ⟨hx, hb, hml, hown, hts, hlocks, hini, hfr, hlo9, hks, hc, hr⟩ := C
  intro T hT X
  obtain ⟨-, k0, hk0, cm0, hkk0⟩ := hA n0 (fun j => .long (f j))
  obtain ⟨-, k1, hk1, cm1, hkk1⟩ := hA n1 (fun j => .long (g j))
  obtain ⟨vm', X', step⟩ := X.arraycopy hx hown hlink (hts _ (m_tgI (m_karr _ (List.mem_of_getElem? (i := 8) rfl)) rfl)) (hts _ (m_tgI (m_karr _ (List.mem_of_getElem? (i := 9) rfl)) rfl)) (hts _ (m_tgI (m_karr _ (List.mem_of_getElem? (i := 10) rfl)) rfl)) (src := a0) (dst := a1) (cs := vp_cell c0 (n0, .inr (.inl f))) (cd := vp_cell c0 (n1, .inr (.inl g))) (srcPos := sp) (destPos := dp) (n := n) (by rw [hT]; exact h0) (by rw [hT]; exact h1)
    (fun _ h => by cases h) (fun _ h => by cases h) (fun h => by cases h) (fun h => by cases h) hk0 hk1 hkk0 hkk1 (by simp [refKind]) g1 g2 g3
    (by rw [z_nn g1, z_nn g3]; show ¬ _ > ((arrV c0 n0 (fun j => .long (f j))).slots.size : Int); rw [arrV_size]; omega)
    (by rw [z_nn g2, z_nn g3]; show ¬ _ > ((arrV c0 n1 (fun j => .long (g j))).slots.size : Int); rw [arrV_size]; omega)
    (fun vm₁ _ k hk => by
      have e9 : (vp_cell c0 (n0, .inr (.inl f))).slots.getD (sp.toNatClampNeg + k) .null = .long (f (sp.toNatClampNeg + k)) := by
        show (arrV c0 n0 (fun j => .long (f j))).slots.getD _ _ = _
        rw [Array.getD_eq_getD_getElem?, arrV_read _ _ (by omega)]
        rfl
      refine ⟨?_, ?_⟩
      · rw [e9]
        rfl
      · rw [e9]
        exact trivial)
    (g := F0 m pc ls (.int n :: .int dp :: .ref a1 :: .int sp :: .ref a0 :: rest)) rfl (by rw [hml]; exact hls) (rest := rest) rfl (by rw [hb]; exact hd) hframes (by have hz9 : nativeFrameWords "java/lang/System" "arraycopy" 5 = 7 := (by decide); show 2 * 0 + _ + _ ≤ _; omega)
  have e1 : copied (vp_cell c0 (n0, .inr (.inl f))) (vp_cell c0 (n1, .inr (.inl g))) sp dp n = vp_cell c0 (n1, .inr (.inl (va_cpy f g sp.toNatClampNeg dp.toNatClampNeg n.toNatClampNeg))) := va_copied (fun z => .long z) c0 c0 f g g4
  rw [e1] at X' step
  have hl : a1 < H.size := (Array.getElem?_eq_some_iff.mp h1).1
  have hheap : ((T.setVm vm').setCell a1 (vp_cell c0 (n1, .inr (.inl (va_cpy f g sp.toNatClampNeg dp.toNatClampNeg n.toNatClampNeg))))).heap = H.setIfInBounds a1 (vp_cell c0 (n1, .inr (.inl (va_cpy f g sp.toNatClampNeg dp.toNatClampNeg n.toNatClampNeg)))) := by rw [← hT]; rfl
  obtain ⟨t, b1, b2⟩ := kk _ _ (show (H.setIfInBounds a1 _)[a1]? = some _ by simp [Array.getElem?_setIfInBounds, hl]) (by simp) (fun q hq => by simp [Array.getElem?_setIfInBounds, Ne.symm hq]) (fun q hq => by
    obtain ⟨z, -, hz⟩ := List.mem_map.mp hq
    rw [← hz]) _ hheap X'
  exact ⟨t, step t b1, b2⟩
theorem z_locL {L : List Loc} {a : Nat} (hlo : ∀ q ∈ locs, b ≤ q.base) (ha : b ≤ a) (hL : ∀ q ∈ L, q.base = a) : ∀ q ∈ locs ++ L, b ≤ q.base := by
  intro q hq
  rcases List.mem_append.mp hq with h1 | h1
  · exact hlo q h1
  · rw [hL q h1]
    exact ha
theorem z_cp (C : SC p s m args meth c R i D tA cst b) (hR : HR D tA cst b s h H) (hlo : ∀ q ∈ locs, b ≤ q.base) (hl : lv_has ls (m_lc i) (ml cst b lv)) {idx : Nat} (hlink : (Cond.methodLink (m_m i).2.1.cls idx arraycopyName).before args s = true) (hd : decode (m_m i).2.2.1 pc = .ok (.invokestatic idx, 3)) (hs : e_cp i pc lv st h = some (.inl S)) : HS p l e R s m args below meth c H locs cells slots Q i D tA cst b h pc ls st S := by
  have hks := C.2.2.2.2.2.2.2.2.2.1
  have hc := C.2.2.2.2.2.2.2.2.2.2.1
  have hfr := C.2.2.2.2.2.2.2.1
  have hlo9 := C.2.2.2.2.2.2.2.2.1
  unfold e_cp at hs
  split at hs
  · next n dp a1 sp a0 r =>
    split at hs
    · next hk =>
      obtain ⟨ha0, ha1, g1, g2, g3, g4, g5, g6, g7, g8⟩ := hk
      split at hs
      · next hk2 =>
        cases hs
        refine ⟨⟨rfl, rfl⟩, fun K => ?_⟩
        show W p l e R s m args below meth c H locs cells slots Q (F0 m pc ls (.int n :: .int dp :: mv cst b (.ref a1) :: .int sp :: mv cst b (.ref a0) :: r.map (mv cst b)))
        rw [mv_dyn ha0, mv_dyn ha1]
        have key : ∀ (k : Nat) (ty : FieldType), (h_k h a0).1 = k → (h_k h a1).1 = k → (k = 20 ∨ k = 21) → ArrOfT s (tA k) ty → refKind ty = false → (∀ j, fits ty (.int (h_i h a0 j)) = true) → W p l e R s m args below meth c H locs cells slots Q (F0 m pc ls (.int n :: .int dp :: .ref (b + (a1 - 16)) :: .int sp :: .ref (b + (a0 - 16)) :: r.map (mv cst b))) := by
          intro k ty e0 e1 hk20 hA hprim hfit
          obtain ⟨-, hc0, -⟩ := hR.arr ha0 (by omega)
          obtain ⟨-, hc1, hf1⟩ := hR.arr ha1 (by omega)
          rw [e0] at hc0
          rw [e1] at hc1
          have n1 : k < 25 := by omega
          have c0 : arrV (tA k) (h_k h a0).2 (m_av cst b h a0 k) = vp_cell (tA k) ((h_k h a0).2, .inl (h_i h a0)) := by
            rw [vp_cell_i]
            congr 1
            funext j
            unfold m_av
            rw [if_pos n1]
          have c1 : arrV (tA k) (h_k h a1).2 (m_av cst b h a1 k) = vp_cell (tA k) ((h_k h a1).2, .inl (h_i h a1)) := by
            rw [vp_cell_i]
            congr 1
            funext j
            unfold m_av
            rw [if_pos n1]
          rw [c0] at hc0
          rw [c1] at hc1
          refine z_cpW C hl.1 hc0 hc1 hA hprim g1 g2 g3 g4 g5 (fun j _ => hfit _) (Nat.le_trans g6 hfr) (by rw [mv_sum hc]; omega) hlink hd (fun H1 L q1 q2 q3 q4 => ?_)
          refine K H1 _ ls (hR.upd ha1 rfl rfl (fun y hy => ⟨if_neg hy, rfl, rfl⟩) q2 q3 (Or.inr ⟨?_, ?_, ?_⟩)) (z_locL hlo (Nat.le_add_right b _) q4) hl
          · show m_okk (h_k h a1).1 = true
            rw [e1]
            rcases hk20 with q | q <;> rw [q] <;> rfl
          · show H1[b + (a1 - 16)]? = some (arrV (tA (h_k h a1).1) (h_k h a1).2 (m_av cst b (h_cpi h a0 a1 sp.toNatClampNeg dp.toNatClampNeg n.toNatClampNeg) a1 (h_k h a1).1))
            rw [e1, q1, vp_cell_i]
            congr 2
            funext j
            unfold m_av
            rw [if_pos n1]
            show _ = Value.int (m_u h.2.2.1 a1 _ a1 j)
            unfold m_u
            rw [if_pos rfl]
            rfl
          · intro h21 j
            have h21 : (h_k h a1).1 = 21 := h21
            show fits .byte (.int (m_u h.2.2.1 a1 _ a1 j)) = true
            unfold m_u
            rw [if_pos rfl]
            split
            · exact (hR.arr ha0 (by omega)).2.2 (by omega) _
            · exact hf1 h21 j
        rcases hk2 with ⟨e0, e1⟩ | ⟨e0, e1⟩
        · exact key 20 .int e0 e1 (Or.inl rfl) (hks.1.2 0 _ rfl).1 rfl (fun j => rfl)
        · exact key 21 .byte e0 e1 (Or.inr rfl) (hks.1.2 1 _ rfl).1 rfl (fun j => (hR.arr ha0 (by omega)).2.2 e0 j)
      · split at hs
        · next hk2 =>
          obtain ⟨e0, e1⟩ := hk2
          cases hs
          refine ⟨⟨rfl, rfl⟩, fun K => ?_⟩
          show W p l e R s m args below meth c H locs cells slots Q (F0 m pc ls (.int n :: .int dp :: mv cst b (.ref a1) :: .int sp :: mv cst b (.ref a0) :: r.map (mv cst b)))
          rw [mv_dyn ha0, mv_dyn ha1]
          obtain ⟨-, hc0, -⟩ := hR.arr ha0 (by omega)
          obtain ⟨-, hc1, -⟩ := hR.arr ha1 (by omega)
          rw [e0] at hc0
          rw [e1] at hc1
          have c0 : arrV (tA 25) (h_k h a0).2 (m_av cst b h a0 25) = vp_cell (tA 25) ((h_k h a0).2, .inr (.inl (h_l h a0))) := by
            rw [vp_cell_l]
            rfl
          have c1 : arrV (tA 25) (h_k h a1).2 (m_av cst b h a1 25) = vp_cell (tA 25) ((h_k h a1).2, .inr (.inl (h_l h a1))) := by
            rw [vp_cell_l]
            rfl
          rw [c0] at hc0
          rw [c1] at hc1
          refine z_cpWL C hl.1 hc0 hc1 (hks.1.2 3 _ rfl).1 g1 g2 g3 g4 g5 (Nat.le_trans g6 hfr) (by rw [mv_sum hc]; omega) hlink hd (fun H1 L q1 q2 q3 q4 => ?_)
          refine K H1 _ ls (hR.upd ha1 rfl rfl (fun y hy => ⟨rfl, if_neg hy, rfl⟩) q2 q3 (Or.inr ⟨?_, ?_, ?_⟩)) (z_locL hlo (Nat.le_add_right b _) q4) hl
          · show m_okk (h_k h a1).1 = true
            rw [e1]
            rfl
          · show H1[b + (a1 - 16)]? = some (arrV (tA (h_k h a1).1) (h_k h a1).2 (m_av cst b (h_cpl h a0 a1 sp.toNatClampNeg dp.toNatClampNeg n.toNatClampNeg) a1 (h_k h a1).1))
            rw [e1, q1, vp_cell_l]
            congr 2
            funext j
            show _ = Value.long (m_u h.2.2.2.1 a1 _ a1 j)
            unfold m_u
            rw [if_pos rfl]
            rfl
          · intro h21
            have h21 : (h_k h a1).1 = 21 := h21
            omega
        · cases hs
    · cases hs
  · cases hs
-- a call that is one step here: Object's constructor, a copy, Math's own
theorem z_call1 (C : SC p s m args meth c R i D tA cst b) (hR : HR D tA cst b s h H) (hlo : ∀ q ∈ locs, b ≤ q.base) (hl : lv_has ls (m_lc i) (ml cst b lv)) {kd idx : Nat} {ins : Instr} (hcl : cells ≤ R.cells) (hsl : slots ≤ R.slots) (hd : decode (m_m i).2.2.1 pc = .ok (ins, 3)) (hi : (kd = 0 ∧ ins = .invokestatic idx) ∨ (kd = 1 ∧ ins = .invokevirtual idx) ∨ (kd = 2 ∧ ins = .invokespecial idx)) (hs : e_call kd i idx pc lv st h = some (.inl S)) : HS p l e R s m args below meth c H locs cells slots Q i D tA cst b h pc ls st S := by
  obtain ⟨hx, hb, hml, hown, hts, hlocks, hini, hfr, hlo9, hks, hc, hr⟩ := id C
  have hmls : c.maxLocals = ls.size := by rw [hml]; exact hl.1.symm
  unfold e_call at hs
  split at hs
  · next nest j hf =>
    have hw := m_mlw hf
    split at hs
    · next hj =>
      subst hj
      split at hs
      · next a r =>
        split at hs
        · next hk =>
          obtain ⟨hk2, ha, g1, g2, g3⟩ := hk
          cases hs
          have hins : ins = .invokespecial idx := by
            rcases hi with ⟨q, -⟩ | ⟨q, -⟩ | ⟨-, q⟩
            · omega
            · omega
            · exact q
          subst hins
          refine ⟨⟨rfl, rfl⟩, fun K => ?_⟩
          show W p l e R s m args below meth c H locs cells slots Q (F0 m pc ls (mv cst b (.ref a) :: r.map (mv cst b)))
          rw [mv_dyn ha]
          have hnest : nest = 0 := by
            exact m_kobjn (m_own_ok i) hf (Or.inl rfl)
          subst hnest
          exact W.objInit hx hb hown (hts _ (m_tgI hw rfl)) (hts _ (m_tgI (m_karr _ (List.mem_of_getElem? (i := 11) rfl)) rfl)) (hts _ (m_tgI m_kobj rfl)) rfl (by rw [hmls]) rfl hd (Nat.le_trans g1 hfr) (by rw [mv_sum hc]; show 2 * 0 + _ + 12 ≤ _; omega) (K H locs ls hR hlo hl)
        · cases hs
      · cases hs
    · split at hs
      · next hj1 hj =>
        subst hj
        split at hs
        · next hk0 =>
          have hins : ins = .invokestatic idx := by
            rcases hi with ⟨-, q⟩ | ⟨q, -⟩ | ⟨q, -⟩
            · exact q
            · omega
            · omega
          subst hins
          have hnest : nest = 0 := m_kobjn (m_own_ok i) hf (Or.inr rfl)
          subst hnest
          exact z_cp C hR hlo hl (hts _ (m_tgI hw rfl)) hd hs
        · cases hs
      · split at hs
        · next hj1 hj2 hj =>
          split at hs
          · next y x r =>
            split at hs
            · next hk =>
              obtain ⟨hk0, hn0, g1, g2⟩ := hk
              subst hn0
              have hins : ins = .invokestatic idx := by
                rcases hi with ⟨-, q⟩ | ⟨q, -⟩ | ⟨q, -⟩
                · exact q
                · omega
                · omega
              subst hins
              cases hs
              refine ⟨⟨rfl, rfl⟩, fun K => ?_⟩
              have K := K H locs ls hR hlo hl
              show W p l e R s m args below meth c H locs cells slots Q (F0 m pc ls (.int y :: .int x :: r.map (mv cst b)))
              have hw' : (Cond.methodLink (m_m i).2.1.cls idx (m_name j)).before args s = true := hts _ (m_tgI hw rfl)
              by_cases hjm : j = m_jmin
              · have K : W p l e R s m args below meth c H locs cells slots Q (F0 m (pc + 3) ls (.int (if j = m_jmin then (if y < x then y else x) else (if x < y then y else x)) :: r.map (mv cst b))) := K
                rw [if_pos hjm] at K
                rw [hjm, m_kjmin.1.1] at hw'
                exact va_mmin hx hb hmls hown hw' (hts _ (m_tgI m_kjmin.2.1 rfl)) (hts _ (m_tgI m_kjmin.2.2 rfl)) (hts _ (m_tgI m_kcmin rfl)) (Nat.le_trans g1 hfr) (by rw [mv_sum hc]; omega) hcl hsl hd K
              · have K : W p l e R s m args below meth c H locs cells slots Q (F0 m (pc + 3) ls (.int (if j = m_jmin then (if y < x then y else x) else (if x < y then y else x)) :: r.map (mv cst b))) := K
                rw [if_neg hjm] at K
                have hjx : j = m_jmax := hj.resolve_left hjm
                rw [hjx, m_kjmax.1.1] at hw'
                exact va_mmax hx hb hmls hown hw' (hts _ (m_tgI m_kjmax.2.1 rfl)) (hts _ (m_tgI m_kjmax.2.2 rfl)) (hts _ (m_tgI m_kcmax rfl)) (Nat.le_trans g1 hfr) (by rw [mv_sum hc]; omega) hcl hsl hd K
            · cases hs
          · cases hs
        · split at hs
          · next hj1 hj2 hj3 hj =>
            split at hs
            · next y x r =>
              split at hs
              · next hk =>
                obtain ⟨hk0, hn0, g1, g2⟩ := hk
                subst hn0
                have hins : ins = .invokestatic idx := by
                  rcases hi with ⟨-, q⟩ | ⟨q, -⟩ | ⟨q, -⟩
                  · exact q
                  · omega
                  · omega
                subst hins
                cases hs
                refine ⟨⟨rfl, rfl⟩, fun K => ?_⟩
                have K := K H locs ls hR hlo hl
                show W p l e R s m args below meth c H locs cells slots Q (F0 m pc ls (.long y :: .long x :: r.map (mv cst b)))
                have hw' : (Cond.methodLink (m_m i).2.1.cls idx (m_name j)).before args s = true := hts _ (m_tgI hw rfl)
                have K : W p l e R s m args below meth c H locs cells slots Q (F0 m (pc + 3) ls (.long (if j = m_jminl then (if y < x then y else x) else (if y < x then x else y)) :: r.map (mv cst b))) := K
                by_cases hjm : j = m_jminl
                · rw [if_pos hjm] at K
                  rw [hjm, m_kjminl.1.1] at hw'
                  exact va_mmin_long hx hb hmls hown hw' (hts _ (m_tgI m_kjminl.2.1 rfl)) (hts _ (m_tgI m_kjminl.2.2 rfl)) (hts _ (m_tgI m_kcminl rfl)) (Nat.le_trans g1 hfr) (by rw [mv_sum hc]; omega) hcl hsl hd K
                · rw [if_neg hjm] at K
                  have hjx : j = m_jmaxl := hj.resolve_left hjm
                  rw [hjx, m_kjmaxl.1.1] at hw'
                  exact va_mmax_long hx hb hmls hown hw' (hts _ (m_tgI m_kjmaxl.2.1 rfl)) (hts _ (m_tgI m_kjmaxl.2.2 rfl)) (hts _ (m_tgI m_kcmaxl rfl)) (Nat.le_trans g1 hfr) (by rw [mv_sum hc]; omega) hcl hsl hd K
              · cases hs
            · cases hs
          · exfalso
            revert hs
            repeat' split
            all_goals simp
  · cases hs
end SIMC
end
section
-- ROWS OF ROWS
section SIMG
variable {p : Program} {l : Launch} {e : Env} {R : Room} {s : State} {m : MethodId} {args : Array Value} {below : List Frame} {meth : Method} {c : Code} {Q : State → Prop} {i : Nat} {D : va_G} {tA : Nat → ClassId} {cst : Nat → Value} {b : Nat}
variable {H : Heap} {locs : List Loc} {cells slots : Nat} {pc : Nat} {ls : Array Slot} {lv : List (Nat × Value)} {st : List Value} {h : MH} {S : MS}
theorem z_outer (cI : ClassId) (N h0 : Nat) : ∀ k : Nat, Jvm.Free.Multi.outerC cI N h0 k = arrV cI N (fun j => if j < k then .ref (h0 + 1 + j) else .null)
  | 0 => by
    show ({ cls := cI, slots := Array.replicate N .null, vm := .none } : Cell) = _
    rw [arrV_new]
    refine congrArg (arrV cI N) (funext fun j => ?_)
    simp
  | k + 1 => by
    show (Jvm.Free.Multi.outerC cI N h0 k).setSlot k (.ref (h0 + 1 + k)) = _
    rw [z_outer cI N h0 k, arrV_store]
    refine congrArg (arrV cI N) (funext fun j => ?_)
    by_cases e9 : j = k
    · subst e9
      simp [updV]
    · by_cases h9 : j < k
      · simp [updV, e9, h9, Nat.lt_succ_of_lt h9]
      · simp [updV, e9, h9, show ¬ j < k + 1 by omega]
theorem z_grid (C : SC p s m args meth c R i D tA cst b) (hR : HR D tA cst b s h H) (hlo : ∀ q ∈ locs, b ≤ q.base) (hl : lv_has ls (m_lc i) (ml cst b lv)) {idx : Nat} (hd : decode (m_m i).2.2.1 pc = .ok (.multianewarray idx 2, 4)) (hs : e_grid i idx pc lv st h = some (.inl S)) : GS p l e R s m args below meth c H locs cells slots Q i D tA cst b h pc ls st S := by
  obtain ⟨hx, hb, hml, hown, hts, hlocks, hini, hfr, hlo9, hks, hc, hr⟩ := C
  unfold e_grid at hs
  split at hs
  · next k n r hf =>
    split at hs
    · next hk =>
      obtain ⟨hn, hk0, hN, hK⟩ := hk
      cases hs
      have hw := m_ccw hf
      have hS1 : h_n h = h.1.1 := rfl
      have f1 : h_n (h_grid h n.toNatClampNeg k.toNatClampNeg) - h_n h = 1 + n.toNatClampNeg := by
        show h_n h + (1 + n.toNatClampNeg) - h_n h = _
        omega
      have f2 : h_z (h_grid h n.toNatClampNeg k.toNatClampNeg) - h_z h = n.toNatClampNeg + n.toNatClampNeg * k.toNatClampNeg := by
        show h_z h + (n.toNatClampNeg + n.toNatClampNeg * k.toNatClampNeg) - h_z h = _
        omega
      refine ⟨⟨Nat.le_add_right _ _, Nat.le_add_right _ _⟩, fun hc1 hs1 K => ?_⟩
      dsimp only at hc1 hs1 K
      rw [f1] at hc1
      rw [f2] at hs1
      rw [f1, f2] at K
      show W p l e R s m args below meth c H locs cells slots Q (F0 m pc ls (.int k :: .int n :: r.map (mv cst b)))
      intro T hT X
      obtain ⟨vm₁, cA, comp, -, fA, fC, hO, -, X', step⟩ := X.multianewarray2F (ty := .int) hx hown (hts _ (m_tgI hw rfl)) (over_moved (Vm.Alike.refl _) hks.2.2.2.2.2.1) (hts _ (m_tgI (m_karr _ (List.mem_of_getElem? (i := 0) rfl)) rfl)) (g := F0 m pc ls (.int k :: .int n :: r.map (mv cst b))) rfl (by rw [hb]; exact hd) rfl hn hk0 (by omega) (by show _ * 4 ≤ _; omega) (by omega) rfl rfl hc1 hs1
      have eA : cA = tA 33 := Option.some.inj (fA.symm.trans (hks.1.2 7 _ rfl).2)
      have eC : comp = tA 20 := Option.some.inj (fC.symm.trans (hks.1.2 0 _ rfl).2)
      subst eA
      subst eC
      generalize hF : Jvm.Free.Multi.fill (T.setVm vm₁) (tA 33) (tA 20) n.toNatClampNeg k.toNatClampNeg (defaultValue .int) n.toNatClampNeg = F at X' step
      have hTh : (T.setVm vm₁).heap = H := hT
      obtain ⟨g1, g2, -, -⟩ := Jvm.Free.Multi.fill_facts (T.setVm vm₁) (tA 33) (tA 20) n.toNatClampNeg k.toNatClampNeg (defaultValue .int) n.toNatClampNeg
      rw [hF, hTh] at g1 g2
      have hold : ∀ x : Nat, x < H.size → F.heap[x]? = H[x]? := fun x hx9 => by
        have := Jvm.Free.Multi.fill_old (T.setVm vm₁) (tA 33) (tA 20) n.toNatClampNeg k.toNatClampNeg (defaultValue .int) (a := x) (by rw [hTh]; exact hx9) n.toNatClampNeg
        rw [hF, hTh] at this
        exact this
      have hrow : ∀ j : Nat, j < n.toNatClampNeg → F.heap[H.size + 1 + j]? = some (arrV (tA 20) k.toNatClampNeg (fun _ => .int 0)) := fun j hj => by
        have := Jvm.Free.Multi.fill_inner (T.setVm vm₁) (tA 33) (tA 20) n.toNatClampNeg k.toNatClampNeg (defaultValue .int) n.toNatClampNeg j hj
        rw [hF, hTh] at this
        rw [this, ← arrV_new]
        rfl
      rw [z_outer] at g2
      have hz := hR.1
      have hR2 : HR D tA cst b s (h_grid h n.toNatClampNeg k.toNatClampNeg) F.heap := by
        have en : h_n (h_grid h n.toNatClampNeg k.toNatClampNeg) = h_n h + (1 + n.toNatClampNeg) := rfl
        refine hR.grow (1 + n.toNatClampNeg) en (fun x hx9 => ?_) (fun x hx9 => ?_) (by rw [g1]; omega) hold (fun x h1 h2 => ?_)
        · show (if x = 16 + h.1.1 then (33, n.toNatClampNeg) else if 16 + h.1.1 < x ∧ x ≤ 16 + h.1.1 + n.toNatClampNeg then (20, k.toNatClampNeg) else h.2.1 x) = h.2.1 x
          rw [if_neg (by omega), if_neg (by omega)]
        · refine ⟨?_, rfl, ?_⟩
          · show (if 16 + h.1.1 ≤ x ∧ x ≤ 16 + h.1.1 + n.toNatClampNeg then (fun _ => 0) else h.2.2.1 x) = h.2.2.1 x
            rw [if_neg (by omega)]
          · show m_u h.2.2.2.2 (16 + h.1.1) _ x = h.2.2.2.2 x
            unfold m_u
            rw [if_neg (by omega)]
        · by_cases ex : x = 16 + h.1.1
          · have ek : h_k (h_grid h n.toNatClampNeg k.toNatClampNeg) x = (33, n.toNatClampNeg) := if_pos ex
            refine Or.inr ⟨by rw [ek]; rfl, ?_, fun q => by rw [ek] at q; cases q⟩
            rw [ek, show b + (x - 16) = H.size by omega, g2]
            congr 2
            funext j
            show _ = mv cst b (.ref (m_u h.2.2.2.2 (16 + h.1.1) (fun i => if i < n.toNatClampNeg then 16 + h.1.1 + 1 + i else 0) x j))
            unfold m_u
            rw [if_pos ex]
            by_cases hj : j < n.toNatClampNeg
            · simp only [hj, if_true]
              rw [mv_dyn (by omega)]
              congr 1
              show H.size + 1 + j = b + (16 + h.1.1 + 1 + j - 16)
              omega
            · simp only [hj, if_false]
              rfl
          · have ek : h_k (h_grid h n.toNatClampNeg k.toNatClampNeg) x = (20, k.toNatClampNeg) := by
              show (if x = 16 + h.1.1 then (33, n.toNatClampNeg) else if 16 + h.1.1 < x ∧ x ≤ 16 + h.1.1 + n.toNatClampNeg then (20, k.toNatClampNeg) else h.2.1 x) = _
              rw [if_neg ex, if_pos (by omega)]
            refine Or.inr ⟨by rw [ek]; rfl, ?_, fun q => by rw [ek] at q; cases q⟩
            rw [ek, show b + (x - 16) = H.size + 1 + (x - 17 - h.1.1) by omega, hrow _ (by omega)]
            congr 2
            funext j
            show _ = Value.int ((if 16 + h.1.1 ≤ x ∧ x ≤ 16 + h.1.1 + n.toNatClampNeg then (fun _ => 0) else h.2.2.1 x) j)
            rw [if_pos (by omega)]
      have K2 := K F.heap locs ls hR2 hlo hl
      rw [List.map_cons, z_newst hR rfl] at K2
      obtain ⟨t, b1, b2⟩ := K2 F rfl (by
        have e1 : cells + (1 + n.toNatClampNeg) = cells + 1 + n.toNatClampNeg := by omega
        have e2 : slots + (n.toNatClampNeg + n.toNatClampNeg * k.toNatClampNeg) = slots + n.toNatClampNeg + n.toNatClampNeg * k.toNatClampNeg := by omega
        rw [e1, e2]
        exact X')
      refine ⟨t, step t ?_, b2⟩
      have e9 : T.heap.size = H.size := by rw [hT]
      rw [e9]
      exact b1
    · cases hs
  · cases hs
end SIMG
end
section
-- EVERY STEP, AND THE WHOLE RUN
section SIMM
variable {p : Program} {l : Launch} {e : Env} {R : Room} {s : State} {m : MethodId} {args : Array Value} {below : List Frame} {meth : Method} {c : Code} {Q : State → Prop} {i : Nat} {D : va_G} {tA : Nat → ClassId} {cst : Nat → Value} {b : Nat}
variable {H : Heap} {locs : List Loc} {cells slots : Nat} {pc : Nat} {ls : Array Slot} {lv : List (Nat × Value)} {st : List Value} {h : MH} {S : MS}
theorem m_l1 {a b : Nat} (k : Nat) (hk : 0 < k) (h : k = b ∨ k = 0) : b = k := by omega
set_option maxHeartbeats 4000000 in
theorem m_inl (C : SC p s m args meth c R i D tA cst b) (hR : HR D tA cst b s h H) (hlo : ∀ q ∈ locs, b ≤ q.base) (hl : lv_has ls (m_lc i) (ml cst b lv)) (hcl : cells ≤ R.cells) (hsl : slots ≤ R.slots) (hs : m_st i pc lv st h = some (.inl S)) : GS p l e R s m args below meth c H locs cells slots Q i D tA cst b h pc ls st S := by
  unfold m_st at hs
  split at hs
  · next e9 he9 =>
    split at hs
    · next hlen =>
      have hd := m_dec he9
      obtain ⟨ins, len⟩ := e9
      dsimp only at hs hlen
      cases ins with
      | iadd => exact PS.gs hR hlo (y_iadd C hl hd (m_l1 (a := 0) 1 (by decide) hlen) hs)
      | isub => exact PS.gs hR hlo (y_isub C hl hd (m_l1 (a := 0) 1 (by decide) hlen) hs)
      | imul => exact PS.gs hR hlo (y_imul C hl hd (m_l1 (a := 0) 1 (by decide) hlen) hs)
      | iand => exact PS.gs hR hlo (y_iand C hl hd (m_l1 (a := 0) 1 (by decide) hlen) hs)
      | ior => exact PS.gs hR hlo (y_ior C hl hd (m_l1 (a := 0) 1 (by decide) hlen) hs)
      | ixor => exact PS.gs hR hlo (y_ixor C hl hd (m_l1 (a := 0) 1 (by decide) hlen) hs)
      | ishl => exact PS.gs hR hlo (y_ishl C hl hd (m_l1 (a := 0) 1 (by decide) hlen) hs)
      | ishr => exact PS.gs hR hlo (y_ishr C hl hd (m_l1 (a := 0) 1 (by decide) hlen) hs)
      | iushr => exact PS.gs hR hlo (y_iushr C hl hd (m_l1 (a := 0) 1 (by decide) hlen) hs)
      | ladd => exact PS.gs hR hlo (y_ladd C hl hd (m_l1 (a := 0) 1 (by decide) hlen) hs)
      | lsub => exact PS.gs hR hlo (y_lsub C hl hd (m_l1 (a := 0) 1 (by decide) hlen) hs)
      | land => exact PS.gs hR hlo (y_land C hl hd (m_l1 (a := 0) 1 (by decide) hlen) hs)
      | lor => exact PS.gs hR hlo (y_lor C hl hd (m_l1 (a := 0) 1 (by decide) hlen) hs)
      | lxor => exact PS.gs hR hlo (y_lxor C hl hd (m_l1 (a := 0) 1 (by decide) hlen) hs)
      | lshl => exact PS.gs hR hlo (y_lshl C hl hd (m_l1 (a := 0) 1 (by decide) hlen) hs)
      | lshr => exact PS.gs hR hlo (y_lshr C hl hd (m_l1 (a := 0) 1 (by decide) hlen) hs)
      | lushr => exact PS.gs hR hlo (y_lushr C hl hd (m_l1 (a := 0) 1 (by decide) hlen) hs)
      | idiv => exact PS.gs hR hlo (y_idiv C hl hd (m_l1 (a := 0) 1 (by decide) hlen) hs)
      | irem => exact PS.gs hR hlo (y_irem C hl hd (m_l1 (a := 0) 1 (by decide) hlen) hs)
      | ineg => exact PS.gs hR hlo (y_ineg C hl hd (m_l1 (a := 0) 1 (by decide) hlen) hs)
      | lneg => exact PS.gs hR hlo (y_lneg C hl hd (m_l1 (a := 0) 1 (by decide) hlen) hs)
      | i2l => exact PS.gs hR hlo (y_i2l C hl hd (m_l1 (a := 0) 1 (by decide) hlen) hs)
      | i2b => exact PS.gs hR hlo (y_i2b C hl hd (m_l1 (a := 0) 1 (by decide) hlen) hs)
      | i2c => exact PS.gs hR hlo (y_i2c C hl hd (m_l1 (a := 0) 1 (by decide) hlen) hs)
      | l2i => exact PS.gs hR hlo (y_l2i C hl hd (m_l1 (a := 0) 1 (by decide) hlen) hs)
      | lcmp => exact PS.gs hR hlo (y_lcmp C hl hd (m_l1 (a := 0) 1 (by decide) hlen) hs)
      | dup => exact PS.gs hR hlo (y_dup C hl hd (m_l1 (a := 0) 1 (by decide) hlen) hs)
      | pop => exact PS.gs hR hlo (y_pop C hl hd (m_l1 (a := 0) 1 (by decide) hlen) hs)
      | dup2 => exact PS.gs hR hlo (y_dup2 C hl hd (m_l1 (a := 0) 1 (by decide) hlen) hs)
      | iconst k => exact PS.gs hR hlo (y_iconst C hl hd (m_l1 (a := 0) 1 (by decide) hlen) hs)
      | lconst k => exact PS.gs hR hlo (y_lconst C hl hd (m_l1 (a := 0) 1 (by decide) hlen) hs)
      | iload_n k => exact PS.gs hR hlo (y_iload_n C hl hd (m_l1 (a := 0) 1 (by decide) hlen) hs)
      | lload_n k => exact PS.gs hR hlo (y_lload_n C hl hd (m_l1 (a := 0) 1 (by decide) hlen) hs)
      | aload_n k => exact PS.gs hR hlo (y_aload_n C hl hd (m_l1 (a := 0) 1 (by decide) hlen) hs)
      | istore_n k => exact PS.gs hR hlo (y_istore_n C hl hd (m_l1 (a := 0) 1 (by decide) hlen) hs)
      | lstore_n k => exact PS.gs hR hlo (y_lstore_n C hl hd (m_l1 (a := 0) 1 (by decide) hlen) hs)
      | astore_n k => exact PS.gs hR hlo (y_astore_n C hl hd (m_l1 (a := 0) 1 (by decide) hlen) hs)
      | aconst_null => exact PS.gs hR hlo (y_aconst C hl hd (m_l1 (a := 0) 1 (by decide) hlen) hs)
      | bipush k => exact PS.gs hR hlo (y_bipush C hl hd (m_l1 (a := 0) 2 (by decide) hlen) hs)
      | iload k => exact PS.gs hR hlo (y_iload C hl hd (m_l1 (a := 0) 2 (by decide) hlen) hs)
      | lload k => exact PS.gs hR hlo (y_lload C hl hd (m_l1 (a := 0) 2 (by decide) hlen) hs)
      | aload k => exact PS.gs hR hlo (y_aload C hl hd (m_l1 (a := 0) 2 (by decide) hlen) hs)
      | istore k => exact PS.gs hR hlo (y_istore C hl hd (m_l1 (a := 0) 2 (by decide) hlen) hs)
      | lstore k => exact PS.gs hR hlo (y_lstore C hl hd (m_l1 (a := 0) 2 (by decide) hlen) hs)
      | astore k => exact PS.gs hR hlo (y_astore C hl hd (m_l1 (a := 0) 2 (by decide) hlen) hs)
      | sipush k => exact PS.gs hR hlo (y_sipush C hl hd (m_l1 (a := 0) 3 (by decide) hlen) hs)
      | iinc k z => exact PS.gs hR hlo (y_iinc C hl hd (m_l1 (a := 0) 3 (by decide) hlen) hs)
      | goto o => exact PS.gs hR hlo (y_goto C hl hd (m_l1 (a := 0) 3 (by decide) hlen) hs)
      | ifnull o => exact PS.gs hR hlo (y_ifnull C hl hd (m_l1 (a := 0) 3 (by decide) hlen) hs)
      | ifnonnull o => exact PS.gs hR hlo (y_ifnonnull C hl hd (m_l1 (a := 0) 3 (by decide) hlen) hs)
      | if_icmp cc o => cases cc with
        | eq => exact PS.gs hR hlo (y_icmp_eq C hl hd (m_l1 (a := 0) 3 (by decide) hlen) hs)
        | ne => exact PS.gs hR hlo (y_icmp_ne C hl hd (m_l1 (a := 0) 3 (by decide) hlen) hs)
        | lt => exact PS.gs hR hlo (y_icmp_lt C hl hd (m_l1 (a := 0) 3 (by decide) hlen) hs)
        | ge => exact PS.gs hR hlo (y_icmp_ge C hl hd (m_l1 (a := 0) 3 (by decide) hlen) hs)
        | gt => exact PS.gs hR hlo (y_icmp_gt C hl hd (m_l1 (a := 0) 3 (by decide) hlen) hs)
        | le => exact PS.gs hR hlo (y_icmp_le C hl hd (m_l1 (a := 0) 3 (by decide) hlen) hs)
      | ifCond cc o => cases cc with
        | eq => exact PS.gs hR hlo (y_if_eq C hl hd (m_l1 (a := 0) 3 (by decide) hlen) hs)
        | ne => exact PS.gs hR hlo (y_if_ne C hl hd (m_l1 (a := 0) 3 (by decide) hlen) hs)
        | lt => exact PS.gs hR hlo (y_if_lt C hl hd (m_l1 (a := 0) 3 (by decide) hlen) hs)
        | ge => exact PS.gs hR hlo (y_if_ge C hl hd (m_l1 (a := 0) 3 (by decide) hlen) hs)
        | gt => exact PS.gs hR hlo (y_if_gt C hl hd (m_l1 (a := 0) 3 (by decide) hlen) hs)
        | le => exact PS.gs hR hlo (y_if_le C hl hd (m_l1 (a := 0) 3 (by decide) hlen) hs)
      | tableswitch d lo hi offs => exact PS.gs hR hlo (y_tsw C hl hd hs)
      | getfield idx => cases (m_l1 (a := 0) 3 (by decide) hlen); exact PS.gs hR hlo (z_get C hR hl hd hs)
      | putfield idx => cases (m_l1 (a := 0) 3 (by decide) hlen); exact HS.gs (z_put C hR hlo hl hd hs)
      | getstatic idx => cases (m_l1 (a := 0) 3 (by decide) hlen); exact PS.gs hR hlo (z_gets C hR hl hd hs)
      | iaload => cases (m_l1 (a := 0) 1 (by decide) hlen); exact PS.gs hR hlo (z_iald C hR hl hd hs)
      | baload => cases (m_l1 (a := 0) 1 (by decide) hlen); exact PS.gs hR hlo (z_bald C hR hl hd hs)
      | laload => cases (m_l1 (a := 0) 1 (by decide) hlen); exact PS.gs hR hlo (z_lald C hR hl hd hs)
      | aaload => cases (m_l1 (a := 0) 1 (by decide) hlen); exact PS.gs hR hlo (z_aald C hR hl hd hs)
      | iastore => cases (m_l1 (a := 0) 1 (by decide) hlen); exact HS.gs (z_iast C hR hlo hl hd hs)
      | bastore => cases (m_l1 (a := 0) 1 (by decide) hlen); exact HS.gs (z_bast C hR hlo hl hd hs)
      | lastore => cases (m_l1 (a := 0) 1 (by decide) hlen); exact HS.gs (z_last C hR hlo hl hd hs)
      | aastore => cases (m_l1 (a := 0) 1 (by decide) hlen); exact HS.gs (z_aast C hR hlo hl hd hs)
      | arraylength => cases (m_l1 (a := 0) 1 (by decide) hlen); exact PS.gs hR hlo (z_alen C hR hl hd hs)
      | newarray t => cases (m_l1 (a := 0) 2 (by decide) hlen); exact z_newa C hR hlo hl hd hs
      | new idx => cases (m_l1 (a := 0) 3 (by decide) hlen); exact z_new C hR hlo hl hd hs
      | anewarray idx => cases (m_l1 (a := 0) 3 (by decide) hlen); exact z_anew C hR hlo hl hd hs
      | ldc idx => cases (m_l1 (a := 0) 2 (by decide) hlen); exact PS.gs hR hlo (z_ldc C hl hd hs)
      | ldc_w idx => cases (m_l1 (a := 0) 3 (by decide) hlen); exact PS.gs hR hlo (z_ldcw C hl hd hs)
      | ldc2_w idx => cases (m_l1 (a := 0) 3 (by decide) hlen); exact PS.gs hR hlo (z_ldc2 C hl hd hs)
      | invokestatic idx => cases (m_l1 (a := 0) 3 (by decide) hlen); exact HS.gs (z_call1 C hR hlo hl hcl hsl hd (Or.inl ⟨rfl, rfl⟩) hs)
      | invokevirtual idx => cases (m_l1 (a := 0) 3 (by decide) hlen); exact HS.gs (z_call1 C hR hlo hl hcl hsl hd (Or.inr (Or.inl ⟨rfl, rfl⟩)) hs)
      | invokespecial idx => cases (m_l1 (a := 0) 3 (by decide) hlen); exact HS.gs (z_call1 C hR hlo hl hcl hsl hd (Or.inr (Or.inr ⟨rfl, rfl⟩)) hs)
      | multianewarray idx d =>
        cases (m_l1 (a := 0) 4 (by decide) hlen)
        simp only [m_ex] at hs
        split at hs
        · next hd2 =>
          subst hd2
          exact z_grid C hR hlo hl hd hs
        · cases hs
      | ireturn =>
        exfalso
        revert hs
        simp only [m_ex]
        repeat' split
        all_goals simp
      | lreturn =>
        exfalso
        revert hs
        simp only [m_ex]
        repeat' split
        all_goals simp
      | areturn =>
        exfalso
        revert hs
        simp only [m_ex]
        repeat' split
        all_goals simp
      | return_ =>
        exfalso
        revert hs
        simp only [m_ex]
        repeat' split
        all_goals simp
      | _ => exact absurd hs (by simp [m_ex])
    · cases hs
  · cases hs
-- what a method answers, and what it leaves
def m_Pc (D : va_G) (tA : Nat → ClassId) (cst : Nat → Value) (b : Nat) (h : MH) (as : List Value) : Array Value → State → Prop := fun a U => a = (as.map (mv cst b)).toArray ∧ HR D tA cst b U h U.heap ∧ KS D tA cst U
def m_Qc (D : va_G) (tA : Nat → ClassId) (cst : Nat → Value) (b : Nat) (v : Option Value) (h : MH) : Array Value → State → Outcome → State → Prop := fun _ _ o t => o = .returned (v.map (mv cst b)) ∧ HR D tA cst b t h t.heap
def m_rm (j mc ms : Nat) : Room := { frames := m_fr j, cells := mc, slots := ms, locals := m_lo j }
def m_ws (j : Nat) : List Cond := m_cw (m_m j) :: m_tg0
def m_met (l : Launch) (D : va_G) (tA : Nat → ClassId) (cst : Nat → Value) (b j : Nat) (as : List Value) (h : MH) (v : Option Value) (h' : MH) : Prop := Met l (m_m j).2.1 (m_ws j) (m_rm j (h_n h' - h_n h) (h_z h' - h_z h)) (m_Pc D tA cst b h as) (m_Qc D tA cst b v h') (h_n h' - h_n h) (h_z h' - h_z h) (fun q => b ≤ q)
theorem m_blind {h : MH} {as : List Value} : FrameBlind (m_Pc D tA cst b h as) := fun a U g mk q => ⟨q.1, HR.moved (u := U) (U := U.calling g mk a) (Vm.Alike.refl U.vm) q.2.1, KS.same (s := U) (U := U.calling g mk a) rfl q.2.2⟩
theorem m_pre {as : List Value} (hR : HR D tA cst b s h H) (hks : KS D tA cst s) (U : State) (hU : U.heap = H) (hW : s.WarmedH U.vm) : m_Pc D tA cst b h as (as.map (mv cst b)).toArray U := ⟨rfl, by rw [hU]; exact HR.moved hW.alike hR, KS.warm hW hks⟩
theorem m_cwin {j : Nat} (hj0 : 0 < j) (hj : j < 292) : m_cw (m_m j) ∈ m_tg0 := m_tgI (m_KC j hj0 hj) rfl
theorem m_gin {j : Nat} (hj0 : 0 < j) (hj : j < 292) : GoodIn m_tg0 (m_ws j) := by
  intro w hw
  rcases List.mem_cons.mp hw with q | q
  · rw [q]
    exact ⟨m_cwin hj0 hj, good_of_word rfl⟩
  · exact ⟨q, good_of_word (List.mem_filter.mp q).2⟩
theorem m_after {Qa : State → Outcome → State → Prop} {rest st0 : List Value} {mc ms : Nat} (hlo : ∀ q ∈ locs, b ≤ q.base) (hr : va_Run p l e R s m args below meth c H locs cells slots mc ms (F0 m pc ls st0) rest Qa (fun q => b ≤ q))
    (kk : ∀ (v : Option Value) (st₀ t : State) (L : List Loc), Qa st₀ (.returned v) t → s.vm.Alike t.vm → (∀ q ∈ locs ++ L, b ≤ q.base) → W p l e R s m args below meth c t.heap (locs ++ L) (cells + mc) (slots + ms) Q (F0 m (pc + 3) ls (v.toList ++ rest))) : W p l e R s m args below meth c H locs cells slots Q (F0 m pc ls st0) := by
  intro T hT X
  obtain ⟨v, st₀, t, T', L, h0, X', hL, e1, e2, hq, stp⟩ := hr T hT X
  obtain ⟨t2, a1, b1⟩ := kk v st₀ t L hq (by rw [← e2]; exact X'.warmed.alike) (fun q hq9 => by
    rcases List.mem_append.mp hq9 with h9 | h9
    · exact hlo q h9
    · exact hL q h9) T' e1 X'
  exact ⟨t2, stp t2 a1, b1⟩
theorem m_map_rev (as : List Value) : ((as.map (mv cst b)).reverse : List Value) = as.reverse.map (mv cst b) := by rw [List.map_reverse]
set_option maxHeartbeats 1000000 in
theorem m_callW (C : SC p s m args meth c R i D tA cst b) (hR : HR D tA cst b s h H) (hlo : ∀ q ∈ locs, b ≤ q.base) (hl : lv_has ls (m_lc i) (ml cst b lv)) {kd idx j pc' : Nat} {ins : Instr} {as r : List Value} {v1 : Option Value} {h1 : MH} (hd : decode (m_m i).2.2.1 pc = .ok (ins, 3)) (hi : (kd = 0 ∧ ins = .invokestatic idx) ∨ (kd = 1 ∧ ins = .invokevirtual idx) ∨ (kd = 2 ∧ ins = .invokespecial idx)) (hs : e_call kd i idx pc lv st h = some (.inr (.inr (j, as, r, pc'))))
    (hM : m_met l D tA cst b j as h v1 h1) (hcl : cells + (h_n h1 - h_n h) ≤ R.cells) (hsl : slots + (h_z h1 - h_z h) ≤ R.slots)
    (kk : pc' = pc + 3 → ∀ (H' : Heap) (locs' : List Loc), HR D tA cst b s h1 H' → (∀ q ∈ locs', b ≤ q.base) → W p l e R s m args below meth c H' locs' (cells + (h_n h1 - h_n h)) (slots + (h_z h1 - h_z h)) Q (F0 m pc' ls ((v1.toList ++ r).map (mv cst b)))) : W p l e R s m args below meth c H locs cells slots Q (F0 m pc ls (st.map (mv cst b))) := by
  obtain ⟨hx, hb, hml, hown, hts, hlocks, hini, hfr, hlo9, hks, hc, hr⟩ := id C
  unfold e_call at hs
  split at hs
  · next nest j9 hf =>
    have hw := m_mlw hf
    split at hs
    · split at hs
      · split at hs <;> cases hs
      · cases hs
    · split at hs
      · split at hs
        · exfalso
          revert hs
          unfold e_cp
          repeat' split
          all_goals simp [m_go]
        · cases hs
      · split at hs
        · split at hs
          · split at hs <;> cases hs
          · cases hs
        · next hj900 hj901 hmm1 =>
          split at hs
          · split at hs
            · split at hs <;> cases hs
            · cases hs
          · next hmm2 =>
            split at hs
            · next hk =>
              obtain ⟨hj0, hjN, hkind, hf1, hf2⟩ := hk
              have hnm : m_name j9 = (m_m j9).2.1 := m_nameq hjN hj900 hj901
              have hnok := m_kn _ (m_mem j9)
              have hkw := m_KW j9 hj0 hjN
              simp only [m_nok, Bool.and_eq_true, decide_eq_true_eq] at hnok
              obtain ⟨-, hn1, hn2, hn3, hn4⟩ := hnok
              have hG := m_gin hj0 hjN
              have hinit : Cond.initialized (m_m j9).2.1.cls ∈ m_tg0 := m_tgI (hkw _ (by unfold m_kw; split <;> exact List.mem_cons_self)) rfl
              have hlen : ∀ sig, parseMethodDescriptor (m_m j9).2.1.desc = some sig → m_na j9 = sig.parameters.length := fun sig hsig => by
                rw [hsig] at hn3
                exact (Option.some.inj hn3).symm
              have fin : ∀ st₀ t L (v : Option Value), j9 = j → pc + 3 = pc' → m_Qc D tA cst b v1 h1 ((as.map (mv cst b)).toArray) st₀ (.returned v) t → s.vm.Alike t.vm → (∀ q ∈ locs ++ L, b ≤ q.base) → ∀ r9, r9 = r → W p l e R s m args below meth c t.heap (locs ++ L) (cells + (h_n h1 - h_n h)) (slots + (h_z h1 - h_z h)) Q (F0 m (pc + 3) ls (v.toList ++ r9.map (mv cst b))) := by
                intro st₀ t L v ej ep hq hal hlo2 r9 hr9
                subst hr9
                obtain ⟨hv, hR1⟩ := hq
                have hv : v = v1.map (mv cst b) := by
                  cases hv
                  rfl
                have K := kk ep.symm t.heap (locs ++ L) (HR.moved hal.symm hR1) hlo2
                rw [← ep] at K
                rw [hv]
                cases v1 with
                | none => exact K
                | some v9 => exact K
              have hB : m_met l D tA cst b j as h v1 h1 → j9 = j → Cond.code (m_m j9).2.1 (m_m j9).2.2.1 (m_lc j9) (m_rt j9) ∈ m_ws j9 := fun _ _ => List.mem_cons_self
              split at hs
              · next hk0 =>
                subst hk0
                have hins : ins = .invokestatic idx := by
                  rcases hi with ⟨-, q⟩ | ⟨q, -⟩ | ⟨q, -⟩
                  · exact q
                  · omega
                  · omega
                subst hins
                split at hs
                · next hst =>
                  cases hs
                  have hstat : Cond.static (m_m j).2.1 ∈ m_tg0 := m_tgI (hkw _ (by unfold m_kw; rw [show (m_m j).2.2.2.2.2.1 = 0 from hkind]; exact List.mem_cons_of_mem _ List.mem_cons_self)) rfl
                  have hAs : ((st.take (m_na j)).reverse.map (mv cst b)).length = m_na j := by
                    rw [List.length_map, List.length_reverse, List.length_take]
                    omega
                  have hstk : st.map (mv cst b) = ((st.take (m_na j)).reverse.map (mv cst b)).reverse ++ (st.drop (m_na j)).map (mv cst b) := by
                    rw [← List.map_reverse, List.reverse_reverse, ← List.map_append, List.take_append_drop]
                  unfold m_met at hM
                  have hp : PreS s H (m_Pc D tA cst b h (st.take (m_na j)).reverse) ((st.take (m_na j)).reverse.map (mv cst b)) := ⟨m_blind, fun U hU hW => m_pre hR hks U hU hW⟩
                  rcases Nat.eq_zero_or_pos nest with hn0 | hn0
                  · subst hn0
                    have hlk : (Cond.methodLink (m_m i).2.1.cls idx (m_m j).2.1).before args s = true := by
                      rw [← hnm]
                      exact hts _ (m_tgI hw rfl)
                    exact m_after hlo (va_runS (n := m_na j) (rest := (st.drop (m_na j)).map (mv cst b)) ⟨hx, hb, hml, hown, hts⟩ hM ⟨⟨rfl, rfl, Nat.le_trans hf1 hfr, Nat.le_trans hf2 hlo9, pay_in hts hG, hB hM rfl, hts _ (m_cwin hj0 hjN), hts _ hinit, ⟨hn1, hn2⟩, hlen, hlk⟩, hts _ hstat⟩ hp rfl hAs hl.1 hstk (lv_room (by rw [mv_sum hc]; exact hst.2)) hd ⟨hcl, hsl⟩) (fun v st₀ t L hq hal hlo2 => fin st₀ t L v rfl rfl hq hal hlo2 _ rfl)
                  · have hlk : (Cond.methodLinkNest (m_m i).2.1.cls idx (m_m j).2.1 "PastHeaps").before args s = true := by
                      rw [← hnm]
                      unfold m_mw at hw
                      rw [if_neg (show ¬ ((idx, nest, j) : Nat × Nat × Nat).2.1 = 0 from Nat.ne_of_gt hn0)] at hw
                      exact va_Nw.use rfl (hks.2.1 _ hw rfl)
                    exact m_after hlo (va_runSN (n := m_na j) (rest := (st.drop (m_na j)).map (mv cst b)) ⟨hx, hb, hml, hown, hts⟩ hM ⟨⟨⟨rfl, rfl, Nat.le_trans hf1 hfr, Nat.le_trans hf2 hlo9, pay_in hts hG, hB hM rfl⟩, hts _ (m_cwin hj0 hjN), hts _ hinit, ⟨hn1, hn2⟩, hlen, hlk⟩, hts _ hstat, trivial⟩ hp rfl hAs hl.1 hstk (lv_room (by rw [mv_sum hc]; exact hst.2)) hd ⟨hcl, hsl⟩) (fun v st₀ t L hq hal hlo2 => fin st₀ t L v rfl rfl hq hal hlo2 _ rfl)
                · cases hs
              · next hk0 =>
                split at hs
                · next a r9 hdrop =>
                  by_cases hst : m_na j9 + 1 ≤ st.length ∧ m_cat r9 ≤ 8 ∧ (if (m_m j9).2.1.cls = "java/lang/String" then (h_k h a).1 = 40 else m_cnm ((h_k h a).1 - 1) = (m_m j9).2.1.cls ∧ 16 ≤ a ∧ 0 < (h_k h a).1 ∧ (h_k h a).1 < 11)
                  · rw [if_pos hst] at hs
                    obtain ⟨hst1, hst2, hrec⟩ := hst
                    cases hs
                    have hAs : ((st.take (m_na j)).reverse.map (mv cst b)).length = m_na j := by
                      rw [List.length_map, List.length_reverse, List.length_take]
                      omega
                    have hrecv : ∃ (y : Nat) (cellB : Cell), mv cst b (.ref a) = .ref y ∧ H[y]? = some cellB ∧ cellB.vm.isStatics = false ∧ s.vm.findClass (m_m j).2.1.cls = some cellB.cls := by
                      split at hrec
                      · next hstr =>
                        have ha : a < 16 := by
                          rcases Nat.lt_or_ge a 16 with q | q
                          · exact q
                          · rcases hR.cell q (by omega) with ⟨q1, q2, q3⟩ | ⟨q1, q2, q3⟩
                            · omega
                            · rw [hrec] at q1
                              exact absurd q1 (by decide)
                        have ha0 : a ≠ 0 := by
                          intro e9
                          rw [e9] at hrec
                          have := hR.2.2.2.2.2
                          omega
                        have hq := hR.2.2.2.1 a ha
                        unfold m_cst at hq
                        rw [hrec] at hq
                        obtain ⟨y, g1, g2, ⟨cell, g3, g4, g5, g6⟩, -, -⟩ := hq
                        exact ⟨y, cell, by rw [mv_cst ha0 ha, g1], g3, g4, by rw [hstr]; exact g5⟩
                      · obtain ⟨hnm9, ha, hk1, hk2⟩ := hrec
                        have hci : (h_k h a).1 - 1 < 10 := by omega
                        obtain ⟨q, hq, -⟩ := m_clf _ hci
                        obtain ⟨cv, kC, g1, g2, g3, g4, g5, g6, g7⟩ := z_objc hks hR (show (h_k h a).1 = ((h_k h a).1 - 1) + 1 by omega) hci hq
                        have hq1 : q.1 = (m_m j).2.1.cls := by
                          rw [← hnm9]
                          unfold m_cnm
                          rw [hq]
                        exact ⟨_, cv, mv_dyn ha, g1, g7, by rw [← hq1]; exact g6⟩
                    obtain ⟨y, cellB, hy, hcB, hoB, hclB⟩ := hrecv
                    have hstk : st.map (mv cst b) = ((st.take (m_na j)).reverse.map (mv cst b)).reverse ++ .ref y :: r.map (mv cst b) := by
                      rw [← List.map_reverse, List.reverse_reverse]
                      conv => lhs; rw [← List.take_append_drop (m_na j) st, hdrop]
                      rw [List.map_append, List.map_cons, hy]
                    have hmap : (((.ref a : Value) :: (st.take (m_na j)).reverse).map (mv cst b)) = .ref y :: (st.take (m_na j)).reverse.map (mv cst b) := by
                      rw [List.map_cons, hy]
                    unfold m_met at hM
                    have hpre9 : ∀ U : State, U.heap = H → s.WarmedH U.vm → m_Pc D tA cst b h (.ref a :: (st.take (m_na j)).reverse) (.ref y :: (st.take (m_na j)).reverse.map (mv cst b)).toArray U := fun U hU hW => by
                      rw [← hmap]
                      exact m_pre hR hks U hU hW
                    have fin2 : ∀ (v : Option Value) (st₀ t : State) (L : List Loc), m_Qc D tA cst b v1 h1 ((.ref y :: (st.take (m_na j)).reverse.map (mv cst b)).toArray) st₀ (.returned v) t → s.vm.Alike t.vm → (∀ q ∈ locs ++ L, b ≤ q.base) → W p l e R s m args below meth c t.heap (locs ++ L) (cells + (h_n h1 - h_n h)) (slots + (h_z h1 - h_z h)) Q (F0 m (pc + 3) ls (v.toList ++ r.map (mv cst b))) := fun v st₀ t L hq hal hlo2 => fin st₀ t L v rfl rfl hq hal hlo2 _ rfl
                    rcases hi with ⟨q, -⟩ | ⟨q, hins⟩ | ⟨q, hins⟩
                    · exact absurd q hk0
                    · subst q
                      subst hins
                      have hinst : Cond.instanceMethod (m_m j).2.1 ∈ m_tg0 := m_tgI (hkw _ (by unfold m_kw; rw [show (m_m j).2.2.2.2.2.1 = 1 from hkind]; exact List.mem_cons_of_mem _ List.mem_cons_self)) rfl
                      have hsel : Cond.selects (m_m j).2.1.cls (m_m j).2.1 (m_m j).2.1 ∈ m_tg0 := m_tgI (hkw _ (by unfold m_kw; rw [show (m_m j).2.2.2.2.2.1 = 1 from hkind]; exact List.mem_cons_of_mem _ (List.mem_cons_of_mem _ List.mem_cons_self))) rfl
                      have hp : PreV s H (m_m j).2.1.cls y (m_Pc D tA cst b h (.ref a :: (st.take (m_na j)).reverse)) ((st.take (m_na j)).reverse.map (mv cst b)) := ⟨m_blind, ⟨cellB, hcB, hoB, hclB⟩, hpre9⟩
                      rcases Nat.eq_zero_or_pos nest with hn0 | hn0
                      · subst hn0
                        have hlk : (Cond.methodLink (m_m i).2.1.cls idx (m_m j).2.1).before args s = true := by
                          rw [← hnm]
                          exact hts _ (m_tgI hw rfl)
                        exact m_after hlo (va_runV (n := m_na j) (rest := r.map (mv cst b)) ⟨hx, hb, hml, hown, hts⟩ hM ⟨⟨rfl, rfl, Nat.le_trans hf1 hfr, Nat.le_trans hf2 hlo9, pay_in hts hG, hB hM rfl, hts _ (m_cwin hj0 hjN), hts _ hinit, ⟨hn1, hn2⟩, hlen, hlk⟩, hts _ hinst, hts _ hsel⟩ hp rfl hAs hl.1 hstk (lv_room (by rw [mv_sum hc]; exact hst2)) hd ⟨hcl, hsl⟩) fin2
                      · have hlk : (Cond.methodLinkNest (m_m i).2.1.cls idx (m_m j).2.1 "PastHeaps").before args s = true := by
                          rw [← hnm]
                          unfold m_mw at hw
                          rw [if_neg (show ¬ ((idx, nest, j) : Nat × Nat × Nat).2.1 = 0 from Nat.ne_of_gt hn0)] at hw
                          exact va_Nw.use rfl (hks.2.1 _ hw rfl)
                        exact m_after hlo (va_runVN (n := m_na j) (rest := r.map (mv cst b)) ⟨hx, hb, hml, hown, hts⟩ hM ⟨⟨⟨rfl, rfl, Nat.le_trans hf1 hfr, Nat.le_trans hf2 hlo9, pay_in hts hG, hB hM rfl⟩, hts _ (m_cwin hj0 hjN), hts _ hinit, ⟨hn1, hn2⟩, hlen, hlk⟩, hts _ hinst, hts _ hsel⟩ hp rfl hAs hl.1 hstk (lv_room (by rw [mv_sum hc]; exact hst2)) hd ⟨hcl, hsl⟩) fin2
                    · subst q
                      subst hins
                      have hinst : Cond.instanceMethod (m_m j).2.1 ∈ m_tg0 := m_tgI (hkw _ (by unfold m_kw; rw [show (m_m j).2.2.2.2.2.1 = 2 from hkind]; exact List.mem_cons_of_mem _ List.mem_cons_self)) rfl
                      obtain ⟨hy1, hret⟩ := hn4 hkind
                      have hp : PreS s H (m_Pc D tA cst b h (.ref a :: (st.take (m_na j)).reverse)) (.ref y :: (st.take (m_na j)).reverse.map (mv cst b)) := ⟨m_blind, hpre9⟩
                      have hcode9 : (Cond.code (m_m j).2.1 (m_m j).2.2.1 (m_lc j) none).before args s = true := by
                        rw [← hret]
                        exact hts _ (m_cwin hj0 hjN)
                      have hB9 : Cond.code (m_m j).2.1 (m_m j).2.2.1 (m_lc j) none ∈ m_ws j := by
                        rw [← hret]
                        exact hB hM rfl
                      rcases Nat.eq_zero_or_pos nest with hn0 | hn0
                      · subst hn0
                        have hlk : (Cond.methodLink (m_m i).2.1.cls idx (m_m j).2.1).before args s = true := by
                          rw [← hnm]
                          exact hts _ (m_tgI hw rfl)
                        exact m_after hlo (va_runI (n := m_na j) (rest := r.map (mv cst b)) ⟨hx, hb, hml, hown, hts⟩ hM ⟨⟨rfl, rfl, Nat.le_trans hf1 hfr, Nat.le_trans hf2 hlo9, pay_in hts hG, hB9, hcode9, hts _ hinit, ⟨hn1, hn2⟩, hlen, hlk⟩, hy1, hts _ hinst⟩ hp rfl hAs hl.1 hstk (lv_room (by rw [mv_sum hc]; exact hst2)) hd ⟨hcl, hsl⟩) fin2
                      · have hlk : (Cond.methodLinkNest (m_m i).2.1.cls idx (m_m j).2.1 "PastHeaps").before args s = true := by
                          rw [← hnm]
                          unfold m_mw at hw
                          rw [if_neg (show ¬ ((idx, nest, j) : Nat × Nat × Nat).2.1 = 0 from Nat.ne_of_gt hn0)] at hw
                          exact va_Nw.use rfl (hks.2.1 _ hw rfl)
                        exact m_after hlo (va_runIN (n := m_na j) (rest := r.map (mv cst b)) ⟨hx, hb, hml, hown, hts⟩ hM ⟨⟨⟨rfl, rfl, Nat.le_trans hf1 hfr, Nat.le_trans hf2 hlo9, pay_in hts hG, hB9⟩, hcode9, hts _ hinit, ⟨hn1, hn2⟩, hlen, hlk⟩, hy1, hts _ hinst⟩ hp rfl hAs hl.1 hstk (lv_room (by rw [mv_sum hc]; exact hst2)) hd ⟨hcl, hsl⟩) fin2
                  · rw [if_neg hst] at hs
                    cases hs
                · cases hs
            · cases hs
  · cases hs
end SIMM
end
section
-- WHAT A STEP CAN BE; THE RUN
section RUN
variable {i : Nat} {pc : Nat} {lv : List (Nat × Value)} {st : List Value} {h : MH}
def m_il (h : MH) (o : Option MA) : Prop := ∀ q, o = some q → ∃ S : MS, q = .inl S ∧ h_n h ≤ h_n S.2.2.2 ∧ h_z h ≤ h_z S.2.2.2
theorem il_none : m_il h none := fun q h => by cases h
theorem il_go {h1 : MH} (h2 : h_n h ≤ h_n h1) (h3 : h_z h ≤ h_z h1) : m_il h (m_go pc lv st h1) := fun q hq => by
  cases hq
  exact ⟨_, rfl, h2, h3⟩
theorem il_id : m_il h (m_go pc lv st h) := il_go (Nat.le_refl _) (Nat.le_refl _)
theorem il_tg {off : Int} : m_il h (m_tg pc off lv st h) := by
  unfold m_tg
  split
  · exact il_id
  · exact il_none
theorem il_br {t : Bool} {off : Int} : m_il h (m_br t pc off lv st h) := by
  unfold m_br
  split
  · split
    · exact il_id
    · exact il_id
  · exact il_none
theorem il_e_ii {f : Int32 → Int32 → Int32} : m_il h (e_ii f pc lv st h) := by
  unfold e_ii
  repeat' split
  all_goals first | exact il_none | exact il_id
theorem il_e_ll {f : Int64 → Int64 → Int64} : m_il h (e_ll f pc lv st h) := by
  unfold e_ll
  repeat' split
  all_goals first | exact il_none | exact il_id
theorem il_e_li {f : Int64 → Int32 → Int64} : m_il h (e_li f pc lv st h) := by
  unfold e_li
  repeat' split
  all_goals first | exact il_none | exact il_id
theorem il_e_i {f : Int32 → Value} : m_il h (e_i f pc lv st h) := by
  unfold e_i
  repeat' split
  all_goals first | exact il_none | exact il_id
theorem il_e_l {f : Int64 → Value} : m_il h (e_l f pc lv st h) := by
  unfold e_l
  repeat' split
  all_goals first | exact il_none | exact il_id
theorem il_e_dv {f : Int32 → Int32 → Int32} : m_il h (e_dv f pc lv st h) := by
  unfold e_dv
  repeat' split
  all_goals first | exact il_none | exact il_id
theorem il_e_ild {k : Nat} : m_il h (e_ild k pc lv st h) := by
  unfold e_ild
  repeat' split
  all_goals first | exact il_none | exact il_id
theorem il_e_lld {k : Nat} : m_il h (e_lld k pc lv st h) := by
  unfold e_lld
  repeat' split
  all_goals first | exact il_none | exact il_id
theorem il_e_ald {k : Nat} : m_il h (e_ald k pc lv st h) := by
  unfold e_ald
  repeat' split
  all_goals first | exact il_none | exact il_id
theorem il_e_ist {n k : Nat} : m_il h (e_ist n k pc lv st h) := by
  unfold e_ist
  repeat' split
  all_goals first | exact il_none | exact il_id
theorem il_e_lst {n k : Nat} : m_il h (e_lst n k pc lv st h) := by
  unfold e_lst
  repeat' split
  all_goals first | exact il_none | exact il_id
theorem il_e_ast {n k : Nat} : m_il h (e_ast n k pc lv st h) := by
  unfold e_ast
  repeat' split
  all_goals first | exact il_none | exact il_id
theorem il_e_inc {n k : Nat} {z : Int} : m_il h (e_inc n k z pc lv st h) := by
  unfold e_inc
  repeat' split
  all_goals first | exact il_none | exact il_id
theorem il_e_get {idx : Nat} : m_il h (e_get i idx pc lv st h) := by
  unfold e_get
  repeat' split
  all_goals first | exact il_none | exact il_id | exact il_go (Nat.le_refl _) (Nat.le_refl _) | exact il_go (Nat.le_add_right _ _) (Nat.le_add_right _ _)
theorem il_e_put {idx : Nat} : m_il h (e_put i idx pc lv st h) := by
  unfold e_put
  repeat' split
  all_goals first | exact il_none | exact il_id | exact il_go (Nat.le_refl _) (Nat.le_refl _) | exact il_go (Nat.le_add_right _ _) (Nat.le_add_right _ _)
theorem il_e_new {idx : Nat} : m_il h (e_new i idx pc lv st h) := by
  unfold e_new
  repeat' split
  all_goals first | exact il_none | exact il_id | exact il_go (Nat.le_refl _) (Nat.le_refl _) | exact il_go (Nat.le_add_right _ _) (Nat.le_add_right _ _)
theorem il_e_anew {idx : Nat} : m_il h (e_anew i idx pc lv st h) := by
  unfold e_anew
  repeat' split
  all_goals first | exact il_none | exact il_id | exact il_go (Nat.le_refl _) (Nat.le_refl _) | exact il_go (Nat.le_add_right _ _) (Nat.le_add_right _ _)
theorem il_e_gets {idx : Nat} : m_il h (e_gets i idx pc lv st h) := by
  unfold e_gets
  repeat' split
  all_goals first | exact il_none | exact il_id | exact il_go (Nat.le_refl _) (Nat.le_refl _) | exact il_go (Nat.le_add_right _ _) (Nat.le_add_right _ _)
theorem il_e_iald {k0 k1 : Nat} : m_il h (e_iald k0 k1 pc lv st h) := by
  unfold e_iald
  repeat' split
  all_goals first | exact il_none | exact il_id
theorem il_e_lald : m_il h (e_lald pc lv st h) := by
  unfold e_lald
  repeat' split
  all_goals first | exact il_none | exact il_id | exact il_go (Nat.le_refl _) (Nat.le_refl _)
theorem il_e_aald : m_il h (e_aald pc lv st h) := by
  unfold e_aald
  repeat' split
  all_goals first | exact il_none | exact il_id | exact il_go (Nat.le_refl _) (Nat.le_refl _)
theorem il_e_iast : m_il h (e_iast pc lv st h) := by
  unfold e_iast
  repeat' split
  all_goals first | exact il_none | exact il_id | exact il_go (Nat.le_refl _) (Nat.le_refl _)
theorem il_e_bast : m_il h (e_bast pc lv st h) := by
  unfold e_bast
  repeat' split
  all_goals first | exact il_none | exact il_id | exact il_go (Nat.le_refl _) (Nat.le_refl _)
theorem il_e_last : m_il h (e_last pc lv st h) := by
  unfold e_last
  repeat' split
  all_goals first | exact il_none | exact il_id | exact il_go (Nat.le_refl _) (Nat.le_refl _)
theorem il_e_aast : m_il h (e_aast pc lv st h) := by
  unfold e_aast
  repeat' split
  all_goals first | exact il_none | exact il_id | exact il_go (Nat.le_refl _) (Nat.le_refl _)
theorem il_e_alen : m_il h (e_alen pc lv st h) := by
  unfold e_alen
  repeat' split
  all_goals first | exact il_none | exact il_id | exact il_go (Nat.le_refl _) (Nat.le_refl _)
theorem il_e_newa {t : ArrayType} : m_il h (e_newa t pc lv st h) := by
  unfold e_newa
  repeat' split
  all_goals first | exact il_none | exact il_go (Nat.le_add_right _ _) (Nat.le_add_right _ _)
theorem il_e_ldc {w idx : Nat} : m_il h (e_ldc w i idx pc lv st h) := by
  unfold e_ldc
  repeat' split
  all_goals first | exact il_none | exact il_id
theorem il_e_cp : m_il h (e_cp i pc lv st h) := by
  unfold e_cp
  repeat' split
  all_goals first | exact il_none | exact il_go (Nat.le_refl _) (Nat.le_refl _)
theorem il_e_call {kd idx : Nat} {q : MA} (hq : e_call kd i idx pc lv st h = some q) : (∃ S : MS, q = .inl S ∧ h_n h ≤ h_n S.2.2.2 ∧ h_z h ≤ h_z S.2.2.2) ∨ ∃ c, q = .inr (.inr c) := by
  revert hq
  unfold e_call
  repeat' split
  all_goals intro hq
  all_goals first | (exact Or.inl (il_e_cp q hq)) | (exact Or.inl (il_id q hq)) | (exact Or.inr ⟨_, (Option.some.inj hq).symm⟩) | (exact absurd hq (by simp))
def m_ri (t : Option FieldType) (ins : Instr) (v : Option Value) : Prop := (∃ x, v = some (.int x) ∧ ins = .ireturn ∧ m_rok t x = true) ∨ (∃ x, v = some (.long x) ∧ ins = .lreturn ∧ t = some .long) ∨ (∃ x, v = some (.ref x) ∧ ins = .areturn ∧ m_rr t = true) ∨ (v = none ∧ ins = .return_ ∧ t = none)
def m_kdi (kd idx : Nat) (ins : Instr) : Prop := (kd = 0 ∧ ins = .invokestatic idx) ∨ (kd = 1 ∧ ins = .invokevirtual idx) ∨ (kd = 2 ∧ ins = .invokespecial idx)
theorem m_stq {q : MA} (hs : m_st i pc lv st h = some q) : (∃ S : MS, q = .inl S ∧ h_n h ≤ h_n S.2.2.2 ∧ h_z h ≤ h_z S.2.2.2) ∨ (∃ (v : Option Value) (ins : Instr), q = .inr (.inl (v, h)) ∧ decode (m_m i).2.2.1 pc = .ok (ins, 1) ∧ m_ri (m_rt i) ins v ∧ st = v.toList) ∨ (∃ (cl : Nat × List Value × List Value × Nat) (kd idx : Nat) (ins : Instr), q = .inr (.inr cl) ∧ decode (m_m i).2.2.1 pc = .ok (ins, 3) ∧ m_kdi kd idx ins ∧ e_call kd i idx pc lv st h = some (.inr (.inr cl))) := by
  unfold m_st at hs
  split at hs
  · next e9 he9 =>
    split at hs
    · next hlen =>
      have hd := m_dec he9
      obtain ⟨ins, len⟩ := e9
      dsimp only at hs hlen
      cases ins with
      | iadd => exact Or.inl (il_e_ii q hs)
      | isub => exact Or.inl (il_e_ii q hs)
      | imul => exact Or.inl (il_e_ii q hs)
      | iand => exact Or.inl (il_e_ii q hs)
      | ior => exact Or.inl (il_e_ii q hs)
      | ixor => exact Or.inl (il_e_ii q hs)
      | ishl => exact Or.inl (il_e_ii q hs)
      | ishr => exact Or.inl (il_e_ii q hs)
      | iushr => exact Or.inl (il_e_ii q hs)
      | idiv => exact Or.inl (il_e_dv q hs)
      | irem => exact Or.inl (il_e_dv q hs)
      | ineg => exact Or.inl (il_e_i q hs)
      | i2l => exact Or.inl (il_e_i q hs)
      | i2b => exact Or.inl (il_e_i q hs)
      | i2c => exact Or.inl (il_e_i q hs)
      | ladd => exact Or.inl (il_e_ll q hs)
      | lsub => exact Or.inl (il_e_ll q hs)
      | land => exact Or.inl (il_e_ll q hs)
      | lor => exact Or.inl (il_e_ll q hs)
      | lxor => exact Or.inl (il_e_ll q hs)
      | lshl => exact Or.inl (il_e_li q hs)
      | lshr => exact Or.inl (il_e_li q hs)
      | lushr => exact Or.inl (il_e_li q hs)
      | lneg => exact Or.inl (il_e_l q hs)
      | l2i => exact Or.inl (il_e_l q hs)
      | iconst k => exact Or.inl (il_id q hs)
      | lconst k => exact Or.inl (il_id q hs)
      | bipush k => exact Or.inl (il_id q hs)
      | sipush k => exact Or.inl (il_id q hs)
      | aconst_null => exact Or.inl (il_id q hs)
      | iload k => exact Or.inl (il_e_ild q hs)
      | iload_n k => exact Or.inl (il_e_ild q hs)
      | lload k => exact Or.inl (il_e_lld q hs)
      | lload_n k => exact Or.inl (il_e_lld q hs)
      | aload k => exact Or.inl (il_e_ald q hs)
      | aload_n k => exact Or.inl (il_e_ald q hs)
      | istore k => exact Or.inl (il_e_ist q hs)
      | istore_n k => exact Or.inl (il_e_ist q hs)
      | lstore k => exact Or.inl (il_e_lst q hs)
      | lstore_n k => exact Or.inl (il_e_lst q hs)
      | astore k => exact Or.inl (il_e_ast q hs)
      | astore_n k => exact Or.inl (il_e_ast q hs)
      | iinc k z => exact Or.inl (il_e_inc q hs)
      | goto o => exact Or.inl (il_tg q hs)
      | getfield k => exact Or.inl (il_e_get q hs)
      | putfield k => exact Or.inl (il_e_put q hs)
      | getstatic k => exact Or.inl (il_e_gets q hs)
      | new k => exact Or.inl (il_e_new q hs)
      | anewarray k => exact Or.inl (il_e_anew q hs)
      | iaload => exact Or.inl (il_e_iald q hs)
      | baload => exact Or.inl (il_e_iald q hs)
      | laload => exact Or.inl (il_e_lald q hs)
      | aaload => exact Or.inl (il_e_aald q hs)
      | iastore => exact Or.inl (il_e_iast q hs)
      | bastore => exact Or.inl (il_e_bast q hs)
      | lastore => exact Or.inl (il_e_last q hs)
      | aastore => exact Or.inl (il_e_aast q hs)
      | arraylength => exact Or.inl (il_e_alen q hs)
      | newarray t => exact Or.inl (il_e_newa q hs)
      | ldc k => exact Or.inl (il_e_ldc q hs)
      | ldc_w k => exact Or.inl (il_e_ldc q hs)
      | dup =>
        refine Or.inl ((show m_il h _ from ?_) q hs)
        simp only [m_ex]
        repeat' split
        all_goals first | exact il_none | exact il_id | exact il_tg | exact il_br
      | pop =>
        refine Or.inl ((show m_il h _ from ?_) q hs)
        simp only [m_ex]
        repeat' split
        all_goals first | exact il_none | exact il_id | exact il_tg | exact il_br
      | dup2 =>
        refine Or.inl ((show m_il h _ from ?_) q hs)
        simp only [m_ex]
        repeat' split
        all_goals first | exact il_none | exact il_id | exact il_tg | exact il_br
      | lcmp =>
        refine Or.inl ((show m_il h _ from ?_) q hs)
        simp only [m_ex]
        repeat' split
        all_goals first | exact il_none | exact il_id | exact il_tg | exact il_br
      | ldc2_w k =>
        refine Or.inl ((show m_il h _ from ?_) q hs)
        simp only [m_ex]
        repeat' split
        all_goals first | exact il_none | exact il_id | exact il_tg | exact il_br
      | ifCond cc o =>
        refine Or.inl ((show m_il h _ from ?_) q hs)
        simp only [m_ex]
        repeat' split
        all_goals first | exact il_none | exact il_id | exact il_tg | exact il_br
      | if_icmp cc o =>
        refine Or.inl ((show m_il h _ from ?_) q hs)
        simp only [m_ex]
        repeat' split
        all_goals first | exact il_none | exact il_id | exact il_tg | exact il_br
      | ifnull o =>
        refine Or.inl ((show m_il h _ from ?_) q hs)
        simp only [m_ex]
        repeat' split
        all_goals first | exact il_none | exact il_id | exact il_tg | exact il_br
      | ifnonnull o =>
        refine Or.inl ((show m_il h _ from ?_) q hs)
        simp only [m_ex]
        repeat' split
        all_goals first | exact il_none | exact il_id | exact il_tg | exact il_br
      | tableswitch d lo hi offs =>
        refine Or.inl ((show m_il h _ from ?_) q hs)
        simp only [m_ex]
        repeat' split
        all_goals first | exact il_none | exact il_id | exact il_tg | exact il_br
      | invokestatic k =>
        cases (m_l1 (a := 0) 3 (by decide) hlen)
        rcases il_e_call hs with h9 | ⟨cl, h9⟩
        · exact Or.inl h9
        · subst h9
          exact Or.inr (Or.inr ⟨cl, 0, k, _, rfl, hd, Or.inl ⟨rfl, rfl⟩, hs⟩)
      | invokevirtual k =>
        cases (m_l1 (a := 0) 3 (by decide) hlen)
        rcases il_e_call hs with h9 | ⟨cl, h9⟩
        · exact Or.inl h9
        · subst h9
          exact Or.inr (Or.inr ⟨cl, 1, k, _, rfl, hd, Or.inr (Or.inl ⟨rfl, rfl⟩), hs⟩)
      | invokespecial k =>
        cases (m_l1 (a := 0) 3 (by decide) hlen)
        rcases il_e_call hs with h9 | ⟨cl, h9⟩
        · exact Or.inl h9
        · subst h9
          exact Or.inr (Or.inr ⟨cl, 2, k, _, rfl, hd, Or.inr (Or.inr ⟨rfl, rfl⟩), hs⟩)
      | ireturn =>
        cases (m_l1 (a := 0) 1 (by decide) hlen)
        simp only [m_ex] at hs
        split at hs
        · split at hs
          · next hr9 =>
            cases hs
            exact Or.inr (Or.inl ⟨_, _, rfl, hd, Or.inl ⟨_, rfl, rfl, hr9⟩, rfl⟩)
          · cases hs
        · cases hs
      | lreturn =>
        cases (m_l1 (a := 0) 1 (by decide) hlen)
        simp only [m_ex] at hs
        split at hs
        · split at hs
          · next hr9 =>
            cases hs
            exact Or.inr (Or.inl ⟨_, _, rfl, hd, Or.inr (Or.inl ⟨_, rfl, rfl, hr9⟩), rfl⟩)
          · cases hs
        · cases hs
      | areturn =>
        cases (m_l1 (a := 0) 1 (by decide) hlen)
        simp only [m_ex] at hs
        split at hs
        · split at hs
          · next hr9 =>
            cases hs
            exact Or.inr (Or.inl ⟨_, _, rfl, hd, Or.inr (Or.inr (Or.inl ⟨_, rfl, rfl, hr9⟩)), rfl⟩)
          · cases hs
        · cases hs
      | return_ =>
        cases (m_l1 (a := 0) 1 (by decide) hlen)
        simp only [m_ex] at hs
        split at hs
        · split at hs
          · next hr9 =>
            cases hs
            exact Or.inr (Or.inl ⟨_, _, rfl, hd, Or.inr (Or.inr (Or.inr ⟨rfl, rfl, hr9⟩)), rfl⟩)
          · cases hs
        · cases hs
      | _ => exact absurd hs (by simp [m_ex])
    · cases hs
  · cases hs
def m_rn : Nat → Nat → Nat → List (Nat × Value) → List Value → MH → Option (Option Value × MH)
  | 0, _, _, _, _, _ => none
  | n + 1, i, pc, lv, st, h => match m_st i pc lv st h with
    | some (.inl (pc', lv', st', h')) => m_rn n i pc' lv' st' h'
    | some (.inr (.inl q)) => some q
    | some (.inr (.inr (j, as, r, pc'))) => if m_cat as ≤ m_lc j then (match m_rn n j 0 (lv_args 0 as) [] h with
      | some (v, h') => m_rn n i pc' lv (v.toList ++ r) h'
      | none => none) else none
    | none => none
theorem m_mono : ∀ (n i pc : Nat) (lv : List (Nat × Value)) (st : List Value) (h : MH) (v : Option Value) (h' : MH), m_rn n i pc lv st h = some (v, h') → h_n h ≤ h_n h' ∧ h_z h ≤ h_z h'
  | 0, _, _, _, _, _, _, _, hr => by cases hr
  | n + 1, i, pc, lv, st, h, v, h', hr => by
    rw [m_rn] at hr
    split at hr
    · next pc1 lv1 st1 h1 hs =>
      rcases m_stq hs with ⟨S, g1, g2, g3⟩ | ⟨v9, ins, g1, -⟩ | ⟨cl, kd, idx, ins, g1, -⟩
      · cases g1
        obtain ⟨k1, k2⟩ := m_mono n _ _ _ _ _ _ _ hr
        exact ⟨Nat.le_trans g2 k1, Nat.le_trans g3 k2⟩
      · cases g1
      · cases g1
    · next q hs =>
      cases hr
      rcases m_stq hs with ⟨S, g1, -⟩ | ⟨v9, ins, g1, -⟩ | ⟨cl, kd, idx, ins, g1, -⟩
      · cases g1
      · cases g1
        exact ⟨Nat.le_refl _, Nat.le_refl _⟩
      · cases g1
    · next j as r pc1 hs =>
      split at hr
      · split at hr
        · next v1 h1 hr1 =>
          obtain ⟨k1, k2⟩ := m_mono n _ _ _ _ _ _ _ hr1
          obtain ⟨k3, k4⟩ := m_mono n _ _ _ _ _ _ _ hr
          exact ⟨Nat.le_trans k1 k3, Nat.le_trans k2 k4⟩
        · cases hr
      · cases hr
    · cases hr
end RUN
-- how a run ends in its frame
def m_RET (p : Program) (l : Launch) (e : Env) (R : Room) (s : State) (m : MethodId) (args : Array Value) (below : List Frame) (meth : Method) (c : Code) (Q : State → Prop) (i : Nat) (D : va_G) (tA : Nat → ClassId) (cst : Nat → Value) (b : Nat) (v : Option Value) (h' : MH) (cE sE : Nat) : Prop :=
  ∀ (pc : Nat) (ls : Array Slot) (H : Heap) (locs : List Loc) (ins : Instr), decode (m_m i).2.2.1 pc = .ok (ins, 1) → m_ri (m_rt i) ins v → HR D tA cst b s h' H → (∀ q ∈ locs, b ≤ q.base) → W p l e R s m args below meth c H locs cE sE Q (F0 m pc ls (v.map (mv cst b)).toList)
theorem m_rokS {t : Option FieldType} {x : Int32} (h : m_rok t x = true) : ∃ ty, t = some ty ∧ narrow ty (.int x) = .int x := by
  unfold m_rok at h
  split at h
  · exact ⟨_, rfl, rfl⟩
  · exact ⟨_, rfl, congrArg Value.int (of_decide_eq_true h)⟩
  · exact ⟨_, rfl, congrArg Value.int (of_decide_eq_true h)⟩
  · exact ⟨_, rfl, congrArg Value.int (of_decide_eq_true h)⟩
  · cases h
theorem m_rrS {t : Option FieldType} (h : m_rr t = true) : ∃ ty, t = some ty ∧ ((∃ n, ty = .object n) ∨ ∃ t, ty = .array t) := by
  unfold m_rr at h
  split at h
  · exact ⟨_, rfl, Or.inl ⟨_, rfl⟩⟩
  · exact ⟨_, rfl, Or.inr ⟨_, rfl⟩⟩
  · cases h
theorem m_plain {j : Nat} (hj : j < 292) (n1 : j ≠ m_jmin) (n2 : j ≠ m_jmax) (n3 : j ≠ m_jminl) (n4 : j ≠ m_jmaxl) : plainName (m_m j).2.1.cls = true := by
  have h2 : (List.range 292).all (fun j => decide (j = m_jmin) || decide (j = m_jmax) || decide (j = m_jminl) || decide (j = m_jmaxl) || plainName (m_m j).2.1.cls) = true := by decide +kernel
  have h3 := List.all_eq_true.mp h2 j (List.mem_range.mpr hj)
  simpa [n1, n2, n3, n4] using h3
-- the words of a method's arguments fit its locals
def m_szok (j : Nat) (as : List Value) : Prop := m_cat as ≤ m_lc j
theorem m_lgsz {cst : Nat → Value} {b : Nat} (hc : m_cok cst) (as : List Value) : (lg_sl (as.map (mv cst b))).length = m_cat as := by
  induction as with
  | nil => rfl
  | cons x t ih =>
    have e1 : lg_sl ((x :: t).map (mv cst b)) = (if (mv cst b x).category = 2 then [Slot.val (mv cst b x), Slot.second] else [Slot.val (mv cst b x)]) ++ lg_sl (t.map (mv cst b)) := rfl
    rw [e1, List.length_append, ih, mv_cat hc]
    have e2 : m_cat (x :: t) = x.category + m_cat t := rfl
    rw [e2]
    rcases lv_cat x with q | q <;> rw [q] <;> rfl
-- a method's run is its contract
theorem m_callj {kd i idx pc : Nat} {lv : List (Nat × Value)} {st : List Value} {h : MH} {j : Nat} {as r : List Value} {pc' : Nat} (hs : e_call kd i idx pc lv st h = some (.inr (.inr (j, as, r, pc')))) : 0 < j ∧ j < 292 ∧ j ≠ m_jmin ∧ j ≠ m_jmax ∧ j ≠ m_jminl ∧ j ≠ m_jmaxl ∧ as.length ≤ 1 + m_na j := by
  revert hs
  unfold e_call
  split
  · next nest j9 hf =>
    split
    · split
      · split <;> simp [m_go]
      · simp
    · split
      · split
        · intro hs
          obtain ⟨S, g1, -⟩ := il_e_cp _ hs
          cases g1
        · simp
      · split
        · split
          · split <;> simp [m_go]
          · simp
        · next hm1 =>
          split
          · split
            · split <;> simp [m_go]
            · simp
          · next hm2 =>
            split
            · next hk =>
              obtain ⟨g1, g2, -⟩ := hk
              split
              · split
                · intro hs
                  cases hs
                  refine ⟨g1, g2, fun q => hm1 (Or.inl q), fun q => hm1 (Or.inr q), fun q => hm2 (Or.inl q), fun q => hm2 (Or.inr q), ?_⟩
                  rw [List.length_reverse, List.length_take]
                  omega
                · simp
              · split
                · next a r9 hdrop =>
                  by_cases hst : m_na j9 + 1 ≤ st.length ∧ m_cat r9 ≤ 8 ∧ (if (m_m j9).2.1.cls = "java/lang/String" then (h_k h a).1 = 40 else m_cnm ((h_k h a).1 - 1) = (m_m j9).2.1.cls ∧ 16 ≤ a ∧ 0 < (h_k h a).1 ∧ (h_k h a).1 < 11)
                  · rw [if_pos hst]
                    intro hs
                    cases hs
                    refine ⟨g1, g2, fun q => hm1 (Or.inl q), fun q => hm1 (Or.inr q), fun q => hm2 (Or.inl q), fun q => hm2 (Or.inr q), ?_⟩
                    rw [List.length_cons, List.length_reverse, List.length_take]
                    omega
                  · rw [if_neg hst]
                    simp
                · simp
            · simp
  · simp
theorem m_metI (l : Launch) (D : va_G) (tA : Nat → ClassId) (cst : Nat → Value) (b : Nat) {j : Nat} {as : List Value} {h : MH} {v : Option Value} {h' : MH}
    (hrun : ∀ {p : Program} {e : Env} {R : Room} {s : State} {m : MethodId} {args : Array Value} {below : List Frame} {meth : Method} {c : Code} {Q : State → Prop}, SC p s m args meth c R j D tA cst b → ∀ (H : Heap) (locs : List Loc) (cells slots : Nat) (ls : Array Slot), HR D tA cst b s h H → (∀ q ∈ locs, b ≤ q.base) → lv_has ls (m_lc j) (ml cst b (lv_args 0 as)) → cells + (h_n h' - h_n h) ≤ R.cells → slots + (h_z h' - h_z h) ≤ R.slots → m_RET p l e R s m args below meth c Q j D tA cst b v h' (cells + (h_n h' - h_n h)) (slots + (h_z h' - h_z h)) → W p l e R s m args below meth c H locs cells slots Q (F0 m 0 ls (([] : List Value).map (mv cst b))))
    {kd i idx pc : Nat} {lv : List (Nat × Value)} {st : List Value} {r : List Value} {pc' : Nat} (hs : e_call kd i idx pc lv st h = some (.inr (.inr (j, as, r, pc')))) (hc : m_cok cst) (hsz : m_szok j as) : m_met l D tA cst b j as h v h' := by
  obtain ⟨hj0, hjN, n1, n2, n3, n4, -⟩ := m_callj hs
  unfold m_met
  refine Met.ofW (cc := (m_m j).2.2.1) (maxL := m_lc j) (ret := m_rt j) (m_plain hjN n1 n2 n3 n4) rfl ?_
  intro p e s m args below meth c s₁ B hml hv
  obtain ⟨hargs, hR, hks⟩ := hv
  have hts := atoms_spec (ws := m_ws j) B.pre
  have C : SC p s m args meth c (headSpec (m_ws j) (m_rm j (h_n h' - h_n h) (h_z h' - h_z h))).room j D tA cst b := ⟨B.exec, B.bytes, hml, findClass_of_methodNamed B.named, fun w hw => hts w (List.mem_cons_of_mem _ hw), B.notSynchronized, fun hk => by
    have h9 := (name_of_methodNamed B.named B.method).1
    rw [h9]
    have hnok := m_kn _ (m_mem j)
    simp only [m_nok, Bool.and_eq_true, decide_eq_true_eq] at hnok
    exact (hnok.2.2.2.2 hk).1, Nat.le_refl _, Nat.le_refl _, hks, hc, B.returns⟩
  subst hargs
  rw [lg_entry_eq]
  have hl := lv_entry (as.map (mv cst b)) (n := m_lc j) (by rw [m_lgsz hc]; exact hsz)
  rw [ml_args hc] at hl
  refine hrun C s.heap [] 0 0 _ hR (fun q hq => by cases hq) hl ?_ ?_ ?_
  · show 0 + _ ≤ h_n h' - h_n h
    omega
  · show 0 + _ ≤ h_z h' - h_z h
    omega
  · intro pc ls H locs ins hd hri hR1 hlo
    rw [Nat.zero_add, Nat.zero_add]
    have hq : ∀ t : State, t.heap = H → s.WarmedH t.vm → m_Qc D tA cst b v h' ((as.map (mv cst b)).toArray) s (.returned (v.map (mv cst b))) t := fun t ht hW => ⟨rfl, by rw [ht]; exact HR.moved hW.alike hR1⟩
    have hlocks := B.notSynchronized
    rcases hri with ⟨x, e1, e2, e3⟩ | ⟨x, e1, e2, e3⟩ | ⟨x, e1, e2, e3⟩ | ⟨e1, e2, e3⟩
    · subst e1
      subst e2
      obtain ⟨ty, hty, hn⟩ := m_rokS e3
      exact W.zret B.exec B.bytes (B.returns.trans hty) hn hq hlo hd
    · subst e1
      subst e2
      exact W.lret B.exec B.bytes (B.returns.trans e3) hq hlo hd
    · subst e1
      subst e2
      obtain ⟨ty, hty, hn⟩ := m_rrS e3
      exact W.aret B.exec B.bytes (B.returns.trans hty) hn (mv_ref hc x) hq hlo hd
    · subst e1
      subst e2
      exact W.vret B.exec B.bytes (B.returns.trans e3) hq hlo hd
theorem m_sim (l : Launch) (D : va_G) (tA : Nat → ClassId) (cst : Nat → Value) (b : Nat) : ∀ (n i pc : Nat) (lv : List (Nat × Value)) (st : List Value) (h : MH) (v : Option Value) (h' : MH), m_rn n i pc lv st h = some (v, h') →
    ∀ {p : Program} {e : Env} {R : Room} {s : State} {m : MethodId} {args : Array Value} {below : List Frame} {meth : Method} {c : Code} {Q : State → Prop}, SC p s m args meth c R i D tA cst b → ∀ (H : Heap) (locs : List Loc) (cells slots : Nat) (ls : Array Slot), HR D tA cst b s h H → (∀ q ∈ locs, b ≤ q.base) → lv_has ls (m_lc i) (ml cst b lv) → cells + (h_n h' - h_n h) ≤ R.cells → slots + (h_z h' - h_z h) ≤ R.slots → m_RET p l e R s m args below meth c Q i D tA cst b v h' (cells + (h_n h' - h_n h)) (slots + (h_z h' - h_z h)) →
      W p l e R s m args below meth c H locs cells slots Q (F0 m pc ls (st.map (mv cst b)))
  | 0, _, _, _, _, _, _, _, hr => by cases hr
  | n + 1, i, pc, lv, st, h, v, h', hr => fun C H locs cells slots ls hR hlo hl hcl hsl hret => by
    rw [m_rn] at hr
    split at hr
    · next pc1 lv1 st1 h1 hs =>
      obtain ⟨k1, k2⟩ := m_mono n _ _ _ _ _ _ _ hr
      have hgg : h_n h ≤ h_n h1 ∧ h_z h ≤ h_z h1 := by
        rcases m_stq hs with ⟨S, g1, g2⟩ | ⟨v9, ins, g1, -⟩ | ⟨cl, kd, idx, ins, g1, -⟩
        · cases g1
          exact g2
        · cases g1
        · cases g1
      obtain ⟨g1, g2⟩ := hgg
      refine (m_inl C hR hlo hl (by omega) (by omega) hs).2 (by dsimp only; omega) (by dsimp only; omega) (fun H' locs' ls' a1 a2 a3 => ?_)
      dsimp only at a1 a2 a3 ⊢
      refine m_sim l D tA cst b n _ _ _ _ _ _ _ hr C H' locs' _ _ ls' a1 a2 a3 (by omega) (by omega) ?_
      rw [show cells + (h_n h1 - h_n h) + (h_n h' - h_n h1) = cells + (h_n h' - h_n h) by omega, show slots + (h_z h1 - h_z h) + (h_z h' - h_z h1) = slots + (h_z h' - h_z h) by omega]
      exact hret
    · next q hs =>
      cases hr
      rcases m_stq hs with ⟨S, g1, -⟩ | ⟨v9, ins, g1, g2, g3, g4⟩ | ⟨cl, kd, idx, ins, g1, -⟩
      · cases g1
      · cases g1
        rw [Nat.sub_self, Nat.sub_self] at hret
        have hst : st.map (mv cst b) = (v.map (mv cst b)).toList := by
          rw [g4]
          cases v <;> rfl
        rw [hst]
        exact hret pc ls H locs ins g2 g3 hR hlo
      · cases g1
    · next j as r pc1 hs =>
      split at hr
      · next hsz =>
       split at hr
       · next v1 h1 hr1 =>
        obtain ⟨k1, k2⟩ := m_mono n _ _ _ _ _ _ _ hr1
        obtain ⟨k3, k4⟩ := m_mono n _ _ _ _ _ _ _ hr
        rcases m_stq hs with ⟨S, g1, -⟩ | ⟨v9, ins, g1, -⟩ | ⟨cl, kd, idx, ins, g1, g2, g3, g4⟩
        · cases g1
        · cases g1
        · cases g1
          refine m_callW C hR hlo hl g2 g3 g4 (m_metI l D tA cst b (fun {p e R s m args below meth c Q} C9 H9 locs9 cells9 slots9 ls9 => m_sim l D tA cst b n _ _ _ _ _ _ _ hr1 C9 H9 locs9 cells9 slots9 ls9) g4 C.2.2.2.2.2.2.2.2.2.2.1 hsz) (by omega) (by omega) (fun hpc H' locs' a1 a2 => ?_)
          refine m_sim l D tA cst b n _ _ _ _ _ _ _ hr C H' locs' _ _ ls a1 a2 hl (by omega) (by omega) ?_
          rw [show cells + (h_n h1 - h_n h) + (h_n h' - h_n h1) = cells + (h_n h' - h_n h) by omega, show slots + (h_z h1 - h_z h) + (h_z h' - h_z h1) = slots + (h_z h' - h_z h) by omega]
          exact hret
       · cases hr
      · cases hr
    · cases hr
end
section
/-! THE CLAIM OUT OF ONE WALK OF THE LAW'S BODY. Your part is whole_start (and what it stands on); all else here is the same for every law, but numbers. -/
def R_law : String := "PastHeapsLaw"
def lw_P (b : Addr) (xs : List Int32) (args : Array Value) (s : State) : Prop := args = #[.ref b] ∧ s.IntsAt b xs ∧ xs.length ≤ 448 ∧ (Jvm.Cond.and given_1 narrow_1).before args s = true
def lw_Q (_ : Array Value) (s : State) (o : Outcome) (t : State) : Prop := o = .returned (some (.int 1)) ∧ Framed s o t [] 600000 7302250
def lw_Z (below : List Frame) (a : Array Value) (s : State) : State → Prop := fun t => ∃ o, t.status = .running ∧ Ended t below o ∧ lw_Q a s o t
/-- the law's own end, with 1 on the stack, nothing written that was there before, its room as the claim has it -/
theorem lw_ret {p : Program} {l : Launch} {e : Env} {s : State} {m : MethodId} {below : List Frame} {meth : Method} {c : Code} {b : Nat} (hx : p.tables.exec = Jvm.exec) (hb : c.code = code) (hr : meth.sig.returnType = ret) (hlocks : meth.locks = false) {pc : Nat} {H : Heap} {ls : Array Slot} (hdg : decode code pc = .ok (.ireturn, 1)) : W p l e room_1 s m #[Value.ref b] below meth c H [] 600000 7302250 (lw_Z below #[Value.ref b] s) (F0 m pc ls [.int 1]) := by
  intro T hT X
  obtain ⟨fs, hret, hrun, hended, hW, hframe⟩ := X.leave (v := some (.int 1)) (hlocks := hlocks) (fun h => by rw [hr] at h; cases h)
  have hmeth' : T.vm.method? m = some meth := X.method'
  refine ⟨T.setFrames fs, ?_, .returned (some (.int 1)), hrun, hended, rfl, ⟨_, rfl⟩, hW, hframe⟩
  jvm_step X.here [X.here.top, hx, hb, hdg, hmeth', hr, ret, narrow_b1]
  (try refine ⟨rfl, ?_⟩); (try refine ⟨rfl, ?_⟩)
  first | (intro acts; rw [hret _ acts rfl rfl rfl]) | rw [hret _ _ rfl rfl rfl]
  exact Steps.refl _
/-- what holds at the law's entry: the machine, the code, the tables' words (any of lw_tbl by 'hts w (by decide +kernel)'), the script of L ints xs at the cell b, what the Statement gives of the start (any of its parts by flat_of_before) -/
def lw_At (p : Program) (s : State) (m : MethodId) (meth : Method) (c : Code) (b L : Nat) (xs : Nat → Int32) : Prop :=
  p.tables.exec = Jvm.exec ∧ c.code = code ∧ meth.sig.returnType = ret ∧ c.maxLocals = 4 ∧ s.vm.findClass R_law = some m.cls ∧ (∀ w ∈ lw_tbl, w.before #[Value.ref b] s = true) ∧ va_X b L xs s s.heap ∧ b < s.heap.size ∧ meth.locks = false ∧ (Jvm.Cond.and given_1 narrow_1).before #[Value.ref b] s = true
end
section
-- THE START: what the Statement gives of it, as the small machine has it
def m_tm (k : Nat) : Term := .string (m_strs.getD k ("", 0, "")).1 (m_strs.getD k ("", 0, "")).2.1
def m_sln : List Nat := [3, 3, 4, 4, 5, 3]
def m_sby : List (List Int32) := [[110, 101, 119], [112, 117, 116], [109, 101, 108, 100], [108, 101, 115, 115], [108, 111, 119, 101, 114], [99, 117, 116]]
def m_lim : List Int32 := [-1, -1, -1, 40, 99, -1, 40, 40, -1, 40, -1, -1, 40, 39, 99, 40, 99, -1]
def m_fl0 : List Cond := flatC (Jvm.Cond.and given_1 narrow_1)
theorem m_g1 : ∀ k, k < 6 → Cond.exactly (m_tm k) "java/lang/String" ∈ m_fl0 := by decide +kernel
theorem m_g2 : ∀ k, k < 6 → Cond.eq (.field (m_tm k) "java/lang/String" "coder" "B") (.int 0) ∈ m_fl0 := by decide +kernel
theorem m_g3 : ∀ k, k < 6 → Cond.arrayOf (.field (m_tm k) "java/lang/String" "value" "[B") .byte ∈ m_fl0 := by decide +kernel
theorem m_g4 : ∀ k, k < 6 → Cond.eq (.length (.field (m_tm k) "java/lang/String" "value" "[B")) (.int (Int32.ofNat (m_sln.getD k 0))) ∈ m_fl0 := by decide +kernel
theorem m_g5 : ∀ k, k < 6 → ∀ j, j < m_sln.getD k 0 → Cond.eq (.elem (.field (m_tm k) "java/lang/String" "value" "[B") (.int (Int32.ofNat j))) (.int ((m_sby.getD k []).getD j 0)) ∈ m_fl0 := by decide +kernel
theorem m_g6 : ∀ k, k < 6 → ∀ j, j < 6 → k ≠ j → Cond.not (Cond.eq (m_tm k) (m_tm j)) ∈ m_fl0 ∨ Cond.not (Cond.eq (m_tm j) (m_tm k)) ∈ m_fl0 := by decide +kernel
theorem m_g7 : Cond.arrayOf (.static "PastHeaps" "LIMITS" "[I") .int ∈ m_fl0 := by decide +kernel
theorem m_g8 : Cond.eq (.length (.static "PastHeaps" "LIMITS" "[I")) (.int 18) ∈ m_fl0 := by decide +kernel
theorem m_g9 : ∀ j, j < 18 → Cond.eq (.elem (.static "PastHeaps" "LIMITS" "[I") (.int (Int32.ofNat j))) (.int (m_lim.getD j 0)) ∈ m_fl0 := by decide +kernel
theorem m_g10 : Cond.eq (.static "java/lang/String" "COMPACT_STRINGS" "Z") (.int 1) ∈ m_fl0 := by decide +kernel
theorem m_g11 : Cond.isRef (.static "jdk/internal/util/Preconditions" "SIOOBE_FORMATTER" "Ljava/util/function/BiFunction;") ∈ m_fl0 := by decide +kernel
theorem m_wst : ∀ w ∈ [Cond.laysStatic "java/lang/String" "COMPACT_STRINGS" "Z", .laysStatic "PastHeaps" "LIMITS" "[I", .laysStatic "jdk/internal/util/Preconditions" "SIOOBE_FORMATTER" "Ljava/util/function/BiFunction;", .initialized "java/lang/String", .initialized "PastHeaps", .initialized "jdk/internal/util/Preconditions"], w ∈ lw_tbl := m_memL [384, 449, 400, 113, 105, 115] (by decide +kernel)
theorem m_wsr : ∀ w ∈ m_strs.map (fun q => Cond.stringRef q.1 q.2.1 q.2.2), w ∈ lw_tbl := m_memL [365, 366, 367, 368, 369, 370] (by decide +kernel)
-- the small machine's heap at the start: what stands still alone
def m_kd0 (L a : Nat) : Nat × Nat := if a = 1 then (20, 18) else if 2 ≤ a ∧ a < 8 then (40, 0) else if 8 ≤ a ∧ a < 14 then (21, m_sln.getD (a - 8) 0) else if a = 14 then (20, L) else (0, 0)
def m_hi0 (xs : Nat → Int32) (a j : Nat) : Int32 := if a = 1 then m_lim.getD j 0 else if 8 ≤ a ∧ a < 14 then (m_sby.getD (a - 8) []).getD j 0 else if a = 14 then xs j else 0
def m_hr0 (a k : Nat) : Nat := if 2 ≤ a ∧ a < 8 ∧ k = 0 then a + 6 else 0
def m_h0 (L : Nat) (xs : Nat → Int32) : MH := ((0, 0), m_kd0 L, m_hi0 xs, fun _ _ => 0, m_hr0)
theorem m_arrc {args : Array Value} {s : State} {ty : FieldType} (h : (Cond.arrayClass ty).before args s = true) : ∃ cA : ClassId, s.vm.findClass ("[" ++ ty.toString) = some cA ∧ ArrOfT s cA ty := by
  obtain ⟨cA, kA, comp, h1, h2, h3⟩ := Cond.arrayClass_spec h
  exact ⟨cA, h1, fun n z => ⟨(fun k h => by cases h), kA, h2, comp, h3⟩⟩
theorem m_arro {s : State} {C9 : String} (h : va_AO C9 s) : ∃ cA : ClassId, ArrOfT s cA (.object C9) ∧ va_RA s cA (.object C9) := by
  obtain ⟨comp, cA, kA, h1, -, h3, h4, h5⟩ := Cond.arrayOver_spec h
  exact ⟨cA, fun n z => ⟨(fun k h => by cases h), kA, h3, comp, h4⟩, kA, comp, h3, h4, h1, h5⟩
theorem m_arra {s : State} {ty : FieldType} (h : (Cond.arrayOver (.array ty)).before #[] s = true) : ∃ cA : ClassId, ArrOfT s cA (.array ty) ∧ va_RA s cA (.array ty) := by
  obtain ⟨comp, cA, kA, -, -, h3, h4, h5⟩ := arrayOverA_spec h
  exact ⟨cA, fun n z => ⟨(fun k h => by cases h), kA, h3, comp, h4⟩, h5⟩
set_option maxHeartbeats 1000000 in
set_option maxRecDepth 10000 in
-- the law, from its entry, by a run of the small machine
theorem m_law {p : Program} {e : Env} {s : State} {m : MethodId} {below : List Frame} {meth : Method} {c : Code} (l : Launch) {b L : Nat} {xs : Nat → Int32} (hL : L ≤ 448) (C0 : lw_At p s m meth c b L xs) (hrun : ∃ (n : Nat) (h' : MH), m_rn n 0 0 [(0, .ref 14)] [] (m_h0 L xs) = some (some (.int 1), h') ∧ h_n h' ≤ 600000 ∧ h_z h' ≤ 7302250) : W p l e room_1 s m #[Value.ref b] below meth c s.heap [] 0 0 (lw_Z below #[Value.ref b] s) (entryFrame m ([Value.ref b] : List Value).toArray 4) := by
  obtain ⟨hx, hb, hr, hml, hown, hts, hX, hbl, hlocks, hgv⟩ := id C0
  obtain ⟨n, h', hrun, hn', hz'⟩ := hrun
  have hA : ∀ a : Nat, a < s.heap.size → ¬ (fun q : Nat => s.heap.size ≤ q) a := fun a h => Nat.not_le.mpr h
  have hs : ∀ w ∈ m_fl0, w.before #[Value.ref b] s = true := flat_of_before _ hgv
  -- classes
  have hKn : ∀ k : Nat, ∃ x : ClassId × (Nat → Nat), ∀ q : vw_C, m_cl[k]? = some q → u_Kn s q.1 q.2.1 q.2.2 x.1 x.2 := by
    intro k
    rcases Nat.lt_or_ge k 10 with hk | hk
    · obtain ⟨q, ty, h1, h2, h3, h4, h5, h6, h7, h8⟩ := m_cfs k hk
      obtain ⟨cC, iS, hK⟩ := u_known hts h3 (hts _ h7)
      exact ⟨(cC, iS), fun q9 hq9 => by cases h1.symm.trans hq9; exact hK⟩
    · exact ⟨(0, fun _ => 0), fun q9 hq9 => by
        have : m_cl.length = 10 := rfl
        rw [List.getElem?_eq_none (by omega)] at hq9
        cases hq9⟩
  obtain ⟨dX, hdX⟩ := Classical.axiomOfChoice hKn
  -- rows
  obtain ⟨a0, a01, a02⟩ := m_arrc (hts _ (m_karr _ (List.mem_of_getElem? (i := 0) rfl)))
  obtain ⟨a1, a11, a12⟩ := m_arrc (hts _ (m_karr _ (List.mem_of_getElem? (i := 1) rfl)))
  obtain ⟨a2, a21, a22⟩ := m_arrc (hts _ (m_karr _ (List.mem_of_getElem? (i := 2) rfl)))
  obtain ⟨a3, a31, a32⟩ := m_arrc (hts _ (m_karr _ (List.mem_of_getElem? (i := 3) rfl)))
  have o6 : va_AO RX6 s := va_AO.of (hts _ (m_karr _ (List.mem_of_getElem? (i := 4) rfl)))
  have o3 : va_AO RX3 s := va_AO.of (hts _ (m_karr _ (List.mem_of_getElem? (i := 5) rfl)))
  have o0 : va_AO RX0 s := va_AO.of (hts _ (m_karr _ (List.mem_of_getElem? (i := 6) rfl)))
  have oA : (Cond.arrayOver (.array .int)).before #[] s = true := over_moved (Vm.Alike.refl _) (hts _ (m_karr _ (List.mem_of_getElem? (i := 7) rfl)))
  obtain ⟨a4, a41, a42⟩ := m_arro o6
  obtain ⟨a5, a51, a52⟩ := m_arro o3
  obtain ⟨a6, a61, a62⟩ := m_arro o0
  obtain ⟨a7, a71, a72⟩ := m_arra oA
  -- what stands still
  obtain ⟨adK, adV, hS9, hSev⟩ := vk_Sof (args := #[Value.ref b]) (s := s) (N := 6) (tm := m_tm) (len := m_sln) (byt := m_sby) (A := fun q => s.heap.size ≤ q) (by decide) (fun k hk => hs _ (m_g1 k hk)) (fun k hk => hs _ (m_g2 k hk)) (fun k hk => hs _ (m_g3 k hk)) (fun k hk => hs _ (m_g4 k hk)) (fun k hk j hj => hs _ (m_g5 k hk j hj)) (fun k j hk hj hne => (m_g6 k hk j hj hne).imp (hs _) (hs _)) hA
  obtain ⟨tL, hTe, hTT⟩ := va_Tof (args := #[Value.ref b]) (s := s) (tm := .static "PastHeaps" "LIMITS" "[I") (ty := .int) (N := 18) (f := fun j => .int (m_lim.getD j 0)) (A := fun q => s.heap.size ≤ q) (by decide) (hs _ m_g7) (va_eqt (hs _ m_g8)) (fun j hj => va_eqt (hs _ (m_g9 j hj))) hA
  have z1 : va_Z "java/lang/String" "COMPACT_STRINGS" "Z" (.int 1) (fun q => s.heap.size ≤ q) s s.heap := va_Zof (hts _ (m_wst _ (List.mem_of_getElem? (i := 0) rfl))) (hts _ (m_wst _ (List.mem_of_getElem? (i := 3) rfl))) (va_eqt (hs _ m_g10)) hA
  have z2 : va_Z "PastHeaps" "LIMITS" "[I" (.ref tL) (fun q => s.heap.size ≤ q) s s.heap := va_Zof (hts _ (m_wst _ (List.mem_of_getElem? (i := 1) rfl))) (hts _ (m_wst _ (List.mem_of_getElem? (i := 4) rfl))) hTe hA
  obtain ⟨vS, hvS, z3⟩ : ∃ vS : Value, (vS = .null ∨ ∃ r, vS = .ref r) ∧ va_Z "jdk/internal/util/Preconditions" "SIOOBE_FORMATTER" "Ljava/util/function/BiFunction;" vS (fun q => s.heap.size ≤ q) s s.heap := by
    rcases va_Zqof (A := fun q => s.heap.size ≤ q) (hts _ (m_wst _ (List.mem_of_getElem? (i := 2) rfl))) (hts _ (m_wst _ (List.mem_of_getElem? (i := 5) rfl))) (hs _ m_g11) hA with q | ⟨t, q⟩
    · exact ⟨_, Or.inl rfl, q⟩
    · exact ⟨_, Or.inr ⟨t, rfl⟩, q⟩
  obtain ⟨cst, hcst⟩ : ∃ cst : Nat → Value, cst = fun a => if a = 1 then .ref tL else if 2 ≤ a ∧ a < 8 then .ref (adK (a - 2)) else if 8 ≤ a ∧ a < 14 then .ref (adV (a - 8)) else if a = 14 then .ref b else if a = 15 then vS else .null := ⟨_, rfl⟩
  have hc : m_cok cst := by
    intro a
    rw [hcst]
    dsimp only
    repeat' split
    all_goals first | exact Or.inr ⟨_, rfl⟩ | exact hvS | exact Or.inl rfl
  have hlt : ∀ {q : Nat} {cell : Cell}, s.heap[q]? = some cell → q < s.heap.size := fun h => (Array.getElem?_eq_some_iff.mp h).1
  have hks : KS (fun k => (dX k).1, fun k => (dX k).2) (fun k => if k = 20 then a0 else if k = 21 then a1 else if k = 22 then a2 else if k = 25 then a3 else if k = 30 then a4 else if k = 31 then a5 else if k = 32 then a6 else a7) cst s := by
    refine ⟨⟨fun k q hq => hdX k q hq, fun k q hq => ?_⟩, fun w hw hn => va_Nw.of (by cases w <;> first | rfl | exact absurd hn (by simp [m_nest])) (hts w hw), o6, o3, o0, oA, fun k q hq => ?_⟩
    · match k, hq with
      | 0, hq => cases hq; exact ⟨a02, a01⟩
      | 1, hq => cases hq; exact ⟨a12, a11⟩
      | 2, hq => cases hq; exact ⟨a22, a21⟩
      | 3, hq => cases hq; exact ⟨a32, a31⟩
      | 4, hq => cases hq; exact ⟨a41, a42⟩
      | 5, hq => cases hq; exact ⟨a51, a52⟩
      | 6, hq => cases hq; exact ⟨a61, a62⟩
      | 7, hq => cases hq; exact ⟨a71, a72⟩
      | k + 8, hq => simp at hq
    · have hk : k < 6 := (List.getElem?_eq_some_iff.mp hq).1
      refine ⟨adK k, ?_, vk_R.of (hts _ (m_wsr _ (List.mem_map.mpr ⟨q, List.mem_of_getElem? hq, rfl⟩))) ?_⟩
      · rw [hcst]
        dsimp only
        rw [if_neg (by omega), if_pos (by omega), Nat.add_sub_cancel_left]
      · have h9 := hSev k hk
        have e9 : m_tm k = .string q.1 q.2.1 := by
          unfold m_tm
          rw [List.getD_eq_getElem?_getD, hq]
          rfl
        rw [e9] at h9
        exact h9
  have hR : HR (fun k => (dX k).1, fun k => (dX k).2) (fun k => if k = 20 then a0 else if k = 21 then a1 else if k = 22 then a2 else if k = 25 then a3 else if k = 30 then a4 else if k = 31 then a5 else if k = 32 then a6 else a7) cst s.heap.size s (m_h0 L xs) s.heap := by
    refine ⟨rfl, fun a h1 h2 => absurd h2 (by have : h_n (m_h0 L xs) = 0 := rfl; omega), fun a ha => ?_, fun a ha => ?_, ⟨z1, ?_, ?_⟩, rfl⟩
    · have : h_n (m_h0 L xs) = 0 := rfl
      show (m_kd0 L a).1 = 0
      unfold m_kd0
      rw [if_neg (by omega), if_neg (by omega), if_neg (by omega), if_neg (by omega)]
    · have hk0 : h_k (m_h0 L xs) a = m_kd0 L a := rfl
      have hi0 : h_i (m_h0 L xs) a = m_hi0 xs a := rfl
      have hr0 : h_r (m_h0 L xs) a = m_hr0 a := rfl
      unfold m_cst
      rw [hk0, hi0, hr0]
      by_cases c1 : a = 1
      · have e1 : m_kd0 L a = (20, 18) := by unfold m_kd0; rw [if_pos c1]
        rw [e1]
        obtain ⟨cell, g1, g2, g3, g4, g5, g6, g7⟩ := hTT
        refine ⟨tL, cell, by rw [hcst]; dsimp only; rw [if_pos c1], hlt g1, g1, g2, g3, g4, g5, fun j hj => ?_⟩
        rw [g6 j hj]
        unfold m_hi0
        rw [if_pos c1]
      · by_cases c2 : 2 ≤ a ∧ a < 8
        · have e1 : m_kd0 L a = (40, 0) := by unfold m_kd0; rw [if_neg c1, if_pos c2]
          rw [e1]
          obtain ⟨g1, g2, g3, g4⟩ := hS9.1 (a - 2) (by omega)
          have g0 := g1
          obtain ⟨cell, q1, -⟩ := g0
          have e2 : m_hi0 xs a 1 = 0 := by unfold m_hi0; rw [if_neg c1, if_neg (by omega), if_neg (by omega)]
          have e3 : m_hr0 a 0 = a + 6 := by unfold m_hr0; rw [if_pos ⟨c2.1, c2.2, rfl⟩]
          refine ⟨adK (a - 2), by rw [hcst]; dsimp only; rw [if_neg c1, if_pos c2], hlt q1, g1, by rw [e2]; exact g2, ?_⟩
          rw [e3, mv_cst (by omega) (by omega), hcst]
          dsimp only
          rw [if_neg (by omega), if_neg (by omega), if_pos (by omega), show a + 6 - 8 = a - 2 by omega]
          exact g3
        · by_cases c3 : 8 ≤ a ∧ a < 14
          · have e1 : m_kd0 L a = (21, m_sln.getD (a - 8) 0) := by unfold m_kd0; rw [if_neg c1, if_neg c2, if_pos c3]
            rw [e1]
            obtain ⟨g1, g2, g3, ⟨cell, q1, q2, q3, q4, q5, q6, q7⟩⟩ := hS9.1 (a - 8) (by omega)
            refine ⟨adV (a - 8), cell, by rw [hcst]; dsimp only; rw [if_neg c1, if_neg c2, if_pos c3], hlt q1, q1, q2, q3, q4, q5, fun j hj => ?_⟩
            rw [q6 j hj]
            unfold m_hi0
            rw [if_neg c1, if_pos c3]
          · by_cases c4 : a = 14
            · have e1 : m_kd0 L a = (20, L) := by unfold m_kd0; rw [if_neg c1, if_neg c2, if_neg c3, if_pos c4]
              rw [e1]
              obtain ⟨scr, g1, g2, g3, g4, g5⟩ := hX
              refine ⟨b, scr, by rw [hcst]; dsimp only; rw [if_neg c1, if_neg c2, if_neg c3, if_pos c4], hbl, g1, g2, g3, by rw [g4]; exact Nat.le_refl _, by rw [g4], fun j hj => ?_⟩
              rw [g5 j hj]
              unfold m_hi0
              rw [if_neg c1, if_neg c3, if_pos c4]
            · have e1 : m_kd0 L a = (0, 0) := by unfold m_kd0; rw [if_neg c1, if_neg c2, if_neg c3, if_neg c4]
              rw [e1]
              trivial
    · rw [hcst]
      exact z2
    · rw [hcst]
      exact z3
  have C : SC p s m #[Value.ref b] meth c room_1 0 (fun k => (dX k).1, fun k => (dX k).2) (fun k => if k = 20 then a0 else if k = 21 then a1 else if k = 22 then a2 else if k = 25 then a3 else if k = 30 then a4 else if k = 31 then a5 else if k = 32 then a6 else a7) cst s.heap.size := ⟨hx, hb, hml, hown, fun w hw => hts w (List.mem_filter.mp hw).1, hlocks, fun hk => absurd hk (by decide), by decide +kernel, by decide +kernel, hks, hc, hr⟩
  rw [lg_entry_eq]
  have hl := lv_entry ([.ref b] : List Value) (n := 4) (Nat.le_of_ble_eq_true rfl)
  have e14 : ml cst s.heap.size [(0, .ref 14)] = [(0, .ref b)] := by
    show [(0, mv cst s.heap.size (.ref 14))] = _
    rw [mv_cst (by decide) (by decide), hcst]
    rfl
  refine m_sim l _ _ cst s.heap.size n 0 0 _ _ _ _ _ hrun C s.heap [] 0 0 _ hR (fun q hq => by cases hq) (by rw [e14]; exact hl) ?_ ?_ ?_
  · show 0 + (h_n h' - 0) ≤ 600000
    omega
  · show 0 + (h_z h' - 0) ≤ 7302250
    omega
  · intro pc ls H locs ins hd hri hR1 hlo
    rcases hri with ⟨x, e1, e2, e3⟩ | ⟨x, e1, -⟩ | ⟨x, e1, -⟩ | ⟨e1, -⟩
    · cases e1
      subst e2
      refine va_forget hlo ?_
      refine W.widen (k := 600000) (n := 7302250) ?_ ?_ ?_
      · show 0 + (h_n h' - 0) ≤ 600000
        omega
      · show 0 + (h_z h' - 0) ≤ 7302250
        omega
      · exact lw_ret hx hb hr hlocks hd
    · cases e1
    · cases e1
    · cases e1
end
section
-- A RUN WITH RANGES: the small machine over ranges of numbers in place of numbers. A value: a range of ints, the script's own first (of which only its low 6 bits are known), a range of longs, an address.
abbrev AI : Type := Int × Int
abbrev AV : Type := AI ⊕ (Unit ⊕ (AI ⊕ Nat))
abbrev AR : Type := AI × List (Nat × AI)
abbrev AC : Type := (Nat × Nat) × AR × AR × List (Nat × Nat)
abbrev AH : Type := (Nat × Nat) × List (Nat × AC)
abbrev AL : Type := List (Nat × AV)
abbrev AA : Type := (Nat × AL × List AV × AH) ⊕ ((Option AV × AH) ⊕ (Nat × List AV × List AV × Nat))
def b_t : AI := (-2147483648, 2147483647)
def b_tl : AI := (-9223372036854775808, 9223372036854775807)
def b_i (x : Int32) : AV := .inl (x.toInt, x.toInt)
def b_l (x : Int64) : AV := .inr (.inr (.inl (x.toInt, x.toInt)))
def b_r (a : Nat) : AV := .inr (.inr (.inr a))
def b_cat (v : AV) : Nat := match v with
  | .inr (.inr (.inl _)) => 2
  | _ => 1
def b_ct (st : List AV) : Nat := (st.map b_cat).sum
def b_au {α : Type} : List (Nat × α) → Nat → α → List (Nat × α)
  | [], a, v => [(a, v)]
  | (k, w) :: r, a, v => if k = a then (a, v) :: r else (k, w) :: b_au r a v
def b_rw (d : AR) (j : Nat) : AI := match m_lk d.2 j with
  | some v => v
  | none => d.1
def b_st (d : AR) (j : Nat) (v : AI) : AR := if b_rw d j = v then d else (d.1, b_au d.2 j v)
def b_jn (x y : AI) : AI := (if x.1 ≤ y.1 then x.1 else y.1, if x.2 ≤ y.2 then y.2 else x.2)
def b_all (d : AR) : AI := d.2.foldr (fun q r => b_jn q.2 r) d.1
def b_cell (A : AH) (a : Nat) : Option AC := m_lk A.2 a
def b_set (A : AH) (a : Nat) (c : AC) : AH := (A.1, b_au A.2 a c)
def b_new (A : AH) (k len sz : Nat) : AH := ((A.1.1 + 1, A.1.2 + sz), b_au A.2 (16 + A.1.1) ((k, len), ((0, 0), []), ((0, 0), []), []))
-- ints and longs
def b_f1 (f : Int32 → Int32) (x : AI) : AI := if x.1 = x.2 then (let z := (f (Int32.ofInt x.1)).toInt; (z, z)) else b_t
def b_f2 (f : Int32 → Int32 → Int32) (x y : AI) : AI := if x.1 = x.2 ∧ y.1 = y.2 then (let z := (f (Int32.ofInt x.1) (Int32.ofInt y.1)).toInt; (z, z)) else b_t
def b_g2 (f : Int64 → Int64 → Int64) (x y : AI) : AI := if x.1 = x.2 ∧ y.1 = y.2 then (let z := (f (Int64.ofInt x.1) (Int64.ofInt y.1)).toInt; (z, z)) else b_tl
def b_gi (f : Int64 → Int32 → Int64) (x y : AI) : AI := if x.1 = x.2 ∧ y.1 = y.2 then (let z := (f (Int64.ofInt x.1) (Int32.ofInt y.1)).toInt; (z, z)) else b_tl
def b_il (f : Int32 → Int64) (x : AI) : AI := if x.1 = x.2 then (let z := (f (Int32.ofInt x.1)).toInt; (z, z)) else b_tl
def b_li (f : Int64 → Int32) (x : AI) : AI := if x.1 = x.2 then (let z := (f (Int64.ofInt x.1)).toInt; (z, z)) else b_t
def b_ll (f : Int64 → Int64) (x : AI) : AI := if x.1 = x.2 then (let z := (f (Int64.ofInt x.1)).toInt; (z, z)) else b_tl
def b_lc (x y : AI) : AI := if x.1 = x.2 ∧ y.1 = y.2 then (let z := (lg_cmp (Int64.ofInt x.1) (Int64.ofInt y.1)).toInt; (z, z)) else b_t
def b_eq (x y : AI) : Option Bool := if x.1 = x.2 ∧ y.1 = y.2 ∧ x.1 = y.1 then some true else if x.2 < y.1 ∨ y.2 < x.1 then some false else none
def b_lt (x y : AI) : Option Bool := if x.2 < y.1 then some true else if y.2 ≤ x.1 then some false else none
def b_cmp (c : ClassFile.Cond) (x y : AI) : Option Bool := match c with
  | .eq => b_eq x y
  | .ne => (b_eq x y).map (fun b => !b)
  | .lt => b_lt x y
  | .ge => (b_lt x y).map (fun b => !b)
  | .gt => b_lt y x
  | .le => (b_lt y x).map (fun b => !b)
-- steps
def b_go (pc : Nat) (lv : AL) (st : List AV) (h : AH) : Option AA := some (.inl (pc, lv, st, h))
def b_tg (pc : Nat) (off : Int) (lv : AL) (st : List AV) (h : AH) : Option AA := if 0 ≤ (pc : Int) + off then some (.inl (((pc : Int) + off).toNat, lv, st, h)) else none
def b_br (b : Option Bool) (pc : Nat) (off : Int) (lv : AL) (st : List AV) (h : AH) : Option AA := if 0 ≤ (pc : Int) + off then (match b with
  | some true => some (.inl (((pc : Int) + off).toNat, lv, st, h))
  | some false => b_go (pc + 3) lv st h
  | none => none) else none
def b_s1 (lv : AL) (i : Nat) (v : AV) : AL := (i, v) :: lv.filter (fun q => !(q.1 == i) && !(q.1 + 1 == i && b_cat q.2 == 2))
def b_s2 (lv : AL) (i : Nat) (v : AV) : AL := (i, v) :: lv.filter (fun q => !(q.1 == i) && (!(q.1 == i + 1) && !(q.1 + 1 == i && b_cat q.2 == 2)))
def c_ii (f : Int32 → Int32 → Int32) (pc : Nat) (lv : AL) (st : List AV) (h : AH) : Option AA := match st with
  | .inl y :: .inl x :: r => b_go (pc + 1) lv (.inl (b_f2 f x y) :: r) h
  | _ => none
def c_and (s : AI) (pc : Nat) (lv : AL) (st : List AV) (h : AH) : Option AA := match st with
  | .inl y :: .inl x :: r => b_go (pc + 1) lv (.inl (b_f2 (fun x y => x &&& y) x y) :: r) h
  | .inl y :: .inr (.inl _) :: r => if y = (63, 63) then b_go (pc + 1) lv (.inl s :: r) h else none
  | _ => none
def c_ll (f : Int64 → Int64 → Int64) (pc : Nat) (lv : AL) (st : List AV) (h : AH) : Option AA := match st with
  | .inr (.inr (.inl y)) :: .inr (.inr (.inl x)) :: r => b_go (pc + 1) lv (.inr (.inr (.inl (b_g2 f x y))) :: r) h
  | _ => none
def c_li (f : Int64 → Int32 → Int64) (pc : Nat) (lv : AL) (st : List AV) (h : AH) : Option AA := match st with
  | .inl y :: .inr (.inr (.inl x)) :: r => b_go (pc + 1) lv (.inr (.inr (.inl (b_gi f x y))) :: r) h
  | _ => none
def c_i1 (f : Int32 → Int32) (pc : Nat) (lv : AL) (st : List AV) (h : AH) : Option AA := match st with
  | .inl x :: r => b_go (pc + 1) lv (.inl (b_f1 f x) :: r) h
  | _ => none
def c_il (f : Int32 → Int64) (pc : Nat) (lv : AL) (st : List AV) (h : AH) : Option AA := match st with
  | .inl x :: r => b_go (pc + 1) lv (.inr (.inr (.inl (b_il f x))) :: r) h
  | _ => none
def c_l2i (f : Int64 → Int32) (pc : Nat) (lv : AL) (st : List AV) (h : AH) : Option AA := match st with
  | .inr (.inr (.inl x)) :: r => b_go (pc + 1) lv (.inl (b_li f x) :: r) h
  | _ => none
def c_l1 (f : Int64 → Int64) (pc : Nat) (lv : AL) (st : List AV) (h : AH) : Option AA := match st with
  | .inr (.inr (.inl x)) :: r => b_go (pc + 1) lv (.inr (.inr (.inl (b_ll f x))) :: r) h
  | _ => none
def c_dv (f : Int32 → Int32 → Int32) (pc : Nat) (lv : AL) (st : List AV) (h : AH) : Option AA := match st with
  | .inl y :: .inl x :: r => if y.2 < 0 ∨ 0 < y.1 then b_go (pc + 1) lv (.inl (b_f2 f x y) :: r) h else none
  | _ => none
def c_ild (k pc : Nat) (lv : AL) (st : List AV) (h : AH) : Option AA := match m_lk lv k with
  | some (.inl x) => b_go pc lv (.inl x :: st) h
  | _ => none
def c_lld (k pc : Nat) (lv : AL) (st : List AV) (h : AH) : Option AA := match m_lk lv k with
  | some (.inr (.inr (.inl x))) => b_go pc lv (.inr (.inr (.inl x)) :: st) h
  | _ => none
def c_ald (k pc : Nat) (lv : AL) (st : List AV) (h : AH) : Option AA := match m_lk lv k with
  | some (.inr (.inr (.inr x))) => b_go pc lv (b_r x :: st) h
  | _ => none
def c_ist (n k pc : Nat) (lv : AL) (st : List AV) (h : AH) : Option AA := match st with
  | .inl x :: r => if k < n then b_go pc (b_s1 lv k (.inl x)) r h else none
  | _ => none
def c_lst (n k pc : Nat) (lv : AL) (st : List AV) (h : AH) : Option AA := match st with
  | .inr (.inr (.inl x)) :: r => if k + 1 < n then b_go pc (b_s2 lv k (.inr (.inr (.inl x)))) r h else none
  | _ => none
def c_ast (n k pc : Nat) (lv : AL) (st : List AV) (h : AH) : Option AA := match st with
  | .inr (.inr (.inr x)) :: r => if k < n then b_go pc (b_s1 lv k (b_r x)) r h else none
  | _ => none
def c_inc (n k : Nat) (z : Int) (pc : Nat) (lv : AL) (st : List AV) (h : AH) : Option AA := match m_lk lv k with
  | some (.inl x) => if k < n then b_go (pc + 3) (b_s1 lv k (.inl (b_f1 (fun x => x + Int32.ofInt z) x))) st h else none
  | _ => none
def b_gr (c : AC) (k : Nat) : Nat := match m_lk c.2.2.2 k with
  | some v => v
  | none => 0
def c_get (i idx pc : Nat) (lv : AL) (st : List AV) (h : AH) : Option AA := match st, m_fl i idx with
  | .inr (.inr (.inr a)) :: r, some (_, c, k) => (match b_cell h a with
    | some x => if x.1.1 = c + 1 then (match (m_ty c k).1 with
      | 0 => b_go (pc + 3) lv (.inl (b_rw x.2.1 k) :: r) h
      | 1 => b_go (pc + 3) lv (.inr (.inr (.inl (b_rw x.2.2.1 k))) :: r) h
      | _ => b_go (pc + 3) lv (b_r (b_gr x k) :: r) h) else none
    | none => none)
  | _, _ => none
def b_si (h : AH) (a : Nat) (x : AC) (k : Nat) (v : AI) : AH := if b_rw x.2.1 k = v then h else b_set h a (x.1, b_st x.2.1 k v, x.2.2)
def b_sl (h : AH) (a : Nat) (x : AC) (k : Nat) (v : AI) : AH := if b_rw x.2.2.1 k = v then h else b_set h a (x.1, x.2.1, b_st x.2.2.1 k v, x.2.2.2)
def b_sr (h : AH) (a : Nat) (x : AC) (k : Nat) (v : Nat) : AH := b_set h a (x.1, x.2.1, x.2.2.1, b_au x.2.2.2 k v)
def c_put (i idx pc : Nat) (lv : AL) (st : List AV) (h : AH) : Option AA := match st, m_fl i idx with
  | .inl x :: .inr (.inr (.inr a)) :: r, some (nest, c, k) => (match b_cell h a with
    | some o => if o.1.1 = c + 1 ∧ c < 10 ∧ k < m_nf c ∧ m_ty c k = (0, false) then b_go (pc + 3) lv r (b_si h a o k x) else none
    | none => none)
  | .inr (.inr (.inl x)) :: .inr (.inr (.inr a)) :: r, some (nest, c, k) => (match b_cell h a with
    | some o => if o.1.1 = c + 1 ∧ c < 10 ∧ k < m_nf c ∧ m_ty c k = (1, false) then b_go (pc + 3) lv r (b_sl h a o k x) else none
    | none => none)
  | .inr (.inr (.inr x)) :: .inr (.inr (.inr a)) :: r, some (nest, c, k) => (match b_cell h a with
    | some o => if o.1.1 = c + 1 ∧ c < 10 ∧ k < m_nf c ∧ (m_ty c k).1 = 2 ∧ ((m_ty c k).2 = true → nest = 0 ∧ m_kind i = 2 ∧ m_ownL.getD i 0 = m_ow i ∧ m_cnm c = (m_m i).2.1.cls) then b_go (pc + 3) lv r (b_sr h a o k x) else none
    | none => none)
  | _, _ => none
-- a place in an array: one number, or any within it
def b_at (j : AI) (n : Nat) : Bool := decide (0 ≤ j.1) && decide (j.2 < (n : Int))
def b_rd (d : AR) (j : AI) : AI := if j.1 = j.2 then b_rw d j.1.toNat else b_all d
def c_iald (k0 k1 pc : Nat) (s : AI) (lv : AL) (st : List AV) (h : AH) : Option AA := match st with
  | .inl j :: .inr (.inr (.inr a)) :: r => (match b_cell h a with
    | some x => if (x.1.1 = k0 ∨ x.1.1 = k1) ∧ b_at j x.1.2 = true then (if a = 14 then (if j = (0, 0) then b_go (pc + 1) lv (.inr (.inl ()) :: r) h else if j.1 = j.2 then b_go (pc + 1) lv (.inl (b_rw x.2.1 j.1.toNat) :: r) h else none) else b_go (pc + 1) lv (.inl (b_rd x.2.1 j) :: r) h) else none
    | none => none)
  | _ => none
def c_lald (pc : Nat) (lv : AL) (st : List AV) (h : AH) : Option AA := match st with
  | .inl j :: .inr (.inr (.inr a)) :: r => (match b_cell h a with
    | some x => if x.1.1 = 25 ∧ b_at j x.1.2 = true then b_go (pc + 1) lv (.inr (.inr (.inl (b_rd x.2.2.1 j))) :: r) h else none
    | none => none)
  | _ => none
def c_aald (pc : Nat) (lv : AL) (st : List AV) (h : AH) : Option AA := match st with
  | .inl j :: .inr (.inr (.inr a)) :: r => (match b_cell h a with
    | some x => if (30 ≤ x.1.1 ∧ x.1.1 < 34) ∧ b_at j x.1.2 = true ∧ j.1 = j.2 then b_go (pc + 1) lv (b_r (b_gr x j.1.toNat) :: r) h else none
    | none => none)
  | _ => none
def c_iast (pc : Nat) (lv : AL) (st : List AV) (h : AH) : Option AA := match st with
  | .inl x :: .inl j :: .inr (.inr (.inr a)) :: r => (match b_cell h a with
    | some o => if 16 ≤ a ∧ o.1.1 = 20 ∧ b_at j o.1.2 = true ∧ j.1 = j.2 then b_go (pc + 1) lv r (b_si h a o j.1.toNat x) else none
    | none => none)
  | _ => none
def c_bast (pc : Nat) (lv : AL) (st : List AV) (h : AH) : Option AA := match st with
  | .inl x :: .inl j :: .inr (.inr (.inr a)) :: r => (match b_cell h a with
    | some o => if 16 ≤ a ∧ o.1.1 = 21 ∧ b_at j o.1.2 = true ∧ j.1 = j.2 then b_go (pc + 1) lv r (b_si h a o j.1.toNat (b_f1 (fun x => x.toInt8.toInt32) x))
      else if 16 ≤ a ∧ o.1.1 = 22 ∧ b_at j o.1.2 = true ∧ j.1 = j.2 then b_go (pc + 1) lv r (b_si h a o j.1.toNat (b_f1 (fun x => x &&& 1) x)) else none
    | none => none)
  | _ => none
def c_last (pc : Nat) (lv : AL) (st : List AV) (h : AH) : Option AA := match st with
  | .inr (.inr (.inl x)) :: .inl j :: .inr (.inr (.inr a)) :: r => (match b_cell h a with
    | some o => if 16 ≤ a ∧ o.1.1 = 25 ∧ b_at j o.1.2 = true ∧ j.1 = j.2 then b_go (pc + 1) lv r (b_sl h a o j.1.toNat x) else none
    | none => none)
  | _ => none
def c_aast (pc : Nat) (lv : AL) (st : List AV) (h : AH) : Option AA := match st with
  | .inr (.inr (.inr x)) :: .inl j :: .inr (.inr (.inr a)) :: r => (match b_cell h a, b_cell h x with
    | some o, some q => if 16 ≤ a ∧ (30 ≤ o.1.1 ∧ o.1.1 < 33) ∧ b_at j o.1.2 = true ∧ j.1 = j.2 ∧ 16 ≤ x ∧ q.1.1 = m_el o.1.1 then b_go (pc + 1) lv r (b_sr h a o j.1.toNat x) else none
    | _, _ => none)
  | _ => none
def c_alen (pc : Nat) (lv : AL) (st : List AV) (h : AH) : Option AA := match st with
  | .inr (.inr (.inr a)) :: r => (match b_cell h a with
    | some o => if 20 ≤ o.1.1 ∧ o.1.1 < 34 then b_go (pc + 1) lv (b_i (Int32.ofNat o.1.2) :: r) h else none
    | none => none)
  | _ => none
def c_newa (t : ArrayType) (pc : Nat) (lv : AL) (st : List AV) (h : AH) : Option AA := match st with
  | .inl n :: r => if m_ak t ≠ 0 ∧ n.1 = n.2 ∧ 0 ≤ n.1 ∧ n.1 ≤ 1000000 then b_go (pc + 2) lv (b_r (16 + h.1.1) :: r) (b_new h (m_ak t) n.1.toNat n.1.toNat) else none
  | _ => none
def c_new (i idx pc : Nat) (lv : AL) (st : List AV) (h : AH) : Option AA := match m_cc i idx with
  | some c => if c < 10 then b_go (pc + 3) lv (b_r (16 + h.1.1) :: st) (b_new h (c + 1) (m_nf c) (m_nf c)) else none
  | none => none
def c_anew (i idx pc : Nat) (lv : AL) (st : List AV) (h : AH) : Option AA := match st, m_cc i idx with
  | .inl n :: r, some c => if m_ek c ≠ 0 ∧ n.1 = n.2 ∧ 0 ≤ n.1 ∧ n.1 ≤ 1000000 then b_go (pc + 3) lv (b_r (16 + h.1.1) :: r) (b_new h (m_ek c) n.1.toNat n.1.toNat) else none
  | _, _ => none
def c_gets (i idx pc : Nat) (lv : AL) (st : List AV) (h : AH) : Option AA := match m_sf i idx with
  | some 1 => b_go (pc + 3) lv (.inl (1, 1) :: st) h
  | some 2 => b_go (pc + 3) lv (b_r 1 :: st) h
  | some 3 => b_go (pc + 3) lv (b_r 15 :: st) h
  | _ => none
def c_ldc (w : Nat) (i idx pc : Nat) (lv : AL) (st : List AV) (h : AH) : Option AA := match m_ic i idx with
  | some x => b_go (pc + w) lv (b_i x :: st) h
  | none => if w = 2 then (match m_sc i idx with
      | some a => b_go (pc + w) lv (b_r a :: st) h
      | none => none) else none
def c_cp (i pc : Nat) (lv : AL) (st : List AV) (h : AH) : Option AA := match st with
  | .inl n :: .inl dp :: .inr (.inr (.inr a1)) :: .inl sp :: .inr (.inr (.inr a0)) :: r => (match b_cell h a0, b_cell h a1 with
    | some o0, some o1 => if (16 ≤ a0 ∧ 16 ≤ a1 ∧ 0 ≤ sp.1 ∧ 0 ≤ dp.1 ∧ 0 ≤ n.1 ∧ sp.2 + n.2 ≤ (o0.1.2 : Int) ∧ dp.2 + n.2 ≤ (o1.1.2 : Int) ∧ 1 ≤ m_fr i ∧ b_ct r + 18 ≤ m_lo i ∧ b_ct r ≤ 8) then
      (if (o0.1.1 = 20 ∧ o1.1.1 = 20) ∨ (o0.1.1 = 21 ∧ o1.1.1 = 21) then b_go (pc + 3) lv r (b_set h a1 (o1.1, (b_jn (b_all o0.2.1) (b_all o1.2.1), []), o1.2.2))
       else if o0.1.1 = 25 ∧ o1.1.1 = 25 then b_go (pc + 3) lv r (b_set h a1 (o1.1, o1.2.1, (b_jn (b_all o0.2.2.1) (b_all o1.2.2.1), []), o1.2.2.2)) else none) else none
    | _, _ => none)
  | _ => none
def c_call (kd i idx pc : Nat) (lv : AL) (st : List AV) (h : AH) : Option AA := match m_ml i idx with
  | some (nest, j) =>
    if j = 900 then (match st with
      | .inr (.inr (.inr a)) :: r => if kd = 2 ∧ 16 ≤ a ∧ 1 ≤ m_fr i ∧ b_ct r + 12 ≤ m_lo i ∧ b_ct r ≤ 8 then b_go (pc + 3) lv r h else none
      | _ => none)
    else if j = 901 then (if kd = 0 then c_cp i pc lv st h else none)
    else if j = m_jmin ∨ j = m_jmax then (match st with
      | .inl y :: .inl x :: r => if kd = 0 ∧ nest = 0 ∧ 1 ≤ m_fr i ∧ b_ct r + 13 ≤ m_lo i then b_go (pc + 3) lv (.inl (b_f2 (fun x y => if j = m_jmin then (if y < x then y else x) else (if x < y then y else x)) x y) :: r) h else none
      | _ => none)
    else if j = m_jminl ∨ j = m_jmaxl then (match st with
      | .inr (.inr (.inl y)) :: .inr (.inr (.inl x)) :: r => if kd = 0 ∧ nest = 0 ∧ 1 ≤ m_fr i ∧ b_ct r + 15 ≤ m_lo i then b_go (pc + 3) lv (.inr (.inr (.inl (b_g2 (fun x y => if j = m_jminl then (if y < x then y else x) else (if y < x then x else y)) x y))) :: r) h else none
      | _ => none)
    else if 0 < j ∧ j < 292 ∧ m_kind j = kd ∧ m_fr j + 1 ≤ m_fr i ∧ 8 + (m_lc j + 11) + m_lo j ≤ m_lo i then
      (if kd = 0 then (if m_na j ≤ st.length ∧ b_ct (st.drop (m_na j)) ≤ 8 then some (.inr (.inr (j, (st.take (m_na j)).reverse, st.drop (m_na j), pc + 3))) else none)
       else match st.drop (m_na j) with
        | .inr (.inr (.inr a)) :: r => (match b_cell h a with
          | some o => if m_na j + 1 ≤ st.length ∧ b_ct r ≤ 8 ∧ (if (m_m j).2.1.cls = "java/lang/String" then o.1.1 = 40 else m_cnm (o.1.1 - 1) = (m_m j).2.1.cls ∧ 16 ≤ a ∧ 0 < o.1.1 ∧ o.1.1 < 11) then some (.inr (.inr (j, b_r a :: (st.take (m_na j)).reverse, r, pc + 3))) else none
          | none => none)
        | _ => none)
    else none
  | none => none
def b_rok (t : Option FieldType) (v : AI) : Bool := match t with
  | some .int => true
  | t => decide (v.1 = v.2) && m_rok t (Int32.ofInt v.1)
def c_sw (d lo hi : Int) (offs : Array Int) (pc : Nat) (lv : AL) (st : List AV) (h : AH) : Option AA := match st with
  | .inl x :: r => if x.2 < lo ∨ hi < x.1 then b_tg pc d lv r h else if x.1 = x.2 ∧ lo ≤ x.1 ∧ x.1 ≤ hi then (match offs[(x.1 - lo).toNat]? with
      | some o => b_tg pc o lv r h
      | none => none) else none
  | _ => none
def c_ex (s : AI) (i pc : Nat) (ins : Instr) (lv : AL) (st : List AV) (h : AH) : Option AA := match ins with
  | .iconst n => b_go (pc + 1) lv (b_i (Int32.ofInt n) :: st) h
  | .bipush n => b_go (pc + 2) lv (b_i (Int8.ofInt n).toInt32 :: st) h
  | .sipush n => b_go (pc + 3) lv (b_i (Int16.ofInt n).toInt32 :: st) h
  | .lconst n => b_go (pc + 1) lv (b_l (Int64.ofNat n) :: st) h
  | .aconst_null => b_go (pc + 1) lv (b_r 0 :: st) h
  | .ldc idx => c_ldc 2 i idx pc lv st h
  | .ldc_w idx => c_ldc 3 i idx pc lv st h
  | .ldc2_w idx => (match m_jc i idx with
      | some x => b_go (pc + 3) lv (b_l x :: st) h
      | none => none)
  | .iload_n k => c_ild k (pc + 1) lv st h
  | .iload k => c_ild k (pc + 2) lv st h
  | .lload_n k => c_lld k (pc + 1) lv st h
  | .lload k => c_lld k (pc + 2) lv st h
  | .aload_n k => c_ald k (pc + 1) lv st h
  | .aload k => c_ald k (pc + 2) lv st h
  | .istore_n k => c_ist (m_lc i) k (pc + 1) lv st h
  | .istore k => c_ist (m_lc i) k (pc + 2) lv st h
  | .lstore_n k => c_lst (m_lc i) k (pc + 1) lv st h
  | .lstore k => c_lst (m_lc i) k (pc + 2) lv st h
  | .astore_n k => c_ast (m_lc i) k (pc + 1) lv st h
  | .astore k => c_ast (m_lc i) k (pc + 2) lv st h
  | .iinc k z => c_inc (m_lc i) k z pc lv st h
  | .iadd => c_ii (fun x y => x + y) pc lv st h
  | .isub => c_ii (fun x y => x - y) pc lv st h
  | .imul => c_ii (fun x y => x * y) pc lv st h
  | .iand => c_and s pc lv st h
  | .ior => c_ii (fun x y => x ||| y) pc lv st h
  | .ixor => c_ii (fun x y => x ^^^ y) pc lv st h
  | .idiv => c_dv (fun x y => x / y) pc lv st h
  | .irem => c_dv (fun x y => x - x / y * y) pc lv st h
  | .ineg => c_i1 (fun x => -x) pc lv st h
  | .ishl => c_ii (fun x y => x <<< (y &&& 31)) pc lv st h
  | .ishr => c_ii (fun x y => x >>> (y &&& 31)) pc lv st h
  | .iushr => c_ii (fun x y => (x.toUInt32 >>> (y.toUInt32 &&& Int32.toUInt32 31)).toInt32) pc lv st h
  | .ladd => c_ll (fun x y => x + y) pc lv st h
  | .lsub => c_ll (fun x y => x - y) pc lv st h
  | .land => c_ll (fun x y => x &&& y) pc lv st h
  | .lor => c_ll (fun x y => x ||| y) pc lv st h
  | .lxor => c_ll (fun x y => x ^^^ y) pc lv st h
  | .lneg => c_l1 (fun x => -x) pc lv st h
  | .lshl => c_li (fun x y => x <<< (y.toInt64 &&& 63)) pc lv st h
  | .lshr => c_li (fun x y => x >>> (y.toInt64 &&& 63)) pc lv st h
  | .lushr => c_li (fun x y => (x.toUInt64 >>> (y.toInt64.toUInt64 &&& Int64.toUInt64 63)).toInt64) pc lv st h
  | .lcmp => (match st with
      | .inr (.inr (.inl y)) :: .inr (.inr (.inl x)) :: r => b_go (pc + 1) lv (.inl (b_lc x y) :: r) h
      | _ => none)
  | .i2l => c_il (fun x => x.toInt64) pc lv st h
  | .l2i => c_l2i (fun x => x.toInt32) pc lv st h
  | .i2b => c_i1 (fun x => x.toInt8.toInt32) pc lv st h
  | .i2c => c_i1 (fun x => (x.toUInt32 % 65536).toInt32) pc lv st h
  | .dup => (match st with
      | v :: r => if b_cat v = 1 then b_go (pc + 1) lv (v :: v :: r) h else none
      | _ => none)
  | .pop => (match st with
      | v :: r => if b_cat v = 1 then b_go (pc + 1) lv r h else none
      | _ => none)
  | .dup2 => (match st with
      | v :: w :: r => if b_cat v = 1 ∧ b_cat w = 1 then b_go (pc + 1) lv (v :: w :: v :: w :: r) h else none
      | _ => none)
  | .goto off => b_tg pc off lv st h
  | .ifCond c off => (match st with
      | .inl x :: r => b_br (b_cmp c x (0, 0)) pc off lv r h
      | _ => none)
  | .if_icmp c off => (match st with
      | .inl y :: .inl x :: r => b_br (b_cmp c x y) pc off lv r h
      | _ => none)
  | .ifnull off => (match st with
      | .inr (.inr (.inr a)) :: r => if a = 0 then b_tg pc off lv r h else if 16 ≤ a then b_go (pc + 3) lv r h else none
      | _ => none)
  | .ifnonnull off => (match st with
      | .inr (.inr (.inr a)) :: r => if a = 0 then b_go (pc + 3) lv r h else if 16 ≤ a then b_tg pc off lv r h else none
      | _ => none)
  | .tableswitch d lo hi offs => c_sw d lo hi offs pc lv st h
  | .getfield idx => c_get i idx pc lv st h
  | .putfield idx => c_put i idx pc lv st h
  | .getstatic idx => c_gets i idx pc lv st h
  | .iaload => c_iald 20 20 pc s lv st h
  | .baload => c_iald 21 22 pc s lv st h
  | .laload => c_lald pc lv st h
  | .aaload => c_aald pc lv st h
  | .iastore => c_iast pc lv st h
  | .bastore => c_bast pc lv st h
  | .lastore => c_last pc lv st h
  | .aastore => c_aast pc lv st h
  | .arraylength => c_alen pc lv st h
  | .newarray t => c_newa t pc lv st h
  | .new idx => c_new i idx pc lv st h
  | .anewarray idx => c_anew i idx pc lv st h
  | .invokestatic idx => c_call 0 i idx pc lv st h
  | .invokevirtual idx => c_call 1 i idx pc lv st h
  | .invokespecial idx => c_call 2 i idx pc lv st h
  | .ireturn => (match st with
      | [.inl v] => if b_rok (m_rt i) v = true then some (.inr (.inl (some (.inl v), h))) else none
      | _ => none)
  | .lreturn => (match st with
      | [.inr (.inr (.inl v))] => if m_rt i = some .long then some (.inr (.inl (some (.inr (.inr (.inl v))), h))) else none
      | _ => none)
  | .areturn => (match st with
      | [.inr (.inr (.inr v))] => if m_rr (m_rt i) = true then some (.inr (.inl (some (b_r v), h))) else none
      | _ => none)
  | .return_ => (match st with
      | [] => if m_rt i = none then some (.inr (.inl (none, h))) else none
      | _ => none)
  | _ => none
noncomputable def b_ff (l : List m_I) (pc : Nat) : Option m_I := List.rec (motive := fun _ => Option m_I) none (fun e _ ih => Bool.rec (motive := fun _ => Option m_I) ih (some e) (Nat.beq e.1 pc)) l
noncomputable def c_st (s : AI) (i pc : Nat) (lv : AL) (st : List AV) (h : AH) : Option AA := match b_ff (m_m i).1 pc with
  | some e => if m_ln e.2.1 = e.2.2 ∨ m_ln e.2.1 = 0 then c_ex s i e.1 e.2.1 lv st h else none
  | none => none
def b_args : Nat → List AV → AL
  | _, [] => []
  | i, v :: vs => (i, v) :: b_args (if b_cat v = 2 then i + 2 else i + 1) vs
noncomputable def c_rn (s : AI) : Nat → Nat → Nat → AL → List AV → AH → Option (Option AV × AH)
  | 0, _, _, _, _, _ => none
  | n + 1, i, pc, lv, st, h => match c_st s i pc lv st h with
    | some (.inl (pc', lv', st', h')) => c_rn s n i pc' lv' st' h'
    | some (.inr (.inl q)) => some q
    | some (.inr (.inr (j, as, r, pc'))) => if b_ct as ≤ m_lc j then (match c_rn s n j 0 (b_args 0 as) [] h with
      | some (v, h') => c_rn s n i pc' lv (v.toList ++ r) h'
      | none => none) else none
    | none => none
-- where the law begins
def b_row : Nat → List Int32 → List (Nat × AI)
  | _, [] => []
  | k, x :: r => (k, (x.toInt, x.toInt)) :: b_row (k + 1) r
def b_xr : Nat → List AI → List (Nat × AI)
  | _, [] => []
  | k, x :: r => (k, x) :: b_xr (k + 1) r
def b_c0 (k len : Nat) (l : List Int32) : AC := ((k, len), ((0, 0), b_row 0 l), ((0, 0), []), [])
def b_cs (a : Nat) : AC := ((40, 0), ((0, 0), []), ((0, 0), []), [(0, a)])
def b_h0 (L : Nat) (xi : List AI) : AH := ((0, 0), [(1, b_c0 20 18 m_lim), (14, ((20, L), (b_t, b_xr 0 xi), ((0, 0), []), [])),
  (2, b_cs 8), (3, b_cs 9), (4, b_cs 10), (5, b_cs 11), (6, b_cs 12), (7, b_cs 13),
  (8, b_c0 21 3 [110, 101, 119]), (9, b_c0 21 3 [112, 117, 116]), (10, b_c0 21 4 [109, 101, 108, 100]), (11, b_c0 21 4 [108, 101, 115, 115]), (12, b_c0 21 5 [108, 111, 119, 101, 114]), (13, b_c0 21 3 [99, 117, 116])])
noncomputable def b_ok (s : AI) (fuel L : Nat) (xi : List AI) : Bool := match c_rn s fuel 0 0 [(0, b_r 14)] [] (b_h0 L xi) with
  | some (some (.inl v), A) => decide (v = (1, 1)) && (decide (A.1.1 ≤ 600000) && decide (A.1.2 ≤ 7302250))
  | _ => false
end
section
-- A run with ranges is true of every run within them.
def g_i (a : AI) (x : Int32) : Prop := a.1 ≤ x.toInt ∧ x.toInt ≤ a.2
def g_j (a : AI) (x : Int64) : Prop := a.1 ≤ x.toInt ∧ x.toInt ≤ a.2
def g_v (s : AI) (a : AV) (v : Value) : Prop := match a with
  | .inl p => ∃ x, v = .int x ∧ g_i p x
  | .inr (.inl _) => ∃ x, v = .int x ∧ g_i s (x &&& 63)
  | .inr (.inr (.inl p)) => ∃ x, v = .long x ∧ g_j p x
  | .inr (.inr (.inr n)) => v = .ref n
def g_s (s : AI) : List AV → List Value → Prop
  | [], [] => True
  | a :: r, v :: q => g_v s a v ∧ g_s s r q
  | _, _ => False
def g_l (s : AI) : AL → List (Nat × Value) → Prop
  | [], [] => True
  | a :: r, v :: q => (v.1 = a.1 ∧ g_v s a.2 v.2) ∧ g_l s r q
  | _, _ => False
def g_c (c : AC) (h : MH) (a : Nat) : Prop := h_k h a = c.1 ∧ (∀ j, g_i (b_rw c.2.1 j) (h_i h a j)) ∧ (∀ j, g_j (b_rw c.2.2.1 j) (h_l h a j)) ∧ (∀ j, h_r h a j = b_gr c j)
def g_h (s : AI) (A : AH) (h : MH) : Prop := h_n h = A.1.1 ∧ h_z h = A.1.2 ∧ (∀ a c, b_cell A a = some c → g_c c h a) ∧ g_i s (h_i h 14 0 &&& 63) ∧ (h_k h 14).1 = 20
def g_o (s : AI) (a : Option AV) (v : Option Value) : Prop := match a, v with
  | none, none => True
  | some a, some v => g_v s a v
  | _, _ => False
def g_r (s : AI) (R : AA) (R' : MA) : Prop := match R, R' with
  | .inl (pc, lv, st, A), .inl (pc', lv', st', h) => pc' = pc ∧ g_l s lv lv' ∧ g_s s st st' ∧ g_h s A h
  | .inr (.inl (v, A)), .inr (.inl (v', h)) => g_o s v v' ∧ g_h s A h
  | .inr (.inr (j, as, r, pc)), .inr (.inr (j', as', r', pc')) => j' = j ∧ g_s s as as' ∧ g_s s r r' ∧ pc' = pc
  | _, _ => False
-- plain words
theorem g_sc {s : AI} {a : AV} {r : List AV} {st : List Value} (h : g_s s (a :: r) st) : ∃ v q, st = v :: q ∧ g_v s a v ∧ g_s s r q := by
  cases st with
  | nil => exact h.elim
  | cons v q => exact ⟨v, q, rfl, h.1, h.2⟩
theorem g_sn {s : AI} {st : List Value} (h : g_s s [] st) : st = [] := by
  cases st with
  | nil => rfl
  | cons v q => exact h.elim
theorem g_iT (x : Int32) : g_i b_t x := by
  have h1 := Int32.le_toInt x
  have h2 := Int32.toInt_lt x
  exact ⟨by show (-2147483648 : Int) ≤ _; omega, by show _ ≤ (2147483647 : Int); omega⟩
theorem g_jT (x : Int64) : g_j b_tl x := by
  have h1 := Int64.le_toInt x
  have h2 := Int64.toInt_lt x
  exact ⟨by show (-9223372036854775808 : Int) ≤ _; omega, by show _ ≤ (9223372036854775807 : Int); omega⟩
theorem g_iE (x : Int32) : g_i (x.toInt, x.toInt) x := ⟨Int.le_refl _, Int.le_refl _⟩
theorem g_jE (x : Int64) : g_j (x.toInt, x.toInt) x := ⟨Int.le_refl _, Int.le_refl _⟩
theorem g_iC {a : AI} {x : Int32} (h : g_i a x) (e : a.1 = a.2) : x = Int32.ofInt a.1 := by
  have : x.toInt = a.1 := by
    obtain ⟨h1, h2⟩ := h
    omega
  rw [← this, Int32.ofInt_toInt]
theorem g_jC {a : AI} {x : Int64} (h : g_j a x) (e : a.1 = a.2) : x = Int64.ofInt a.1 := by
  have : x.toInt = a.1 := by
    obtain ⟨h1, h2⟩ := h
    omega
  rw [← this, Int64.ofInt_toInt]
theorem g_f1 {f : Int32 → Int32} {a : AI} {x : Int32} (h : g_i a x) : g_i (b_f1 f a) (f x) := by
  unfold b_f1
  split
  · next e => rw [g_iC h e]; exact g_iE _
  · exact g_iT _
theorem g_f2 {f : Int32 → Int32 → Int32} {a b : AI} {x y : Int32} (h : g_i a x) (k : g_i b y) : g_i (b_f2 f a b) (f x y) := by
  unfold b_f2
  split
  · next e => rw [g_iC h e.1, g_iC k e.2]; exact g_iE _
  · exact g_iT _
theorem g_g2 {f : Int64 → Int64 → Int64} {a b : AI} {x y : Int64} (h : g_j a x) (k : g_j b y) : g_j (b_g2 f a b) (f x y) := by
  unfold b_g2
  split
  · next e => rw [g_jC h e.1, g_jC k e.2]; exact g_jE _
  · exact g_jT _
theorem g_gi {f : Int64 → Int32 → Int64} {a b : AI} {x : Int64} {y : Int32} (h : g_j a x) (k : g_i b y) : g_j (b_gi f a b) (f x y) := by
  unfold b_gi
  split
  · next e => rw [g_jC h e.1, g_iC k e.2]; exact g_jE _
  · exact g_jT _
theorem g_il {f : Int32 → Int64} {a : AI} {x : Int32} (h : g_i a x) : g_j (b_il f a) (f x) := by
  unfold b_il
  split
  · next e => rw [g_iC h e]; exact g_jE _
  · exact g_jT _
theorem g_li {f : Int64 → Int32} {a : AI} {x : Int64} (h : g_j a x) : g_i (b_li f a) (f x) := by
  unfold b_li
  split
  · next e => rw [g_jC h e]; exact g_iE _
  · exact g_iT _
theorem g_ll {f : Int64 → Int64} {a : AI} {x : Int64} (h : g_j a x) : g_j (b_ll f a) (f x) := by
  unfold b_ll
  split
  · next e => rw [g_jC h e]; exact g_jE _
  · exact g_jT _
theorem g_lc {a b : AI} {x y : Int64} (h : g_j a x) (k : g_j b y) : g_i (b_lc a b) (lg_cmp x y) := by
  unfold b_lc
  split
  · next e => rw [g_jC h e.1, g_jC k e.2]; exact g_iE _
  · exact g_iT _
theorem g_eq {a b : AI} {x y : Int32} {r : Bool} (h : g_i a x) (k : g_i b y) (e : b_eq a b = some r) : decide (x = y) = r := by
  obtain ⟨h1, h2⟩ := h
  obtain ⟨k1, k2⟩ := k
  unfold b_eq at e
  split at e
  · cases e
    exact decide_eq_true (Int32.toInt_inj.mp (by omega))
  · split at e
    · cases e
      exact decide_eq_false (fun q => by rw [q] at h1 h2; omega)
    · cases e
theorem g_lt {a b : AI} {x y : Int32} {r : Bool} (h : g_i a x) (k : g_i b y) (e : b_lt a b = some r) : decide (x < y) = r := by
  obtain ⟨h1, h2⟩ := h
  obtain ⟨k1, k2⟩ := k
  unfold b_lt at e
  split at e
  · cases e
    exact decide_eq_true (Int32.lt_iff_toInt_lt.mpr (by omega))
  · split at e
    · cases e
      exact decide_eq_false (fun q => by have := Int32.lt_iff_toInt_lt.mp q; omega)
    · cases e
theorem g_ge (x y : Int32) : decide (y ≤ x) = !decide (x < y) := by
  by_cases h : x < y
  · rw [decide_eq_true h]
    refine decide_eq_false (fun q => ?_)
    have h1 := Int32.lt_iff_toInt_lt.mp h
    have h2 := Int32.le_iff_toInt_le.mp q
    omega
  · rw [decide_eq_false h]
    refine decide_eq_true (Int32.le_iff_toInt_le.mpr ?_)
    have h1 : ¬ x.toInt < y.toInt := fun q => h (Int32.lt_iff_toInt_lt.mpr q)
    omega
theorem g_cmp {c : ClassFile.Cond} {a b : AI} {x y : Int32} {r : Bool} (h : g_i a x) (k : g_i b y) (e : b_cmp c a b = some r) : m_cmp c x y = r := by
  have hm : ∀ {o : Option Bool}, o.map (fun b => !b) = some r → o = some (!r) := by
    intro o ho
    cases o with
    | none => cases ho
    | some q => cases ho; cases q <;> rfl
  cases c with
  | eq => exact g_eq h k e
  | ne => show (!decide (x = y)) = r; rw [g_eq h k (hm e)]; cases r <;> rfl
  | lt => exact g_lt h k e
  | ge => show decide (y ≤ x) = r; rw [g_ge, g_lt h k (hm e)]; cases r <;> rfl
  | gt => exact g_lt k h e
  | le => show decide (x ≤ y) = r; rw [g_ge, g_lt k h (hm e)]; cases r <;> rfl
-- joins
theorem g_jn1 {a b : AI} {z : Int} (h : a.1 ≤ z ∧ z ≤ a.2) : (b_jn a b).1 ≤ z ∧ z ≤ (b_jn a b).2 := by
  unfold b_jn
  dsimp only
  constructor
  · split <;> omega
  · split <;> omega
theorem g_jn2 {a b : AI} {z : Int} (h : b.1 ≤ z ∧ z ≤ b.2) : (b_jn a b).1 ≤ z ∧ z ≤ (b_jn a b).2 := by
  unfold b_jn
  dsimp only
  constructor
  · split <;> omega
  · split <;> omega
theorem m_lkc {α : Type} (q : Nat × α) (r : List (Nat × α)) (b : Nat) : m_lk (q :: r) b = if q.1 = b then some q.2 else m_lk r b := by
  unfold m_lk
  rw [List.find?_cons]
  by_cases h : q.1 = b
  · rw [if_pos h, show (q.1 == b) = true from beq_iff_eq.mpr h]
    rfl
  · rw [if_neg h, show (q.1 == b) = false from beq_eq_false_iff_ne.mpr h]
theorem m_lkau {α : Type} (l : List (Nat × α)) (a : Nat) (v : α) (b : Nat) : m_lk (b_au l a v) b = if a = b then some v else m_lk l b := by
  induction l with
  | nil => rw [b_au, m_lkc]
  | cons q r ih =>
    obtain ⟨k, w⟩ := q
    rw [b_au]
    by_cases h : k = a
    · rw [if_pos h, m_lkc, m_lkc]
      by_cases h2 : a = b
      · rw [if_pos h2, if_pos h2]
      · rw [if_neg h2, if_neg h2, if_neg (by dsimp only; omega)]
    · rw [if_neg h, m_lkc, m_lkc, ih]
      by_cases h2 : a = b
      · rw [if_pos h2, if_neg (by dsimp only; omega), if_pos h2]
      · rw [if_neg h2, if_neg h2]
theorem g_all (d : AR) (j : Nat) {z : Int} (h : (b_rw d j).1 ≤ z ∧ z ≤ (b_rw d j).2) : (b_all d).1 ≤ z ∧ z ≤ (b_all d).2 := by
  obtain ⟨e, l⟩ := d
  unfold b_all
  dsimp only
  induction l with
  | nil => exact h
  | cons q r ih =>
    rw [List.foldr_cons]
    unfold b_rw at h
    rw [m_lkc] at h
    by_cases hk : q.1 = j
    · rw [if_pos hk] at h
      exact g_jn1 h
    · rw [if_neg hk] at h
      exact g_jn2 (ih h)
theorem b_rwst (d : AR) (k : Nat) (v : AI) (j : Nat) : b_rw (b_st d k v) j = if k = j then v else b_rw d j := by
  unfold b_st
  split
  · next e =>
    by_cases h : k = j
    · rw [if_pos h, ← h, e]
    · rw [if_neg h]
  · unfold b_rw
    dsimp only
    rw [m_lkau]
    by_cases h : k = j
    · rw [if_pos h, if_pos h]
    · rw [if_neg h, if_neg h]
theorem b_grau (c : AC) (k v j : Nat) : b_gr (c.1, c.2.1, c.2.2.1, b_au c.2.2.2 k v) j = if k = j then v else b_gr c j := by
  unfold b_gr
  dsimp only
  rw [m_lkau]
  by_cases h : k = j
  · rw [if_pos h, if_pos h]
  · rw [if_neg h, if_neg h]
-- the heap
theorem b_cset (A : AH) (a : Nat) (c : AC) (b : Nat) : b_cell (b_set A a c) b = if a = b then some c else b_cell A b := m_lkau _ _ _ _
theorem g_set {s : AI} {A : AH} {h h2 : MH} {a : Nat} {c : AC} (hh : g_h s A h) (ha : a ≠ 14) (h1 : h2.1 = h.1) (hk : ∀ b, h_k h2 b = h_k h b) (hb : ∀ b, b ≠ a → h_i h2 b = h_i h b ∧ h_l h2 b = h_l h b ∧ h_r h2 b = h_r h b) (hc : g_c c h2 a) : g_h s (b_set A a c) h2 := by
  obtain ⟨q1, q2, q3, q4, q5⟩ := hh
  refine ⟨by unfold h_n at q1 ⊢; rw [h1]; exact q1, by unfold h_z at q2 ⊢; rw [h1]; exact q2, fun b x hx => ?_, ?_, by rw [hk]; exact q5⟩
  · rw [b_cset] at hx
    by_cases hab : a = b
    · rw [if_pos hab] at hx
      cases hx
      rw [← hab]
      exact hc
    · rw [if_neg hab] at hx
      obtain ⟨p1, p2, p3, p4⟩ := q3 b x hx
      obtain ⟨e1, e2, e3⟩ := hb b (fun z => hab z.symm)
      exact ⟨by rw [hk]; exact p1, fun j => by rw [e1]; exact p2 j, fun j => by rw [e2]; exact p3 j, fun j => by rw [e3]; exact p4 j⟩
  · rw [(hb 14 (fun z => ha z.symm)).1]
    exact q4
theorem g_same {s : AI} {A : AH} {h h2 : MH} {a : Nat} (hh : g_h s A h) (ha : a ≠ 14) (h1 : h2.1 = h.1) (hk : ∀ b, h_k h2 b = h_k h b) (hb : ∀ b, b ≠ a → h_i h2 b = h_i h b ∧ h_l h2 b = h_l h b ∧ h_r h2 b = h_r h b) (hc : ∀ c, b_cell A a = some c → g_c c h2 a) : g_h s A h2 := by
  obtain ⟨q1, q2, q3, q4, q5⟩ := hh
  refine ⟨by unfold h_n at q1 ⊢; rw [h1]; exact q1, by unfold h_z at q2 ⊢; rw [h1]; exact q2, fun b x hx => ?_, ?_, by rw [hk]; exact q5⟩
  · by_cases hab : a = b
    · rw [← hab] at hx ⊢
      exact hc x hx
    · obtain ⟨p1, p2, p3, p4⟩ := q3 b x hx
      obtain ⟨e1, e2, e3⟩ := hb b (fun z => hab z.symm)
      exact ⟨by rw [hk]; exact p1, fun j => by rw [e1]; exact p2 j, fun j => by rw [e2]; exact p3 j, fun j => by rw [e3]; exact p4 j⟩
  · rw [(hb 14 (fun z => ha z.symm)).1]
    exact q4
theorem m_uE {α : Type} (f : Nat → α) (k : Nat) (v : α) : m_u f k v k = v := if_pos rfl
theorem m_uN {α : Type} (f : Nat → α) (k : Nat) (v : α) (j : Nat) (h : j ≠ k) : m_u f k v j = f j := if_neg h
theorem g_si {s : AI} {A : AH} {h : MH} {a : Nat} {o : AC} {k : Nat} {v : AI} {x : Int32} (hh : g_h s A h) (hc : b_cell A a = some o) (ha : a ≠ 14) (hv : g_i v x) : g_h s (b_si A a o k v) (h_si h a k x) := by
  obtain ⟨p1, p2, p3, p4⟩ := hh.2.2.1 a o hc
  have hrow : ∀ j, h_i (h_si h a k x) a j = if k = j then x else h_i h a j := by
    intro j
    show m_u (h_i h) a (m_u (h_i h a) k x) a j = _
    rw [m_uE]
    by_cases e : k = j
    · rw [if_pos e, ← e, m_uE]
    · rw [if_neg e, m_uN _ _ _ _ (fun z => e z.symm)]
  have hbb : ∀ b, b ≠ a → h_i (h_si h a k x) b = h_i h b ∧ h_l (h_si h a k x) b = h_l h b ∧ h_r (h_si h a k x) b = h_r h b := fun b hb => ⟨m_uN _ _ _ _ hb, rfl, rfl⟩
  unfold b_si
  split
  · next e =>
    refine g_same hh ha rfl (fun b => rfl) hbb (fun c hc2 => ?_)
    rw [hc] at hc2
    cases hc2
    refine ⟨p1, fun j => ?_, p3, p4⟩
    rw [hrow]
    by_cases e2 : k = j
    · rw [if_pos e2, ← e2, e]
      exact hv
    · rw [if_neg e2]
      exact p2 j
  · refine g_set hh ha rfl (fun b => rfl) hbb ⟨p1, fun j => ?_, p3, p4⟩
    dsimp only
    rw [hrow, b_rwst]
    by_cases e2 : k = j
    · rw [if_pos e2, if_pos e2]
      exact hv
    · rw [if_neg e2, if_neg e2]
      exact p2 j
theorem g_sl {s : AI} {A : AH} {h : MH} {a : Nat} {o : AC} {k : Nat} {v : AI} {x : Int64} (hh : g_h s A h) (hc : b_cell A a = some o) (ha : a ≠ 14) (hv : g_j v x) : g_h s (b_sl A a o k v) (h_sl h a k x) := by
  obtain ⟨p1, p2, p3, p4⟩ := hh.2.2.1 a o hc
  have hrow : ∀ j, h_l (h_sl h a k x) a j = if k = j then x else h_l h a j := by
    intro j
    show m_u (h_l h) a (m_u (h_l h a) k x) a j = _
    rw [m_uE]
    by_cases e : k = j
    · rw [if_pos e, ← e, m_uE]
    · rw [if_neg e, m_uN _ _ _ _ (fun z => e z.symm)]
  have hbb : ∀ b, b ≠ a → h_i (h_sl h a k x) b = h_i h b ∧ h_l (h_sl h a k x) b = h_l h b ∧ h_r (h_sl h a k x) b = h_r h b := fun b hb => ⟨rfl, m_uN _ _ _ _ hb, rfl⟩
  unfold b_sl
  split
  · next e =>
    refine g_same hh ha rfl (fun b => rfl) hbb (fun c hc2 => ?_)
    rw [hc] at hc2
    cases hc2
    refine ⟨p1, p2, fun j => ?_, p4⟩
    rw [hrow]
    by_cases e2 : k = j
    · rw [if_pos e2, ← e2, e]
      exact hv
    · rw [if_neg e2]
      exact p3 j
  · refine g_set hh ha rfl (fun b => rfl) hbb ⟨p1, p2, fun j => ?_, p4⟩
    dsimp only
    rw [hrow, b_rwst]
    by_cases e2 : k = j
    · rw [if_pos e2, if_pos e2]
      exact hv
    · rw [if_neg e2, if_neg e2]
      exact p3 j
theorem g_sr {s : AI} {A : AH} {h : MH} {a : Nat} {o : AC} {k x : Nat} (hh : g_h s A h) (hc : b_cell A a = some o) (ha : a ≠ 14) : g_h s (b_sr A a o k x) (h_sr h a k x) := by
  obtain ⟨p1, p2, p3, p4⟩ := hh.2.2.1 a o hc
  refine g_set hh ha rfl (fun b => rfl) (fun b hb => ⟨rfl, rfl, m_uN _ _ _ _ hb⟩) ⟨p1, p2, p3, fun j => ?_⟩
  show m_u (h_r h) a (m_u (h_r h a) k x) a j = _
  rw [m_uE, b_grau]
  by_cases e : k = j
  · rw [if_pos e, ← e, m_uE]
  · rw [if_neg e, m_uN _ _ _ _ (fun z => e z.symm)]
    exact p4 j
theorem g_new {s : AI} {A : AH} {h : MH} (k len sz : Nat) (hh : g_h s A h) : g_h s (b_new A k len sz) (h_new h k len sz) := by
  obtain ⟨q1, q2, q3, q4, q5⟩ := hh
  refine ⟨?_, ?_, fun b x hx => ?_, ?_, ?_⟩
  · show h_n h + 1 = A.1.1 + 1
    rw [q1]
  · show h_z h + sz = A.1.2 + sz
    rw [q2]
  · have hx2 : m_lk (b_au A.2 (16 + A.1.1) ((k, len), ((0, 0), []), ((0, 0), []), [])) b = some x := hx
    rw [m_lkau] at hx2
    have e16 : 16 + h.1.1 = 16 + A.1.1 := by unfold h_n at q1; omega
    by_cases hb : 16 + A.1.1 = b
    · rw [if_pos hb] at hx2
      cases hx2
      have eb : b = 16 + h.1.1 := by omega
      refine ⟨?_, fun j => ?_, fun j => ?_, fun j => ?_⟩
      · show m_u (h_k h) (16 + h.1.1) (k, len) b = _
        rw [eb, m_uE]
      · show g_i (0, 0) (m_u (h_i h) (16 + h.1.1) (fun _ => 0) b j)
        rw [eb, m_uE]
        exact ⟨by decide, by decide⟩
      · show g_j (0, 0) (m_u (h_l h) (16 + h.1.1) (fun _ => 0) b j)
        rw [eb, m_uE]
        exact ⟨by decide, by decide⟩
      · show m_u (h_r h) (16 + h.1.1) (fun _ => 0) b j = 0
        rw [eb, m_uE]
    · rw [if_neg hb] at hx2
      have nb : b ≠ 16 + h.1.1 := by omega
      obtain ⟨p1, p2, p3, p4⟩ := q3 b x hx2
      refine ⟨?_, fun j => ?_, fun j => ?_, fun j => ?_⟩
      · show m_u (h_k h) (16 + h.1.1) (k, len) b = _
        rw [m_uN _ _ _ _ nb]
        exact p1
      · show g_i _ (m_u (h_i h) (16 + h.1.1) (fun _ => 0) b j)
        rw [m_uN _ _ _ _ nb]
        exact p2 j
      · show g_j _ (m_u (h_l h) (16 + h.1.1) (fun _ => 0) b j)
        rw [m_uN _ _ _ _ nb]
        exact p3 j
      · show m_u (h_r h) (16 + h.1.1) (fun _ => 0) b j = _
        rw [m_uN _ _ _ _ nb]
        exact p4 j
  · show g_i s (m_u (h_i h) (16 + h.1.1) (fun _ => 0) 14 0 &&& 63)
    rw [m_uN _ _ _ _ (by omega)]
    exact q4
  · show (m_u (h_k h) (16 + h.1.1) (k, len) 14).1 = 20
    rw [m_uN _ _ _ _ (by omega)]
    exact q5
-- stacks and locals
theorem g_catE {s : AI} {a : AV} {v : Value} (h : g_v s a v) : v.category = b_cat a := by
  cases a with
  | inl p =>
    obtain ⟨x, rfl, -⟩ := h
    rfl
  | inr a => cases a with
    | inl u =>
      obtain ⟨x, rfl, -⟩ := h
      rfl
    | inr a => cases a with
      | inl p =>
        obtain ⟨x, rfl, -⟩ := h
        rfl
      | inr n =>
        cases (h : v = .ref n)
        rfl
theorem g_ct {s : AI} : ∀ {a : List AV} {v : List Value}, g_s s a v → m_cat v = b_ct a
  | [], [], _ => rfl
  | a :: r, v :: q, h => by
    have ih := g_ct h.2
    unfold m_cat b_ct at ih ⊢
    rw [List.map_cons, List.map_cons, List.sum_cons, List.sum_cons, ih, g_catE h.1]
  | [], _ :: _, h => h.elim
  | _ :: _, [], h => h.elim
theorem g_len {s : AI} : ∀ {a : List AV} {v : List Value}, g_s s a v → v.length = a.length
  | [], [], _ => rfl
  | a :: r, v :: q, h => by rw [List.length_cons, List.length_cons, g_len h.2]
  | [], _ :: _, h => h.elim
  | _ :: _, [], h => h.elim
theorem g_dr {s : AI} : ∀ (n : Nat) {a : List AV} {v : List Value}, g_s s a v → g_s s (a.drop n) (v.drop n)
  | 0, _, _, h => h
  | n + 1, [], [], h => h
  | n + 1, a :: r, v :: q, h => g_dr n h.2
  | _ + 1, [], _ :: _, h => h.elim
  | _ + 1, _ :: _, [], h => h.elim
theorem g_tk {s : AI} : ∀ (n : Nat) {a : List AV} {v : List Value}, g_s s a v → g_s s (a.take n) (v.take n)
  | 0, _, _, _ => trivial
  | n + 1, [], [], h => h
  | n + 1, a :: r, v :: q, h => ⟨h.1, g_tk n h.2⟩
  | _ + 1, [], _ :: _, h => h.elim
  | _ + 1, _ :: _, [], h => h.elim
theorem g_app {s : AI} : ∀ {a b : List AV} {v w : List Value}, g_s s a v → g_s s b w → g_s s (a ++ b) (v ++ w)
  | [], _, [], _, _, k => k
  | a :: r, _, v :: q, _, h, k => ⟨h.1, g_app h.2 k⟩
  | [], _, _ :: _, _, h, _ => h.elim
  | _ :: _, _, [], _, h, _ => h.elim
theorem g_rv {s : AI} : ∀ {a : List AV} {v : List Value}, g_s s a v → g_s s a.reverse v.reverse
  | [], [], h => h
  | a :: r, v :: q, h => by
    rw [List.reverse_cons, List.reverse_cons]
    exact g_app (g_rv h.2) ⟨h.1, trivial⟩
  | [], _ :: _, h => h.elim
  | _ :: _, [], h => h.elim
theorem g_args {s : AI} : ∀ (n : Nat) {a : List AV} {v : List Value}, g_s s a v → g_l s (b_args n a) (lv_args n v)
  | _, [], [], _ => trivial
  | n, a :: r, v :: q, h => by
    rw [b_args, lv_args, g_catE h.1]
    exact ⟨⟨rfl, h.1⟩, g_args _ h.2⟩
  | _, [], _ :: _, h => h.elim
  | _, _ :: _, [], h => h.elim
theorem g_lk {s : AI} {k : Nat} {a : AV} : ∀ {l : AL} {v : List (Nat × Value)}, g_l s l v → m_lk l k = some a → ∃ x, m_lk v k = some x ∧ g_v s a x
  | [], [], _, e => by cases e
  | p :: r, v :: q, h, e => by
    rw [m_lkc] at e
    rw [m_lkc, h.1.1]
    by_cases hk : p.1 = k
    · rw [if_pos hk] at e ⊢
      cases e
      exact ⟨_, rfl, h.1.2⟩
    · rw [if_neg hk] at e ⊢
      exact g_lk h.2 e
  | [], _ :: _, h, _ => h.elim
  | _ :: _, [], h, _ => h.elim
theorem g_fi {s : AI} {p : Nat × AV → Bool} {p' : Nat × Value → Bool} (hp : ∀ (a : Nat × AV) (v : Nat × Value), v.1 = a.1 → g_v s a.2 v.2 → p' v = p a) : ∀ {l : AL} {v : List (Nat × Value)}, g_l s l v → g_l s (l.filter p) (v.filter p')
  | [], [], _ => trivial
  | a :: r, v :: q, h => by
    have e := hp a v h.1.1 h.1.2
    rw [List.filter_cons, List.filter_cons, e]
    by_cases hk : p a = true
    · rw [if_pos hk, if_pos hk]
      exact ⟨h.1, g_fi hp h.2⟩
    · rw [if_neg hk, if_neg hk]
      exact g_fi hp h.2
  | [], _ :: _, h => h.elim
  | _ :: _, [], h => h.elim
theorem g_s1 {s : AI} {l : AL} {v : List (Nat × Value)} {k : Nat} {a : AV} {x : Value} (h : g_l s l v) (hv : g_v s a x) : g_l s (b_s1 l k a) (m_s1 v k x) :=
  ⟨⟨rfl, hv⟩, g_fi (fun a v e g => by rw [e, g_catE g]) h⟩
theorem g_s2 {s : AI} {l : AL} {v : List (Nat × Value)} {k : Nat} {a : AV} {x : Value} (h : g_l s l v) (hv : g_v s a x) : g_l s (b_s2 l k a) (m_s2 v k x) :=
  ⟨⟨rfl, hv⟩, g_fi (fun a v e g => by rw [e, g_catE g]) h⟩
end
section
-- one step with ranges is true of every step within them
def g_P (s : AI) (R : Option AA) (R' : Option MA) : Prop := ∀ r, R = some r → ∃ r', R' = some r' ∧ g_r s r r'
theorem p_no (s : AI) (R' : Option MA) : g_P s none R' := fun _ h => by cases h
theorem p_go {s : AI} {pc : Nat} {lv : AL} {st : List AV} {A : AH} {lv' : List (Nat × Value)} {st' : List Value} {h : MH} (hl : g_l s lv lv') (hs : g_s s st st') (hh : g_h s A h) : g_P s (b_go pc lv st A) (m_go pc lv' st' h) := fun r e => by
  cases (Option.some.inj e)
  exact ⟨_, rfl, rfl, hl, hs, hh⟩
theorem p_tg {s : AI} {pc : Nat} {off : Int} {lv : AL} {st : List AV} {A : AH} {lv' : List (Nat × Value)} {st' : List Value} {h : MH} (hl : g_l s lv lv') (hs : g_s s st st') (hh : g_h s A h) : g_P s (b_tg pc off lv st A) (m_tg pc off lv' st' h) := by
  unfold b_tg m_tg
  by_cases hc : 0 ≤ (pc : Int) + off
  · rw [if_pos hc, if_pos hc]
    intro r e
    cases e
    exact ⟨_, rfl, rfl, hl, hs, hh⟩
  · rw [if_neg hc]
    exact p_no _ _
theorem p_br {s : AI} {b : Option Bool} {b' : Bool} {pc : Nat} {off : Int} {lv : AL} {st : List AV} {A : AH} {lv' : List (Nat × Value)} {st' : List Value} {h : MH} (hb : ∀ r, b = some r → b' = r) (hl : g_l s lv lv') (hs : g_s s st st') (hh : g_h s A h) : g_P s (b_br b pc off lv st A) (m_br b' pc off lv' st' h) := by
  unfold b_br m_br
  by_cases hc : 0 ≤ (pc : Int) + off
  · rw [if_pos hc, if_pos hc]
    cases b with
    | none => exact p_no _ _
    | some r =>
      rw [hb r rfl]
      cases r with
      | true =>
        intro r e
        cases e
        exact ⟨_, rfl, rfl, hl, hs, hh⟩
      | false => exact p_go hl hs hh
  · rw [if_neg hc]
    exact p_no _ _
def e_sw (d lo hi : Int) (offs : Array Int) (pc : Nat) (lv : List (Nat × Value)) (st : List Value) (h : MH) : Option MA := match st with
  | .int x :: r => if x.toInt < lo ∨ hi < x.toInt then m_tg pc d lv r h else (match offs[(x.toInt - lo).toNat]? with
    | some o => m_tg pc o lv r h
    | none => none)
  | _ => none
section
variable {s : AI} {pc : Nat} {lv : AL} {st : List AV} {A : AH} {lv' : List (Nat × Value)} {st' : List Value} {h : MH}
theorem p_ii (f : Int32 → Int32 → Int32) (hl : g_l s lv lv') (hs : g_s s st st') (hh : g_h s A h) : g_P s (c_ii f pc lv st A) (e_ii f pc lv' st' h) := by
  unfold c_ii
  split
  · next y x r =>
    obtain ⟨v, q, rfl, ⟨y', rfl, hy⟩, hq1⟩ := g_sc hs
    obtain ⟨v, q, rfl, ⟨x', rfl, hx⟩, hq⟩ := g_sc hq1
    exact p_go hl ⟨⟨_, rfl, g_f2 hx hy⟩, hq⟩ hh
  · exact p_no _ _
theorem p_and (hl : g_l s lv lv') (hs : g_s s st st') (hh : g_h s A h) : g_P s (c_and s pc lv st A) (e_ii (fun x y => x &&& y) pc lv' st' h) := by
  unfold c_and
  split
  · next y x r =>
    obtain ⟨v, q, rfl, ⟨y', rfl, hy⟩, hq1⟩ := g_sc hs
    obtain ⟨v, q, rfl, ⟨x', rfl, hx⟩, hq⟩ := g_sc hq1
    exact p_go hl ⟨⟨_, rfl, g_f2 (f := fun x y => x &&& y) hx hy⟩, hq⟩ hh
  · next y u r =>
    obtain ⟨v, q, rfl, ⟨y', rfl, hy⟩, hq1⟩ := g_sc hs
    obtain ⟨v, q, rfl, ⟨x', rfl, hx⟩, hq⟩ := g_sc hq1
    split
    · next e =>
      have e2 : y' = 63 := by rw [g_iC hy (by rw [e]), e]; rfl
      rw [e2]
      exact p_go hl ⟨⟨_, rfl, hx⟩, hq⟩ hh
    · exact p_no _ _
  · exact p_no _ _
theorem p_ll (f : Int64 → Int64 → Int64) (hl : g_l s lv lv') (hs : g_s s st st') (hh : g_h s A h) : g_P s (c_ll f pc lv st A) (e_ll f pc lv' st' h) := by
  unfold c_ll
  split
  · next y x r =>
    obtain ⟨v, q, rfl, ⟨y', rfl, hy⟩, hq1⟩ := g_sc hs
    obtain ⟨v, q, rfl, ⟨x', rfl, hx⟩, hq⟩ := g_sc hq1
    exact p_go hl ⟨⟨_, rfl, g_g2 hx hy⟩, hq⟩ hh
  · exact p_no _ _
theorem p_li (f : Int64 → Int32 → Int64) (hl : g_l s lv lv') (hs : g_s s st st') (hh : g_h s A h) : g_P s (c_li f pc lv st A) (e_li f pc lv' st' h) := by
  unfold c_li
  split
  · next y x r =>
    obtain ⟨v, q, rfl, ⟨y', rfl, hy⟩, hq1⟩ := g_sc hs
    obtain ⟨v, q, rfl, ⟨x', rfl, hx⟩, hq⟩ := g_sc hq1
    exact p_go hl ⟨⟨_, rfl, g_gi hx hy⟩, hq⟩ hh
  · exact p_no _ _
theorem p_i1 (f : Int32 → Int32) (hl : g_l s lv lv') (hs : g_s s st st') (hh : g_h s A h) : g_P s (c_i1 f pc lv st A) (e_i (fun x => .int (f x)) pc lv' st' h) := by
  unfold c_i1
  split
  · next x r =>
    obtain ⟨v, q, rfl, ⟨x', rfl, hx⟩, hq⟩ := g_sc hs
    exact p_go hl ⟨⟨_, rfl, g_f1 hx⟩, hq⟩ hh
  · exact p_no _ _
theorem p_il (f : Int32 → Int64) (hl : g_l s lv lv') (hs : g_s s st st') (hh : g_h s A h) : g_P s (c_il f pc lv st A) (e_i (fun x => .long (f x)) pc lv' st' h) := by
  unfold c_il
  split
  · next x r =>
    obtain ⟨v, q, rfl, ⟨x', rfl, hx⟩, hq⟩ := g_sc hs
    exact p_go hl ⟨⟨_, rfl, g_il hx⟩, hq⟩ hh
  · exact p_no _ _
theorem p_l2i (f : Int64 → Int32) (hl : g_l s lv lv') (hs : g_s s st st') (hh : g_h s A h) : g_P s (c_l2i f pc lv st A) (e_l (fun x => .int (f x)) pc lv' st' h) := by
  unfold c_l2i
  split
  · next x r =>
    obtain ⟨v, q, rfl, ⟨x', rfl, hx⟩, hq⟩ := g_sc hs
    exact p_go hl ⟨⟨_, rfl, g_li hx⟩, hq⟩ hh
  · exact p_no _ _
theorem p_l1 (f : Int64 → Int64) (hl : g_l s lv lv') (hs : g_s s st st') (hh : g_h s A h) : g_P s (c_l1 f pc lv st A) (e_l (fun x => .long (f x)) pc lv' st' h) := by
  unfold c_l1
  split
  · next x r =>
    obtain ⟨v, q, rfl, ⟨x', rfl, hx⟩, hq⟩ := g_sc hs
    exact p_go hl ⟨⟨_, rfl, g_ll hx⟩, hq⟩ hh
  · exact p_no _ _
theorem p_dv (f : Int32 → Int32 → Int32) (hl : g_l s lv lv') (hs : g_s s st st') (hh : g_h s A h) : g_P s (c_dv f pc lv st A) (e_dv f pc lv' st' h) := by
  unfold c_dv
  split
  · next y x r =>
    obtain ⟨v, q, rfl, ⟨y', rfl, hy⟩, hq1⟩ := g_sc hs
    obtain ⟨v, q, rfl, ⟨x', rfl, hx⟩, hq⟩ := g_sc hq1
    split
    · next hn =>
      have hy0 : ¬ y' = 0 := fun e => by
        obtain ⟨k1, k2⟩ := hy
        rw [e] at k1 k2
        have : (0 : Int32).toInt = 0 := by decide
        omega
      show g_P s _ (if y' = 0 then none else _)
      rw [if_neg hy0]
      exact p_go hl ⟨⟨_, rfl, g_f2 hx hy⟩, hq⟩ hh
    · exact p_no _ _
  · exact p_no _ _
theorem p_ild (k : Nat) (hl : g_l s lv lv') (hs : g_s s st st') (hh : g_h s A h) : g_P s (c_ild k pc lv st A) (e_ild k pc lv' st' h) := by
  unfold c_ild e_ild
  split
  · next x e =>
    obtain ⟨v, e2, ⟨x', rfl, hx⟩⟩ := g_lk hl e
    rw [e2]
    exact p_go hl ⟨⟨_, rfl, hx⟩, hs⟩ hh
  · exact p_no _ _
theorem p_lld (k : Nat) (hl : g_l s lv lv') (hs : g_s s st st') (hh : g_h s A h) : g_P s (c_lld k pc lv st A) (e_lld k pc lv' st' h) := by
  unfold c_lld e_lld
  split
  · next x e =>
    obtain ⟨v, e2, ⟨x', rfl, hx⟩⟩ := g_lk hl e
    rw [e2]
    exact p_go hl ⟨⟨_, rfl, hx⟩, hs⟩ hh
  · exact p_no _ _
theorem p_ald (k : Nat) (hl : g_l s lv lv') (hs : g_s s st st') (hh : g_h s A h) : g_P s (c_ald k pc lv st A) (e_ald k pc lv' st' h) := by
  unfold c_ald e_ald
  split
  · next x e =>
    obtain ⟨v, e2, hx⟩ := g_lk hl e
    cases (hx : v = .ref x)
    rw [e2]
    exact p_go hl ⟨rfl, hs⟩ hh
  · exact p_no _ _
theorem p_ist (n k : Nat) (hl : g_l s lv lv') (hs : g_s s st st') (hh : g_h s A h) : g_P s (c_ist n k pc lv st A) (e_ist n k pc lv' st' h) := by
  unfold c_ist
  split
  · next x r =>
    obtain ⟨v, q, rfl, ⟨x', rfl, hx⟩, hq⟩ := g_sc hs
    show g_P s _ (if k < n then _ else none)
    split
    · exact p_go (g_s1 hl ⟨_, rfl, hx⟩) hq hh
    · exact p_no _ _
  · exact p_no _ _
theorem p_lst (n k : Nat) (hl : g_l s lv lv') (hs : g_s s st st') (hh : g_h s A h) : g_P s (c_lst n k pc lv st A) (e_lst n k pc lv' st' h) := by
  unfold c_lst
  split
  · next x r =>
    obtain ⟨v, q, rfl, ⟨x', rfl, hx⟩, hq⟩ := g_sc hs
    show g_P s _ (if k + 1 < n then _ else none)
    split
    · exact p_go (g_s2 hl ⟨_, rfl, hx⟩) hq hh
    · exact p_no _ _
  · exact p_no _ _
theorem p_ast (n k : Nat) (hl : g_l s lv lv') (hs : g_s s st st') (hh : g_h s A h) : g_P s (c_ast n k pc lv st A) (e_ast n k pc lv' st' h) := by
  unfold c_ast
  split
  · next x r =>
    obtain ⟨v, q, rfl, hx, hq⟩ := g_sc hs
    cases (hx : v = .ref x)
    show g_P s _ (if k < n then _ else none)
    split
    · exact p_go (g_s1 hl rfl) hq hh
    · exact p_no _ _
  · exact p_no _ _
theorem p_inc (n k : Nat) (z : Int) (hl : g_l s lv lv') (hs : g_s s st st') (hh : g_h s A h) : g_P s (c_inc n k z pc lv st A) (e_inc n k z pc lv' st' h) := by
  unfold c_inc e_inc
  split
  · next x e =>
    obtain ⟨v, e2, ⟨x', rfl, hx⟩⟩ := g_lk hl e
    rw [e2]
    dsimp only
    split
    · exact p_go (g_s1 hl ⟨_, rfl, g_f1 (f := fun x => x + Int32.ofInt z) hx⟩) hs hh
    · exact p_no _ _
  · exact p_no _ _
theorem p_get (i idx : Nat) (hl : g_l s lv lv') (hs : g_s s st st') (hh : g_h s A h) : g_P s (c_get i idx pc lv st A) (e_get i idx pc lv' st' h) := by
  unfold c_get
  split
  · next a r z c k ef =>
    obtain ⟨v, q, rfl, hx, hq⟩ := g_sc hs
    cases (hx : v = .ref a)
    unfold e_get
    rw [ef]
    dsimp only
    split
    · next o eo =>
      obtain ⟨p1, p2, p3, p4⟩ := hh.2.2.1 a o eo
      rw [p1]
      split
      · split
        · next e0 => rw [e0]; exact p_go hl ⟨⟨_, rfl, p2 k⟩, hq⟩ hh
        · next e0 => rw [e0]; exact p_go hl ⟨⟨_, rfl, p3 k⟩, hq⟩ hh
        · next n0 n1 =>
          split
          · next e0 => exact absurd e0 n0
          · next e0 => exact absurd e0 n1
          · exact p_go hl ⟨by rw [← p4 k]; rfl, hq⟩ hh
      · exact p_no _ _
    · exact p_no _ _
  · exact p_no _ _
theorem g_n14 {a : Nat} {o : AC} {c : Nat} (hh : g_h s A h) (eo : b_cell A a = some o) (hc : o.1.1 = c + 1) (h10 : c < 10) : a ≠ 14 := by
  intro e
  have h1 := (hh.2.2.1 a o eo).1
  have h2 := hh.2.2.2.2
  rw [e] at h1
  rw [h1] at h2
  omega
theorem p_put (i idx : Nat) (hl : g_l s lv lv') (hs : g_s s st st') (hh : g_h s A h) : g_P s (c_put i idx pc lv st A) (e_put i idx pc lv' st' h) := by
  unfold c_put
  split
  · next x a r z c k ef =>
    obtain ⟨v, q, rfl, ⟨x', rfl, hx⟩, hq1⟩ := g_sc hs
    obtain ⟨v, q, rfl, ha, hq⟩ := g_sc hq1
    cases (ha : v = .ref a)
    unfold e_put
    rw [ef]
    dsimp only
    split
    · next o eo =>
      rw [(hh.2.2.1 a o eo).1]
      split
      · next hc => exact p_go hl hq (g_si hh eo (g_n14 hh eo hc.1 hc.2.1) hx)
      · exact p_no _ _
    · exact p_no _ _
  · next x a r z c k ef =>
    obtain ⟨v, q, rfl, ⟨x', rfl, hx⟩, hq1⟩ := g_sc hs
    obtain ⟨v, q, rfl, ha, hq⟩ := g_sc hq1
    cases (ha : v = .ref a)
    unfold e_put
    rw [ef]
    dsimp only
    split
    · next o eo =>
      rw [(hh.2.2.1 a o eo).1]
      split
      · next hc => exact p_go hl hq (g_sl hh eo (g_n14 hh eo hc.1 hc.2.1) hx)
      · exact p_no _ _
    · exact p_no _ _
  · next x a r z c k ef =>
    obtain ⟨v, q, rfl, hx, hq1⟩ := g_sc hs
    cases (hx : v = .ref x)
    obtain ⟨v, q, rfl, ha, hq⟩ := g_sc hq1
    cases (ha : v = .ref a)
    unfold e_put
    rw [ef]
    dsimp only
    split
    · next o eo =>
      rw [(hh.2.2.1 a o eo).1]
      split
      · next hc => exact p_go hl hq (g_sr hh eo (g_n14 hh eo hc.1 hc.2.1))
      · exact p_no _ _
    · exact p_no _ _
  · exact p_no _ _
theorem g_at {j : AI} {x : Int32} {n : Nat} (hj : g_i j x) (e : b_at j n = true) : m_in x n = true := by
  obtain ⟨h1, h2⟩ := hj
  unfold b_at at e
  rw [Bool.and_eq_true] at e
  have e1 := of_decide_eq_true e.1
  have e2 := of_decide_eq_true e.2
  unfold m_in
  rw [Bool.and_eq_true]
  refine ⟨decide_eq_true (fun q => ?_), decide_eq_true ?_⟩
  · have := Int32.lt_iff_toInt_lt.mp q
    have : (0 : Int32).toInt = 0 := by decide
    omega
  · show x.toInt.toNat < n
    omega
theorem g_ix {j : AI} {x : Int32} (hj : g_i j x) (hc : j.1 = j.2) : x.toNatClampNeg = j.1.toNat := by
  obtain ⟨h1, h2⟩ := hj
  show x.toInt.toNat = _
  omega
theorem g_rdi {d : AR} {j : AI} {x : Int32} {f : Nat → Int32} (hj : g_i j x) (hf : ∀ k, g_i (b_rw d k) (f k)) : g_i (b_rd d j) (f x.toNatClampNeg) := by
  unfold b_rd
  split
  · next e =>
    rw [g_ix hj e]
    exact hf _
  · exact g_all d _ (hf _)
theorem g_rdj {d : AR} {j : AI} {x : Int32} {f : Nat → Int64} (hj : g_i j x) (hf : ∀ k, g_j (b_rw d k) (f k)) : g_j (b_rd d j) (f x.toNatClampNeg) := by
  unfold b_rd
  split
  · next e =>
    rw [g_ix hj e]
    exact hf _
  · exact g_all d _ (hf _)
theorem p_iald (k0 k1 : Nat) (hl : g_l s lv lv') (hs : g_s s st st') (hh : g_h s A h) : g_P s (c_iald k0 k1 pc s lv st A) (e_iald k0 k1 pc lv' st' h) := by
  unfold c_iald
  split
  · next j a r =>
    obtain ⟨v, q, rfl, ⟨j', rfl, hj⟩, hq1⟩ := g_sc hs
    obtain ⟨v, q, rfl, ha, hq⟩ := g_sc hq1
    cases (ha : v = .ref a)
    unfold e_iald
    dsimp only
    split
    · next o eo =>
      obtain ⟨p1, p2, p3, p4⟩ := hh.2.2.1 a o eo
      rw [p1]
      by_cases hc : (o.1.1 = k0 ∨ o.1.1 = k1) ∧ b_at j o.1.2 = true
      · have hc2 : (o.1.1 = k0 ∨ o.1.1 = k1) ∧ m_in j' o.1.2 = true := ⟨hc.1, g_at hj hc.2⟩
        rw [if_pos hc, if_pos hc2]
        by_cases e14 : a = 14
        · rw [if_pos e14]
          by_cases e0 : j = (0, 0)
          · rw [if_pos e0]
            have e1 : j'.toNatClampNeg = 0 := by rw [g_ix hj (by rw [e0]), e0]; rfl
            refine p_go hl ⟨⟨_, rfl, ?_⟩, hq⟩ hh
            rw [e1, e14]
            exact hh.2.2.2.1
          · rw [if_neg e0]
            by_cases e2 : j.1 = j.2
            · rw [if_pos e2]
              refine p_go hl ⟨⟨_, rfl, ?_⟩, hq⟩ hh
              rw [g_ix hj e2]
              exact p2 _
            · rw [if_neg e2]
              exact p_no _ _
        · rw [if_neg e14]
          exact p_go hl ⟨⟨_, rfl, g_rdi hj p2⟩, hq⟩ hh
      · rw [if_neg hc]
        exact p_no _ _
    · exact p_no _ _
  · exact p_no _ _
theorem p_lald (hl : g_l s lv lv') (hs : g_s s st st') (hh : g_h s A h) : g_P s (c_lald pc lv st A) (e_lald pc lv' st' h) := by
  unfold c_lald
  split
  · next j a r =>
    obtain ⟨v, q, rfl, ⟨j', rfl, hj⟩, hq1⟩ := g_sc hs
    obtain ⟨v, q, rfl, ha, hq⟩ := g_sc hq1
    cases (ha : v = .ref a)
    unfold e_lald
    dsimp only
    split
    · next o eo =>
      obtain ⟨p1, p2, p3, p4⟩ := hh.2.2.1 a o eo
      rw [p1]
      split
      · next hc =>
        rw [if_pos ⟨hc.1, g_at hj hc.2⟩]
        exact p_go hl ⟨⟨_, rfl, g_rdj hj p3⟩, hq⟩ hh
      · exact p_no _ _
    · exact p_no _ _
  · exact p_no _ _
theorem p_aald (hl : g_l s lv lv') (hs : g_s s st st') (hh : g_h s A h) : g_P s (c_aald pc lv st A) (e_aald pc lv' st' h) := by
  unfold c_aald
  split
  · next j a r =>
    obtain ⟨v, q, rfl, ⟨j', rfl, hj⟩, hq1⟩ := g_sc hs
    obtain ⟨v, q, rfl, ha, hq⟩ := g_sc hq1
    cases (ha : v = .ref a)
    unfold e_aald
    dsimp only
    split
    · next o eo =>
      obtain ⟨p1, p2, p3, p4⟩ := hh.2.2.1 a o eo
      rw [p1]
      split
      · next hc =>
        rw [if_pos ⟨hc.1, g_at hj hc.2.1⟩]
        refine p_go hl ⟨?_, hq⟩ hh
        rw [g_ix hj hc.2.2, p4]
        rfl
      · exact p_no _ _
    · exact p_no _ _
  · exact p_no _ _
theorem p_iast (hl : g_l s lv lv') (hs : g_s s st st') (hh : g_h s A h) : g_P s (c_iast pc lv st A) (e_iast pc lv' st' h) := by
  unfold c_iast
  split
  · next x j a r =>
    obtain ⟨v, q, rfl, ⟨x', rfl, hx⟩, hq1⟩ := g_sc hs
    obtain ⟨v, q, rfl, ⟨j', rfl, hj⟩, hq2⟩ := g_sc hq1
    obtain ⟨v, q, rfl, ha, hq⟩ := g_sc hq2
    cases (ha : v = .ref a)
    unfold e_iast
    dsimp only
    split
    · next o eo =>
      rw [(hh.2.2.1 a o eo).1]
      split
      · next hc =>
        rw [if_pos ⟨hc.1, hc.2.1, g_at hj hc.2.2.1⟩, g_ix hj hc.2.2.2]
        exact p_go hl hq (g_si hh eo (by omega) hx)
      · exact p_no _ _
    · exact p_no _ _
  · exact p_no _ _
theorem p_bast (hl : g_l s lv lv') (hs : g_s s st st') (hh : g_h s A h) : g_P s (c_bast pc lv st A) (e_bast pc lv' st' h) := by
  unfold c_bast
  split
  · next x j a r =>
    obtain ⟨v, q, rfl, ⟨x', rfl, hx⟩, hq1⟩ := g_sc hs
    obtain ⟨v, q, rfl, ⟨j', rfl, hj⟩, hq2⟩ := g_sc hq1
    obtain ⟨v, q, rfl, ha, hq⟩ := g_sc hq2
    cases (ha : v = .ref a)
    unfold e_bast
    dsimp only
    split
    · next o eo =>
      rw [(hh.2.2.1 a o eo).1]
      split
      · next hc =>
        rw [if_pos ⟨hc.1, hc.2.1, g_at hj hc.2.2.1⟩, g_ix hj hc.2.2.2]
        exact p_go hl hq (g_si hh eo (by omega) (g_f1 (f := fun x => x.toInt8.toInt32) hx))
      · split
        · next hc =>
          rw [if_neg (fun z => by have := hc.2.1; have := z.2.1; omega), if_pos ⟨hc.1, hc.2.1, g_at hj hc.2.2.1⟩, g_ix hj hc.2.2.2]
          exact p_go hl hq (g_si hh eo (by omega) (g_f1 (f := fun x => x &&& 1) hx))
        · exact p_no _ _
    · exact p_no _ _
  · exact p_no _ _
theorem p_last (hl : g_l s lv lv') (hs : g_s s st st') (hh : g_h s A h) : g_P s (c_last pc lv st A) (e_last pc lv' st' h) := by
  unfold c_last
  split
  · next x j a r =>
    obtain ⟨v, q, rfl, ⟨x', rfl, hx⟩, hq1⟩ := g_sc hs
    obtain ⟨v, q, rfl, ⟨j', rfl, hj⟩, hq2⟩ := g_sc hq1
    obtain ⟨v, q, rfl, ha, hq⟩ := g_sc hq2
    cases (ha : v = .ref a)
    unfold e_last
    dsimp only
    split
    · next o eo =>
      rw [(hh.2.2.1 a o eo).1]
      split
      · next hc =>
        rw [if_pos ⟨hc.1, hc.2.1, g_at hj hc.2.2.1⟩, g_ix hj hc.2.2.2]
        exact p_go hl hq (g_sl hh eo (by omega) hx)
      · exact p_no _ _
    · exact p_no _ _
  · exact p_no _ _
theorem p_aast (hl : g_l s lv lv') (hs : g_s s st st') (hh : g_h s A h) : g_P s (c_aast pc lv st A) (e_aast pc lv' st' h) := by
  unfold c_aast
  split
  · next x j a r =>
    obtain ⟨v, q, rfl, hx, hq1⟩ := g_sc hs
    cases (hx : v = .ref x)
    obtain ⟨v, q, rfl, ⟨j', rfl, hj⟩, hq2⟩ := g_sc hq1
    obtain ⟨v, q, rfl, ha, hq⟩ := g_sc hq2
    cases (ha : v = .ref a)
    unfold e_aast
    dsimp only
    split
    · next o w eo ew =>
      rw [(hh.2.2.1 a o eo).1, (hh.2.2.1 x w ew).1]
      split
      · next hc =>
        rw [if_pos ⟨hc.1, hc.2.1, g_at hj hc.2.2.1, hc.2.2.2.2.1, hc.2.2.2.2.2⟩, g_ix hj hc.2.2.2.1]
        exact p_go hl hq (g_sr hh eo (by omega))
      · exact p_no _ _
    · exact p_no _ _
  · exact p_no _ _
theorem p_alen (hl : g_l s lv lv') (hs : g_s s st st') (hh : g_h s A h) : g_P s (c_alen pc lv st A) (e_alen pc lv' st' h) := by
  unfold c_alen
  split
  · next a r =>
    obtain ⟨v, q, rfl, ha, hq⟩ := g_sc hs
    cases (ha : v = .ref a)
    unfold e_alen
    dsimp only
    split
    · next o eo =>
      rw [(hh.2.2.1 a o eo).1]
      split
      · exact p_go hl ⟨⟨_, rfl, g_iE _⟩, hq⟩ hh
      · exact p_no _ _
    · exact p_no _ _
  · exact p_no _ _
theorem p_nn {n : AI} {x : Int32} (hx : g_i n x) (h1 : n.1 = n.2) (h2 : 0 ≤ n.1) (h3 : n.1 ≤ 1000000) : ¬ x < 0 ∧ x.toNatClampNeg ≤ 1000000 ∧ x.toNatClampNeg = n.1.toNat := by
  have e := g_ix hx h1
  refine ⟨fun q => ?_, by omega, e⟩
  have := Int32.lt_iff_toInt_lt.mp q
  have : (0 : Int32).toInt = 0 := by decide
  obtain ⟨k1, k2⟩ := hx
  omega
theorem p_newa (t : ArrayType) (hl : g_l s lv lv') (hs : g_s s st st') (hh : g_h s A h) : g_P s (c_newa t pc lv st A) (e_newa t pc lv' st' h) := by
  unfold c_newa
  split
  · next n r =>
    obtain ⟨v, q, rfl, ⟨x', rfl, hx⟩, hq⟩ := g_sc hs
    unfold e_newa
    dsimp only
    split
    · next hc =>
      obtain ⟨k1, k2, k3⟩ := p_nn hx hc.2.1 hc.2.2.1 hc.2.2.2
      rw [if_pos ⟨hc.1, k1, k2⟩, k3]
      refine p_go hl ⟨?_, hq⟩ (g_new _ _ _ hh)
      show Value.ref (16 + h_n h) = Value.ref (16 + A.1.1)
      rw [hh.1]
    · exact p_no _ _
  · exact p_no _ _
theorem p_new (i idx : Nat) (hl : g_l s lv lv') (hs : g_s s st st') (hh : g_h s A h) : g_P s (c_new i idx pc lv st A) (e_new i idx pc lv' st' h) := by
  unfold c_new e_new
  generalize m_cc i idx = o
  match o with
  | none => exact p_no _ _
  | some c =>
    by_cases hc : c < 10
    · dsimp only
      rw [if_pos hc, if_pos hc]
      show g_P s (b_go (pc + 3) lv (b_r (16 + A.1.1) :: st) (b_new A (c + 1) (m_nf c) (m_nf c))) (m_go (pc + 3) lv' (.ref (16 + h_n h) :: st') (h_new h (c + 1) (m_nf c) (m_nf c)))
      refine p_go hl ⟨?_, hs⟩ (g_new _ _ _ hh)
      show Value.ref (16 + h_n h) = Value.ref (16 + A.1.1)
      rw [hh.1]
    · dsimp only
      rw [if_neg hc]
      exact p_no _ _
theorem p_anew (i idx : Nat) (hl : g_l s lv lv') (hs : g_s s st st') (hh : g_h s A h) : g_P s (c_anew i idx pc lv st A) (e_anew i idx pc lv' st' h) := by
  unfold c_anew
  split
  · next n r c ec =>
    obtain ⟨v, q, rfl, ⟨x', rfl, hx⟩, hq⟩ := g_sc hs
    unfold e_anew
    rw [ec]
    dsimp only
    split
    · next hc =>
      obtain ⟨k1, k2, k3⟩ := p_nn hx hc.2.1 hc.2.2.1 hc.2.2.2
      rw [if_pos ⟨hc.1, k1, k2⟩, k3]
      refine p_go hl ⟨?_, hq⟩ (g_new _ _ _ hh)
      show Value.ref (16 + h_n h) = Value.ref (16 + A.1.1)
      rw [hh.1]
    · exact p_no _ _
  · exact p_no _ _
theorem p_gets (i idx : Nat) (hl : g_l s lv lv') (hs : g_s s st st') (hh : g_h s A h) : g_P s (c_gets i idx pc lv st A) (e_gets i idx pc lv' st' h) := by
  unfold c_gets e_gets
  generalize m_sf i idx = o
  match o with
  | none => exact p_no _ _
  | some 0 => exact p_no _ _
  | some 1 =>
    show g_P s (b_go (pc + 3) lv (.inl (1, 1) :: st) A) (m_go (pc + 3) lv' (.int 1 :: st') h)
    exact p_go hl ⟨⟨_, rfl, by decide, by decide⟩, hs⟩ hh
  | some 2 =>
    show g_P s (b_go (pc + 3) lv (b_r 1 :: st) A) (m_go (pc + 3) lv' (.ref 1 :: st') h)
    exact p_go hl ⟨rfl, hs⟩ hh
  | some 3 =>
    show g_P s (b_go (pc + 3) lv (b_r 15 :: st) A) (m_go (pc + 3) lv' (.ref 15 :: st') h)
    exact p_go hl ⟨rfl, hs⟩ hh
  | some (n + 4) => exact p_no _ _
theorem p_ldc (w i idx : Nat) (hl : g_l s lv lv') (hs : g_s s st st') (hh : g_h s A h) : g_P s (c_ldc w i idx pc lv st A) (e_ldc w i idx pc lv' st' h) := by
  unfold c_ldc e_ldc
  generalize m_ic i idx = o
  generalize m_sc i idx = o2
  match o with
  | some x =>
    show g_P s (b_go (pc + w) lv (b_i x :: st) A) (m_go (pc + w) lv' (.int x :: st') h)
    exact p_go hl ⟨⟨_, rfl, g_iE _⟩, hs⟩ hh
  | none =>
    by_cases hw : w = 2
    · dsimp only
      rw [if_pos hw, if_pos hw]
      match o2 with
      | some a =>
        show g_P s (b_go (pc + w) lv (b_r a :: st) A) (m_go (pc + w) lv' (.ref a :: st') h)
        exact p_go hl ⟨rfl, hs⟩ hh
      | none => exact p_no _ _
    · dsimp only
      rw [if_neg hw]
      exact p_no _ _
theorem p_sw (d lo hi : Int) (offs : Array Int) (hl : g_l s lv lv') (hs : g_s s st st') (hh : g_h s A h) : g_P s (c_sw d lo hi offs pc lv st A) (e_sw d lo hi offs pc lv' st' h) := by
  unfold c_sw
  split
  · next x r =>
    obtain ⟨v, q, rfl, ⟨x', rfl, hx⟩, hq⟩ := g_sc hs
    obtain ⟨k1, k2⟩ := hx
    unfold e_sw
    dsimp only
    by_cases hc : x.2 < lo ∨ hi < x.1
    · rw [if_pos hc, if_pos (by omega)]
      exact p_tg hl hq hh
    · rw [if_neg hc]
      by_cases hc2 : x.1 = x.2 ∧ lo ≤ x.1 ∧ x.1 ≤ hi
      · rw [if_pos hc2, if_neg (by omega), show x'.toInt = x.1 by omega]
        generalize offs[(x.1 - lo).toNat]? = o
        match o with
        | some o =>
          show g_P s (b_tg pc o lv r A) (m_tg pc o lv' q h)
          exact p_tg hl hq hh
        | none => exact p_no _ _
      · rw [if_neg hc2]
        exact p_no _ _
  · exact p_no _ _
end
end
section
-- copies, calls, every step, every run
theorem g_cpi {s : AI} {A : AH} {h : MH} {a0 a1 : Nat} {o0 o1 : AC} (sp dp n : Nat) (hh : g_h s A h) (e0 : b_cell A a0 = some o0) (e1 : b_cell A a1 = some o1) (ha : a1 ≠ 14) : g_h s (b_set A a1 (o1.1, (b_jn (b_all o0.2.1) (b_all o1.2.1), []), o1.2.2)) (h_cpi h a0 a1 sp dp n) := by
  obtain ⟨p1, p2, p3, p4⟩ := hh.2.2.1 a1 o1 e1
  obtain ⟨r1, r2, r3, r4⟩ := hh.2.2.1 a0 o0 e0
  refine g_set hh ha rfl (fun b => rfl) (fun b hb => ⟨m_uN _ _ _ _ hb, rfl, rfl⟩) ⟨p1, fun j => ?_, p3, p4⟩
  show g_i (b_jn (b_all o0.2.1) (b_all o1.2.1)) (m_u (h_i h) a1 (fun j => if dp ≤ j ∧ j < dp + n then h_i h a0 (sp + (j - dp)) else h_i h a1 j) a1 j)
  rw [m_uE]
  by_cases hc : dp ≤ j ∧ j < dp + n
  · rw [if_pos hc]
    exact g_jn1 (g_all _ _ (r2 _))
  · rw [if_neg hc]
    exact g_jn2 (g_all _ _ (p2 _))
theorem g_cpl {s : AI} {A : AH} {h : MH} {a0 a1 : Nat} {o0 o1 : AC} (sp dp n : Nat) (hh : g_h s A h) (e0 : b_cell A a0 = some o0) (e1 : b_cell A a1 = some o1) (ha : a1 ≠ 14) : g_h s (b_set A a1 (o1.1, o1.2.1, (b_jn (b_all o0.2.2.1) (b_all o1.2.2.1), []), o1.2.2.2)) (h_cpl h a0 a1 sp dp n) := by
  obtain ⟨p1, p2, p3, p4⟩ := hh.2.2.1 a1 o1 e1
  obtain ⟨r1, r2, r3, r4⟩ := hh.2.2.1 a0 o0 e0
  refine g_set hh ha rfl (fun b => rfl) (fun b hb => ⟨rfl, m_uN _ _ _ _ hb, rfl⟩) ⟨p1, p2, fun j => ?_, p4⟩
  show g_j (b_jn (b_all o0.2.2.1) (b_all o1.2.2.1)) (m_u (h_l h) a1 (fun j => if dp ≤ j ∧ j < dp + n then h_l h a0 (sp + (j - dp)) else h_l h a1 j) a1 j)
  rw [m_uE]
  by_cases hc : dp ≤ j ∧ j < dp + n
  · rw [if_pos hc]
    exact g_jn1 (g_all _ _ (r3 _))
  · rw [if_neg hc]
    exact g_jn2 (g_all _ _ (p3 _))
section
variable {s : AI} {pc : Nat} {lv : AL} {st : List AV} {A : AH} {lv' : List (Nat × Value)} {st' : List Value} {h : MH}
theorem p_cp (i : Nat) (hl : g_l s lv lv') (hs : g_s s st st') (hh : g_h s A h) : g_P s (c_cp i pc lv st A) (e_cp i pc lv' st' h) := by
  unfold c_cp
  split
  · next n dp a1 sp a0 r =>
    obtain ⟨v, q, rfl, ⟨n', rfl, hn⟩, hq1⟩ := g_sc hs
    obtain ⟨v, q, rfl, ⟨dp', rfl, hdp⟩, hq2⟩ := g_sc hq1
    obtain ⟨v, q, rfl, ha1, hq3⟩ := g_sc hq2
    cases (ha1 : v = .ref a1)
    obtain ⟨v, q, rfl, ⟨sp', rfl, hsp⟩, hq4⟩ := g_sc hq3
    obtain ⟨v, q, rfl, ha0, hq⟩ := g_sc hq4
    cases (ha0 : v = .ref a0)
    split
    · next o0 o1 e0 e1 =>
      have k0 := (hh.2.2.1 a0 o0 e0).1
      have k1 := (hh.2.2.1 a1 o1 e1).1
      unfold e_cp
      dsimp only
      rw [k0, k1, g_ct hq]
      split
      · next hc =>
        obtain ⟨c1, c2, c3, c4, c5, c6, c7, c8, c9, c10⟩ := hc
        have hneg : ∀ {p : AI} {x : Int32}, g_i p x → 0 ≤ p.1 → ¬ x < 0 := fun {p x} hx h0 q => by
          have := Int32.lt_iff_toInt_lt.mp q
          have : (0 : Int32).toInt = 0 := by decide
          obtain ⟨z1, z2⟩ := hx
          omega
        have hle : ∀ {p : AI} {x : Int32}, g_i p x → 0 ≤ p.1 → (x.toNatClampNeg : Int) ≤ p.2 := fun {p x} hx h0 => by
          obtain ⟨z1, z2⟩ := hx
          show (x.toInt.toNat : Int) ≤ _
          omega
        have l1 := hle hn c5
        have l2 := hle hdp c4
        have l3 := hle hsp c3
        have hcc : 16 ≤ a0 ∧ 16 ≤ a1 ∧ ¬ sp' < 0 ∧ ¬ dp' < 0 ∧ ¬ n' < 0 ∧ sp'.toNatClampNeg + n'.toNatClampNeg ≤ o0.1.2 ∧ dp'.toNatClampNeg + n'.toNatClampNeg ≤ o1.1.2 ∧ 1 ≤ m_fr i ∧ b_ct r + 18 ≤ m_lo i ∧ b_ct r ≤ 8 := ⟨c1, c2, hneg hsp c3, hneg hdp c4, hneg hn c5, by omega, by omega, c8, c9, c10⟩
        rw [if_pos hcc]
        by_cases d1 : (o0.1.1 = 20 ∧ o1.1.1 = 20) ∨ (o0.1.1 = 21 ∧ o1.1.1 = 21)
        · rw [if_pos d1, if_pos d1]
          exact p_go hl hq (g_cpi _ _ _ hh e0 e1 (by omega))
        · rw [if_neg d1, if_neg d1]
          by_cases d2 : o0.1.1 = 25 ∧ o1.1.1 = 25
          · rw [if_pos d2, if_pos d2]
            exact p_go hl hq (g_cpl _ _ _ hh e0 e1 (by omega))
          · rw [if_neg d2]
            exact p_no _ _
      · exact p_no _ _
    · exact p_no _ _
  · exact p_no _ _
def k_ini (kd i pc : Nat) (lv : AL) (st : List AV) (h : AH) : Option AA := match st with
  | .inr (.inr (.inr a)) :: r => if kd = 2 ∧ 16 ≤ a ∧ 1 ≤ m_fr i ∧ b_ct r + 12 ≤ m_lo i ∧ b_ct r ≤ 8 then b_go (pc + 3) lv r h else none
  | _ => none
def f_ini (kd i pc : Nat) (lv : List (Nat × Value)) (st : List Value) (h : MH) : Option MA := match st with
  | .ref a :: r => if kd = 2 ∧ 16 ≤ a ∧ 1 ≤ m_fr i ∧ m_cat r + 12 ≤ m_lo i ∧ m_cat r ≤ 8 then m_go (pc + 3) lv r h else none
  | _ => none
theorem p_ini (kd i : Nat) (hl : g_l s lv lv') (hs : g_s s st st') (hh : g_h s A h) : g_P s (k_ini kd i pc lv st A) (f_ini kd i pc lv' st' h) := by
  unfold k_ini
  split
  · next a r =>
    obtain ⟨v, q, rfl, ha, hq⟩ := g_sc hs
    cases (ha : v = .ref a)
    unfold f_ini
    dsimp only
    rw [g_ct hq]
    split
    · exact p_go hl hq hh
    · exact p_no _ _
  · exact p_no _ _
def k_mi (j kd nest i pc : Nat) (lv : AL) (st : List AV) (h : AH) : Option AA := match st with
  | .inl y :: .inl x :: r => if kd = 0 ∧ nest = 0 ∧ 1 ≤ m_fr i ∧ b_ct r + 13 ≤ m_lo i then b_go (pc + 3) lv (.inl (b_f2 (fun x y => if j = m_jmin then (if y < x then y else x) else (if x < y then y else x)) x y) :: r) h else none
  | _ => none
def f_mi (j kd nest i pc : Nat) (lv : List (Nat × Value)) (st : List Value) (h : MH) : Option MA := match st with
  | .int y :: .int x :: r => if kd = 0 ∧ nest = 0 ∧ 1 ≤ m_fr i ∧ m_cat r + 13 ≤ m_lo i then m_go (pc + 3) lv (.int (if j = m_jmin then (if y < x then y else x) else (if x < y then y else x)) :: r) h else none
  | _ => none
theorem p_mi (j kd nest i : Nat) (hl : g_l s lv lv') (hs : g_s s st st') (hh : g_h s A h) : g_P s (k_mi j kd nest i pc lv st A) (f_mi j kd nest i pc lv' st' h) := by
  unfold k_mi
  split
  · next y x r =>
    obtain ⟨v, q, rfl, ⟨y', rfl, hy⟩, hq1⟩ := g_sc hs
    obtain ⟨v, q, rfl, ⟨x', rfl, hx⟩, hq⟩ := g_sc hq1
    unfold f_mi
    dsimp only
    rw [g_ct hq]
    split
    · exact p_go hl ⟨⟨_, rfl, g_f2 (f := fun x y => if j = m_jmin then (if y < x then y else x) else (if x < y then y else x)) hx hy⟩, hq⟩ hh
    · exact p_no _ _
  · exact p_no _ _
def k_ml (j kd nest i pc : Nat) (lv : AL) (st : List AV) (h : AH) : Option AA := match st with
  | .inr (.inr (.inl y)) :: .inr (.inr (.inl x)) :: r => if kd = 0 ∧ nest = 0 ∧ 1 ≤ m_fr i ∧ b_ct r + 15 ≤ m_lo i then b_go (pc + 3) lv (.inr (.inr (.inl (b_g2 (fun x y => if j = m_jminl then (if y < x then y else x) else (if y < x then x else y)) x y))) :: r) h else none
  | _ => none
def f_ml (j kd nest i pc : Nat) (lv : List (Nat × Value)) (st : List Value) (h : MH) : Option MA := match st with
  | .long y :: .long x :: r => if kd = 0 ∧ nest = 0 ∧ 1 ≤ m_fr i ∧ m_cat r + 15 ≤ m_lo i then m_go (pc + 3) lv (.long (if j = m_jminl then (if y < x then y else x) else (if y < x then x else y)) :: r) h else none
  | _ => none
theorem p_ml (j kd nest i : Nat) (hl : g_l s lv lv') (hs : g_s s st st') (hh : g_h s A h) : g_P s (k_ml j kd nest i pc lv st A) (f_ml j kd nest i pc lv' st' h) := by
  unfold k_ml
  split
  · next y x r =>
    obtain ⟨v, q, rfl, ⟨y', rfl, hy⟩, hq1⟩ := g_sc hs
    obtain ⟨v, q, rfl, ⟨x', rfl, hx⟩, hq⟩ := g_sc hq1
    unfold f_ml
    dsimp only
    rw [g_ct hq]
    split
    · exact p_go hl ⟨⟨_, rfl, g_g2 (f := fun x y => if j = m_jminl then (if y < x then y else x) else (if y < x then x else y)) hx hy⟩, hq⟩ hh
    · exact p_no _ _
  · exact p_no _ _
def k_vc (j pc : Nat) (st D : List AV) (h : AH) : Option AA := match D with
  | .inr (.inr (.inr a)) :: r => (match b_cell h a with
    | some o => if m_na j + 1 ≤ st.length ∧ b_ct r ≤ 8 ∧ (if (m_m j).2.1.cls = "java/lang/String" then o.1.1 = 40 else m_cnm (o.1.1 - 1) = (m_m j).2.1.cls ∧ 16 ≤ a ∧ 0 < o.1.1 ∧ o.1.1 < 11) then some (.inr (.inr (j, b_r a :: (st.take (m_na j)).reverse, r, pc + 3))) else none
    | none => none)
  | _ => none
def f_vc (j pc : Nat) (st D : List Value) (h : MH) : Option MA := match D with
  | .ref a :: r => if m_na j + 1 ≤ st.length ∧ m_cat r ≤ 8 ∧ (if (m_m j).2.1.cls = "java/lang/String" then (h_k h a).1 = 40 else m_cnm ((h_k h a).1 - 1) = (m_m j).2.1.cls ∧ 16 ≤ a ∧ 0 < (h_k h a).1 ∧ (h_k h a).1 < 11) then some (.inr (.inr (j, .ref a :: (st.take (m_na j)).reverse, r, pc + 3))) else none
  | _ => none
theorem p_vc (j : Nat) {D : List AV} {D' : List Value} (hs : g_s s st st') (hd : g_s s D D') (hh : g_h s A h) : g_P s (k_vc j pc st D A) (f_vc j pc st' D' h) := by
  unfold k_vc
  split
  · next a r =>
    obtain ⟨v, q, rfl, ha, hq⟩ := g_sc hd
    cases (ha : v = .ref a)
    split
    · next o eo =>
      unfold f_vc
      dsimp only
      rw [(hh.2.2.1 a o eo).1, g_ct hq, g_len hs]
      by_cases hc : m_na j + 1 ≤ st.length ∧ b_ct r ≤ 8 ∧ (if (m_m j).2.1.cls = "java/lang/String" then o.1.1 = 40 else m_cnm (o.1.1 - 1) = (m_m j).2.1.cls ∧ 16 ≤ a ∧ 0 < o.1.1 ∧ o.1.1 < 11)
      · rw [if_pos hc, if_pos hc]
        intro r9 e9
        cases e9
        exact ⟨_, rfl, rfl, ⟨rfl, g_rv (g_tk _ hs)⟩, hq, rfl⟩
      · rw [if_neg hc]
        exact p_no _ _
    · exact p_no _ _
  · exact p_no _ _
theorem p_call (kd i idx : Nat) (hl : g_l s lv lv') (hs : g_s s st st') (hh : g_h s A h) : g_P s (c_call kd i idx pc lv st A) (e_call kd i idx pc lv' st' h) := by
  unfold c_call e_call
  generalize m_ml i idx = o
  match o with
  | none => exact p_no _ _
  | some (nest, j) =>
    dsimp only
    by_cases h9 : j = 900
    · rw [if_pos h9, if_pos h9]
      exact p_ini kd i hl hs hh
    · rw [if_neg h9, if_neg h9]
      by_cases h1 : j = 901
      · rw [if_pos h1, if_pos h1]
        by_cases hk : kd = 0
        · rw [if_pos hk, if_pos hk]
          exact p_cp i hl hs hh
        · rw [if_neg hk]
          exact p_no _ _
      · rw [if_neg h1, if_neg h1]
        by_cases h2 : j = m_jmin ∨ j = m_jmax
        · rw [if_pos h2, if_pos h2]
          exact p_mi j kd nest i hl hs hh
        · rw [if_neg h2, if_neg h2]
          by_cases h3 : j = m_jminl ∨ j = m_jmaxl
          · rw [if_pos h3, if_pos h3]
            exact p_ml j kd nest i hl hs hh
          · rw [if_neg h3, if_neg h3]
            by_cases h4 : 0 < j ∧ j < 292 ∧ m_kind j = kd ∧ m_fr j + 1 ≤ m_fr i ∧ 8 + (m_lc j + 11) + m_lo j ≤ m_lo i
            · rw [if_pos h4, if_pos h4]
              by_cases hk : kd = 0
              · rw [if_pos hk, if_pos hk, g_len hs, g_ct (g_dr (m_na j) hs)]
                by_cases h5 : m_na j ≤ st.length ∧ b_ct (st.drop (m_na j)) ≤ 8
                · rw [if_pos h5, if_pos h5]
                  intro r9 e9
                  cases e9
                  exact ⟨_, rfl, rfl, g_rv (g_tk _ hs), g_dr _ hs, rfl⟩
                · rw [if_neg h5]
                  exact p_no _ _
              · rw [if_neg hk, if_neg hk]
                exact p_vc j hs (g_dr (m_na j) hs) hh
            · rw [if_neg h4]
              exact p_no _ _
theorem p_pu {a : AV} {v : Value} (hl : g_l s lv lv') (hs : g_s s st st') (hh : g_h s A h) (hv : g_v s a v) : g_P s (b_go pc lv (a :: st) A) (m_go pc lv' (v :: st') h) := p_go hl ⟨hv, hs⟩ hh
theorem g_bi (x : Int32) : g_v s (b_i x) (.int x) := ⟨_, rfl, g_iE _⟩
theorem g_bl (x : Int64) : g_v s (b_l x) (.long x) := ⟨_, rfl, g_jE _⟩
theorem g_br (a : Nat) : g_v s (b_r a) (.ref a) := rfl
theorem p_ldl (i idx : Nat) (hl : g_l s lv lv') (hs : g_s s st st') (hh : g_h s A h) : g_P s (c_ex s i pc (.ldc2_w idx) lv st A) (m_ex i pc (.ldc2_w idx) lv' st' h) := by
  show g_P s (match m_jc i idx with
      | some x => b_go (pc + 3) lv (b_l x :: st) A
      | none => none) (match m_jc i idx with
      | some x => m_go (pc + 3) lv' (.long x :: st') h
      | none => none)
  generalize m_jc i idx = o
  match o with
  | none => exact p_no _ _
  | some x => exact p_pu hl hs hh (g_bl x)
theorem p_lcmp (i : Nat) (hl : g_l s lv lv') (hs : g_s s st st') (hh : g_h s A h) : g_P s (c_ex s i pc .lcmp lv st A) (m_ex i pc .lcmp lv' st' h) := by
  unfold c_ex
  dsimp only
  split
  · next y x r =>
    obtain ⟨v, q, rfl, ⟨y', rfl, hy⟩, hq1⟩ := g_sc hs
    obtain ⟨v, q, rfl, ⟨x', rfl, hx⟩, hq⟩ := g_sc hq1
    exact p_pu hl hq hh ⟨_, rfl, g_lc hx hy⟩
  · exact p_no _ _
theorem p_dup (i : Nat) (hl : g_l s lv lv') (hs : g_s s st st') (hh : g_h s A h) : g_P s (c_ex s i pc .dup lv st A) (m_ex i pc .dup lv' st' h) := by
  unfold c_ex
  dsimp only
  split
  · next a r =>
    obtain ⟨v, q, rfl, hv, hq⟩ := g_sc hs
    show g_P s _ (if v.category = 1 then m_go (pc + 1) lv' (v :: v :: q) h else none)
    rw [g_catE hv]
    split
    · exact p_go hl ⟨hv, hv, hq⟩ hh
    · exact p_no _ _
  · exact p_no _ _
theorem p_pop (i : Nat) (hl : g_l s lv lv') (hs : g_s s st st') (hh : g_h s A h) : g_P s (c_ex s i pc .pop lv st A) (m_ex i pc .pop lv' st' h) := by
  unfold c_ex
  dsimp only
  split
  · next a r =>
    obtain ⟨v, q, rfl, hv, hq⟩ := g_sc hs
    show g_P s _ (if v.category = 1 then m_go (pc + 1) lv' q h else none)
    rw [g_catE hv]
    split
    · exact p_go hl hq hh
    · exact p_no _ _
  · exact p_no _ _
theorem p_dup2 (i : Nat) (hl : g_l s lv lv') (hs : g_s s st st') (hh : g_h s A h) : g_P s (c_ex s i pc .dup2 lv st A) (m_ex i pc .dup2 lv' st' h) := by
  unfold c_ex
  dsimp only
  split
  · next a b r =>
    obtain ⟨v, q, rfl, hv, hq1⟩ := g_sc hs
    obtain ⟨w, q, rfl, hw, hq⟩ := g_sc hq1
    show g_P s _ (if v.category = 1 ∧ w.category = 1 then m_go (pc + 1) lv' (v :: w :: v :: w :: q) h else none)
    rw [g_catE hv, g_catE hw]
    split
    · exact p_go hl ⟨hv, hw, hv, hw, hq⟩ hh
    · exact p_no _ _
  · exact p_no _ _
theorem p_if (i : Nat) (c : ClassFile.Cond) (off : Int) (hl : g_l s lv lv') (hs : g_s s st st') (hh : g_h s A h) : g_P s (c_ex s i pc (.ifCond c off) lv st A) (m_ex i pc (.ifCond c off) lv' st' h) := by
  unfold c_ex
  dsimp only
  split
  · next x r =>
    obtain ⟨v, q, rfl, ⟨x', rfl, hx⟩, hq⟩ := g_sc hs
    exact p_br (fun r e => g_cmp hx (show g_i (0, 0) (0 : Int32) from ⟨by decide, by decide⟩) e) hl hq hh
  · exact p_no _ _
theorem p_ic (i : Nat) (c : ClassFile.Cond) (off : Int) (hl : g_l s lv lv') (hs : g_s s st st') (hh : g_h s A h) : g_P s (c_ex s i pc (.if_icmp c off) lv st A) (m_ex i pc (.if_icmp c off) lv' st' h) := by
  unfold c_ex
  dsimp only
  split
  · next y x r =>
    obtain ⟨v, q, rfl, ⟨y', rfl, hy⟩, hq1⟩ := g_sc hs
    obtain ⟨v, q, rfl, ⟨x', rfl, hx⟩, hq⟩ := g_sc hq1
    exact p_br (fun r e => g_cmp hx hy e) hl hq hh
  · exact p_no _ _
theorem p_nul (i : Nat) (off : Int) (hl : g_l s lv lv') (hs : g_s s st st') (hh : g_h s A h) : g_P s (c_ex s i pc (.ifnull off) lv st A) (m_ex i pc (.ifnull off) lv' st' h) := by
  unfold c_ex
  dsimp only
  split
  · next a r =>
    obtain ⟨v, q, rfl, ha, hq⟩ := g_sc hs
    cases (ha : v = .ref a)
    show g_P s _ (if a = 0 then m_tg pc off lv' q h else if 16 ≤ a then m_go (pc + 3) lv' q h else none)
    by_cases h0 : a = 0
    · rw [if_pos h0, if_pos h0]
      exact p_tg hl hq hh
    · rw [if_neg h0, if_neg h0]
      by_cases h1 : 16 ≤ a
      · rw [if_pos h1, if_pos h1]
        exact p_go hl hq hh
      · rw [if_neg h1]
        exact p_no _ _
  · exact p_no _ _
theorem p_nnl (i : Nat) (off : Int) (hl : g_l s lv lv') (hs : g_s s st st') (hh : g_h s A h) : g_P s (c_ex s i pc (.ifnonnull off) lv st A) (m_ex i pc (.ifnonnull off) lv' st' h) := by
  unfold c_ex
  dsimp only
  split
  · next a r =>
    obtain ⟨v, q, rfl, ha, hq⟩ := g_sc hs
    cases (ha : v = .ref a)
    show g_P s _ (if a = 0 then m_go (pc + 3) lv' q h else if 16 ≤ a then m_tg pc off lv' q h else none)
    by_cases h0 : a = 0
    · rw [if_pos h0, if_pos h0]
      exact p_go hl hq hh
    · rw [if_neg h0, if_neg h0]
      by_cases h1 : 16 ≤ a
      · rw [if_pos h1, if_pos h1]
        exact p_tg hl hq hh
      · rw [if_neg h1]
        exact p_no _ _
  · exact p_no _ _
theorem g_rok {t : Option FieldType} {p : AI} {x : Int32} (hx : g_i p x) (e : b_rok t p = true) : m_rok t x = true := by
  unfold b_rok at e
  split at e
  · rfl
  · rw [Bool.and_eq_true] at e
    have e1 := of_decide_eq_true e.1
    rw [g_iC hx e1]
    exact e.2
theorem p_ir (i : Nat) (hl : g_l s lv lv') (hs : g_s s st st') (hh : g_h s A h) : g_P s (c_ex s i pc .ireturn lv st A) (m_ex i pc .ireturn lv' st' h) := by
  unfold c_ex
  dsimp only
  split
  · next x =>
    obtain ⟨v, q, rfl, ⟨x', rfl, hx⟩, hq⟩ := g_sc hs
    rw [g_sn hq]
    show g_P s _ (if m_rok (m_rt i) x' = true then some (.inr (.inl (some (.int x'), h))) else none)
    by_cases hc : b_rok (m_rt i) x = true
    · rw [if_pos hc, if_pos (g_rok hx hc)]
      intro r e
      cases e
      exact ⟨_, rfl, ⟨_, rfl, hx⟩, hh⟩
    · rw [if_neg hc]
      exact p_no _ _
  · exact p_no _ _
theorem p_lr (i : Nat) (hl : g_l s lv lv') (hs : g_s s st st') (hh : g_h s A h) : g_P s (c_ex s i pc .lreturn lv st A) (m_ex i pc .lreturn lv' st' h) := by
  unfold c_ex
  dsimp only
  split
  · next x =>
    obtain ⟨v, q, rfl, ⟨x', rfl, hx⟩, hq⟩ := g_sc hs
    rw [g_sn hq]
    show g_P s _ (if m_rt i = some .long then some (.inr (.inl (some (.long x'), h))) else none)
    by_cases hc : m_rt i = some .long
    · rw [if_pos hc, if_pos hc]
      intro r e
      cases e
      exact ⟨_, rfl, ⟨_, rfl, hx⟩, hh⟩
    · rw [if_neg hc]
      exact p_no _ _
  · exact p_no _ _
theorem p_ar (i : Nat) (hl : g_l s lv lv') (hs : g_s s st st') (hh : g_h s A h) : g_P s (c_ex s i pc .areturn lv st A) (m_ex i pc .areturn lv' st' h) := by
  unfold c_ex
  dsimp only
  split
  · next a =>
    obtain ⟨v, q, rfl, ha, hq⟩ := g_sc hs
    cases (ha : v = .ref a)
    rw [g_sn hq]
    show g_P s _ (if m_rr (m_rt i) = true then some (.inr (.inl (some (.ref a), h))) else none)
    by_cases hc : m_rr (m_rt i) = true
    · rw [if_pos hc, if_pos hc]
      intro r e
      cases e
      exact ⟨_, rfl, rfl, hh⟩
    · rw [if_neg hc]
      exact p_no _ _
  · exact p_no _ _
theorem p_vr (i : Nat) (hl : g_l s lv lv') (hs : g_s s st st') (hh : g_h s A h) : g_P s (c_ex s i pc .return_ lv st A) (m_ex i pc .return_ lv' st' h) := by
  unfold c_ex
  dsimp only
  split
  · rw [g_sn hs]
    show g_P s _ (if m_rt i = none then some (.inr (.inl (none, h))) else none)
    by_cases hc : m_rt i = none
    · rw [if_pos hc, if_pos hc]
      intro r e
      cases e
      exact ⟨_, rfl, trivial, hh⟩
    · rw [if_neg hc]
      exact p_no _ _
  · exact p_no _ _
theorem p_ex (i : Nat) (ins : Instr) (hl : g_l s lv lv') (hs : g_s s st st') (hh : g_h s A h) : g_P s (c_ex s i pc ins lv st A) (m_ex i pc ins lv' st' h) := by
  cases ins with
  | iconst n => exact p_pu hl hs hh (g_bi _)
  | bipush n => exact p_pu hl hs hh (g_bi _)
  | sipush n => exact p_pu hl hs hh (g_bi _)
  | lconst n => exact p_pu hl hs hh (g_bl _)
  | aconst_null => exact p_pu hl hs hh (g_br _)
  | ldc idx => exact p_ldc 2 i idx hl hs hh
  | ldc_w idx => exact p_ldc 3 i idx hl hs hh
  | ldc2_w idx => exact p_ldl i idx hl hs hh
  | iload_n k => exact p_ild k hl hs hh
  | iload k => exact p_ild k hl hs hh
  | lload_n k => exact p_lld k hl hs hh
  | lload k => exact p_lld k hl hs hh
  | aload_n k => exact p_ald k hl hs hh
  | aload k => exact p_ald k hl hs hh
  | istore_n k => exact p_ist _ k hl hs hh
  | istore k => exact p_ist _ k hl hs hh
  | lstore_n k => exact p_lst _ k hl hs hh
  | lstore k => exact p_lst _ k hl hs hh
  | astore_n k => exact p_ast _ k hl hs hh
  | astore k => exact p_ast _ k hl hs hh
  | iinc k z => exact p_inc _ k z hl hs hh
  | iadd => exact p_ii _ hl hs hh
  | isub => exact p_ii _ hl hs hh
  | imul => exact p_ii _ hl hs hh
  | iand => exact p_and hl hs hh
  | ior => exact p_ii _ hl hs hh
  | ixor => exact p_ii _ hl hs hh
  | idiv => exact p_dv _ hl hs hh
  | irem => exact p_dv _ hl hs hh
  | ineg => exact p_i1 _ hl hs hh
  | ishl => exact p_ii _ hl hs hh
  | ishr => exact p_ii _ hl hs hh
  | iushr => exact p_ii _ hl hs hh
  | ladd => exact p_ll _ hl hs hh
  | lsub => exact p_ll _ hl hs hh
  | land => exact p_ll _ hl hs hh
  | lor => exact p_ll _ hl hs hh
  | lxor => exact p_ll _ hl hs hh
  | lneg => exact p_l1 _ hl hs hh
  | lshl => exact p_li _ hl hs hh
  | lshr => exact p_li _ hl hs hh
  | lushr => exact p_li _ hl hs hh
  | lcmp => exact p_lcmp i hl hs hh
  | i2l => exact p_il _ hl hs hh
  | l2i => exact p_l2i _ hl hs hh
  | i2b => exact p_i1 _ hl hs hh
  | i2c => exact p_i1 _ hl hs hh
  | dup => exact p_dup i hl hs hh
  | pop => exact p_pop i hl hs hh
  | dup2 => exact p_dup2 i hl hs hh
  | goto off => exact p_tg hl hs hh
  | ifCond c off => exact p_if i c off hl hs hh
  | if_icmp c off => exact p_ic i c off hl hs hh
  | ifnull off => exact p_nul i off hl hs hh
  | ifnonnull off => exact p_nnl i off hl hs hh
  | tableswitch d lo hi offs => exact p_sw d lo hi offs hl hs hh
  | getfield idx => exact p_get i idx hl hs hh
  | putfield idx => exact p_put i idx hl hs hh
  | getstatic idx => exact p_gets i idx hl hs hh
  | iaload => exact p_iald 20 20 hl hs hh
  | baload => exact p_iald 21 22 hl hs hh
  | laload => exact p_lald hl hs hh
  | aaload => exact p_aald hl hs hh
  | iastore => exact p_iast hl hs hh
  | bastore => exact p_bast hl hs hh
  | lastore => exact p_last hl hs hh
  | aastore => exact p_aast hl hs hh
  | arraylength => exact p_alen hl hs hh
  | newarray t => exact p_newa t hl hs hh
  | new idx => exact p_new i idx hl hs hh
  | anewarray idx => exact p_anew i idx hl hs hh
  | invokestatic idx => exact p_call 0 i idx hl hs hh
  | invokevirtual idx => exact p_call 1 i idx hl hs hh
  | invokespecial idx => exact p_call 2 i idx hl hs hh
  | ireturn => exact p_ir i hl hs hh
  | lreturn => exact p_lr i hl hs hh
  | areturn => exact p_ar i hl hs hh
  | return_ => exact p_vr i hl hs hh
  | _ => exact p_no _ _
end
theorem b_ffE (l : List m_I) (pc : Nat) : b_ff l pc = l.find? (fun e => e.1 == pc) := by
  induction l with
  | nil => rfl
  | cons e r ih =>
    rw [List.find?_cons, ← ih]
    show Bool.rec (motive := fun _ => Option m_I) (b_ff r pc) (some e) (Nat.beq e.1 pc) = _
    by_cases h : e.1 = pc
    · rw [show Nat.beq e.1 pc = true from by rw [h]; exact Nat.beq_refl pc, show (e.1 == pc) = true from beq_iff_eq.mpr h]
    · rw [show (e.1 == pc) = false from beq_eq_false_iff_ne.mpr h]
      cases hb : Nat.beq e.1 pc with
      | true => exact absurd (Nat.eq_of_beq_eq_true hb) h
      | false => rfl
theorem p_st {s : AI} {lv : AL} {st : List AV} {A : AH} {lv' : List (Nat × Value)} {st' : List Value} {h : MH} (i pc : Nat) (hl : g_l s lv lv') (hs : g_s s st st') (hh : g_h s A h) : g_P s (c_st s i pc lv st A) (m_st i pc lv' st' h) := by
  unfold c_st m_st m_at m_lk
  rw [b_ffE]
  cases hf : (m_m i).1.find? (fun e => e.1 == pc) with
  | none => exact p_no _ _
  | some e =>
    have h1 : e.1 = pc := by
      have := List.find?_some hf
      exact beq_iff_eq.mp this
    dsimp only [Option.map]
    by_cases hc : m_ln e.2.1 = e.2.2 ∨ m_ln e.2.1 = 0
    · rw [if_pos hc, if_pos hc, h1]
      exact p_ex i e.2.1 hl hs hh
    · rw [if_neg hc]
      exact p_no _ _
theorem c_sim (s : AI) : ∀ (n i pc : Nat) (lv : AL) (st : List AV) (A : AH) (v : Option AV) (A2 : AH), c_rn s n i pc lv st A = some (v, A2) → ∀ (lv' : List (Nat × Value)) (st' : List Value) (h : MH), g_l s lv lv' → g_s s st st' → g_h s A h → ∃ v' h', m_rn n i pc lv' st' h = some (v', h') ∧ g_o s v v' ∧ g_h s A2 h'
  | 0, _, _, _, _, _, _, _, e => by cases e
  | n + 1, i, pc, lv, st, A, v, A2, e => fun lv' st' h hl hs hh => by
    have P := p_st i pc hl hs hh
    rw [c_rn] at e
    rw [m_rn]
    cases hR : c_st s i pc lv st A with
    | none => rw [hR] at e; cases e
    | some R =>
      obtain ⟨R', e2, g⟩ := P R hR
      rw [hR] at e
      rw [e2]
      match R, R', g with
      | .inl (pc1, lv1, st1, A1), .inl (pc1', lv1', st1', h1), g =>
        obtain ⟨g1, g2, g3, g4⟩ := g
        rw [g1]
        exact c_sim s n i pc1 lv1 st1 A1 v A2 e lv1' st1' h1 g2 g3 g4
      | .inr (.inl (v1, A1)), .inr (.inl (v1', h1)), g =>
        cases e
        exact ⟨_, _, rfl, g.1, g.2⟩
      | .inr (.inr (j, as, r, pc1)), .inr (.inr (j', as', r', pc1')), g =>
        obtain ⟨g1, g2, g3, g4⟩ := g
        rw [g1, g4]
        dsimp only at e ⊢
        rw [g_ct g2]
        by_cases hc : b_ct as ≤ m_lc j
        · rw [if_pos hc] at e ⊢
          cases hc1 : c_rn s n j 0 (b_args 0 as) [] A with
          | none => rw [hc1] at e; cases e
          | some q =>
            obtain ⟨v1, A1⟩ := q
            rw [hc1] at e
            obtain ⟨v1', h1, k1, k2, k3⟩ := c_sim s n j 0 _ [] A v1 A1 hc1 (lv_args 0 as') [] h (g_args 0 g2) trivial hh
            rw [k1]
            refine c_sim s n i pc1 lv _ A1 v A2 e lv' _ h1 hl (g_app ?_ g3) k3
            cases v1 with
            | none => cases v1' with
              | none => trivial
              | some x => exact k2.elim
            | some x => cases v1' with
              | none => exact k2.elim
              | some y => exact ⟨k2, trivial⟩
        · rw [if_neg hc] at e
          cases e
      | .inl _, .inr (.inl _), g => exact g.elim
      | .inl _, .inr (.inr _), g => exact g.elim
      | .inr (.inl _), .inl _, g => exact g.elim
      | .inr (.inl _), .inr (.inr _), g => exact g.elim
      | .inr (.inr _), .inl _, g => exact g.elim
      | .inr (.inr _), .inr (.inl _), g => exact g.elim
end
section
-- the law's own beginning, within its ranges
theorem g_i00 : g_i (0, 0) 0 := ⟨by decide, by decide⟩
theorem g_j00 : g_j (0, 0) 0 := ⟨by decide, by decide⟩
theorem g_row : ∀ (l : List Int32) (k j : Nat), g_i (match m_lk (b_row k l) (k + j) with
    | some v => v
    | none => (0, 0)) (l.getD j 0)
  | [], k, j => g_i00
  | x :: r, k, 0 => by
    rw [b_row, m_lkc, if_pos (by rfl)]
    exact g_iE x
  | x :: r, k, j + 1 => by
    rw [b_row, m_lkc, if_neg (by dsimp only; omega), show k + (j + 1) = k + 1 + j by omega]
    exact g_row r (k + 1) j
theorem g_xr (xs : Nat → Int32) : ∀ (xi : List AI) (k : Nat), (∀ j, j < xi.length → g_i (xi.getD j b_t) (xs (k + j))) → ∀ j, g_i (match m_lk (b_xr k xi) (k + j) with
    | some v => v
    | none => b_t) (xs (k + j))
  | [], k, _, j => g_iT _
  | p :: r, k, h, 0 => by
    rw [b_xr, m_lkc, if_pos (by rfl)]
    exact h 0 (Nat.succ_pos _)
  | p :: r, k, h, j + 1 => by
    rw [b_xr, m_lkc, if_neg (by dsimp only; omega), show k + (j + 1) = k + 1 + j by omega]
    refine g_xr xs r (k + 1) (fun j hj => ?_) j
    have := h (j + 1) (Nat.succ_lt_succ hj)
    rw [show k + (j + 1) = k + 1 + j by omega] at this
    exact this
theorem g_c0 (L : Nat) (xs : Nat → Int32) (a k len : Nat) (l : List Int32) (hk : m_kd0 L a = (k, len)) (hi : ∀ j, m_hi0 xs a j = l.getD j 0) (hr : ∀ j, m_hr0 a j = 0) : g_c (b_c0 k len l) (m_h0 L xs) a := by
  refine ⟨hk, fun j => ?_, fun j => g_j00, fun j => hr j⟩
  show g_i (b_rw ((0, 0), b_row 0 l) j) (m_hi0 xs a j)
  rw [hi]
  have := g_row l 0 j
  rw [Nat.zero_add] at this
  exact this
theorem g_cs (L : Nat) (xs : Nat → Int32) (a : Nat) (h1 : 2 ≤ a) (h2 : a < 8) : g_c (b_cs (a + 6)) (m_h0 L xs) a := by
  refine ⟨?_, fun j => ?_, fun j => g_j00, fun j => ?_⟩
  · show m_kd0 L a = (40, 0)
    unfold m_kd0
    rw [if_neg (by omega), if_pos ⟨h1, h2⟩]
  · show g_i (0, 0) (m_hi0 xs a j)
    unfold m_hi0
    rw [if_neg (by omega), if_neg (by omega), if_neg (by omega)]
    exact ⟨by decide, by decide⟩
  · show m_hr0 a j = _
    unfold m_hr0 b_gr b_cs
    dsimp only
    rw [m_lkc]
    by_cases hj : 0 = j
    · rw [if_pos hj, if_pos ⟨h1, h2, hj.symm⟩]
    · rw [if_neg hj, if_neg (fun z => hj z.2.2.symm)]
      rfl
theorem m_lkm {α : Type} {a : Nat} {c : α} : ∀ {l : List (Nat × α)}, m_lk l a = some c → (a, c) ∈ l
  | [], h => by cases h
  | q :: r, h => by
    rw [m_lkc] at h
    by_cases hq : q.1 = a
    · rw [if_pos hq] at h
      cases h
      rw [← hq]
      exact List.mem_cons_self
    · rw [if_neg hq] at h
      exact List.mem_cons_of_mem _ (m_lkm h)
theorem g_h0 (s : AI) (L : Nat) (xs : Nat → Int32) (xi : List AI) (hx : ∀ j, j < xi.length → g_i (xi.getD j b_t) (xs j)) (h0 : g_i s (xs 0 &&& 63)) : g_h s (b_h0 L xi) (m_h0 L xs) := by
  refine ⟨rfl, rfl, fun a c hc => ?_, h0, rfl⟩
  have hm := m_lkm (show m_lk (b_h0 L xi).2 a = some c from hc)
  unfold b_h0 at hm
  simp only [List.mem_cons, Prod.mk.injEq, List.not_mem_nil, or_false] at hm
  rcases hm with ⟨rfl, rfl⟩ | ⟨rfl, rfl⟩ | ⟨rfl, rfl⟩ | ⟨rfl, rfl⟩ | ⟨rfl, rfl⟩ | ⟨rfl, rfl⟩ | ⟨rfl, rfl⟩ | ⟨rfl, rfl⟩ | ⟨rfl, rfl⟩ | ⟨rfl, rfl⟩ | ⟨rfl, rfl⟩ | ⟨rfl, rfl⟩ | ⟨rfl, rfl⟩ | ⟨rfl, rfl⟩
  · exact g_c0 L xs 1 20 18 m_lim rfl (fun j => rfl) (fun j => rfl)
  · refine ⟨rfl, fun j => ?_, fun j => g_j00, fun j => rfl⟩
    have := g_xr xs xi 0 (fun j hj => by rw [Nat.zero_add]; exact hx j hj) j
    rw [Nat.zero_add] at this
    exact this
  · exact g_cs L xs 2 (by decide) (by decide)
  · exact g_cs L xs 3 (by decide) (by decide)
  · exact g_cs L xs 4 (by decide) (by decide)
  · exact g_cs L xs 5 (by decide) (by decide)
  · exact g_cs L xs 6 (by decide) (by decide)
  · exact g_cs L xs 7 (by decide) (by decide)
  · exact g_c0 L xs 8 21 3 _ rfl (fun j => rfl) (fun j => rfl)
  · exact g_c0 L xs 9 21 3 _ rfl (fun j => rfl) (fun j => rfl)
  · exact g_c0 L xs 10 21 4 _ rfl (fun j => rfl) (fun j => rfl)
  · exact g_c0 L xs 11 21 4 _ rfl (fun j => rfl) (fun j => rfl)
  · exact g_c0 L xs 12 21 5 _ rfl (fun j => rfl) (fun j => rfl)
  · exact g_c0 L xs 13 21 3 _ rfl (fun j => rfl) (fun j => rfl)
def b_goal (L : Nat) (xs : Nat → Int32) : Prop := ∃ (n : Nat) (h' : MH), m_rn n 0 0 [(0, .ref 14)] [] (m_h0 L xs) = some (some (.int 1), h') ∧ h_n h' ≤ 600000 ∧ h_z h' ≤ 7302250
theorem b_okS (s : AI) (fuel L : Nat) (xi : List AI) (e : b_ok s fuel L xi = true) (xs : Nat → Int32) (hx : ∀ j, j < xi.length → g_i (xi.getD j b_t) (xs j)) (h0 : g_i s (xs 0 &&& 63)) : b_goal L xs := by
  unfold b_ok at e
  split at e
  · next v A hA =>
    rw [Bool.and_eq_true, Bool.and_eq_true] at e
    have e1 := of_decide_eq_true e.1
    have e2 := of_decide_eq_true e.2.1
    have e3 := of_decide_eq_true e.2.2
    obtain ⟨v', h', k1, k2, k3⟩ := c_sim s fuel 0 0 _ [] _ _ _ hA [(0, .ref 14)] [] (m_h0 L xs) ⟨⟨rfl, rfl⟩, trivial⟩ trivial (g_h0 s L xs xi hx h0)
    cases v' with
    | none => exact k2.elim
    | some w =>
      obtain ⟨x, hw, hx1, hx2⟩ := k2
      rw [e1] at hx1 hx2
      have hx3 : x = 1 := Int32.toInt_inj.mp (show x.toInt = (1 : Int32).toInt by
        have : (1 : Int32).toInt = 1 := by decide
        have h1 : (1 : Int) ≤ x.toInt := hx1
        have h2 : x.toInt ≤ (1 : Int) := hx2
        omega)
      rw [hw, hx3] at k1
      exact ⟨fuel, h', k1, by rw [k3.1]; exact e2, by rw [k3.2.1]; exact e3⟩
  · cases e
theorem g_63 (x : Int32) : g_i (0, 63) (x &&& 63) := by
  have h : (x &&& 63).toBitVec.toNat ≤ 63 := by
    rw [Int32.toBitVec_and, BitVec.toNat_and]
    exact Nat.and_le_right
  have h2 : (x &&& 63).toInt = ((x &&& 63).toBitVec.toNat : Int) := BitVec.toInt_eq_toNat_of_lt (by omega)
  exact ⟨by rw [h2]; show (0 : Int) ≤ _; omega, by rw [h2]; show _ ≤ (63 : Int); omega⟩
def b_cov (l : List AI) : Prop := ∀ x : Int32, ∃ p ∈ l, g_i p x
def b_mk (p : AI) (k : Nat) (q : AI) : List AI := match k with
  | 2 => [b_t, p, q]
  | 3 => [b_t, p, b_t, q]
  | 4 => [b_t, p, b_t, b_t, q]
  | 6 => [b_t, p, b_t, b_t, b_t, b_t, q]
  | _ => [b_t, p]
theorem b_mkS (xs : Nat → Int32) (p : AI) (k : Nat) (q : AI) (hp : g_i p (xs 1)) (hq : g_i q (xs k)) : ∀ j, j < (b_mk p k q).length → g_i ((b_mk p k q).getD j b_t) (xs j) := by
  unfold b_mk
  split
  · exact fun j hj => match j, hj with
      | 0, _ => g_iT _
      | 1, _ => hp
      | 2, _ => hq
  · exact fun j hj => match j, hj with
      | 0, _ => g_iT _
      | 1, _ => hp
      | 2, _ => g_iT _
      | 3, _ => hq
  · exact fun j hj => match j, hj with
      | 0, _ => g_iT _
      | 1, _ => hp
      | 2, _ => g_iT _
      | 3, _ => g_iT _
      | 4, _ => hq
  · exact fun j hj => match j, hj with
      | 0, _ => g_iT _
      | 1, _ => hp
      | 2, _ => g_iT _
      | 3, _ => g_iT _
      | 4, _ => g_iT _
      | 5, _ => g_iT _
      | 6, _ => hq
  · exact fun j hj => match j, hj with
      | 0, _ => g_iT _
      | 1, _ => hp
def b_l1 : List AI := [(-2147483648, -1), (0, 2147483647)]
def b_l2 : List AI := [(-2147483648, -1), (0, 0), (1, 2147483647)]
def b_l3 : List AI := [(-2147483648, -2), (-1, -1), (0, 2147483647)]
def b_l4 : List AI := [(-2147483648, -1), (0, 0), (1, 1), (2, 2147483647)]
def b_l5 : List AI := [(-2147483648, -1), (0, 0), (1, 1), (2, 2), (3, 2147483647)]
theorem b_v0 : b_cov [b_t] := fun x => ⟨b_t, List.mem_cons_self, g_iT x⟩
theorem b_v1 : b_cov b_l1 := fun x => by
  obtain ⟨h1, h2⟩ := g_iT x
  have h1 : (-2147483648 : Int) ≤ x.toInt := h1
  have h2 : x.toInt ≤ (2147483647 : Int) := h2
  by_cases c : x.toInt ≤ -1
  · exact ⟨_, List.mem_cons_self, h1, c⟩
  · exact ⟨_, List.mem_cons_of_mem _ List.mem_cons_self, show (0 : Int) ≤ _ by omega, h2⟩
theorem b_v2 : b_cov b_l2 := fun x => by
  obtain ⟨h1, h2⟩ := g_iT x
  have h1 : (-2147483648 : Int) ≤ x.toInt := h1
  have h2 : x.toInt ≤ (2147483647 : Int) := h2
  by_cases c : x.toInt ≤ -1
  · exact ⟨_, List.mem_cons_self, h1, c⟩
  · by_cases d : x.toInt ≤ 0
    · exact ⟨_, List.mem_cons_of_mem _ List.mem_cons_self, show (0 : Int) ≤ _ by omega, d⟩
    · exact ⟨_, List.mem_cons_of_mem _ (List.mem_cons_of_mem _ List.mem_cons_self), show (1 : Int) ≤ _ by omega, h2⟩
theorem b_v3 : b_cov b_l3 := fun x => by
  obtain ⟨h1, h2⟩ := g_iT x
  have h1 : (-2147483648 : Int) ≤ x.toInt := h1
  have h2 : x.toInt ≤ (2147483647 : Int) := h2
  by_cases c : x.toInt ≤ -2
  · exact ⟨_, List.mem_cons_self, h1, c⟩
  · by_cases d : x.toInt ≤ -1
    · exact ⟨_, List.mem_cons_of_mem _ List.mem_cons_self, show (-1 : Int) ≤ _ by omega, d⟩
    · exact ⟨_, List.mem_cons_of_mem _ (List.mem_cons_of_mem _ List.mem_cons_self), show (0 : Int) ≤ _ by omega, h2⟩
theorem b_v4 : b_cov b_l4 := fun x => by
  obtain ⟨h1, h2⟩ := g_iT x
  have h1 : (-2147483648 : Int) ≤ x.toInt := h1
  have h2 : x.toInt ≤ (2147483647 : Int) := h2
  by_cases c : x.toInt ≤ -1
  · exact ⟨_, List.mem_cons_self, h1, c⟩
  · by_cases d : x.toInt ≤ 0
    · exact ⟨_, List.mem_cons_of_mem _ List.mem_cons_self, show (0 : Int) ≤ _ by omega, d⟩
    · by_cases d2 : x.toInt ≤ 1
      · exact ⟨_, List.mem_cons_of_mem _ (List.mem_cons_of_mem _ List.mem_cons_self), show (1 : Int) ≤ _ by omega, d2⟩
      · exact ⟨_, List.mem_cons_of_mem _ (List.mem_cons_of_mem _ (List.mem_cons_of_mem _ List.mem_cons_self)), show (2 : Int) ≤ _ by omega, h2⟩
theorem b_v5 : b_cov b_l5 := fun x => by
  obtain ⟨h1, h2⟩ := g_iT x
  have h1 : (-2147483648 : Int) ≤ x.toInt := h1
  have h2 : x.toInt ≤ (2147483647 : Int) := h2
  by_cases c : x.toInt ≤ -1
  · exact ⟨_, List.mem_cons_self, h1, c⟩
  · by_cases d : x.toInt ≤ 0
    · exact ⟨_, List.mem_cons_of_mem _ List.mem_cons_self, show (0 : Int) ≤ _ by omega, d⟩
    · by_cases d2 : x.toInt ≤ 1
      · exact ⟨_, List.mem_cons_of_mem _ (List.mem_cons_of_mem _ List.mem_cons_self), show (1 : Int) ≤ _ by omega, d2⟩
      · by_cases d3 : x.toInt ≤ 2
        · exact ⟨_, List.mem_cons_of_mem _ (List.mem_cons_of_mem _ (List.mem_cons_of_mem _ List.mem_cons_self)), show (2 : Int) ≤ _ by omega, d3⟩
        · exact ⟨_, List.mem_cons_of_mem _ (List.mem_cons_of_mem _ (List.mem_cons_of_mem _ (List.mem_cons_of_mem _ List.mem_cons_self))), show (3 : Int) ≤ _ by omega, h2⟩
noncomputable def b_two (s : AI) (fuel k : Nat) (l1 l2 : List AI) : Bool := l1.all (fun p => l2.all (fun q => b_ok s fuel 7 (b_mk p k q)))
theorem b_twoS {s : AI} {fuel k : Nat} {l1 l2 : List AI} (e : b_two s fuel k l1 l2 = true) (h1 : b_cov l1) (h2 : b_cov l2) (xs : Nat → Int32) (h0 : g_i s (xs 0 &&& 63)) : b_goal 7 xs := by
  obtain ⟨p, hp, gp⟩ := h1 (xs 1)
  obtain ⟨q, hq, gq⟩ := h2 (xs k)
  unfold b_two at e
  have e1 := List.all_eq_true.mp e p hp
  have e2 := List.all_eq_true.mp e1 q hq
  exact b_okS s fuel 7 _ e2 xs (b_mkS xs p k q gp gq) h0
end
section
-- LINEAR WORDS: a sum of symbols with whole coefficients and a constant; ranges of symbols; constraints 'a word is 0 at most'; what follows from them
abbrev LE : Type := List (Nat × Int) × Int
abbrev IV : Type := List (Nat × (Int × Int))
def l_ev (σ : Nat → Int) : List (Nat × Int) → Int
  | [] => 0
  | (k, a) :: r => a * σ k + l_ev σ r
def le_ev (σ : Nat → Int) (e : LE) : Int := l_ev σ e.1 + e.2
-- into a row of symbols, like ones together, none with coefficient 0
def l_in (k : Nat) (a : Int) : List (Nat × Int) → List (Nat × Int)
  | [] => if a = 0 then [] else [(k, a)]
  | (j, b) :: r => if j = k then (if b + a = 0 then r else (k, b + a) :: r) else (j, b) :: l_in k a r
theorem l_inE (σ : Nat → Int) (k : Nat) (a : Int) : ∀ l : List (Nat × Int), l_ev σ (l_in k a l) = a * σ k + l_ev σ l
  | [] => by
    rw [l_in]
    split
    · next h => rw [h, Int.zero_mul, Int.zero_add]
    · rfl
  | (j, b) :: r => by
    rw [l_in]
    split
    · next h =>
      subst h
      split
      · next h0 =>
        have : (b + a) * σ j = 0 := by rw [h0, Int.zero_mul]
        rw [Int.add_mul] at this
        rw [l_ev]
        omega
      · rw [l_ev, l_ev, Int.add_mul]
        omega
    · rw [l_ev, l_ev, l_inE σ k a r]
      omega
def l_add (c : Int) : List (Nat × Int) → List (Nat × Int) → List (Nat × Int)
  | [], l => l
  | (k, a) :: r, l => l_in k (c * a) (l_add c r l)
theorem l_addE (σ : Nat → Int) (c : Int) : ∀ r l : List (Nat × Int), l_ev σ (l_add c r l) = c * l_ev σ r + l_ev σ l
  | [], l => by rw [l_add, l_ev, Int.mul_zero, Int.zero_add]
  | (k, a) :: r, l => by
    rw [l_add, l_inE, l_addE σ c r l, l_ev, Int.mul_add, Int.mul_assoc]
    omega
def le_c (z : Int) : LE := ([], z)
def le_s (k : Nat) : LE := ([(k, 1)], 0)
def le_add (x y : LE) : LE := (l_add 1 y.1 x.1, x.2 + y.2)
def le_sub (x y : LE) : LE := (l_add (-1) y.1 x.1, x.2 - y.2)
def le_mul (c : Int) (x : LE) : LE := (l_add c x.1 [], c * x.2)
theorem le_cE (σ : Nat → Int) (z : Int) : le_ev σ (le_c z) = z := Int.zero_add z
theorem le_sE (σ : Nat → Int) (k : Nat) : le_ev σ (le_s k) = σ k := by
  show (1 * σ k + 0) + 0 = σ k
  omega
theorem le_addE (σ : Nat → Int) (x y : LE) : le_ev σ (le_add x y) = le_ev σ x + le_ev σ y := by
  unfold le_ev le_add
  rw [l_addE]
  omega
theorem le_subE (σ : Nat → Int) (x y : LE) : le_ev σ (le_sub x y) = le_ev σ x - le_ev σ y := by
  unfold le_ev le_sub
  rw [l_addE]
  omega
theorem le_mulE (σ : Nat → Int) (c : Int) (x : LE) : le_ev σ (le_mul c x) = c * le_ev σ x := by
  unfold le_ev le_mul
  rw [l_addE, Int.mul_add]
  show c * l_ev σ x.1 + 0 + c * x.2 = _
  omega
-- ranges
def iv_ok (σ : Nat → Int) (iv : IV) : Prop := ∀ q ∈ iv, q.2.1 ≤ σ q.1 ∧ σ q.1 ≤ q.2.2
theorem iv_lk {σ : Nat → Int} {iv : IV} (h : iv_ok σ iv) {k : Nat} {p : Int × Int} (e : m_lk iv k = some p) : p.1 ≤ σ k ∧ σ k ≤ p.2 := h _ (m_lkm e)
def l_ub (iv : IV) : List (Nat × Int) → Option Int
  | [] => some 0
  | (k, a) :: r => match m_lk iv k, l_ub iv r with
    | some p, some u => some ((if 0 ≤ a then a * p.2 else a * p.1) + u)
    | _, _ => none
theorem l_ubS {σ : Nat → Int} {iv : IV} (h : iv_ok σ iv) : ∀ (l : List (Nat × Int)) (u : Int), l_ub iv l = some u → l_ev σ l ≤ u
  | [], u, e => by
    cases e
    exact Int.le_refl _
  | (k, a) :: r, u, e => by
    rw [l_ub] at e
    split at e
    · next p u1 hp hu =>
      cases e
      have h1 := iv_lk h hp
      have h2 := l_ubS h r u1 hu
      rw [l_ev]
      split
      · next ha =>
        have := Int.mul_le_mul_of_nonneg_left h1.2 ha
        omega
      · next ha =>
        have := Int.mul_le_mul_of_nonpos_left (show a ≤ 0 by omega) h1.1
        omega
    · cases e
def le_le0 (iv : IV) (e : LE) : Bool := match l_ub iv e.1 with
  | some u => decide (u + e.2 ≤ 0)
  | none => false
theorem le_le0S {σ : Nat → Int} {iv : IV} (h : iv_ok σ iv) {e : LE} (k : le_le0 iv e = true) : le_ev σ e ≤ 0 := by
  unfold le_le0 at k
  split at k
  · next u hu =>
    have h1 := of_decide_eq_true k
    have h2 := l_ubS h e.1 u hu
    unfold le_ev
    omega
  · cases k
-- what follows: by ranges, by one constraint, by two
def cs_ok (σ : Nat → Int) (cs : List LE) : Prop := ∀ e ∈ cs, le_ev σ e ≤ 0
def le_ent (iv : IV) (cs : List LE) (e : LE) : Bool := le_le0 iv e || (cs.any (fun c => le_le0 iv (le_sub e c)) || cs.any (fun c => cs.any (fun d => le_le0 iv (le_sub (le_sub e c) d))))
theorem le_entS {σ : Nat → Int} {iv : IV} {cs : List LE} (h : iv_ok σ iv) (hc : cs_ok σ cs) {e : LE} (k : le_ent iv cs e = true) : le_ev σ e ≤ 0 := by
  unfold le_ent at k
  rw [Bool.or_eq_true, Bool.or_eq_true] at k
  rcases k with k | k | k
  · exact le_le0S h k
  · obtain ⟨c, m1, k1⟩ := List.any_eq_true.mp k
    have h1 := hc c m1
    have h2 := le_le0S h k1
    rw [le_subE] at h2
    omega
  · obtain ⟨c, m1, k1⟩ := List.any_eq_true.mp k
    obtain ⟨d, m2, k2⟩ := List.any_eq_true.mp k1
    have h1 := hc c m1
    have h2 := hc d m2
    have h3 := le_le0S h k2
    rw [le_subE, le_subE] at h3
    omega
-- a symbol that a word doesn't have
def l_fr (n : Nat) (l : List (Nat × Int)) : Bool := l.all (fun q => !(q.1 == n))
def s_up (σ : Nat → Int) (n : Nat) (z : Int) : Nat → Int := fun k => if k = n then z else σ k
theorem l_frS (σ : Nat → Int) (n : Nat) (z : Int) : ∀ l : List (Nat × Int), l_fr n l = true → l_ev (s_up σ n z) l = l_ev σ l
  | [], _ => rfl
  | (k, a) :: r, h => by
    unfold l_fr at h
    rw [List.all_cons, Bool.and_eq_true] at h
    rw [l_ev, l_ev, l_frS σ n z r h.2]
    have hk : ¬ k = n := fun e => by
      rw [e] at h
      simp at h
    unfold s_up
    rw [if_neg hk]
theorem le_frS (σ : Nat → Int) (n : Nat) (z : Int) (e : LE) (h : l_fr n e.1 = true) : le_ev (s_up σ n z) e = le_ev σ e := by
  unfold le_ev
  rw [l_frS σ n z e.1 h]
end
section
-- TYPED HEAPS AND STATES OF THE CHECKER
-- a field's type: a range of ints, any long, a reference to a region (true: never null)
abbrev FT : Type := (Int × Int) ⊕ (Unit ⊕ (Nat × Bool))
-- a region: kind, length's range; made (address 16 and on) or not; an array's elements alike or an object's fields
abbrev RS : Type := (Nat × (Nat × Nat)) × (Bool × (Bool × List FT))
def r_ft (rs : RS) (k : Nat) : Option FT := match rs.2.2.1 with
  | true => rs.2.2.2[0]?
  | false => rs.2.2.2[k]?
def t_rf (ρ : Nat → Nat) (R : Nat) (nn : Bool) (a : Nat) : Prop := (a = 0 ∧ nn = false) ∨ (a ≠ 0 ∧ R ≠ 0 ∧ ρ a = R)
def t_ft (ρ : Nat → Nat) (ft : FT) (h : MH) (a k : Nat) : Prop := match ft with
  | .inl p => p.1 ≤ (h_i h a k).toInt ∧ (h_i h a k).toInt ≤ p.2
  | .inr (.inl _) => True
  | .inr (.inr q) => t_rf ρ q.1 q.2 (h_r h a k)
def t_cell (ρ : Nat → Nat) (rs : RS) (h : MH) (a : Nat) : Prop := (h_k h a).1 = rs.1.1 ∧ (rs.1.2.1 ≤ (h_k h a).2 ∧ (h_k h a).2 ≤ rs.1.2.2) ∧ (rs.2.1 = true → 16 ≤ a) ∧ ∀ k ft, r_ft rs k = some ft → t_ft ρ ft h a k
def TH (sp : List RS) (ρ : Nat → Nat) (h : MH) : Prop := ρ 0 = 0 ∧ ∀ a, ρ a ≠ 0 → a < 16 + h_n h ∧ ∃ rs, sp[ρ a]? = some rs ∧ t_cell ρ rs h a
-- a value: a linear word, a long, a reference (its own symbol, region, never null or not)
abbrev AT : Type := LE ⊕ (Unit ⊕ (Nat × (Nat × Bool)))
-- what is known of fields: ((object's symbol, (region, field)), value); field 1000: an array's length
abbrev CA : Type := List ((Nat × (Nat × Nat)) × AT)
-- a state: ranges and constraints; known fields; words and objects that are kept; the next free number; locals, stack
abbrev AST : Type := (IV × List LE) × (CA × ((List LE × List Nat) × (Nat × (List (Nat × AT) × List AT))))
def a_iv (S : AST) : IV := S.1.1
def a_cs (S : AST) : List LE := S.1.2
def a_ca (S : AST) : CA := S.2.1
def a_kp (S : AST) : List LE := S.2.2.1.1
def a_ko (S : AST) : List Nat := S.2.2.1.2
def a_nx (S : AST) : Nat := S.2.2.2.1
def a_lv (S : AST) : List (Nat × AT) := S.2.2.2.2.1
def a_st (S : AST) : List AT := S.2.2.2.2.2
def t_at (σ : Nat → Int) (α ρ : Nat → Nat) (t : AT) (v : Value) : Prop := match t with
  | .inl e => ∃ x, v = .int x ∧ x.toInt = le_ev σ e
  | .inr (.inl _) => ∃ x, v = .long x
  | .inr (.inr q) => v = .ref (α q.1) ∧ t_rf ρ q.2.1 q.2.2 (α q.1)
def t_fv (σ : Nat → Int) (α ρ : Nat → Nat) (h : MH) (a k : Nat) (t : AT) : Prop := match t with
  | .inl e => if k = 1000 then ((h_k h a).2 : Int) = le_ev σ e else (h_i h a k).toInt = le_ev σ e
  | .inr (.inl _) => True
  | .inr (.inr q) => h_r h a k = α q.1 ∧ t_rf ρ q.2.1 q.2.2 (α q.1)
def t_ca (σ : Nat → Int) (α ρ : Nat → Nat) (h : MH) (ca : CA) : Prop := ∀ q ∈ ca, (α q.1.1 ≠ 0 ∧ ρ (α q.1.1) = q.1.2.1) ∧ t_fv σ α ρ h (α q.1.1) q.1.2.2 q.2
def t_sk (σ : Nat → Int) (α ρ : Nat → Nat) : List AT → List Value → Prop
  | [], [] => True
  | a :: r, v :: q => t_at σ α ρ a v ∧ t_sk σ α ρ r q
  | _, _ => False
def t_lv (σ : Nat → Int) (α ρ : Nat → Nat) : List (Nat × AT) → List (Nat × Value) → Prop
  | [], [] => True
  | a :: r, v :: q => (v.1 = a.1 ∧ t_at σ α ρ a.2 v.2) ∧ t_lv σ α ρ r q
  | _, _ => False
-- what a state says of locals, stack and heap (K, KA: the worth of what is kept)
def TS (sp : List RS) (ρ : Nat → Nat) (K : List Int) (KA : List Nat) (S : AST) (lv : List (Nat × Value)) (st : List Value) (h : MH) : Prop :=
  TH sp ρ h ∧ ∃ (σ : Nat → Int) (α : Nat → Nat), iv_ok σ (a_iv S) ∧ cs_ok σ (a_cs S) ∧ t_ca σ α ρ h (a_ca S) ∧ (a_kp S).map (le_ev σ) = K ∧ (a_ko S).map α = KA ∧ t_lv σ α ρ (a_lv S) lv ∧ t_sk σ α ρ (a_st S) st
-- a number that a state doesn't have
def f_at (n : Nat) (t : AT) : Bool := match t with
  | .inl e => l_fr n e.1
  | .inr (.inl _) => true
  | .inr (.inr q) => !(q.1 == n)
def f_S (n : Nat) (S : AST) : Bool := (a_iv S).all (fun q => !(q.1 == n)) && ((a_cs S).all (fun e => l_fr n e.1) && ((a_ca S).all (fun q => !(q.1.1 == n) && f_at n q.2) && ((a_kp S).all (fun e => l_fr n e.1) && ((a_ko S).all (fun o => !(o == n)) && ((a_lv S).all (fun q => f_at n q.2) && (a_st S).all (fun t => f_at n t))))))
def o_up (α : Nat → Nat) (n a : Nat) : Nat → Nat := fun k => if k = n then a else α k
theorem f_atS {σ : Nat → Int} {α ρ : Nat → Nat} {n : Nat} {t : AT} {v : Value} (z : Int) (a : Nat) (hf : f_at n t = true) (h : t_at σ α ρ t v) : t_at (s_up σ n z) (o_up α n a) ρ t v := by
  cases t with
  | inl e =>
    obtain ⟨x, h1, h2⟩ := h
    exact ⟨x, h1, by rw [le_frS σ n z e hf]; exact h2⟩
  | inr t => cases t with
    | inl u => exact h
    | inr q =>
      have hq : ¬ q.1 = n := fun e => by
        have h9 : (!(q.1 == n)) = true := hf
        rw [e] at h9
        simp at h9
      have hu : o_up α n a q.1 = α q.1 := if_neg hq
      show v = .ref (o_up α n a q.1) ∧ t_rf ρ q.2.1 q.2.2 (o_up α n a q.1)
      rw [hu]
      exact h
theorem f_fvS {σ : Nat → Int} {α ρ : Nat → Nat} {h : MH} {b k : Nat} {n : Nat} {t : AT} (z : Int) (a : Nat) (hf : f_at n t = true) (hv : t_fv σ α ρ h b k t) : t_fv (s_up σ n z) (o_up α n a) ρ h b k t := by
  cases t with
  | inl e =>
    show if k = 1000 then _ = le_ev (s_up σ n z) e else _ = le_ev (s_up σ n z) e
    rw [le_frS σ n z e hf]
    exact hv
  | inr t => cases t with
    | inl u => exact hv
    | inr q =>
      have hq : ¬ q.1 = n := fun e => by
        have h9 : (!(q.1 == n)) = true := hf
        rw [e] at h9
        simp at h9
      have hu : o_up α n a q.1 = α q.1 := if_neg hq
      show h_r h b k = o_up α n a q.1 ∧ t_rf ρ q.2.1 q.2.2 (o_up α n a q.1)
      rw [hu]
      exact hv
theorem f_skS {σ : Nat → Int} {α ρ : Nat → Nat} {n : Nat} (z : Int) (a : Nat) : ∀ {t : List AT} {v : List Value}, t.all (fun t => f_at n t) = true → t_sk σ α ρ t v → t_sk (s_up σ n z) (o_up α n a) ρ t v
  | [], [], _, h => h
  | t :: r, v :: q, hf, h => by
    rw [List.all_cons, Bool.and_eq_true] at hf
    exact ⟨f_atS z a hf.1 h.1, f_skS z a hf.2 h.2⟩
  | [], _ :: _, _, h => h.elim
  | _ :: _, [], _, h => h.elim
theorem f_lvS {σ : Nat → Int} {α ρ : Nat → Nat} {n : Nat} (z : Int) (a : Nat) : ∀ {t : List (Nat × AT)} {v : List (Nat × Value)}, t.all (fun t => f_at n t.2) = true → t_lv σ α ρ t v → t_lv (s_up σ n z) (o_up α n a) ρ t v
  | [], [], _, h => h
  | t :: r, v :: q, hf, h => by
    rw [List.all_cons, Bool.and_eq_true] at hf
    exact ⟨⟨h.1.1, f_atS z a hf.1 h.1.2⟩, f_lvS z a hf.2 h.2⟩
  | [], _ :: _, _, h => h.elim
  | _ :: _, [], _, h => h.elim
-- all of a state's words but locals and stack, at any symbols that give a new number another worth
def TW (ρ : Nat → Nat) (K : List Int) (KA : List Nat) (S : AST) (lv : List (Nat × Value)) (st : List Value) (h : MH) (σ : Nat → Int) (α : Nat → Nat) : Prop := iv_ok σ (a_iv S) ∧ cs_ok σ (a_cs S) ∧ t_ca σ α ρ h (a_ca S) ∧ (a_kp S).map (le_ev σ) = K ∧ (a_ko S).map α = KA ∧ t_lv σ α ρ (a_lv S) lv ∧ t_sk σ α ρ (a_st S) st
theorem f_SS {ρ : Nat → Nat} {K : List Int} {KA : List Nat} {S : AST} {lv : List (Nat × Value)} {st : List Value} {h : MH} {σ : Nat → Int} {α : Nat → Nat} {n : Nat} (z : Int) (a : Nat) (hf : f_S n S = true) (hw : TW ρ K KA S lv st h σ α) : TW ρ K KA S lv st h (s_up σ n z) (o_up α n a) := by
  unfold f_S at hf
  simp only [Bool.and_eq_true, List.all_eq_true] at hf
  obtain ⟨f1, f2, f3, f4, f5, f6, f7⟩ := hf
  obtain ⟨w1, w2, w3, w4, w5, w6, w7⟩ := hw
  have ne : ∀ {k : Nat}, (!(k == n)) = true → ¬ k = n := fun {k} hk e => by
    rw [e] at hk
    simp at hk
  refine ⟨fun q hq => ?_, fun e he => ?_, fun q hq => ?_, ?_, ?_, f_lvS z a (List.all_eq_true.mpr f6) w6, f_skS z a (List.all_eq_true.mpr f7) w7⟩
  · have : s_up σ n z q.1 = σ q.1 := if_neg (ne (f1 q hq))
    rw [this]
    exact w1 q hq
  · rw [le_frS σ n z e (f2 e he)]
    exact w2 e he
  · obtain ⟨g1, g2⟩ := w3 q hq
    have : o_up α n a q.1.1 = α q.1.1 := if_neg (ne (f3 q hq).1)
    rw [this]
    exact ⟨g1, f_fvS z a (f3 q hq).2 g2⟩
  · rw [← w4]
    exact List.map_congr_left (fun e he => le_frS σ n z e (f4 e he))
  · rw [← w5]
    exact List.map_congr_left (fun o ho => if_neg (ne (f5 o ho)))
end
section
-- INT WORDS' OWN RULES
theorem i_bm (z : Int) (h1 : -2147483648 ≤ z) (h2 : z ≤ 2147483647) : z.bmod (2 ^ 32) = z := Int.bmod_eq_of_le (by show -((2 ^ 32 : Int) / 2) ≤ z; omega) (by show z < ((2 ^ 32 : Int) + 1) / 2; omega)
theorem i_add (x y : Int32) (h1 : -2147483648 ≤ x.toInt + y.toInt) (h2 : x.toInt + y.toInt ≤ 2147483647) : (x + y).toInt = x.toInt + y.toInt := by
  rw [Int32.toInt_add]
  exact i_bm _ h1 h2
theorem i_sub (x y : Int32) (h1 : -2147483648 ≤ x.toInt - y.toInt) (h2 : x.toInt - y.toInt ≤ 2147483647) : (x - y).toInt = x.toInt - y.toInt := by
  rw [Int32.toInt_sub]
  exact i_bm _ h1 h2
theorem i_mul (x y : Int32) (h1 : -2147483648 ≤ x.toInt * y.toInt) (h2 : x.toInt * y.toInt ≤ 2147483647) : (x * y).toInt = x.toInt * y.toInt := by
  rw [Int32.toInt_mul]
  exact i_bm _ h1 h2
theorem i_neg (x : Int32) (h1 : -2147483647 ≤ x.toInt) : (-x).toInt = -x.toInt := by
  have h2 := Int32.toInt_lt x
  rw [Int32.toInt_neg]
  exact i_bm _ (by omega) (by omega)
theorem i_ofInt (z : Int) (h1 : -2147483648 ≤ z) (h2 : z ≤ 2147483647) : (Int32.ofInt z).toInt = z := by
  rw [Int32.toInt_ofInt]
  exact i_bm _ h1 h2
theorem i_div (x y : Int32) (hx : 0 ≤ x.toInt) (hy : 0 < y.toInt) : (x / y).toInt = x.toInt / y.toInt := by
  have h1 := Int32.toInt_lt x
  rw [Int32.toInt_div, Int.tdiv_eq_ediv_of_nonneg hx]
  have h2 : 0 ≤ x.toInt / y.toInt := Int.ediv_nonneg hx (by omega)
  have h3 : x.toInt / y.toInt ≤ x.toInt := Int.ediv_le_self _ hx
  exact i_bm _ (by omega) (by omega)
abbrev AO : Type := Nat × AST
def w_fs (S : AST) (lv : List (Nat × AT)) (st : List AT) : AST := (S.1, S.2.1, S.2.2.1, S.2.2.2.1, lv, st)
def w_ca (S : AST) (ca : CA) : AST := (S.1, ca, S.2.2)
def w_cs (S : AST) (cs : List LE) : AST := ((S.1.1, cs), S.2)
def w_iv (S : AST) (iv : IV) : AST := ((iv, S.1.2), S.2)
def w_nx (S : AST) (n : Nat) : AST := (S.1, S.2.1, S.2.2.1, n, S.2.2.2.2)
-- a new symbol with a range, on top of a stack
def t_pi (pc : Nat) (S : AST) (st : List AT) (lo hi : Int) : Option (List AO) := if f_S (a_nx S) (w_fs S (a_lv S) st) = true then some [(pc, w_nx (w_fs (w_iv S ((a_nx S, (lo, hi)) :: a_iv S)) (a_lv S) (.inl (le_s (a_nx S)) :: st)) (a_nx S + 1))] else none
-- the same, nothing new needed
def t_pe (pc : Nat) (S : AST) (st : List AT) (e : LE) : Option (List AO) := some [(pc, w_fs S (a_lv S) (.inl e :: st))]
def t_go (pc : Nat) (S : AST) (st : List AT) : Option (List AO) := some [(pc, w_fs S (a_lv S) st)]
def t_in32 (S : AST) (e : LE) : Bool := le_ent (a_iv S) (a_cs S) (le_sub e (le_c 2147483647)) && le_ent (a_iv S) (a_cs S) (le_sub (le_c (-2147483648)) e)
-- a word that is right if it lies among the ints, else anything
def t_pw (pc : Nat) (S : AST) (st : List AT) (e : LE) : Option (List AO) := if t_in32 S e = true then t_pe pc S st e else t_pi pc S st (-2147483648) 2147483647
-- frames: what a run may write
def t_W (W : List (Nat × Nat)) (R k : Nat) : Prop := (R, k) ∈ W ∨ (R, 1001) ∈ W
def FR (ρ : Nat → Nat) (W : List (Nat × Nat)) (h h' : MH) : Prop := h'.1 = h.1 ∧ (∀ a, h_k h' a = h_k h a) ∧ ∀ a k, ¬ t_W W (ρ a) k → h_i h' a k = h_i h a k ∧ h_l h' a k = h_l h a k ∧ h_r h' a k = h_r h a k
theorem FR.refl (ρ : Nat → Nat) (W : List (Nat × Nat)) (h : MH) : FR ρ W h h := ⟨rfl, fun _ => rfl, fun _ _ _ => ⟨rfl, rfl, rfl⟩⟩
theorem FR.trans {ρ : Nat → Nat} {W : List (Nat × Nat)} {h h1 h2 : MH} (f : FR ρ W h h1) (g : FR ρ W h1 h2) : FR ρ W h h2 := by
  obtain ⟨f1, f2, f3⟩ := f
  obtain ⟨g1, g2, g3⟩ := g
  refine ⟨g1.trans f1, fun a => (g2 a).trans (f2 a), fun a k hk => ?_⟩
  obtain ⟨x1, x2, x3⟩ := f3 a k hk
  obtain ⟨y1, y2, y3⟩ := g3 a k hk
  exact ⟨y1.trans x1, y2.trans x2, y3.trans x3⟩
-- one step of the checker is true of the machine's
def T_P (sp : List RS) (ρ : Nat → Nat) (W : List (Nat × Nat)) (K : List Int) (KA : List Nat) (R : Option (List AO)) (h : MH) (R' : Option MA) : Prop := ∀ L, R = some L → ∃ pc' lv' st' h', R' = some (.inl (pc', lv', st', h')) ∧ FR ρ W h h' ∧ ∃ S', (pc', S') ∈ L ∧ TS sp ρ K KA S' lv' st' h'
section
variable {sp : List RS} {ρ : Nat → Nat} {W : List (Nat × Nat)} {K : List Int} {KA : List Nat} {S : AST} {lv' : List (Nat × Value)} {st' : List Value} {h : MH} {pc : Nat} {st : List AT} {σ : Nat → Int} {α : Nat → Nat}
theorem q_no {h : MH} {R' : Option MA} : T_P sp ρ W K KA none h R' := fun _ e => by cases e
theorem q_fs {lv0 : List (Nat × Value)} {st0 : List Value} {lv : List (Nat × AT)} (hw : TW ρ K KA S lv0 st0 h σ α) (hl : t_lv σ α ρ lv lv') (hs : t_sk σ α ρ st st') : TW ρ K KA (w_fs S lv st) lv' st' h σ α := ⟨hw.1, hw.2.1, hw.2.2.1, hw.2.2.2.1, hw.2.2.2.2.1, hl, hs⟩
theorem q_go {st0 : List Value} (ht : TH sp ρ h) (hw : TW ρ K KA S lv' st0 h σ α) (hs : t_sk σ α ρ st st') : T_P sp ρ W K KA (t_go pc S st) h (m_go pc lv' st' h) := fun L e => by
  cases (Option.some.inj e)
  exact ⟨pc, lv', st', h, rfl, FR.refl _ _ _, _, List.mem_singleton.mpr rfl, ht, σ, α, q_fs hw hw.2.2.2.2.2.1 hs⟩
theorem q_pe {st0 : List Value} {e : LE} {x : Int32} (ht : TH sp ρ h) (hw : TW ρ K KA S lv' st0 h σ α) (hs : t_sk σ α ρ st st') (hx : x.toInt = le_ev σ e) : T_P sp ρ W K KA (t_pe pc S st e) h (m_go pc lv' (.int x :: st') h) := fun L e9 => by
  cases (Option.some.inj e9)
  exact ⟨pc, lv', _, h, rfl, FR.refl _ _ _, _, List.mem_singleton.mpr rfl, ht, σ, α, q_fs hw hw.2.2.2.2.2.1 ⟨⟨x, rfl, hx⟩, hs⟩⟩
theorem q_pi {st0 : List Value} {lo hi : Int} {x : Int32} (ht : TH sp ρ h) (hw : TW ρ K KA S lv' st0 h σ α) (hs : t_sk σ α ρ st st') (h1 : lo ≤ x.toInt) (h2 : x.toInt ≤ hi) : T_P sp ρ W K KA (t_pi pc S st lo hi) h (m_go pc lv' (.int x :: st') h) := fun L e9 => by
  unfold t_pi at e9
  split at e9
  · next hf =>
    cases (Option.some.inj e9)
    have hw2 := f_SS x.toInt 0 hf (q_fs hw hw.2.2.2.2.2.1 hs)
    refine ⟨pc, lv', _, h, rfl, FR.refl _ _ _, _, List.mem_singleton.mpr rfl, ht, s_up σ (a_nx S) x.toInt, o_up α (a_nx S) 0, ?_⟩
    obtain ⟨w1, w2, w3, w4, w5, w6, w7⟩ := hw2
    have hn : s_up σ (a_nx S) x.toInt (a_nx S) = x.toInt := if_pos rfl
    refine ⟨fun q hq => ?_, w2, w3, w4, w5, w6, ⟨x, rfl, by rw [le_sE, hn]⟩, w7⟩
    rcases List.mem_cons.mp hq with e | hq
    · rw [e]
      show lo ≤ s_up σ (a_nx S) x.toInt (a_nx S) ∧ s_up σ (a_nx S) x.toInt (a_nx S) ≤ hi
      rw [hn]
      exact ⟨h1, h2⟩
    · exact w1 q hq
  · cases e9
theorem q_in32 {e : LE} {lv0 : List (Nat × Value)} {st0 : List Value} (hw : TW ρ K KA S lv0 st0 h σ α) (k : t_in32 S e = true) : -2147483648 ≤ le_ev σ e ∧ le_ev σ e ≤ 2147483647 := by
  unfold t_in32 at k
  rw [Bool.and_eq_true] at k
  have h1 := le_entS hw.1 hw.2.1 k.1
  have h2 := le_entS hw.1 hw.2.1 k.2
  rw [le_subE, le_cE] at h1 h2
  omega
theorem q_pw {st0 : List Value} {e : LE} {x : Int32} (ht : TH sp ρ h) (hw : TW ρ K KA S lv' st0 h σ α) (hs : t_sk σ α ρ st st') (hx : -2147483648 ≤ le_ev σ e → le_ev σ e ≤ 2147483647 → x.toInt = le_ev σ e) : T_P sp ρ W K KA (t_pw pc S st e) h (m_go pc lv' (.int x :: st') h) := by
  unfold t_pw
  split
  · next hk =>
    obtain ⟨k1, k2⟩ := q_in32 hw hk
    exact q_pe ht hw hs (hx k1 k2)
  · obtain ⟨k1, k2⟩ := g_iT x
    exact q_pi ht hw hs k1 k2
end
end
section
-- the checker's steps that leave the heap alone
def jx_add (pc : Nat) (S : AST) (st : List AT) : Option (List AO) := match st with
  | .inl y :: .inl x :: r => t_pw (pc + 1) S r (le_add x y)
  | _ => none
def jx_sub (pc : Nat) (S : AST) (st : List AT) : Option (List AO) := match st with
  | .inl y :: .inl x :: r => t_pw (pc + 1) S r (le_sub x y)
  | _ => none
def jx_mul (pc : Nat) (S : AST) (st : List AT) : Option (List AO) := match st with
  | .inl y :: .inl x :: r => if y.1 = [] then t_pw (pc + 1) S r (le_mul y.2 x) else if x.1 = [] then t_pw (pc + 1) S r (le_mul x.2 y) else t_pi (pc + 1) S r (-2147483648) 2147483647
  | _ => none
-- two numbers that are known, else a range that holds anyway
def jx_cc (f : Int32 → Int32 → Int32) (d : LE → LE → Int × Int) (pc : Nat) (S : AST) (st : List AT) : Option (List AO) := match st with
  | .inl y :: .inl x :: r => if x.1 = [] ∧ y.1 = [] then t_pe (pc + 1) S r (le_c (f (Int32.ofInt x.2) (Int32.ofInt y.2)).toInt) else t_pi (pc + 1) S r (d x y).1 (d x y).2
  | _ => none
def d_top : LE → LE → Int × Int := fun _ _ => (-2147483648, 2147483647)
def d_and : LE → LE → Int × Int := fun x y => if y.1 = [] ∧ 0 ≤ y.2 then (0, y.2) else if x.1 = [] ∧ 0 ≤ x.2 then (0, x.2) else (-2147483648, 2147483647)
-- division by a known number above 0
def jx_div (pc : Nat) (S : AST) (st : List AT) : Option (List AO) := match st with
  | .inl y :: .inl x :: r => if y.1 = [] ∧ 0 < y.2 then (match l_ub (a_iv S) x.1 with
      | some u => if le_ent (a_iv S) (a_cs S) (le_mul (-1) x) = true then t_pi (pc + 1) S r 0 ((u + x.2) / y.2) else t_pi (pc + 1) S r (-2147483648) 2147483647
      | none => none) else none
  | _ => none
def jx_rem (pc : Nat) (S : AST) (st : List AT) : Option (List AO) := match st with
  | .inl y :: .inl x :: r => if y.1 = [] ∧ 0 < y.2 then (if le_ent (a_iv S) (a_cs S) (le_mul (-1) x) = true then t_pi (pc + 1) S r 0 (y.2 - 1) else t_pi (pc + 1) S r (-2147483648) 2147483647) else if le_ent (a_iv S) (a_cs S) (le_sub (le_c 1) y) = true then t_pi (pc + 1) S r (-2147483648) 2147483647 else none
  | _ => none
section
variable {sp : List RS} {ρ : Nat → Nat} {W : List (Nat × Nat)} {K : List Int} {KA : List Nat} {S : AST} {lv' : List (Nat × Value)} {st' : List Value} {h : MH} {pc : Nat} {st : List AT} {σ : Nat → Int} {α : Nat → Nat}
theorem t_sc {a : AT} {r : List AT} {v : List Value} (h : t_sk σ α ρ (a :: r) v) : ∃ x q, v = x :: q ∧ t_at σ α ρ a x ∧ t_sk σ α ρ r q := by
  cases v with
  | nil => exact h.elim
  | cons x q => exact ⟨x, q, rfl, h.1, h.2⟩
theorem le_const {e : LE} (h : e.1 = []) : le_ev σ e = e.2 := by
  unfold le_ev
  rw [h]
  exact Int.zero_add _
theorem q_add (ht : TH sp ρ h) (hw : TW ρ K KA S lv' st' h σ α) (hs : t_sk σ α ρ st st') : T_P sp ρ W K KA (jx_add pc S st) h (e_ii (fun x y => x + y) pc lv' st' h) := by
  unfold jx_add
  split
  · next y x r =>
    obtain ⟨v, q, e1, ⟨y', rfl, hy⟩, hq1⟩ := t_sc hs
    obtain ⟨v, q2, e2, ⟨x', rfl, hx⟩, hq⟩ := t_sc hq1
    subst e2
    subst e1
    refine q_pw ht hw hq (fun h1 h2 => ?_)
    rw [le_addE, ← hx, ← hy] at h1 h2 ⊢
    exact i_add _ _ h1 h2
  · exact q_no
theorem q_sub (ht : TH sp ρ h) (hw : TW ρ K KA S lv' st' h σ α) (hs : t_sk σ α ρ st st') : T_P sp ρ W K KA (jx_sub pc S st) h (e_ii (fun x y => x - y) pc lv' st' h) := by
  unfold jx_sub
  split
  · next y x r =>
    obtain ⟨v, q, e1, ⟨y', rfl, hy⟩, hq1⟩ := t_sc hs
    obtain ⟨v, q2, e2, ⟨x', rfl, hx⟩, hq⟩ := t_sc hq1
    subst e2
    subst e1
    refine q_pw ht hw hq (fun h1 h2 => ?_)
    rw [le_subE, ← hx, ← hy] at h1 h2 ⊢
    exact i_sub _ _ h1 h2
  · exact q_no
theorem q_mul (ht : TH sp ρ h) (hw : TW ρ K KA S lv' st' h σ α) (hs : t_sk σ α ρ st st') : T_P sp ρ W K KA (jx_mul pc S st) h (e_ii (fun x y => x * y) pc lv' st' h) := by
  unfold jx_mul
  split
  · next y x r =>
    obtain ⟨v, q, e1, ⟨y', rfl, hy⟩, hq1⟩ := t_sc hs
    obtain ⟨v, q2, e2, ⟨x', rfl, hx⟩, hq⟩ := t_sc hq1
    subst e2
    subst e1
    split
    · next hc =>
      refine q_pw ht hw hq (fun h1 h2 => ?_)
      have e3 : y'.toInt = y.2 := by rw [hy, le_const hc]
      rw [le_mulE, ← hx, ← e3, Int.mul_comm] at h1 h2 ⊢
      exact i_mul _ _ h1 h2
    · split
      · next hc =>
        refine q_pw ht hw hq (fun h1 h2 => ?_)
        have e3 : x'.toInt = x.2 := by rw [hx, le_const hc]
        rw [le_mulE, ← hy, ← e3] at h1 h2 ⊢
        exact i_mul _ _ h1 h2
      · obtain ⟨k1, k2⟩ := g_iT (x' * y')
        exact q_pi ht hw hq k1 k2
  · exact q_no
theorem q_cc (f : Int32 → Int32 → Int32) (d : LE → LE → Int × Int) (hd : ∀ (x y : LE) (x' y' : Int32), x'.toInt = le_ev σ x → y'.toInt = le_ev σ y → (d x y).1 ≤ (f x' y').toInt ∧ (f x' y').toInt ≤ (d x y).2) (ht : TH sp ρ h) (hw : TW ρ K KA S lv' st' h σ α) (hs : t_sk σ α ρ st st') : T_P sp ρ W K KA (jx_cc f d pc S st) h (e_ii f pc lv' st' h) := by
  unfold jx_cc
  split
  · next y x r =>
    obtain ⟨v, q, e1, ⟨y', rfl, hy⟩, hq1⟩ := t_sc hs
    obtain ⟨v, q2, e2, ⟨x', rfl, hx⟩, hq⟩ := t_sc hq1
    subst e2
    subst e1
    split
    · next hc =>
      have e3 : Int32.ofInt x.2 = x' := by rw [← le_const (σ := σ) hc.1, ← hx, Int32.ofInt_toInt]
      have e4 : Int32.ofInt y.2 = y' := by rw [← le_const (σ := σ) hc.2, ← hy, Int32.ofInt_toInt]
      rw [e3, e4]
      exact q_pe ht hw hq (by rw [le_cE])
    · obtain ⟨k1, k2⟩ := hd x y x' y' hx hy
      exact q_pi ht hw hq k1 k2
  · exact q_no
theorem d_topS (f : Int32 → Int32 → Int32) (x y : LE) (x' y' : Int32) (_ : x'.toInt = le_ev σ x) (_ : y'.toInt = le_ev σ y) : (d_top x y).1 ≤ (f x' y').toInt ∧ (f x' y').toInt ≤ (d_top x y).2 := g_iT _
theorem i_andR (x y : Int32) (hy : 0 ≤ y.toInt) : 0 ≤ (x &&& y).toInt ∧ (x &&& y).toInt ≤ y.toInt := by
  have hyb := Int32.toInt_lt y
  have e1 : y.toInt = y.toBitVec.toInt := rfl
  have hmy : 2 * y.toBitVec.toNat < 2 ^ 32 := by
    rcases Nat.lt_or_ge (2 * y.toBitVec.toNat) (2 ^ 32) with q | q
    · exact q
    · have := BitVec.toInt_eq_toNat_cond y.toBitVec
      rw [if_neg (by omega)] at this
      have h2 := y.toBitVec.isLt
      omega
  have e2 : y.toInt = (y.toBitVec.toNat : Int) := BitVec.toInt_eq_toNat_of_lt hmy
  have h3 : (x &&& y).toBitVec.toNat ≤ y.toBitVec.toNat := by
    rw [Int32.toBitVec_and, BitVec.toNat_and]
    exact Nat.and_le_right
  have e3 : (x &&& y).toInt = ((x &&& y).toBitVec.toNat : Int) := BitVec.toInt_eq_toNat_of_lt (by omega)
  rw [e3, e2]
  omega
theorem d_andS (x y : LE) (x' y' : Int32) (hx : x'.toInt = le_ev σ x) (hy : y'.toInt = le_ev σ y) : (d_and x y).1 ≤ (x' &&& y').toInt ∧ (x' &&& y').toInt ≤ (d_and x y).2 := by
  unfold d_and
  split
  · next hc =>
    have e := le_const (σ := σ) hc.1
    have := i_andR x' y' (by omega)
    dsimp only
    omega
  · split
    · next hc =>
      have e := le_const (σ := σ) hc.1
      have := i_andR y' x' (by omega)
      rw [Int32.and_comm] at this
      dsimp only
      omega
    · exact g_iT _
theorem q_div (ht : TH sp ρ h) (hw : TW ρ K KA S lv' st' h σ α) (hs : t_sk σ α ρ st st') : T_P sp ρ W K KA (jx_div pc S st) h (e_dv (fun x y => x / y) pc lv' st' h) := by
  unfold jx_div
  split
  · next y x r =>
    obtain ⟨v, q, e1, ⟨y', rfl, hy⟩, hq1⟩ := t_sc hs
    obtain ⟨v, q2, e2, ⟨x', rfl, hx⟩, hq⟩ := t_sc hq1
    subst e2
    subst e1
    split
    · next hc =>
      have e := le_const (σ := σ) hc.1
      have hy0 : ¬ y' = 0 := fun z => by
        rw [z] at hy
        have : (0 : Int32).toInt = 0 := by decide
        omega
      show T_P sp ρ W K KA _ h (if y' = 0 then none else _)
      rw [if_neg hy0]
      split
      · next u hu =>
        split
        · next hn =>
          have h1 := le_entS hw.1 hw.2.1 hn
          rw [le_mulE] at h1
          have h2 := l_ubS hw.1 x.1 u hu
          have hx0 : 0 ≤ x'.toInt := by omega
          have hd := i_div x' y' hx0 (by omega)
          have hxu : x'.toInt ≤ u + x.2 := by
            rw [hx]
            unfold le_ev
            omega
          have h4 : 0 ≤ x'.toInt / y'.toInt := Int.ediv_nonneg hx0 (by omega)
          have h5 : x'.toInt / y'.toInt ≤ (u + x.2) / y.2 := by
            rw [hy, e]
            exact Int.ediv_le_ediv hc.2 hxu
          exact q_pi ht hw hq (by rw [hd]; exact h4) (by rw [hd]; exact h5)
        · obtain ⟨k1, k2⟩ := g_iT (x' / y')
          exact q_pi ht hw hq k1 k2
      · exact q_no
    · exact q_no
  · exact q_no
theorem i_rem (x y : Int32) (hx : 0 ≤ x.toInt) (hy : 0 < y.toInt) : 0 ≤ (x - x / y * y).toInt ∧ (x - x / y * y).toInt ≤ y.toInt - 1 := by
  have hd := i_div x y hx hy
  have h1 := Int32.toInt_lt x
  have h4 : 0 ≤ x.toInt / y.toInt := Int.ediv_nonneg hx (by omega)
  have h5 : x.toInt / y.toInt * y.toInt ≤ x.toInt := Int.ediv_mul_le _ (by omega)
  have h6 : 0 ≤ x.toInt / y.toInt * y.toInt := Int.mul_nonneg h4 (by omega)
  have hm : (x / y * y).toInt = x.toInt / y.toInt * y.toInt := by
    rw [i_mul _ _ (by rw [hd]; omega) (by rw [hd]; omega), hd]
  have h7 := Int.emod_lt_of_pos x.toInt hy
  have h8 := Int.emod_nonneg x.toInt (show y.toInt ≠ 0 by omega)
  have h9 := Int.emod_add_mul_ediv x.toInt y.toInt
  rw [Int.mul_comm] at h9
  rw [i_sub _ _ (by rw [hm]; omega) (by rw [hm]; omega), hm]
  omega
theorem q_rem (ht : TH sp ρ h) (hw : TW ρ K KA S lv' st' h σ α) (hs : t_sk σ α ρ st st') : T_P sp ρ W K KA (jx_rem pc S st) h (e_dv (fun x y => x - x / y * y) pc lv' st' h) := by
  unfold jx_rem
  split
  · next y x r =>
    obtain ⟨v, q, e1, ⟨y', rfl, hy⟩, hq1⟩ := t_sc hs
    obtain ⟨v, q2, e2, ⟨x', rfl, hx⟩, hq⟩ := t_sc hq1
    subst e2
    subst e1
    have hz : ∀ z : 0 < y'.toInt, ¬ y' = 0 := fun z e => by
      rw [e] at z
      exact absurd z (by decide)
    show T_P sp ρ W K KA _ h (if y' = 0 then none else _)
    split
    · next hc =>
      have e := le_const (σ := σ) hc.1
      have hy1 : 0 < y'.toInt := by omega
      rw [if_neg (hz hy1)]
      split
      · next hn =>
        have h1 := le_entS hw.1 hw.2.1 hn
        rw [le_mulE] at h1
        obtain ⟨k1, k2⟩ := i_rem x' y' (by omega) hy1
        exact q_pi ht hw hq k1 (by show (x' - x' / y' * y').toInt ≤ y.2 - 1; omega)
      · obtain ⟨k1, k2⟩ := g_iT (x' - x' / y' * y')
        exact q_pi ht hw hq k1 k2
    · split
      · next hn =>
        have h1 := le_entS hw.1 hw.2.1 hn
        rw [le_subE, le_cE] at h1
        rw [if_neg (hz (by omega))]
        obtain ⟨k1, k2⟩ := g_iT (x' - x' / y' * y')
        exact q_pi ht hw hq k1 k2
      · exact q_no
  · exact q_no
-- one int
def jx_i1 (f : Int32 → Int32) (lo hi : Int) (pc : Nat) (S : AST) (st : List AT) : Option (List AO) := match st with
  | .inl x :: r => if x.1 = [] then t_pe (pc + 1) S r (le_c (f (Int32.ofInt x.2)).toInt) else t_pi (pc + 1) S r lo hi
  | _ => none
theorem q_i1 (f : Int32 → Int32) (lo hi : Int) (hd : ∀ x', lo ≤ (f x').toInt ∧ (f x').toInt ≤ hi) (ht : TH sp ρ h) (hw : TW ρ K KA S lv' st' h σ α) (hs : t_sk σ α ρ st st') : T_P sp ρ W K KA (jx_i1 f lo hi pc S st) h (e_i (fun x => .int (f x)) pc lv' st' h) := by
  unfold jx_i1
  split
  · next x r =>
    obtain ⟨v, q, e1, ⟨x', rfl, hx⟩, hq⟩ := t_sc hs
    subst e1
    split
    · next hc =>
      have e3 : Int32.ofInt x.2 = x' := by rw [← le_const (σ := σ) hc, ← hx, Int32.ofInt_toInt]
      rw [e3]
      exact q_pe ht hw hq (by rw [le_cE])
    · obtain ⟨k1, k2⟩ := hd x'
      exact q_pi ht hw hq k1 k2
  · exact q_no
def jx_neg (pc : Nat) (S : AST) (st : List AT) : Option (List AO) := match st with
  | .inl x :: r => t_pw (pc + 1) S r (le_mul (-1) x)
  | _ => none
theorem q_neg (ht : TH sp ρ h) (hw : TW ρ K KA S lv' st' h σ α) (hs : t_sk σ α ρ st st') : T_P sp ρ W K KA (jx_neg pc S st) h (e_i (fun x => .int (-x)) pc lv' st' h) := by
  unfold jx_neg
  split
  · next x r =>
    obtain ⟨v, q, e1, ⟨x', rfl, hx⟩, hq⟩ := t_sc hs
    subst e1
    refine q_pw ht hw hq (fun h1 h2 => ?_)
    rw [le_mulE] at h1 h2 ⊢
    rw [i_neg x' (by omega)]
    omega
  · exact q_no
-- longs: nothing is known of them
def t_pl (pc : Nat) (S : AST) (st : List AT) : Option (List AO) := t_go pc S (.inr (.inl ()) :: st)
theorem q_pl {st0 : List Value} {x : Int64} (ht : TH sp ρ h) (hw : TW ρ K KA S lv' st0 h σ α) (hs : t_sk σ α ρ st st') : T_P sp ρ W K KA (t_pl pc S st) h (m_go pc lv' (.long x :: st') h) := q_go (st' := .long x :: st') ht hw ⟨⟨x, rfl⟩, hs⟩
def jx_ll (pc : Nat) (S : AST) (st : List AT) : Option (List AO) := match st with
  | .inr (.inl _) :: .inr (.inl _) :: r => t_pl (pc + 1) S r
  | _ => none
theorem q_ll (f : Int64 → Int64 → Int64) (ht : TH sp ρ h) (hw : TW ρ K KA S lv' st' h σ α) (hs : t_sk σ α ρ st st') : T_P sp ρ W K KA (jx_ll pc S st) h (e_ll f pc lv' st' h) := by
  unfold jx_ll
  split
  · next u1 u2 r =>
    obtain ⟨v, q, e1, ⟨y', rfl⟩, hq1⟩ := t_sc hs
    obtain ⟨v, q2, e2, ⟨x', rfl⟩, hq⟩ := t_sc hq1
    subst e2
    subst e1
    exact q_pl (x := f x' y') ht hw hq
  · exact q_no
def jx_li (pc : Nat) (S : AST) (st : List AT) : Option (List AO) := match st with
  | .inl _ :: .inr (.inl _) :: r => t_pl (pc + 1) S r
  | _ => none
theorem q_li (f : Int64 → Int32 → Int64) (ht : TH sp ρ h) (hw : TW ρ K KA S lv' st' h σ α) (hs : t_sk σ α ρ st st') : T_P sp ρ W K KA (jx_li pc S st) h (e_li f pc lv' st' h) := by
  unfold jx_li
  split
  · next u1 u2 r =>
    obtain ⟨v, q, e1, ⟨y', rfl, _⟩, hq1⟩ := t_sc hs
    obtain ⟨v, q2, e2, ⟨x', rfl⟩, hq⟩ := t_sc hq1
    subst e2
    subst e1
    exact q_pl (x := f x' y') ht hw hq
  · exact q_no
def jx_il (pc : Nat) (S : AST) (st : List AT) : Option (List AO) := match st with
  | .inl _ :: r => t_pl (pc + 1) S r
  | _ => none
theorem q_il (f : Int32 → Int64) (ht : TH sp ρ h) (hw : TW ρ K KA S lv' st' h σ α) (hs : t_sk σ α ρ st st') : T_P sp ρ W K KA (jx_il pc S st) h (e_i (fun x => .long (f x)) pc lv' st' h) := by
  unfold jx_il
  split
  · next u1 r =>
    obtain ⟨v, q, e1, ⟨y', rfl, _⟩, hq⟩ := t_sc hs
    subst e1
    exact q_pl (x := f y') ht hw hq
  · exact q_no
def jx_l1 (pc : Nat) (S : AST) (st : List AT) : Option (List AO) := match st with
  | .inr (.inl _) :: r => t_pl (pc + 1) S r
  | _ => none
theorem q_l1 (f : Int64 → Int64) (ht : TH sp ρ h) (hw : TW ρ K KA S lv' st' h σ α) (hs : t_sk σ α ρ st st') : T_P sp ρ W K KA (jx_l1 pc S st) h (e_l (fun x => .long (f x)) pc lv' st' h) := by
  unfold jx_l1
  split
  · next u1 r =>
    obtain ⟨v, q, e1, ⟨y', rfl⟩, hq⟩ := t_sc hs
    subst e1
    exact q_pl (x := f y') ht hw hq
  · exact q_no
def jx_l2i (pc : Nat) (S : AST) (st : List AT) : Option (List AO) := match st with
  | .inr (.inl _) :: r => t_pi (pc + 1) S r (-2147483648) 2147483647
  | _ => none
theorem q_l2i (f : Int64 → Int32) (ht : TH sp ρ h) (hw : TW ρ K KA S lv' st' h σ α) (hs : t_sk σ α ρ st st') : T_P sp ρ W K KA (jx_l2i pc S st) h (e_l (fun x => .int (f x)) pc lv' st' h) := by
  unfold jx_l2i
  split
  · next u1 r =>
    obtain ⟨v, q, e1, ⟨y', rfl⟩, hq⟩ := t_sc hs
    subst e1
    obtain ⟨k1, k2⟩ := g_iT (f y')
    exact q_pi ht hw hq k1 k2
  · exact q_no
end
end
section
-- the checker's ways: locals, branches
def a_cat (t : AT) : Nat := match t with
  | .inr (.inl _) => 2
  | _ => 1
def a_s1 (lv : List (Nat × AT)) (i : Nat) (v : AT) : List (Nat × AT) := (i, v) :: lv.filter (fun q => !(q.1 == i) && !(q.1 + 1 == i && a_cat q.2 == 2))
def a_s2 (lv : List (Nat × AT)) (i : Nat) (v : AT) : List (Nat × AT) := (i, v) :: lv.filter (fun q => !(q.1 == i) && (!(q.1 == i + 1) && !(q.1 + 1 == i && a_cat q.2 == 2)))
section
variable {sp : List RS} {ρ : Nat → Nat} {W : List (Nat × Nat)} {K : List Int} {KA : List Nat} {S : AST} {lv' : List (Nat × Value)} {st' : List Value} {h : MH} {pc : Nat} {st : List AT} {σ : Nat → Int} {α : Nat → Nat}
theorem a_catE {t : AT} {v : Value} (h : t_at σ α ρ t v) : v.category = a_cat t := by
  cases t with
  | inl e =>
    obtain ⟨x, rfl, -⟩ := h
    rfl
  | inr t => cases t with
    | inl u =>
      obtain ⟨x, rfl⟩ := h
      rfl
    | inr q =>
      obtain ⟨rfl, -⟩ := h
      rfl
theorem t_lk {k : Nat} {a : AT} : ∀ {l : List (Nat × AT)} {v : List (Nat × Value)}, t_lv σ α ρ l v → m_lk l k = some a → ∃ x, m_lk v k = some x ∧ t_at σ α ρ a x
  | [], [], _, e => by cases e
  | p :: r, v :: q, h, e => by
    rw [m_lkc] at e
    rw [m_lkc, h.1.1]
    by_cases hk : p.1 = k
    · rw [if_pos hk] at e ⊢
      cases e
      exact ⟨_, rfl, h.1.2⟩
    · rw [if_neg hk] at e ⊢
      exact t_lk h.2 e
  | [], _ :: _, h, _ => h.elim
  | _ :: _, [], h, _ => h.elim
theorem t_fi {p : Nat × AT → Bool} {p' : Nat × Value → Bool} (hp : ∀ (a : Nat × AT) (v : Nat × Value), v.1 = a.1 → t_at σ α ρ a.2 v.2 → p' v = p a) : ∀ {l : List (Nat × AT)} {v : List (Nat × Value)}, t_lv σ α ρ l v → t_lv σ α ρ (l.filter p) (v.filter p')
  | [], [], _ => trivial
  | a :: r, v :: q, h => by
    have e := hp a v h.1.1 h.1.2
    rw [List.filter_cons, List.filter_cons, e]
    by_cases hk : p a = true
    · rw [if_pos hk, if_pos hk]
      exact ⟨h.1, t_fi hp h.2⟩
    · rw [if_neg hk, if_neg hk]
      exact t_fi hp h.2
  | [], _ :: _, h => h.elim
  | _ :: _, [], h => h.elim
theorem t_s1 {l : List (Nat × AT)} {v : List (Nat × Value)} {k : Nat} {a : AT} {x : Value} (h : t_lv σ α ρ l v) (hv : t_at σ α ρ a x) : t_lv σ α ρ (a_s1 l k a) (m_s1 v k x) :=
  ⟨⟨rfl, hv⟩, t_fi (fun a v e g => by rw [e, a_catE g]) h⟩
theorem t_s2 {l : List (Nat × AT)} {v : List (Nat × Value)} {k : Nat} {a : AT} {x : Value} (h : t_lv σ α ρ l v) (hv : t_at σ α ρ a x) : t_lv σ α ρ (a_s2 l k a) (m_s2 v k x) :=
  ⟨⟨rfl, hv⟩, t_fi (fun a v e g => by rw [e, a_catE g]) h⟩
end
-- loads and stores
def j_ild (k pc : Nat) (S : AST) : Option (List AO) := match m_lk (a_lv S) k with
  | some (.inl e) => t_pe pc S (a_st S) e
  | _ => none
def j_lld (k pc : Nat) (S : AST) : Option (List AO) := match m_lk (a_lv S) k with
  | some (.inr (.inl _)) => t_pl pc S (a_st S)
  | _ => none
def j_ald (k pc : Nat) (S : AST) : Option (List AO) := match m_lk (a_lv S) k with
  | some (.inr (.inr q)) => t_go pc S (.inr (.inr q) :: a_st S)
  | _ => none
def t_gl (pc : Nat) (S : AST) (lv : List (Nat × AT)) (st : List AT) : Option (List AO) := some [(pc, w_fs S lv st)]
def j_ist (n k pc : Nat) (S : AST) : Option (List AO) := match a_st S with
  | .inl e :: r => if k < n then t_gl pc S (a_s1 (a_lv S) k (.inl e)) r else none
  | _ => none
def j_lst (n k pc : Nat) (S : AST) : Option (List AO) := match a_st S with
  | .inr (.inl u) :: r => if k + 1 < n then t_gl pc S (a_s2 (a_lv S) k (.inr (.inl u))) r else none
  | _ => none
def j_ast (n k pc : Nat) (S : AST) : Option (List AO) := match a_st S with
  | .inr (.inr q) :: r => if k < n then t_gl pc S (a_s1 (a_lv S) k (.inr (.inr q))) r else none
  | _ => none
-- what a branch teaches: none, if it can't be
def t_rg (S : AST) (k : Nat) (lo hi : Int) : Option AST := if hi < lo then none else some (w_iv S ((k, (lo, hi)) :: a_iv S))
def t_asm (e : LE) (S : AST) : Option AST := match e.1 with
  | [] => if 0 < e.2 then none else some S
  | [(k, a)] => (match m_lk (a_iv S) k with
    | some p => if a = 1 then t_rg S k p.1 (if -e.2 < p.2 then -e.2 else p.2) else if a = -1 then t_rg S k (if p.1 < e.2 then e.2 else p.1) p.2 else some (w_cs S (e :: a_cs S))
    | none => some (w_cs S (e :: a_cs S)))
  | _ => some (w_cs S (e :: a_cs S))
def t_nq (e : LE) (S : AST) : Option AST := match e.1 with
  | [] => if e.2 = 0 then none else some S
  | [(k, a)] => (match m_lk (a_iv S) k with
    | some p => if a = 1 ∨ a = -1 then (if p.1 = -(a * e.2) then t_rg S k (p.1 + 1) p.2 else if p.2 = -(a * e.2) then t_rg S k p.1 (p.2 - 1) else some S) else some S
    | none => some S)
  | _ => some S
def t_cnd (c : ClassFile.Cond) (x y : LE) (S : AST) : Option AST := match c with
  | .lt => t_asm (le_add (le_sub x y) (le_c 1)) S
  | .ge => t_asm (le_sub y x) S
  | .gt => t_asm (le_add (le_sub y x) (le_c 1)) S
  | .le => t_asm (le_sub x y) S
  | .eq => (t_asm (le_sub x y) S).bind (t_asm (le_sub y x))
  | .ne => t_nq (le_sub x y) S
def t_neg (c : ClassFile.Cond) : ClassFile.Cond := match c with
  | .lt => .ge
  | .ge => .lt
  | .gt => .le
  | .le => .gt
  | .eq => .ne
  | .ne => .eq
def t_br (c : ClassFile.Cond) (x y : LE) (pc : Nat) (off : Int) (S : AST) (st : List AT) : Option (List AO) := if 0 ≤ (pc : Int) + off then some (((t_cnd c x y (w_fs S (a_lv S) st)).map (fun S => (((pc : Int) + off).toNat, S))).toList ++ ((t_cnd (t_neg c) x y (w_fs S (a_lv S) st)).map (fun S => (pc + 3, S))).toList) else none
section
variable {sp : List RS} {ρ : Nat → Nat} {W : List (Nat × Nat)} {K : List Int} {KA : List Nat} {S : AST} {lv' : List (Nat × Value)} {st' : List Value} {h : MH} {pc : Nat} {st : List AT} {σ : Nat → Int} {α : Nat → Nat}
theorem r_rg {k : Nat} {lo hi : Int} (hw : TW ρ K KA S lv' st' h σ α) (h1 : lo ≤ σ k) (h2 : σ k ≤ hi) : ∃ S', t_rg S k lo hi = some S' ∧ TW ρ K KA S' lv' st' h σ α := by
  unfold t_rg
  rw [if_neg (by omega)]
  obtain ⟨w1, w2, w3, w4, w5, w6, w7⟩ := hw
  refine ⟨_, rfl, fun q hq => ?_, w2, w3, w4, w5, w6, w7⟩
  rcases List.mem_cons.mp hq with e | hq
  · rw [e]
    exact ⟨h1, h2⟩
  · exact w1 q hq
theorem r_cs {e : LE} (hw : TW ρ K KA S lv' st' h σ α) (he : le_ev σ e ≤ 0) : ∃ S', some (w_cs S (e :: a_cs S)) = some S' ∧ TW ρ K KA S' lv' st' h σ α := by
  obtain ⟨w1, w2, w3, w4, w5, w6, w7⟩ := hw
  refine ⟨_, rfl, w1, fun q hq => ?_, w3, w4, w5, w6, w7⟩
  rcases List.mem_cons.mp hq with e9 | hq
  · rw [e9]
    exact he
  · exact w2 q hq
theorem r_asm {e : LE} (hw : TW ρ K KA S lv' st' h σ α) (he : le_ev σ e ≤ 0) : ∃ S', t_asm e S = some S' ∧ TW ρ K KA S' lv' st' h σ α := by
  obtain ⟨l, c⟩ := e
  unfold t_asm
  dsimp only
  split
  · have : le_ev σ ([], c) = c := Int.zero_add c
    rw [if_neg (by omega)]
    exact ⟨S, rfl, hw⟩
  · next k a =>
    have e1 : le_ev σ ([(k, a)], c) = a * σ k + 0 + c := rfl
    split
    · next p hp =>
      have hr := iv_lk hw.1 hp
      split
      · next h1 =>
        rw [e1, h1] at he
        refine r_rg hw hr.1 ?_
        split <;> omega
      · split
        · next h1 =>
          rw [e1, h1] at he
          refine r_rg hw ?_ hr.2
          split <;> omega
        · exact r_cs hw he
    · exact r_cs hw he
  · exact r_cs hw he
theorem r_ne {e : LE} (hw : TW ρ K KA S lv' st' h σ α) (he : le_ev σ e ≠ 0) : ∃ S', t_nq e S = some S' ∧ TW ρ K KA S' lv' st' h σ α := by
  obtain ⟨l, c⟩ := e
  unfold t_nq
  dsimp only
  split
  · have : le_ev σ ([], c) = c := Int.zero_add c
    rw [if_neg (by omega)]
    exact ⟨S, rfl, hw⟩
  · next k a =>
    have e1 : le_ev σ ([(k, a)], c) = a * σ k + 0 + c := rfl
    split
    · next p hp =>
      have hr := iv_lk hw.1 hp
      split
      · next h1 =>
        have hne : σ k ≠ -(a * c) := fun z => by
          rcases h1 with h1 | h1
          · rw [e1, h1] at he
            rw [h1] at z
            omega
          · rw [e1, h1] at he
            rw [h1] at z
            omega
        split
        · next h2 => exact r_rg hw (by omega) hr.2
        · split
          · next h2 => exact r_rg hw hr.1 (by omega)
          · exact ⟨S, rfl, hw⟩
      · exact ⟨S, rfl, hw⟩
    · exact ⟨S, rfl, hw⟩
  · exact ⟨S, rfl, hw⟩
theorem r_cnd {c : ClassFile.Cond} {x y : LE} {x' y' : Int32} (hx : x'.toInt = le_ev σ x) (hy : y'.toInt = le_ev σ y) (hw : TW ρ K KA S lv' st' h σ α) (hb : m_cmp c x' y' = true) : ∃ S', t_cnd c x y S = some S' ∧ TW ρ K KA S' lv' st' h σ α := by
  cases c with
  | lt =>
    have h1 := Int32.lt_iff_toInt_lt.mp (of_decide_eq_true hb)
    exact r_asm hw (by rw [le_addE, le_subE, le_cE]; omega)
  | ge =>
    have h1 := Int32.le_iff_toInt_le.mp (of_decide_eq_true hb)
    exact r_asm hw (by rw [le_subE]; omega)
  | gt =>
    have h1 := Int32.lt_iff_toInt_lt.mp (of_decide_eq_true hb)
    exact r_asm hw (by rw [le_addE, le_subE, le_cE]; omega)
  | le =>
    have h1 := Int32.le_iff_toInt_le.mp (of_decide_eq_true hb)
    exact r_asm hw (by rw [le_subE]; omega)
  | eq =>
    have h1 : x' = y' := of_decide_eq_true hb
    obtain ⟨S1, e1, w1⟩ := r_asm (e := le_sub x y) hw (by rw [le_subE]; rw [h1] at hx; omega)
    obtain ⟨S2, e2, w2⟩ := r_asm (e := le_sub y x) w1 (by rw [le_subE]; rw [h1] at hx; omega)
    refine ⟨S2, ?_, w2⟩
    show (t_asm (le_sub x y) S).bind (t_asm (le_sub y x)) = some S2
    rw [e1]
    exact e2
  | ne =>
    have h1 : (!decide (x' = y')) = true := hb
    rw [Bool.not_eq_true'] at h1
    have h2 : ¬ x' = y' := of_decide_eq_false h1
    exact r_ne hw (by rw [le_subE]; intro z; exact h2 (Int32.toInt_inj.mp (by omega)))
theorem m_neg (c : ClassFile.Cond) (x y : Int32) : m_cmp (t_neg c) x y = !m_cmp c x y := by
  cases c with
  | lt => exact g_ge x y
  | ge =>
    show decide (x < y) = !decide (y ≤ x)
    rw [g_ge]
    cases decide (x < y) <;> rfl
  | gt => exact g_ge y x
  | le =>
    show decide (y < x) = !decide (x ≤ y)
    rw [g_ge]
    cases decide (y < x) <;> rfl
  | eq => rfl
  | ne =>
    show decide (x = y) = !(!decide (x = y))
    cases decide (x = y) <;> rfl
theorem q_br {c : ClassFile.Cond} {x y : LE} {x' y' : Int32} {off : Int} {st0 : List Value} (hx : x'.toInt = le_ev σ x) (hy : y'.toInt = le_ev σ y) (ht : TH sp ρ h) (hw : TW ρ K KA S lv' st0 h σ α) (hs : t_sk σ α ρ st st') : T_P sp ρ W K KA (t_br c x y pc off S st) h (m_br (m_cmp c x' y') pc off lv' st' h) := by
  have hw2 := q_fs (st := st) (st' := st') hw hw.2.2.2.2.2.1 hs
  unfold t_br m_br
  by_cases h0 : 0 ≤ (pc : Int) + off
  · rw [if_pos h0, if_pos h0]
    intro L e
    cases e
    cases hb : m_cmp c x' y' with
    | true =>
      obtain ⟨S', e1, w⟩ := r_cnd hx hy hw2 hb
      refine ⟨_, lv', st', h, rfl, FR.refl _ _ _, S', List.mem_append_left _ ?_, ht, σ, α, w⟩
      rw [e1]
      exact List.mem_singleton.mpr rfl
    | false =>
      obtain ⟨S', e1, w⟩ := r_cnd hx hy hw2 (c := t_neg c) (by rw [m_neg, hb]; rfl)
      refine ⟨_, lv', st', h, rfl, FR.refl _ _ _, S', List.mem_append_right _ ?_, ht, σ, α, w⟩
      rw [e1]
      exact List.mem_singleton.mpr rfl
  · rw [if_neg h0]
    exact q_no
theorem q_ild (k : Nat) (ht : TH sp ρ h) (hw : TW ρ K KA S lv' st' h σ α) : T_P sp ρ W K KA (j_ild k pc S) h (e_ild k pc lv' st' h) := by
  unfold j_ild e_ild
  split
  · next e he =>
    obtain ⟨v, e2, ⟨x, rfl, hx⟩⟩ := t_lk hw.2.2.2.2.2.1 he
    rw [e2]
    exact q_pe ht hw hw.2.2.2.2.2.2 hx
  · exact q_no
theorem q_lld (k : Nat) (ht : TH sp ρ h) (hw : TW ρ K KA S lv' st' h σ α) : T_P sp ρ W K KA (j_lld k pc S) h (e_lld k pc lv' st' h) := by
  unfold j_lld e_lld
  split
  · next u he =>
    obtain ⟨v, e2, ⟨x, rfl⟩⟩ := t_lk hw.2.2.2.2.2.1 he
    rw [e2]
    exact q_pl ht hw hw.2.2.2.2.2.2
  · exact q_no
theorem q_ald (k : Nat) (ht : TH sp ρ h) (hw : TW ρ K KA S lv' st' h σ α) : T_P sp ρ W K KA (j_ald k pc S) h (e_ald k pc lv' st' h) := by
  unfold j_ald e_ald
  split
  · next q he =>
    obtain ⟨v, e2, hv⟩ := t_lk hw.2.2.2.2.2.1 he
    have hv2 := hv
    obtain ⟨rfl, -⟩ := hv2
    rw [e2]
    exact q_go (st := .inr (.inr q) :: a_st S) ht hw ⟨hv, hw.2.2.2.2.2.2⟩
  · exact q_no
theorem q_gl {lv : List (Nat × AT)} {lv0 : List (Nat × Value)} {st0 : List Value} (ht : TH sp ρ h) (hw : TW ρ K KA S lv0 st0 h σ α) (hl : t_lv σ α ρ lv lv') (hs : t_sk σ α ρ st st') : T_P sp ρ W K KA (t_gl pc S lv st) h (m_go pc lv' st' h) := fun L e => by
  cases (Option.some.inj e)
  exact ⟨pc, lv', st', h, rfl, FR.refl _ _ _, _, List.mem_singleton.mpr rfl, ht, σ, α, q_fs hw hl hs⟩
theorem q_ist (n k : Nat) (ht : TH sp ρ h) (hw : TW ρ K KA S lv' st' h σ α) : T_P sp ρ W K KA (j_ist n k pc S) h (e_ist n k pc lv' st' h) := by
  have hs := hw.2.2.2.2.2.2
  unfold j_ist
  split
  · next e r hst =>
    rw [hst] at hs
    obtain ⟨v, q, rfl, ⟨x, rfl, hx⟩, hq⟩ := t_sc hs
    show T_P sp ρ W K KA _ h (if k < n then _ else none)
    split
    · exact q_gl ht hw (t_s1 hw.2.2.2.2.2.1 ⟨x, rfl, hx⟩) hq
    · exact q_no
  · exact q_no
theorem q_lst (n k : Nat) (ht : TH sp ρ h) (hw : TW ρ K KA S lv' st' h σ α) : T_P sp ρ W K KA (j_lst n k pc S) h (e_lst n k pc lv' st' h) := by
  have hs := hw.2.2.2.2.2.2
  unfold j_lst
  split
  · next u r hst =>
    rw [hst] at hs
    obtain ⟨v, q, rfl, ⟨x, rfl⟩, hq⟩ := t_sc hs
    show T_P sp ρ W K KA _ h (if k + 1 < n then _ else none)
    split
    · exact q_gl ht hw (t_s2 hw.2.2.2.2.2.1 ⟨x, rfl⟩) hq
    · exact q_no
  · exact q_no
theorem q_ast (n k : Nat) (ht : TH sp ρ h) (hw : TW ρ K KA S lv' st' h σ α) : T_P sp ρ W K KA (j_ast n k pc S) h (e_ast n k pc lv' st' h) := by
  have hs := hw.2.2.2.2.2.2
  unfold j_ast
  split
  · next q0 r hst =>
    rw [hst] at hs
    obtain ⟨v, q, rfl, hv, hq⟩ := t_sc hs
    have hv2 := hv
    obtain ⟨rfl, -⟩ := hv2
    show T_P sp ρ W K KA _ h (if k < n then _ else none)
    split
    · exact q_gl ht hw (t_s1 hw.2.2.2.2.2.1 hv) hq
    · exact q_no
  · exact q_no
end
end
section
-- the checker's readings of the heap
def c_lk : CA → (Nat × (Nat × Nat)) → Option AT
  | [], _ => none
  | q :: r, k => if q.1 = k then some q.2 else c_lk r k
theorem c_lkm : ∀ {ca : CA} {k : Nat × (Nat × Nat)} {t : AT}, c_lk ca k = some t → (k, t) ∈ ca
  | [], _, _, h => by cases h
  | q :: r, k, t, h => by
    rw [c_lk] at h
    by_cases hq : q.1 = k
    · rw [if_pos hq] at h
      cases h
      rw [← hq]
      exact List.mem_cons_self
    · rw [if_neg hq] at h
      exact List.mem_cons_of_mem _ (c_lkm h)
-- a new int from a field, with its range, and the field known by it (if it is to be: kn)
def t_ri (pc : Nat) (S : AST) (st : List AT) (kn : Bool) (o R k : Nat) (lo hi : Int) : Option (List AO) := if f_S (a_nx S) (w_fs S (a_lv S) st) = true ∧ o ≠ a_nx S then some [(pc, w_nx (w_fs (w_ca (w_iv S ((a_nx S, (lo, hi)) :: a_iv S)) (if kn then ((o, (R, k)), .inl (le_s (a_nx S))) :: a_ca S else a_ca S)) (a_lv S) (.inl (le_s (a_nx S)) :: st)) (a_nx S + 1))] else none
def t_rr (pc : Nat) (S : AST) (st : List AT) (kn : Bool) (o R k R2 : Nat) (nn : Bool) : Option (List AO) := if f_S (a_nx S) (w_fs S (a_lv S) st) = true ∧ o ≠ a_nx S then some [(pc, w_nx (w_fs (w_ca S (if kn then ((o, (R, k)), .inr (.inr (a_nx S, (R2, nn)))) :: a_ca S else a_ca S)) (a_lv S) (.inr (.inr (a_nx S, (R2, nn))) :: st)) (a_nx S + 1))] else none
section
variable {sp : List RS} {ρ : Nat → Nat} {W : List (Nat × Nat)} {K : List Int} {KA : List Nat} {S : AST} {lv' : List (Nat × Value)} {st' : List Value} {h : MH} {pc : Nat} {st : List AT} {σ : Nat → Int} {α : Nat → Nat}
theorem q_ri {st0 : List Value} {kn : Bool} {o R k : Nat} {lo hi : Int} {x : Int32} (ht : TH sp ρ h) (hw : TW ρ K KA S lv' st0 h σ α) (hs : t_sk σ α ρ st st') (h1 : lo ≤ x.toInt) (h2 : x.toInt ≤ hi) (hk : kn = true → (α o ≠ 0 ∧ ρ (α o) = R) ∧ (if k = 1000 then ((h_k h (α o)).2 : Int) = x.toInt else (h_i h (α o) k).toInt = x.toInt)) : T_P sp ρ W K KA (t_ri pc S st kn o R k lo hi) h (m_go pc lv' (.int x :: st') h) := fun L e9 => by
  unfold t_ri at e9
  split at e9
  · next hf =>
    cases (Option.some.inj e9)
    have hw2 := f_SS x.toInt 0 hf.1 (q_fs hw hw.2.2.2.2.2.1 hs)
    refine ⟨pc, lv', _, h, rfl, FR.refl _ _ _, _, List.mem_singleton.mpr rfl, ht, s_up σ (a_nx S) x.toInt, o_up α (a_nx S) 0, ?_⟩
    obtain ⟨w1, w2, w3, w4, w5, w6, w7⟩ := hw2
    have hn : s_up σ (a_nx S) x.toInt (a_nx S) = x.toInt := if_pos rfl
    have ho : o_up α (a_nx S) 0 o = α o := if_neg hf.2
    refine ⟨fun q hq => ?_, w2, ?_, w4, w5, w6, ⟨x, rfl, by rw [le_sE, hn]⟩, w7⟩
    · rcases List.mem_cons.mp hq with e | hq
      · rw [e]
        show lo ≤ s_up σ (a_nx S) x.toInt (a_nx S) ∧ s_up σ (a_nx S) x.toInt (a_nx S) ≤ hi
        rw [hn]
        exact ⟨h1, h2⟩
      · exact w1 q hq
    · cases kn with
      | false => exact w3
      | true =>
        obtain ⟨g1, g2⟩ := hk rfl
        intro q hq
        rcases List.mem_cons.mp hq with e | hq
        · rw [e]
          refine ⟨?_, ?_⟩
          · show o_up α (a_nx S) 0 o ≠ 0 ∧ ρ (o_up α (a_nx S) 0 o) = R
            rw [ho]
            exact g1
          · show if k = 1000 then ((h_k h (o_up α (a_nx S) 0 o)).2 : Int) = le_ev (s_up σ (a_nx S) x.toInt) (le_s (a_nx S)) else (h_i h (o_up α (a_nx S) 0 o) k).toInt = le_ev (s_up σ (a_nx S) x.toInt) (le_s (a_nx S))
            rw [ho, le_sE, hn]
            exact g2
        · exact w3 q hq
  · cases e9
theorem q_rr {st0 : List Value} {kn : Bool} {o R k R2 a : Nat} {nn : Bool} (ht : TH sp ρ h) (hw : TW ρ K KA S lv' st0 h σ α) (hs : t_sk σ α ρ st st') (hr : t_rf ρ R2 nn a) (hk : kn = true → (α o ≠ 0 ∧ ρ (α o) = R) ∧ h_r h (α o) k = a) : T_P sp ρ W K KA (t_rr pc S st kn o R k R2 nn) h (m_go pc lv' (.ref a :: st') h) := fun L e9 => by
  unfold t_rr at e9
  split at e9
  · next hf =>
    cases (Option.some.inj e9)
    have hw2 := f_SS 0 a hf.1 (q_fs hw hw.2.2.2.2.2.1 hs)
    refine ⟨pc, lv', _, h, rfl, FR.refl _ _ _, _, List.mem_singleton.mpr rfl, ht, s_up σ (a_nx S) 0, o_up α (a_nx S) a, ?_⟩
    obtain ⟨w1, w2, w3, w4, w5, w6, w7⟩ := hw2
    have hn : o_up α (a_nx S) a (a_nx S) = a := if_pos rfl
    have ho : o_up α (a_nx S) a o = α o := if_neg hf.2
    refine ⟨w1, w2, ?_, w4, w5, w6, ⟨?_, ?_⟩, w7⟩
    · cases kn with
      | false => exact w3
      | true =>
        obtain ⟨g1, g2⟩ := hk rfl
        intro q hq
        rcases List.mem_cons.mp hq with e | hq
        · rw [e]
          refine ⟨?_, ?_, ?_⟩
          · show o_up α (a_nx S) a o ≠ 0 ∧ ρ (o_up α (a_nx S) a o) = R
            rw [ho]
            exact g1
          · show h_r h (o_up α (a_nx S) a o) k = o_up α (a_nx S) a (a_nx S)
            rw [ho, hn]
            exact g2
          · show t_rf ρ R2 nn (o_up α (a_nx S) a (a_nx S))
            rw [hn]
            exact hr
        · exact w3 q hq
    · show Value.ref a = Value.ref (o_up α (a_nx S) a (a_nx S))
      rw [hn]
    · show t_rf ρ R2 nn (o_up α (a_nx S) a (a_nx S))
      rw [hn]
      exact hr
  · cases e9
theorem t_nn {R a : Nat} (h : t_rf ρ R true a) : a ≠ 0 ∧ ρ a = R := by
  rcases h with ⟨-, h⟩ | h
  · cases h
  · exact ⟨h.1, h.2.2⟩
theorem t_spec {R a : Nat} {rs : RS} (ht : TH sp ρ h) (hR : R ≠ 0) (hsp : sp[R]? = some rs) (ha : ρ a = R) : t_cell ρ rs h a := by
  obtain ⟨-, rs2, h1, h2⟩ := ht.2 a (by rw [ha]; exact hR)
  rw [ha, hsp] at h1
  cases h1
  exact h2
end
end
section
-- getfield, an array's length, an array's elements
def j_get (sp : List RS) (i idx pc : Nat) (S : AST) : Option (List AO) := match a_st S, m_fl i idx with
  | .inr (.inr (o, (R, true))) :: r, some (_, c, k) => if R = 0 ∨ k = 1000 then none else (match sp[R]? with
    | some rs => if rs.1.1 = c + 1 then (match c_lk (a_ca S) (o, (R, k)) with
      | some (.inl e) => if (m_ty c k).1 = 0 then t_pe (pc + 3) S r e else none
      | some (.inr (.inl _)) => none
      | some (.inr (.inr q)) => if (m_ty c k).1 = 2 then t_go (pc + 3) S (.inr (.inr q) :: r) else none
      | none => (match r_ft rs k with
        | some (.inl p) => if (m_ty c k).1 = 0 then t_ri (pc + 3) S r true o R k p.1 p.2 else none
        | some (.inr (.inl _)) => if (m_ty c k).1 = 1 then t_pl (pc + 3) S r else none
        | some (.inr (.inr q)) => if (m_ty c k).1 = 2 then t_rr (pc + 3) S r true o R k q.1 q.2 else none
        | none => none)) else none
    | none => none)
  | _, _ => none
section
variable {sp : List RS} {ρ : Nat → Nat} {W : List (Nat × Nat)} {K : List Int} {KA : List Nat} {S : AST} {lv' : List (Nat × Value)} {st' : List Value} {h : MH} {pc : Nat} {st : List AT} {σ : Nat → Int} {α : Nat → Nat}
theorem q_get (i idx : Nat) (ht : TH sp ρ h) (hw : TW ρ K KA S lv' st' h σ α) : T_P sp ρ W K KA (j_get sp i idx pc S) h (e_get i idx pc lv' st' h) := by
  have hs := hw.2.2.2.2.2.2
  unfold j_get
  split
  · next o R r z c k hst ef =>
    rw [hst] at hs
    obtain ⟨v, q, rfl, ⟨rfl, hrf⟩, hq⟩ := t_sc hs
    obtain ⟨ha0, haR⟩ := t_nn hrf
    dsimp only at ha0 haR
    split
    · exact q_no
    · next hR =>
      split
      · next rs hsp =>
        have hcell := t_spec ht (fun z => hR (Or.inl z)) hsp haR
        by_cases hk : rs.1.1 = c + 1
        · rw [if_pos hk]
          have hk2 : (h_k h (α o)).1 = c + 1 := hcell.1.trans hk
          unfold e_get
          rw [ef]
          dsimp only
          rw [if_pos hk2]
          split
          · next e he =>
            have hc := hw.2.2.1 _ (c_lkm he)
            have hv : (h_i h (α o) k).toInt = le_ev σ e := by
              have := hc.2
              unfold t_fv at this
              dsimp only at this
              rw [if_neg (fun z => hR (Or.inr z))] at this
              exact this
            split
            · next htag =>
              rw [htag]
              exact q_pe ht hw hq hv
            · exact q_no
          · exact q_no
          · next q2 he =>
            have hc := hw.2.2.1 _ (c_lkm he)
            obtain ⟨e1, e2⟩ := hc.2
            split
            · next htag =>
              rw [htag]
              dsimp only at e1
              rw [e1]
              exact q_go (st := .inr (.inr q2) :: r) ht hw ⟨⟨rfl, e2⟩, hq⟩
            · exact q_no
          · split
            · next p hft =>
              have hf := hcell.2.2.2 k _ hft
              split
              · next htag =>
                rw [htag]
                refine q_ri ht hw hq hf.1 hf.2 (fun _ => ⟨⟨ha0, haR⟩, ?_⟩)
                rw [if_neg (fun z => hR (Or.inr z))]
              · exact q_no
            · next u hft =>
              split
              · next htag =>
                rw [htag]
                exact q_pl ht hw hq
              · exact q_no
            · next q2 hft =>
              have hf := hcell.2.2.2 k _ hft
              split
              · next htag =>
                rw [htag]
                exact q_rr ht hw hq hf (fun _ => ⟨⟨ha0, haR⟩, rfl⟩)
              · exact q_no
            · exact q_no
        · rw [if_neg hk]
          exact q_no
      · exact q_no
  · exact q_no
end
end
section
-- more of the checker's steps: known numbers, what stands still, turns of the stack
def j_psh (pc : Nat) (S : AST) (x : Int32) : Option (List AO) := t_pe pc S (a_st S) (le_c x.toInt)
section
variable {sp : List RS} {ρ : Nat → Nat} {W : List (Nat × Nat)} {K : List Int} {KA : List Nat} {S : AST} {lv' : List (Nat × Value)} {st' : List Value} {h : MH} {pc : Nat} {st : List AT} {σ : Nat → Int} {α : Nat → Nat}
theorem q_psh (x : Int32) (ht : TH sp ρ h) (hw : TW ρ K KA S lv' st' h σ α) : T_P sp ρ W K KA (j_psh pc S x) h (m_go pc lv' (.int x :: st') h) := q_pe ht hw hw.2.2.2.2.2.2 (le_cE σ _).symm
end
def j_inc (n k : Nat) (z : Int) (pc : Nat) (S : AST) : Option (List AO) := match m_lk (a_lv S) k with
  | some (.inl e) => if k < n ∧ t_in32 S (le_add e (le_c z)) = true ∧ -128 ≤ z ∧ z ≤ 32767 then t_gl (pc + 3) S (a_s1 (a_lv S) k (.inl (le_add e (le_c z)))) (a_st S) else none
  | _ => none
def j_dup (pc : Nat) (S : AST) : Option (List AO) := match a_st S with
  | v :: r => if a_cat v = 1 then t_go (pc + 1) S (v :: v :: r) else none
  | _ => none
def j_pop (pc : Nat) (S : AST) : Option (List AO) := match a_st S with
  | v :: r => if a_cat v = 1 then t_go (pc + 1) S r else none
  | _ => none
def j_dup2 (pc : Nat) (S : AST) : Option (List AO) := match a_st S with
  | v :: w :: r => if a_cat v = 1 ∧ a_cat w = 1 then t_go (pc + 1) S (v :: w :: v :: w :: r) else none
  | _ => none
def t_to (pc : Nat) (off : Int) (S : AST) (st : List AT) : Option (List AO) := if 0 ≤ (pc : Int) + off then t_go ((pc : Int) + off).toNat S st else none
def j_if (c : ClassFile.Cond) (off : Int) (pc : Nat) (S : AST) : Option (List AO) := match a_st S with
  | .inl x :: r => t_br c x (le_c 0) pc off S r
  | _ => none
def j_ic (c : ClassFile.Cond) (off : Int) (pc : Nat) (S : AST) : Option (List AO) := match a_st S with
  | .inl y :: .inl x :: r => t_br c x y pc off S r
  | _ => none
section
variable {sp : List RS} {ρ : Nat → Nat} {W : List (Nat × Nat)} {K : List Int} {KA : List Nat} {S : AST} {lv' : List (Nat × Value)} {st' : List Value} {h : MH} {pc : Nat} {st : List AT} {σ : Nat → Int} {α : Nat → Nat}
theorem q_inc (n k : Nat) (z : Int) (ht : TH sp ρ h) (hw : TW ρ K KA S lv' st' h σ α) : T_P sp ρ W K KA (j_inc n k z pc S) h (e_inc n k z pc lv' st' h) := by
  unfold j_inc e_inc
  split
  · next e he =>
    obtain ⟨v, e2, ⟨x, rfl, hx⟩⟩ := t_lk hw.2.2.2.2.2.1 he
    rw [e2]
    dsimp only
    split
    · next hc =>
      obtain ⟨c1, c2, c3, c4⟩ := hc
      rw [if_pos c1]
      obtain ⟨k1, k2⟩ := q_in32 hw c2
      rw [le_addE, le_cE, ← hx] at k1 k2
      have hz : (Int32.ofInt z).toInt = z := i_ofInt z (by omega) (by omega)
      refine q_gl ht hw (t_s1 hw.2.2.2.2.2.1 ⟨_, rfl, ?_⟩) hw.2.2.2.2.2.2
      rw [i_add _ _ (by rw [hz]; exact k1) (by rw [hz]; exact k2), hz, le_addE, le_cE, hx]
    · exact q_no
  · exact q_no
theorem q_dup (ht : TH sp ρ h) (hw : TW ρ K KA S lv' st' h σ α) (i : Nat) : T_P sp ρ W K KA (j_dup pc S) h (m_ex i pc .dup lv' st' h) := by
  have hs := hw.2.2.2.2.2.2
  unfold j_dup
  split
  · next a r hst =>
    rw [hst] at hs
    obtain ⟨v, q, rfl, hv, hq⟩ := t_sc hs
    show T_P sp ρ W K KA _ h (if v.category = 1 then m_go (pc + 1) lv' (v :: v :: q) h else none)
    rw [a_catE hv]
    split
    · exact q_go (st := a :: a :: r) ht hw ⟨hv, hv, hq⟩
    · exact q_no
  · exact q_no
theorem q_pop (ht : TH sp ρ h) (hw : TW ρ K KA S lv' st' h σ α) (i : Nat) : T_P sp ρ W K KA (j_pop pc S) h (m_ex i pc .pop lv' st' h) := by
  have hs := hw.2.2.2.2.2.2
  unfold j_pop
  split
  · next a r hst =>
    rw [hst] at hs
    obtain ⟨v, q, rfl, hv, hq⟩ := t_sc hs
    show T_P sp ρ W K KA _ h (if v.category = 1 then m_go (pc + 1) lv' q h else none)
    rw [a_catE hv]
    split
    · exact q_go ht hw hq
    · exact q_no
  · exact q_no
theorem q_to (off : Int) {st0 : List Value} (ht : TH sp ρ h) (hw : TW ρ K KA S lv' st0 h σ α) (hs : t_sk σ α ρ st st') : T_P sp ρ W K KA (t_to pc off S st) h (m_tg pc off lv' st' h) := by
  unfold t_to m_tg
  split
  · exact q_go ht hw hs
  · exact q_no
theorem q_if (c : ClassFile.Cond) (off : Int) (ht : TH sp ρ h) (hw : TW ρ K KA S lv' st' h σ α) (i : Nat) : T_P sp ρ W K KA (j_if c off pc S) h (m_ex i pc (.ifCond c off) lv' st' h) := by
  have hs := hw.2.2.2.2.2.2
  unfold j_if
  split
  · next x r hst =>
    rw [hst] at hs
    obtain ⟨v, q, rfl, ⟨x', rfl, hx⟩, hq⟩ := t_sc hs
    exact q_br hx (show (0 : Int32).toInt = le_ev σ (le_c 0) by rw [le_cE]; decide) ht hw hq
  · exact q_no
theorem q_ic (c : ClassFile.Cond) (off : Int) (ht : TH sp ρ h) (hw : TW ρ K KA S lv' st' h σ α) (i : Nat) : T_P sp ρ W K KA (j_ic c off pc S) h (m_ex i pc (.if_icmp c off) lv' st' h) := by
  have hs := hw.2.2.2.2.2.2
  unfold j_ic
  split
  · next y x r hst =>
    rw [hst] at hs
    obtain ⟨v, q, rfl, ⟨y', rfl, hy⟩, hq1⟩ := t_sc hs
    obtain ⟨v, q, rfl, ⟨x', rfl, hx⟩, hq⟩ := t_sc hq1
    exact q_br hx hy ht hw hq
  · exact q_no
end
end
section
-- an array's length, its elements
def j_alen (sp : List RS) (pc : Nat) (S : AST) : Option (List AO) := match a_st S with
  | .inr (.inr (o, (R, true))) :: r => if R = 0 then none else (match sp[R]? with
    | some rs => if 20 ≤ rs.1.1 ∧ rs.1.1 < 34 ∧ rs.1.2.2 ≤ 2147483647 then (match c_lk (a_ca S) (o, (R, 1000)) with
      | some (.inl e) => t_pe (pc + 1) S r e
      | some _ => none
      | none => t_ri (pc + 1) S r true o R 1000 rs.1.2.1 rs.1.2.2) else none
    | none => none)
  | _ => none
-- a place that surely lies within
def t_ix (sp : List RS) (S : AST) (o R : Nat) (j : LE) (len : Nat) : Bool := le_ent (a_iv S) (a_cs S) (le_mul (-1) j) && (le_ent (a_iv S) (a_cs S) (le_sub j (le_c ((len : Int) - 1))) || (match c_lk (a_ca S) (o, (R, 1000)) with
  | some (.inl e) => le_ent (a_iv S) (a_cs S) (le_add (le_sub j e) (le_c 1))
  | _ => false))
def j_iald (sp : List RS) (k0 k1 pc : Nat) (S : AST) : Option (List AO) := match a_st S with
  | .inl j :: .inr (.inr (o, (R, true))) :: r => if R = 0 then none else (match sp[R]? with
    | some rs => if (rs.1.1 = k0 ∨ rs.1.1 = k1) ∧ rs.2.2.1 = true ∧ t_ix sp S o R j rs.1.2.1 = true then (match r_ft rs 0 with
      | some (.inl p) => t_ri (pc + 1) S r false o R 0 p.1 p.2
      | _ => none) else none
    | none => none)
  | _ => none
section
variable {sp : List RS} {ρ : Nat → Nat} {W : List (Nat × Nat)} {K : List Int} {KA : List Nat} {S : AST} {lv' : List (Nat × Value)} {st' : List Value} {h : MH} {pc : Nat} {st : List AT} {σ : Nat → Int} {α : Nat → Nat}
theorem q_alen (ht : TH sp ρ h) (hw : TW ρ K KA S lv' st' h σ α) : T_P sp ρ W K KA (j_alen sp pc S) h (e_alen pc lv' st' h) := by
  have hs := hw.2.2.2.2.2.2
  unfold j_alen
  split
  · next o R r hst =>
    rw [hst] at hs
    obtain ⟨v, q, rfl, ⟨rfl, hrf⟩, hq⟩ := t_sc hs
    obtain ⟨ha0, haR⟩ := t_nn hrf
    dsimp only at ha0 haR
    split
    · exact q_no
    · next hR =>
      split
      · next rs hsp =>
        have hcell := t_spec ht hR hsp haR
        split
        · next hk =>
          unfold e_alen
          dsimp only
          rw [if_pos (show 20 ≤ (h_k h (α o)).1 ∧ (h_k h (α o)).1 < 34 by rw [hcell.1]; exact ⟨hk.1, hk.2.1⟩)]
          have hlen := hcell.2.1
          have hz : (Int32.ofNat (h_k h (α o)).2).toInt = ((h_k h (α o)).2 : Int) := Int32.toInt_ofNat_of_lt (by omega)
          split
          · next e he =>
            have hc := (hw.2.2.1 _ (c_lkm he)).2
            have hv : ((h_k h (α o)).2 : Int) = le_ev σ e := by
              unfold t_fv at hc
              dsimp only at hc
              rw [if_pos rfl] at hc
              exact hc
            exact q_pe ht hw hq (hz.trans hv)
          · exact q_no
          · refine q_ri ht hw hq (by rw [hz]; omega) (by rw [hz]; omega) (fun _ => ⟨⟨ha0, haR⟩, ?_⟩)
            rw [if_pos rfl]
            exact hz.symm
        · exact q_no
      · exact q_no
  · exact q_no
theorem t_ixS {o R : Nat} {j : LE} {x : Int32} {len n : Nat} (hw : TW ρ K KA S lv' st' h σ α) (hx : x.toInt = le_ev σ j) (hl : len ≤ (h_k h (α o)).2) (k : t_ix sp S o R j len = true) : m_in x (h_k h (α o)).2 = true := by
  unfold t_ix at k
  rw [Bool.and_eq_true, Bool.or_eq_true] at k
  have h1 := le_entS hw.1 hw.2.1 k.1
  rw [le_mulE] at h1
  have h2 : x.toInt < ((h_k h (α o)).2 : Int) := by
    rcases k.2 with k2 | k2
    · have h3 := le_entS hw.1 hw.2.1 k2
      rw [le_subE, le_cE] at h3
      omega
    · split at k2
      · next e he =>
        have h3 := le_entS hw.1 hw.2.1 k2
        rw [le_addE, le_subE, le_cE] at h3
        have hc := (hw.2.2.1 _ (c_lkm he)).2
        unfold t_fv at hc
        dsimp only at hc
        rw [if_pos rfl] at hc
        omega
      · cases k2
  unfold m_in
  rw [Bool.and_eq_true]
  refine ⟨decide_eq_true (fun q => ?_), decide_eq_true ?_⟩
  · have := Int32.lt_iff_toInt_lt.mp q
    have : (0 : Int32).toInt = 0 := by decide
    omega
  · show x.toInt.toNat < _
    omega
theorem q_iald (k0 k1 : Nat) (ht : TH sp ρ h) (hw : TW ρ K KA S lv' st' h σ α) : T_P sp ρ W K KA (j_iald sp k0 k1 pc S) h (e_iald k0 k1 pc lv' st' h) := by
  have hs := hw.2.2.2.2.2.2
  unfold j_iald
  split
  · next j o R r hst =>
    rw [hst] at hs
    obtain ⟨v, q, rfl, ⟨x, rfl, hx⟩, hq1⟩ := t_sc hs
    obtain ⟨v, q, rfl, ⟨rfl, hrf⟩, hq⟩ := t_sc hq1
    obtain ⟨ha0, haR⟩ := t_nn hrf
    dsimp only at ha0 haR
    split
    · exact q_no
    · next hR =>
      split
      · next rs hsp =>
        have hcell := t_spec ht hR hsp haR
        split
        · next hk =>
          unfold e_iald
          dsimp only
          have hin := t_ixS (n := 0) hw hx hcell.2.1.1 hk.2.2
          rw [if_pos (show ((h_k h (α o)).1 = k0 ∨ (h_k h (α o)).1 = k1) ∧ m_in x (h_k h (α o)).2 = true from ⟨by rw [hcell.1]; exact hk.1, hin⟩)]
          split
          · next p hp =>
            have e0 : r_ft rs x.toNatClampNeg = some (.inl p) := by
              unfold r_ft at hp ⊢
              rw [hk.2.1] at hp ⊢
              exact hp
            have hf := hcell.2.2.2 _ _ e0
            exact q_ri ht hw hq hf.1 hf.2 (fun z => by cases z)
          · exact q_no
        · exact q_no
      · exact q_no
  · exact q_no
end
end
section
-- rows of longs and of references; null; lcmp
def j_lald (sp : List RS) (pc : Nat) (S : AST) : Option (List AO) := match a_st S with
  | .inl j :: .inr (.inr (o, (R, true))) :: r => if R = 0 then none else (match sp[R]? with
    | some rs => if rs.1.1 = 25 ∧ t_ix sp S o R j rs.1.2.1 = true then t_pl (pc + 1) S r else none
    | none => none)
  | _ => none
def j_aald (sp : List RS) (pc : Nat) (S : AST) : Option (List AO) := match a_st S with
  | .inl j :: .inr (.inr (o, (R, true))) :: r => if R = 0 then none else (match sp[R]? with
    | some rs => if (30 ≤ rs.1.1 ∧ rs.1.1 < 34) ∧ rs.2.2.1 = true ∧ t_ix sp S o R j rs.1.2.1 = true then (match r_ft rs 0 with
      | some (.inr (.inr q)) => t_rr (pc + 1) S r false o R 0 q.1 q.2
      | _ => none) else none
    | none => none)
  | _ => none
def j_lcmp (pc : Nat) (S : AST) : Option (List AO) := match a_st S with
  | .inr (.inl _) :: .inr (.inl _) :: r => t_pi (pc + 1) S r (-2147483648) 2147483647
  | _ => none
section
variable {sp : List RS} {ρ : Nat → Nat} {W : List (Nat × Nat)} {K : List Int} {KA : List Nat} {S : AST} {lv' : List (Nat × Value)} {st' : List Value} {h : MH} {pc : Nat} {st : List AT} {σ : Nat → Int} {α : Nat → Nat}
theorem q_lald (ht : TH sp ρ h) (hw : TW ρ K KA S lv' st' h σ α) : T_P sp ρ W K KA (j_lald sp pc S) h (e_lald pc lv' st' h) := by
  have hs := hw.2.2.2.2.2.2
  unfold j_lald
  split
  · next j o R r hst =>
    rw [hst] at hs
    obtain ⟨v, q, rfl, ⟨x, rfl, hx⟩, hq1⟩ := t_sc hs
    obtain ⟨v, q, rfl, ⟨rfl, hrf⟩, hq⟩ := t_sc hq1
    obtain ⟨ha0, haR⟩ := t_nn hrf
    dsimp only at ha0 haR
    split
    · exact q_no
    · next hR =>
      split
      · next rs hsp =>
        have hcell := t_spec ht hR hsp haR
        split
        · next hk =>
          unfold e_lald
          dsimp only
          have hin := t_ixS (n := 0) hw hx hcell.2.1.1 hk.2
          rw [if_pos (show (h_k h (α o)).1 = 25 ∧ m_in x (h_k h (α o)).2 = true from ⟨by rw [hcell.1]; exact hk.1, hin⟩)]
          exact q_pl ht hw hq
        · exact q_no
      · exact q_no
  · exact q_no
theorem q_aald (ht : TH sp ρ h) (hw : TW ρ K KA S lv' st' h σ α) : T_P sp ρ W K KA (j_aald sp pc S) h (e_aald pc lv' st' h) := by
  have hs := hw.2.2.2.2.2.2
  unfold j_aald
  split
  · next j o R r hst =>
    rw [hst] at hs
    obtain ⟨v, q, rfl, ⟨x, rfl, hx⟩, hq1⟩ := t_sc hs
    obtain ⟨v, q, rfl, ⟨rfl, hrf⟩, hq⟩ := t_sc hq1
    obtain ⟨ha0, haR⟩ := t_nn hrf
    dsimp only at ha0 haR
    split
    · exact q_no
    · next hR =>
      split
      · next rs hsp =>
        have hcell := t_spec ht hR hsp haR
        split
        · next hk =>
          unfold e_aald
          dsimp only
          have hin := t_ixS (n := 0) hw hx hcell.2.1.1 hk.2.2
          rw [if_pos (show (30 ≤ (h_k h (α o)).1 ∧ (h_k h (α o)).1 < 34) ∧ m_in x (h_k h (α o)).2 = true from ⟨by rw [hcell.1]; exact hk.1, hin⟩)]
          split
          · next q2 hp =>
            have e0 : r_ft rs x.toNatClampNeg = some (.inr (.inr q2)) := by
              unfold r_ft at hp ⊢
              rw [hk.2.1] at hp ⊢
              exact hp
            have hf := hcell.2.2.2 _ _ e0
            exact q_rr ht hw hq hf (fun z => by cases z)
          · exact q_no
        · exact q_no
      · exact q_no
  · exact q_no
theorem q_lcmp (i : Nat) (ht : TH sp ρ h) (hw : TW ρ K KA S lv' st' h σ α) : T_P sp ρ W K KA (j_lcmp pc S) h (m_ex i pc .lcmp lv' st' h) := by
  have hs := hw.2.2.2.2.2.2
  unfold j_lcmp
  split
  · next u1 u2 r hst =>
    rw [hst] at hs
    obtain ⟨v, q, rfl, ⟨y', rfl⟩, hq1⟩ := t_sc hs
    obtain ⟨v, q, rfl, ⟨x', rfl⟩, hq⟩ := t_sc hq1
    obtain ⟨k1, k2⟩ := g_iT (lg_cmp x' y')
    exact q_pi (x := lg_cmp x' y') ht hw hq k1 k2
  · exact q_no
theorem q_dup2 (ht : TH sp ρ h) (hw : TW ρ K KA S lv' st' h σ α) (i : Nat) : T_P sp ρ W K KA (j_dup2 pc S) h (m_ex i pc .dup2 lv' st' h) := by
  have hs := hw.2.2.2.2.2.2
  unfold j_dup2
  split
  · next a b r hst =>
    rw [hst] at hs
    obtain ⟨v, q, rfl, hv, hq1⟩ := t_sc hs
    obtain ⟨w, q, rfl, hw2, hq⟩ := t_sc hq1
    show T_P sp ρ W K KA _ h (if v.category = 1 ∧ w.category = 1 then m_go (pc + 1) lv' (v :: w :: v :: w :: q) h else none)
    rw [a_catE hv, a_catE hw2]
    split
    · exact q_go (st := a :: b :: a :: b :: r) ht hw ⟨hv, hw2, hv, hw2, hq⟩
    · exact q_no
  · exact q_no
end
end
section
-- null, and what isn't
def a_nn (o : Nat) (t : AT) : AT := match t with
  | .inr (.inr q) => if q.1 = o then .inr (.inr (q.1, (q.2.1, true))) else t
  | _ => t
def w_nn (o : Nat) (S : AST) : AST := w_fs (w_ca S ((a_ca S).map (fun q => (q.1, a_nn o q.2)))) ((a_lv S).map (fun q => (q.1, a_nn o q.2))) ((a_st S).map (a_nn o))
def j_null (pc : Nat) (S : AST) : Option (List AO) := t_rr pc S (a_st S) false 0 0 0 0 false
-- by a null test: one way or both (nul: pc of null, non: pc of the other)
def t_nul (sp : List RS) (nul non : Int) (S : AST) (o R : Nat) (nn : Bool) (st : List AT) : Option (List AO) := if 0 ≤ nul ∧ 0 ≤ non then (if R = 0 then (if nn = true then some [] else some [(nul.toNat, w_fs S (a_lv S) st)]) else match sp[R]? with
    | some rs => if rs.2.1 = true then some ((if nn = true then [] else [(nul.toNat, w_fs S (a_lv S) st)]) ++ [(non.toNat, w_nn o (w_fs S (a_lv S) st))]) else none
    | none => none) else none
section
variable {sp : List RS} {ρ : Nat → Nat} {W : List (Nat × Nat)} {K : List Int} {KA : List Nat} {S : AST} {lv' : List (Nat × Value)} {st' : List Value} {h : MH} {pc : Nat} {st : List AT} {σ : Nat → Int} {α : Nat → Nat}
theorem q_null (ht : TH sp ρ h) (hw : TW ρ K KA S lv' st' h σ α) : T_P sp ρ W K KA (j_null pc S) h (m_go pc lv' (.ref 0 :: st') h) := q_rr ht hw hw.2.2.2.2.2.2 (Or.inl ⟨rfl, rfl⟩) (fun z => by cases z)
theorem n_rf {o R : Nat} {nn : Bool} (ho : α o ≠ 0) (h : t_rf ρ R nn (α o)) : t_rf ρ R true (α o) := by
  rcases h with h | h
  · exact absurd h.1 ho
  · exact Or.inr h
theorem n_at {o : Nat} {t : AT} {v : Value} (ho : α o ≠ 0) (h : t_at σ α ρ t v) : t_at σ α ρ (a_nn o t) v := by
  unfold a_nn
  split
  · next q =>
    split
    · next e =>
      obtain ⟨h1, h2⟩ := h
      refine ⟨h1, ?_⟩
      dsimp only
      rw [e] at h2 ⊢
      exact n_rf ho h2
    · exact h
  · exact h
theorem n_fv {o a k : Nat} {t : AT} (ho : α o ≠ 0) (hv : t_fv σ α ρ h a k t) : t_fv σ α ρ h a k (a_nn o t) := by
  unfold a_nn
  split
  · next q =>
    split
    · next e =>
      obtain ⟨h1, h2⟩ := hv
      refine ⟨h1, ?_⟩
      dsimp only
      rw [e] at h2 ⊢
      exact n_rf ho h2
    · exact hv
  · exact hv
theorem n_sk {o : Nat} (ho : α o ≠ 0) : ∀ {t : List AT} {v : List Value}, t_sk σ α ρ t v → t_sk σ α ρ (t.map (a_nn o)) v
  | [], [], h => h
  | t :: r, v :: q, h => ⟨n_at ho h.1, n_sk ho h.2⟩
  | [], _ :: _, h => h.elim
  | _ :: _, [], h => h.elim
theorem n_lv {o : Nat} (ho : α o ≠ 0) : ∀ {t : List (Nat × AT)} {v : List (Nat × Value)}, t_lv σ α ρ t v → t_lv σ α ρ (t.map (fun q => (q.1, a_nn o q.2))) v
  | [], [], h => h
  | t :: r, v :: q, h => ⟨⟨h.1.1, n_at ho h.1.2⟩, n_lv ho h.2⟩
  | [], _ :: _, h => h.elim
  | _ :: _, [], h => h.elim
theorem n_S {o : Nat} (ho : α o ≠ 0) (hw : TW ρ K KA S lv' st' h σ α) : TW ρ K KA (w_nn o S) lv' st' h σ α := by
  obtain ⟨w1, w2, w3, w4, w5, w6, w7⟩ := hw
  refine ⟨w1, w2, fun q hq => ?_, w4, w5, n_lv ho w6, n_sk ho w7⟩
  obtain ⟨q0, h0, rfl⟩ := List.mem_map.mp hq
  obtain ⟨g1, g2⟩ := w3 q0 h0
  exact ⟨g1, n_fv ho g2⟩
theorem q_nul {nul non : Int} {o R : Nat} {nn : Bool} {st0 : List Value} {R' : Option MA} (ht : TH sp ρ h) (hw : TW ρ K KA S lv' st0 h σ α) (hs : t_sk σ α ρ st st') (hr : t_rf ρ R nn (α o)) (h0 : 0 ≤ nul → α o = 0 → R' = some (.inl (nul.toNat, lv', st', h))) (h1 : 0 ≤ non → 16 ≤ α o → R' = some (.inl (non.toNat, lv', st', h))) : T_P sp ρ W K KA (t_nul sp nul non S o R nn st) h R' := by
  have hw2 := q_fs (st := st) (st' := st') hw hw.2.2.2.2.2.1 hs
  unfold t_nul
  split
  · next hp =>
    split
    · next hR =>
      rcases hr with ⟨z1, z2⟩ | ⟨z1, z3, z2⟩
      · rw [z2]
        intro L e
        cases e
        exact ⟨_, lv', st', h, h0 hp.1 z1, FR.refl _ _ _, _, List.mem_singleton.mpr rfl, ht, σ, α, hw2⟩
      · exact absurd hR z3
    · next hR =>
      split
      · next rs hsp =>
        split
        · next hk =>
          intro L e
          cases e
          rcases hr with ⟨z1, z2⟩ | ⟨z1, z3, z2⟩
          · rw [z2]
            exact ⟨_, lv', st', h, h0 hp.1 z1, FR.refl _ _ _, _, List.mem_append_left _ (List.mem_singleton.mpr rfl), ht, σ, α, hw2⟩
          · have hcell := t_spec ht hR hsp z2
            exact ⟨_, lv', st', h, h1 hp.2 (hcell.2.2.1 hk), FR.refl _ _ _, _, List.mem_append_right _ (List.mem_singleton.mpr rfl), ht, σ, α, n_S z1 hw2⟩
        · exact q_no
      · exact q_no
  · exact q_no
end
end
section
-- an int into a field or a row
def c_out (R k : Nat) (ca : CA) : CA := ca.filter (fun q => !(q.1.2.1 == R && q.1.2.2 == k))
section
variable {sp : List RS} {ρ : Nat → Nat} {W : List (Nat × Nat)} {K : List Int} {KA : List Nat} {S : AST} {lv' : List (Nat × Value)} {st' : List Value} {h : MH} {pc : Nat} {st : List AT} {σ : Nat → Int} {α : Nat → Nat}
theorem s_siI (h : MH) (a k : Nat) (x : Int32) (b j : Nat) : h_i (h_si h a k x) b j = if b = a ∧ j = k then x else h_i h b j := by
  show m_u (h_i h) a (m_u (h_i h a) k x) b j = _
  by_cases e : b = a
  · rw [e, m_uE]
    by_cases e2 : j = k
    · rw [if_pos ⟨rfl, e2⟩, e2, m_uE]
    · rw [if_neg (fun z => e2 z.2), m_uN _ _ _ _ e2]
  · rw [m_uN _ _ _ _ e, if_neg (fun z => e z.1)]
theorem s_siT {a k R : Nat} {rs : RS} {x : Int32} {p : Int × Int} (ht : TH sp ρ h) (hR : R ≠ 0) (hsp : sp[R]? = some rs) (ha : ρ a = R) (hft : r_ft rs k = some (.inl p)) (h1 : p.1 ≤ x.toInt) (h2 : x.toInt ≤ p.2) : TH sp ρ (h_si h a k x) := by
  refine ⟨ht.1, fun b hb => ?_⟩
  obtain ⟨q1, rs2, q2, q3, q4, q5, q6⟩ := ht.2 b hb
  refine ⟨q1, rs2, q2, q3, q4, q5, fun j ft hj => ?_⟩
  have q7 := q6 j ft hj
  cases ft with
  | inl p2 =>
    show p2.1 ≤ (h_i (h_si h a k x) b j).toInt ∧ (h_i (h_si h a k x) b j).toInt ≤ p2.2
    rw [s_siI]
    by_cases e : b = a ∧ j = k
    · rw [if_pos e]
      rw [e.1, ha, hsp] at q2
      cases q2
      rw [e.2, hft] at hj
      cases hj
      exact ⟨h1, h2⟩
    · rw [if_neg e]
      exact q7
  | inr ft => cases ft with
    | inl u => trivial
    | inr q => exact q7
theorem s_siF {a k R : Nat} {x : Int32} (ha : ρ a = R) (hW : t_W W R k) : FR ρ W h (h_si h a k x) := by
  refine ⟨rfl, fun _ => rfl, fun b j hj => ⟨?_, rfl, rfl⟩⟩
  rw [s_siI]
  by_cases e : b = a ∧ j = k
  · rw [e.1, e.2, ha] at hj
    exact absurd hW hj
  · rw [if_neg e]
theorem s_siC {a k R : Nat} {x : Int32} {ca : CA} (hk : k ≠ 1000) (ha : ρ a = R) (hc : t_ca σ α ρ h ca) : t_ca σ α ρ (h_si h a k x) (c_out R k ca) := by
  intro q hq
  obtain ⟨m1, m2⟩ := List.mem_filter.mp hq
  obtain ⟨g1, g2⟩ := hc q m1
  refine ⟨g1, ?_⟩
  obtain ⟨⟨o, R2, k2⟩, t⟩ := q
  dsimp only at g1 g2 m2 ⊢
  have hne : ¬ (α o = a ∧ k2 = k) := fun e => by
    rw [e.1, ha] at g1
    rw [← g1.2, e.2] at m2
    simp at m2
  cases t with
  | inl e =>
    show if k2 = 1000 then ((h_k h (α o)).2 : Int) = le_ev σ e else (h_i (h_si h a k x) (α o) k2).toInt = le_ev σ e
    rw [s_siI, if_neg hne]
    exact g2
  | inr t => cases t with
    | inl u => trivial
    | inr q => exact g2
end
end
section
-- putfield of an int, an int into a row
def t_inr (S : AST) (e : LE) (p : Int × Int) : Bool := le_ent (a_iv S) (a_cs S) (le_sub (le_c p.1) e) && le_ent (a_iv S) (a_cs S) (le_sub e (le_c p.2))
def t_Wb (W : List (Nat × Nat)) (R k : Nat) : Bool := W.any (fun q => q.1 == R && (q.2 == k || q.2 == 1001))
def j_iast (sp : List RS) (W : List (Nat × Nat)) (pc : Nat) (S : AST) : Option (List AO) := match a_st S with
  | .inl x :: .inl j :: .inr (.inr (o, (R, true))) :: r => if R = 0 then none else (match sp[R]? with
    | some rs => if rs.1.1 = 20 ∧ rs.2.1 = true ∧ rs.2.2.1 = true ∧ t_ix sp S o R j rs.1.2.1 = true ∧ W.contains (R, 1001) = true ∧ (a_ca S).all (fun q => !(q.1.2.1 == R) || q.1.2.2 == 1000) = true then (match r_ft rs 0 with
      | some (.inl p) => if t_inr S x p = true then t_go (pc + 1) S r else none
      | _ => none) else none
    | none => none)
  | _ => none
section
variable {sp : List RS} {ρ : Nat → Nat} {W : List (Nat × Nat)} {K : List Int} {KA : List Nat} {S : AST} {lv' : List (Nat × Value)} {st' : List Value} {h : MH} {pc : Nat} {st : List AT} {σ : Nat → Int} {α : Nat → Nat}
theorem t_inrS {e : LE} {p : Int × Int} (hw : TW ρ K KA S lv' st' h σ α) (k : t_inr S e p = true) : p.1 ≤ le_ev σ e ∧ le_ev σ e ≤ p.2 := by
  unfold t_inr at k
  rw [Bool.and_eq_true] at k
  have h1 := le_entS hw.1 hw.2.1 k.1
  have h2 := le_entS hw.1 hw.2.1 k.2
  rw [le_subE, le_cE] at h1 h2
  omega
theorem s_siC2 {a k R : Nat} {x : Int32} {ca : CA} (hR : ρ a = R) (hc : t_ca σ α ρ h ca) (hn : ca.all (fun q => !(q.1.2.1 == R) || q.1.2.2 == 1000) = true) : t_ca σ α ρ (h_si h a k x) ca := by
  intro q hq
  obtain ⟨g1, g2⟩ := hc q hq
  refine ⟨g1, ?_⟩
  have hn2 := List.all_eq_true.mp hn q hq
  obtain ⟨⟨o, R2, k2⟩, t⟩ := q
  dsimp only at g1 g2 hn2 ⊢
  cases t with
  | inl e =>
    show if k2 = 1000 then ((h_k h (α o)).2 : Int) = le_ev σ e else (h_i (h_si h a k x) (α o) k2).toInt = le_ev σ e
    by_cases hk : k2 = 1000
    · rw [if_pos hk]
      have g3 : if k2 = 1000 then ((h_k h (α o)).2 : Int) = le_ev σ e else (h_i h (α o) k2).toInt = le_ev σ e := g2
      rw [if_pos hk] at g3
      exact g3
    · have hne : ¬ (α o = a ∧ k2 = k) := fun z => by
        rw [z.1, hR] at g1
        rw [← g1.2] at hn2
        simp [hk] at hn2
      rw [s_siI, if_neg hne]
      exact g2
  | inr t => cases t with
    | inl u => trivial
    | inr q => exact g2
theorem q_iast (ht : TH sp ρ h) (hw : TW ρ K KA S lv' st' h σ α) : T_P sp ρ W K KA (j_iast sp W pc S) h (e_iast pc lv' st' h) := by
  have hs := hw.2.2.2.2.2.2
  unfold j_iast
  split
  · next x j o R r hst =>
    rw [hst] at hs
    obtain ⟨v, q, rfl, ⟨x', rfl, hx⟩, hq1⟩ := t_sc hs
    obtain ⟨v, q, rfl, ⟨j', rfl, hj⟩, hq2⟩ := t_sc hq1
    obtain ⟨v, q, rfl, ⟨rfl, hrf⟩, hq⟩ := t_sc hq2
    obtain ⟨ha0, haR⟩ := t_nn hrf
    dsimp only at ha0 haR
    split
    · exact q_no
    · next hR =>
      split
      · next rs hsp =>
        have hcell := t_spec ht hR hsp haR
        split
        · next hk =>
          obtain ⟨k1, k2, k3, k4, k5, k6⟩ := hk
          unfold e_iast
          dsimp only
          have hin := t_ixS (n := 0) hw hj hcell.2.1.1 k4
          rw [if_pos (show 16 ≤ α o ∧ (h_k h (α o)).1 = 20 ∧ m_in j' (h_k h (α o)).2 = true from ⟨hcell.2.2.1 k2, by rw [hcell.1]; exact k1, hin⟩)]
          split
          · next p hp =>
            split
            · next hr =>
              obtain ⟨r1, r2⟩ := t_inrS hw hr
              have e0 : r_ft rs j'.toNatClampNeg = some (.inl p) := by
                unfold r_ft at hp ⊢
                rw [k3] at hp ⊢
                exact hp
              have ht2 := s_siT (x := x') ht hR hsp haR e0 (by omega) (by omega)
              intro L e9
              cases (Option.some.inj e9)
              obtain ⟨w1, w2, w3, w4, w5, w6, w7⟩ := hw
              exact ⟨_, lv', q, _, rfl, s_siF haR (Or.inr (List.contains_iff_mem.mp k5)), _, List.mem_singleton.mpr rfl, ht2, σ, α, w1, w2, s_siC2 haR w3 k6, w4, w5, w6, hq⟩
            · exact q_no
          · exact q_no
        · exact q_no
      · exact q_no
  · exact q_no
end
end
section
-- putfield: ints, longs, references
def t_asg (q : Nat × (Nat × Bool)) (f : Nat × Bool) : Bool := (q.2.2 || !f.2) && (q.2.1 == 0 || q.2.1 == f.1)
def j_put (sp : List RS) (W : List (Nat × Nat)) (i idx pc : Nat) (S : AST) : Option (List AO) := match a_st S, m_fl i idx with
  | .inl x :: .inr (.inr (o, (R, true))) :: r, some (_, c, k) => if R = 0 ∨ k = 1000 then none else (match sp[R]? with
    | some rs => if rs.1.1 = c + 1 ∧ c < 10 ∧ k < m_nf c ∧ m_ty c k = (0, false) ∧ W.contains (R, k) = true then (match r_ft rs k with
      | some (.inl p) => if t_inr S x p = true then some [(pc + 3, w_fs (w_ca S (((o, (R, k)), .inl x) :: c_out R k (a_ca S))) (a_lv S) r)] else none
      | _ => none) else none
    | none => none)
  | .inr (.inl _) :: .inr (.inr (_, (R, true))) :: r, some (_, c, k) => if R = 0 then none else (match sp[R]? with
    | some rs => if rs.1.1 = c + 1 ∧ c < 10 ∧ k < m_nf c ∧ m_ty c k = (1, false) ∧ W.contains (R, k) = true then t_go (pc + 3) S r else none
    | none => none)
  | .inr (.inr q) :: .inr (.inr (o, (R, true))) :: r, some (nest, c, k) => if R = 0 ∨ k = 1000 then none else (match sp[R]? with
    | some rs => if rs.1.1 = c + 1 ∧ c < 10 ∧ k < m_nf c ∧ (m_ty c k).1 = 2 ∧ ((m_ty c k).2 = true → nest = 0 ∧ m_kind i = 2 ∧ m_ownL.getD i 0 = m_ow i ∧ m_cnm c = (m_m i).2.1.cls) ∧ W.contains (R, k) = true then (match r_ft rs k with
      | some (.inr (.inr f)) => if t_asg q f = true then some [(pc + 3, w_fs (w_ca S (((o, (R, k)), .inr (.inr q)) :: c_out R k (a_ca S))) (a_lv S) r)] else none
      | _ => none) else none
    | none => none)
  | _, _ => none
section
variable {sp : List RS} {ρ : Nat → Nat} {W : List (Nat × Nat)} {K : List Int} {KA : List Nat} {S : AST} {lv' : List (Nat × Value)} {st' : List Value} {h : MH} {pc : Nat} {st : List AT} {σ : Nat → Int} {α : Nat → Nat}
theorem t_asgS {q : Nat × (Nat × Bool)} {f : Nat × Bool} (e : t_asg q f = true) (hq : t_rf ρ q.2.1 q.2.2 (α q.1)) : t_rf ρ f.1 f.2 (α q.1) := by
  unfold t_asg at e
  rw [Bool.and_eq_true, Bool.or_eq_true, Bool.or_eq_true] at e
  rcases hq with ⟨z1, z2⟩ | ⟨z1, z2, z3⟩
  · refine Or.inl ⟨z1, ?_⟩
    rcases e.1 with e1 | e1
    · rw [z2] at e1
      cases e1
    · cases hf : f.2 with
      | false => rfl
      | true => rw [hf] at e1; cases e1
  · rcases e.2 with e1 | e1
    · exact absurd (beq_iff_eq.mp e1) z2
    · have := beq_iff_eq.mp e1
      rw [this] at z2 z3
      exact Or.inr ⟨z1, z2, z3⟩
theorem s_srR (h : MH) (a k x b j : Nat) : h_r (h_sr h a k x) b j = if b = a ∧ j = k then x else h_r h b j := by
  show m_u (h_r h) a (m_u (h_r h a) k x) b j = _
  by_cases e : b = a
  · rw [e, m_uE]
    by_cases e2 : j = k
    · rw [if_pos ⟨rfl, e2⟩, e2, m_uE]
    · rw [if_neg (fun z => e2 z.2), m_uN _ _ _ _ e2]
  · rw [m_uN _ _ _ _ e, if_neg (fun z => e z.1)]
theorem s_srT {a k R x : Nat} {rs : RS} {f : Nat × Bool} (ht : TH sp ρ h) (hsp : sp[R]? = some rs) (ha : ρ a = R) (hft : r_ft rs k = some (.inr (.inr f))) (h1 : t_rf ρ f.1 f.2 x) : TH sp ρ (h_sr h a k x) := by
  refine ⟨ht.1, fun b hb => ?_⟩
  obtain ⟨q1, rs2, q2, q3, q4, q5, q6⟩ := ht.2 b hb
  refine ⟨q1, rs2, q2, q3, q4, q5, fun j ft hj => ?_⟩
  have q7 := q6 j ft hj
  cases ft with
  | inl p2 => exact q7
  | inr ft => cases ft with
    | inl u => trivial
    | inr q =>
      show t_rf ρ q.1 q.2 (h_r (h_sr h a k x) b j)
      rw [s_srR]
      by_cases e : b = a ∧ j = k
      · rw [if_pos e]
        rw [e.1, ha, hsp] at q2
        cases q2
        rw [e.2, hft] at hj
        cases hj
        exact h1
      · rw [if_neg e]
        exact q7
theorem s_srF {a k R x : Nat} (ha : ρ a = R) (hW : t_W W R k) : FR ρ W h (h_sr h a k x) := by
  refine ⟨rfl, fun _ => rfl, fun b j hj => ⟨rfl, rfl, ?_⟩⟩
  rw [s_srR]
  by_cases e : b = a ∧ j = k
  · rw [e.1, e.2, ha] at hj
    exact absurd hW hj
  · rw [if_neg e]
theorem s_srC {a k R x : Nat} {ca : CA} (ha : ρ a = R) (hc : t_ca σ α ρ h ca) : t_ca σ α ρ (h_sr h a k x) (c_out R k ca) := by
  intro q hq
  obtain ⟨m1, m2⟩ := List.mem_filter.mp hq
  obtain ⟨g1, g2⟩ := hc q m1
  refine ⟨g1, ?_⟩
  obtain ⟨⟨o, R2, k2⟩, t⟩ := q
  dsimp only at g1 g2 m2 ⊢
  have hne : ¬ (α o = a ∧ k2 = k) := fun e => by
    rw [e.1, ha] at g1
    rw [← g1.2, e.2] at m2
    simp at m2
  cases t with
  | inl e => exact g2
  | inr t => cases t with
    | inl u => trivial
    | inr q =>
      show h_r (h_sr h a k x) (α o) k2 = α q.1 ∧ _
      rw [s_srR, if_neg hne]
      exact g2
theorem s_slT {a k : Nat} {x : Int64} (ht : TH sp ρ h) : TH sp ρ (h_sl h a k x) := by
  refine ⟨ht.1, fun b hb => ?_⟩
  obtain ⟨q1, rs2, q2, q3, q4, q5, q6⟩ := ht.2 b hb
  refine ⟨q1, rs2, q2, q3, q4, q5, fun j ft hj => ?_⟩
  have q7 := q6 j ft hj
  cases ft with
  | inl p2 => exact q7
  | inr ft => cases ft with
    | inl u => trivial
    | inr q => exact q7
theorem s_slF {a k R : Nat} {x : Int64} (ha : ρ a = R) (hW : t_W W R k) : FR ρ W h (h_sl h a k x) := by
  refine ⟨rfl, fun _ => rfl, fun b j hj => ⟨rfl, ?_, rfl⟩⟩
  show m_u (h_l h) a (m_u (h_l h a) k x) b j = _
  by_cases e : b = a
  · rw [e, m_uE]
    by_cases e2 : j = k
    · rw [e, ha, e2] at hj
      exact absurd hW hj
    · rw [m_uN _ _ _ _ e2]
  · rw [m_uN _ _ _ _ e]
theorem q_put (i idx : Nat) (ht : TH sp ρ h) (hw : TW ρ K KA S lv' st' h σ α) : T_P sp ρ W K KA (j_put sp W i idx pc S) h (e_put i idx pc lv' st' h) := by
  have hs := hw.2.2.2.2.2.2
  unfold j_put
  split
  · next x o R r z c k hst ef =>
    rw [hst] at hs
    obtain ⟨v, q, rfl, ⟨x', rfl, hx⟩, hq1⟩ := t_sc hs
    obtain ⟨v, q, rfl, ⟨rfl, hrf⟩, hq⟩ := t_sc hq1
    obtain ⟨ha0, haR⟩ := t_nn hrf
    dsimp only at ha0 haR
    split
    · exact q_no
    · next hR =>
      split
      · next rs hsp =>
        have hR0 : R ≠ 0 := fun z => hR (Or.inl z)
        have hcell := t_spec ht hR0 hsp haR
        split
        · next hk =>
          obtain ⟨k1, k2, k3, k4, k5⟩ := hk
          unfold e_put
          rw [ef]
          dsimp only
          rw [if_pos (show (h_k h (α o)).1 = c + 1 ∧ c < 10 ∧ k < m_nf c ∧ m_ty c k = (0, false) from ⟨hcell.1.trans k1, k2, k3, k4⟩)]
          split
          · next p hp =>
            split
            · next hr =>
              obtain ⟨r1, r2⟩ := t_inrS hw hr
              have ht2 := s_siT (x := x') ht hR0 hsp haR hp (by omega) (by omega)
              intro L e9
              cases (Option.some.inj e9)
              obtain ⟨w1, w2, w3, w4, w5, w6, w7⟩ := hw
              refine ⟨_, lv', q, _, rfl, s_siF haR (Or.inl (List.contains_iff_mem.mp k5)), _, List.mem_singleton.mpr rfl, ht2, σ, α, w1, w2, fun q9 hq9 => ?_, w4, w5, w6, hq⟩
              rcases List.mem_cons.mp hq9 with e | hq9
              · rw [e]
                refine ⟨⟨ha0, haR⟩, ?_⟩
                show if k = 1000 then ((h_k h (α o)).2 : Int) = le_ev σ x else (h_i (h_si h (α o) k x') (α o) k).toInt = le_ev σ x
                rw [if_neg (fun z => hR (Or.inr z)), s_siI, if_pos ⟨rfl, rfl⟩]
                exact hx
              · exact s_siC (fun z => hR (Or.inr z)) haR w3 q9 hq9
            · exact q_no
          · exact q_no
        · exact q_no
      · exact q_no
  · next u o R r z c k hst ef =>
    rw [hst] at hs
    obtain ⟨v, q, rfl, ⟨x', rfl⟩, hq1⟩ := t_sc hs
    obtain ⟨v, q, rfl, ⟨rfl, hrf⟩, hq⟩ := t_sc hq1
    obtain ⟨ha0, haR⟩ := t_nn hrf
    dsimp only at ha0 haR
    split
    · exact q_no
    · next hR =>
      split
      · next rs hsp =>
        have hcell := t_spec ht hR hsp haR
        split
        · next hk =>
          obtain ⟨k1, k2, k3, k4, k5⟩ := hk
          unfold e_put
          rw [ef]
          dsimp only
          rw [if_pos (show (h_k h (α o)).1 = c + 1 ∧ c < 10 ∧ k < m_nf c ∧ m_ty c k = (1, false) from ⟨hcell.1.trans k1, k2, k3, k4⟩)]
          intro L e9
          cases (Option.some.inj e9)
          obtain ⟨w1, w2, w3, w4, w5, w6, w7⟩ := hw
          exact ⟨_, lv', q, _, rfl, s_slF haR (Or.inl (List.contains_iff_mem.mp k5)), _, List.mem_singleton.mpr rfl, s_slT ht, σ, α, w1, w2, w3, w4, w5, w6, hq⟩
        · exact q_no
      · exact q_no
  · next q0 o R r z c k hst ef =>
    rw [hst] at hs
    obtain ⟨v, q, rfl, ⟨rfl, hv⟩, hq1⟩ := t_sc hs
    obtain ⟨v, q, rfl, ⟨rfl, hrf⟩, hq⟩ := t_sc hq1
    obtain ⟨ha0, haR⟩ := t_nn hrf
    dsimp only at ha0 haR
    split
    · exact q_no
    · next hR =>
      split
      · next rs hsp =>
        have hR0 : R ≠ 0 := fun z => hR (Or.inl z)
        have hcell := t_spec ht hR0 hsp haR
        split
        · next hk =>
          obtain ⟨k1, k2, k3, k4, k6, k5⟩ := hk
          unfold e_put
          rw [ef]
          dsimp only
          rw [if_pos ⟨hcell.1.trans k1, k2, k3, k4, k6⟩]
          split
          · next f hf =>
            split
            · next hr =>
              have ht2 := s_srT ht hsp haR hf (t_asgS hr hv)
              intro L e9
              cases (Option.some.inj e9)
              obtain ⟨w1, w2, w3, w4, w5, w6, w7⟩ := hw
              refine ⟨_, lv', q, _, rfl, s_srF haR (Or.inl (List.contains_iff_mem.mp k5)), _, List.mem_singleton.mpr rfl, ht2, σ, α, w1, w2, fun q9 hq9 => ?_, w4, w5, w6, hq⟩
              rcases List.mem_cons.mp hq9 with e | hq9
              · rw [e]
                refine ⟨⟨ha0, haR⟩, ?_, hv⟩
                show h_r (h_sr h (α o) k (α q0.1)) (α o) k = α q0.1
                rw [s_srR, if_pos ⟨rfl, rfl⟩]
              · exact s_srC haR w3 q9 hq9
            · exact q_no
          · exact q_no
        · exact q_no
      · exact q_no
  · exact q_no
end
end
section
-- rows of bytes, longs, references written; what stands still; the switch
def j_bast (sp : List RS) (W : List (Nat × Nat)) (pc : Nat) (S : AST) : Option (List AO) := match a_st S with
  | .inl _ :: .inl j :: .inr (.inr (o, (R, true))) :: r => if R = 0 then none else (match sp[R]? with
    | some rs => if (rs.1.1 = 21 ∨ rs.1.1 = 22) ∧ rs.2.1 = true ∧ rs.2.2.1 = true ∧ t_ix sp S o R j rs.1.2.1 = true ∧ W.contains (R, 1001) = true ∧ (a_ca S).all (fun q => !(q.1.2.1 == R) || q.1.2.2 == 1000) = true then (match r_ft rs 0 with
      | some (.inl p) => if p.1 ≤ -2147483648 ∧ 2147483647 ≤ p.2 then t_go (pc + 1) S r else none
      | _ => none) else none
    | none => none)
  | _ => none
def j_last (sp : List RS) (W : List (Nat × Nat)) (pc : Nat) (S : AST) : Option (List AO) := match a_st S with
  | .inr (.inl _) :: .inl j :: .inr (.inr (o, (R, true))) :: r => if R = 0 then none else (match sp[R]? with
    | some rs => if rs.1.1 = 25 ∧ rs.2.1 = true ∧ t_ix sp S o R j rs.1.2.1 = true ∧ W.contains (R, 1001) = true then t_go (pc + 1) S r else none
    | none => none)
  | _ => none
def j_gets (i idx pc : Nat) (S : AST) (RL : Nat) : Option (List AO) := match m_sf i idx with
  | some 1 => t_pe (pc + 3) S (a_st S) (le_c 1)
  | some 2 => t_rr (pc + 3) S (a_st S) false 0 0 0 RL true
  | _ => none
def j_sw (d lo hi : Int) (offs : Array Int) (pc : Nat) (S : AST) : Option (List AO) := match a_st S with
  | .inl x :: r => if 0 ≤ (pc : Int) + d ∧ (hi - lo + 1).toNat = offs.size ∧ offs.all (fun o => decide (0 ≤ (pc : Int) + o)) = true then
      some (((t_cnd .lt x (le_c lo) (w_fs S (a_lv S) r)).map (fun S => (((pc : Int) + d).toNat, S))).toList ++ (((t_cnd .gt x (le_c hi) (w_fs S (a_lv S) r)).map (fun S => (((pc : Int) + d).toNat, S))).toList ++ (List.range offs.size).flatMap (fun (i : Nat) => ((t_cnd .eq x (le_c (lo + (i : Int))) (w_fs S (a_lv S) r)).map (fun S => (((pc : Int) + offs.getD i 0).toNat, S))).toList))) else none
  | _ => none
section
variable {sp : List RS} {ρ : Nat → Nat} {W : List (Nat × Nat)} {K : List Int} {KA : List Nat} {S : AST} {lv' : List (Nat × Value)} {st' : List Value} {h : MH} {pc : Nat} {st : List AT} {σ : Nat → Int} {α : Nat → Nat}
theorem q_bast (ht : TH sp ρ h) (hw : TW ρ K KA S lv' st' h σ α) : T_P sp ρ W K KA (j_bast sp W pc S) h (e_bast pc lv' st' h) := by
  have hs := hw.2.2.2.2.2.2
  unfold j_bast
  split
  · next x j o R r hst =>
    rw [hst] at hs
    obtain ⟨v, q, rfl, ⟨x', rfl, hx⟩, hq1⟩ := t_sc hs
    obtain ⟨v, q, rfl, ⟨j', rfl, hj⟩, hq2⟩ := t_sc hq1
    obtain ⟨v, q, rfl, ⟨rfl, hrf⟩, hq⟩ := t_sc hq2
    obtain ⟨ha0, haR⟩ := t_nn hrf
    dsimp only at ha0 haR
    split
    · exact q_no
    · next hR =>
      split
      · next rs hsp =>
        have hcell := t_spec ht hR hsp haR
        split
        · next hk =>
          obtain ⟨k1, k2, k3, k4, k5, k6⟩ := hk
          have hin := t_ixS (n := 0) hw hj hcell.2.1.1 k4
          split
          · next p hp =>
            split
            · next hr =>
              have e0 : r_ft rs j'.toNatClampNeg = some (.inl p) := by
                unfold r_ft at hp ⊢
                rw [k3] at hp ⊢
                exact hp
              have key : ∀ z : Int32, T_P sp ρ W K KA (t_go (pc + 1) S r) h (m_go (pc + 1) lv' q (h_si h (α o) j'.toNatClampNeg z)) := by
                intro z
                obtain ⟨z1, z2⟩ := g_iT z
                have z1 : (-2147483648 : Int) ≤ z.toInt := z1
                have z2 : z.toInt ≤ (2147483647 : Int) := z2
                have ht2 := s_siT (x := z) ht hR hsp haR e0 (by omega) (by omega)
                intro L e9
                cases (Option.some.inj e9)
                obtain ⟨w1, w2, w3, w4, w5, w6, w7⟩ := hw
                exact ⟨_, lv', q, _, rfl, s_siF haR (Or.inr (List.contains_iff_mem.mp k5)), _, List.mem_singleton.mpr rfl, ht2, σ, α, w1, w2, s_siC2 haR w3 k6, w4, w5, w6, hq⟩
              unfold e_bast
              dsimp only
              by_cases k21 : (h_k h (α o)).1 = 21
              · rw [if_pos (show 16 ≤ α o ∧ (h_k h (α o)).1 = 21 ∧ m_in j' (h_k h (α o)).2 = true from ⟨hcell.2.2.1 k2, k21, hin⟩)]
                exact key _
              · have k22 : (h_k h (α o)).1 = 22 := by
                  have := hcell.1
                  omega
                rw [if_neg (fun z => k21 z.2.1), if_pos (show 16 ≤ α o ∧ (h_k h (α o)).1 = 22 ∧ m_in j' (h_k h (α o)).2 = true from ⟨hcell.2.2.1 k2, k22, hin⟩)]
                exact key _
            · exact q_no
          · exact q_no
        · exact q_no
      · exact q_no
  · exact q_no
theorem q_last (ht : TH sp ρ h) (hw : TW ρ K KA S lv' st' h σ α) : T_P sp ρ W K KA (j_last sp W pc S) h (e_last pc lv' st' h) := by
  have hs := hw.2.2.2.2.2.2
  unfold j_last
  split
  · next x j o R r hst =>
    rw [hst] at hs
    obtain ⟨v, q, rfl, ⟨x', rfl⟩, hq1⟩ := t_sc hs
    obtain ⟨v, q, rfl, ⟨j', rfl, hj⟩, hq2⟩ := t_sc hq1
    obtain ⟨v, q, rfl, ⟨rfl, hrf⟩, hq⟩ := t_sc hq2
    obtain ⟨ha0, haR⟩ := t_nn hrf
    dsimp only at ha0 haR
    split
    · exact q_no
    · next hR =>
      split
      · next rs hsp =>
        have hcell := t_spec ht hR hsp haR
        split
        · next hk =>
          obtain ⟨k1, k2, k4, k5⟩ := hk
          have hin := t_ixS (n := 0) hw hj hcell.2.1.1 k4
          unfold e_last
          dsimp only
          rw [if_pos (show 16 ≤ α o ∧ (h_k h (α o)).1 = 25 ∧ m_in j' (h_k h (α o)).2 = true from ⟨hcell.2.2.1 k2, by rw [hcell.1]; exact k1, hin⟩)]
          intro L e9
          cases (Option.some.inj e9)
          obtain ⟨w1, w2, w3, w4, w5, w6, w7⟩ := hw
          exact ⟨_, lv', q, _, rfl, s_slF haR (Or.inr (List.contains_iff_mem.mp k5)), _, List.mem_singleton.mpr rfl, s_slT ht, σ, α, w1, w2, w3, w4, w5, w6, hq⟩
        · exact q_no
      · exact q_no
  · exact q_no
theorem q_gets (i idx RL : Nat) (h1 : t_rf ρ RL true 1) (ht : TH sp ρ h) (hw : TW ρ K KA S lv' st' h σ α) : T_P sp ρ W K KA (j_gets i idx pc S RL) h (e_gets i idx pc lv' st' h) := by
  unfold j_gets e_gets
  generalize m_sf i idx = o
  match o with
  | none => exact q_no
  | some 0 => exact q_no
  | some 1 => exact q_pe (x := 1) ht hw hw.2.2.2.2.2.2 (by rw [le_cE]; decide)
  | some 2 => exact q_rr ht hw hw.2.2.2.2.2.2 h1 (fun z => by cases z)
  | some 3 => exact q_no
  | some (n + 4) => exact q_no
theorem q_sw (i : Nat) (d lo hi : Int) (offs : Array Int) (ht : TH sp ρ h) (hw : TW ρ K KA S lv' st' h σ α) : T_P sp ρ W K KA (j_sw d lo hi offs pc S) h (e_sw d lo hi offs pc lv' st' h) := by
  have hs := hw.2.2.2.2.2.2
  unfold j_sw
  split
  · next x r hst =>
    rw [hst] at hs
    obtain ⟨v, q, rfl, ⟨x', rfl, hx⟩, hq⟩ := t_sc hs
    have hw2 := q_fs (st := r) (st' := q) hw hw.2.2.2.2.2.1 hq
    split
    · next hc =>
      obtain ⟨c1, c2, c3⟩ := hc
      intro L e9
      cases e9
      unfold e_sw
      dsimp only
      by_cases h1 : x'.toInt < lo
      · rw [if_pos (Or.inl h1)]
        obtain ⟨S', e1, w⟩ := r_asm (e := le_add (le_sub x (le_c lo)) (le_c 1)) hw2 (by rw [le_addE, le_subE, le_cE, le_cE]; omega)
        refine ⟨_, lv', q, h, if_pos c1, FR.refl _ _ _, S', List.mem_append_left _ ?_, ht, σ, α, w⟩
        show _ ∈ (Option.map _ (t_asm _ _)).toList
        rw [e1]
        exact List.mem_singleton.mpr rfl
      · by_cases h2 : hi < x'.toInt
        · rw [if_pos (Or.inr h2)]
          obtain ⟨S', e1, w⟩ := r_asm (e := le_add (le_sub (le_c hi) x) (le_c 1)) hw2 (by rw [le_addE, le_subE, le_cE, le_cE]; omega)
          refine ⟨_, lv', q, h, if_pos c1, FR.refl _ _ _, S', List.mem_append_right _ (List.mem_append_left _ ?_), ht, σ, α, w⟩
          show _ ∈ (Option.map _ (t_asm _ _)).toList
          rw [e1]
          exact List.mem_singleton.mpr rfl
        · rw [if_neg (by omega)]
          have hlt : (x'.toInt - lo).toNat < offs.size := by omega
          rw [Array.getElem?_eq_getElem hlt]
          dsimp only
          have hoff : 0 ≤ (pc : Int) + offs[(x'.toInt - lo).toNat] := by
            have := (Array.all_eq_true.mp c3) _ hlt
            exact of_decide_eq_true this
          obtain ⟨S1, e1, w1⟩ := r_asm (e := le_sub x (le_c (lo + (((x'.toInt - lo).toNat : Nat) : Int)))) hw2 (by rw [le_subE, le_cE]; omega)
          obtain ⟨S2, e2, w2⟩ := r_asm (e := le_sub (le_c (lo + (((x'.toInt - lo).toNat : Nat) : Int))) x) w1 (by rw [le_subE, le_cE]; omega)
          refine ⟨_, lv', q, h, if_pos hoff, FR.refl _ _ _, S2, List.mem_append_right _ (List.mem_append_right _ (List.mem_flatMap.mpr ⟨(x'.toInt - lo).toNat, List.mem_range.mpr hlt, ?_⟩)), ht, σ, α, w2⟩
          show _ ∈ (Option.map _ ((t_asm _ _).bind (t_asm _))).toList
          rw [e1, Option.bind_some, e2]
          refine List.mem_singleton.mpr ?_
          rw [Array.getD_eq_getD_getElem?, Array.getElem?_eq_getElem hlt]
          rfl
    · exact q_no
  · exact q_no
end
end
section
-- references into a row, known numbers and words, copies
def j_aast (sp : List RS) (W : List (Nat × Nat)) (pc : Nat) (S : AST) : Option (List AO) := match a_st S with
  | .inr (.inr (o2, (R2, true))) :: .inl j :: .inr (.inr (o, (R, true))) :: r => if R = 0 ∨ R2 = 0 then none else (match sp[R]?, sp[R2]? with
    | some rs, some rs2 => if (30 ≤ rs.1.1 ∧ rs.1.1 < 33) ∧ rs.2.1 = true ∧ rs.2.2.1 = true ∧ t_ix sp S o R j rs.1.2.1 = true ∧ W.contains (R, 1001) = true ∧ rs2.2.1 = true ∧ rs2.1.1 = m_el rs.1.1 ∧ (a_ca S).all (fun q => !(q.1.2.1 == R) || q.1.2.2 == 1000) = true then (match r_ft rs 0 with
      | some (.inr (.inr f)) => if t_asg (o2, (R2, true)) f = true then t_go (pc + 1) S r else none
      | _ => none) else none
    | _, _ => none)
  | _ => none
def j_ldc (w : Nat) (i idx pc : Nat) (S : AST) (RT : Nat) : Option (List AO) := match m_ic i idx with
  | some x => t_pe (pc + w) S (a_st S) (le_c x.toInt)
  | none => if w = 2 then (match m_sc i idx with
      | some a => if 2 ≤ a ∧ a < 8 then t_rr (pc + w) S (a_st S) false 0 0 0 RT true else none
      | none => none) else none
section
variable {sp : List RS} {ρ : Nat → Nat} {W : List (Nat × Nat)} {K : List Int} {KA : List Nat} {S : AST} {lv' : List (Nat × Value)} {st' : List Value} {h : MH} {pc : Nat} {st : List AT} {σ : Nat → Int} {α : Nat → Nat}
theorem s_srC2 {a k R x : Nat} {ca : CA} (hk : k < 1000) (hR : ρ a = R) (hc : t_ca σ α ρ h ca) (hn : ca.all (fun q => !(q.1.2.1 == R) || q.1.2.2 == 1000) = true) : t_ca σ α ρ (h_sr h a k x) ca := by
  intro q hq
  obtain ⟨g1, g2⟩ := hc q hq
  refine ⟨g1, ?_⟩
  have hn2 := List.all_eq_true.mp hn q hq
  obtain ⟨⟨o, R2, k2⟩, t⟩ := q
  dsimp only at g1 g2 hn2 ⊢
  have hne : ¬ (α o = a ∧ k2 = k) := fun z => by
    rw [z.1, hR] at g1
    rw [← g1.2] at hn2
    have : ¬ k2 = 1000 := by omega
    simp [this] at hn2
  cases t with
  | inl e => exact g2
  | inr t => cases t with
    | inl u => trivial
    | inr q =>
      show h_r (h_sr h a k x) (α o) k2 = α q.1 ∧ _
      rw [s_srR, if_neg hne]
      exact g2
theorem q_ldc (w i idx RT : Nat) (h1 : ∀ a, 2 ≤ a → a < 8 → t_rf ρ RT true a) (ht : TH sp ρ h) (hw : TW ρ K KA S lv' st' h σ α) : T_P sp ρ W K KA (j_ldc w i idx pc S RT) h (e_ldc w i idx pc lv' st' h) := by
  unfold j_ldc e_ldc
  generalize m_ic i idx = o
  generalize m_sc i idx = o2
  match o with
  | some x => exact q_pe (x := x) ht hw hw.2.2.2.2.2.2 (by rw [le_cE])
  | none =>
    dsimp only
    by_cases hw2 : w = 2
    · rw [if_pos hw2, if_pos hw2]
      match o2 with
      | some a =>
        dsimp only
        split
        · next ha => exact q_rr ht hw hw.2.2.2.2.2.2 (h1 a ha.1 ha.2) (fun z => by cases z)
        · exact q_no
      | none => exact q_no
    · rw [if_neg hw2]
      exact q_no
theorem q_aast (hlen : ∀ (R : Nat) (rs : RS), sp[R]? = some rs → rs.1.2.2 < 1000 ∨ ¬ (30 ≤ rs.1.1 ∧ rs.1.1 < 33)) (ht : TH sp ρ h) (hw : TW ρ K KA S lv' st' h σ α) : T_P sp ρ W K KA (j_aast sp W pc S) h (e_aast pc lv' st' h) := by
  have hs := hw.2.2.2.2.2.2
  unfold j_aast
  split
  · next o2 R2 j o R r hst =>
    rw [hst] at hs
    obtain ⟨v, q, rfl, ⟨rfl, hv⟩, hq1⟩ := t_sc hs
    obtain ⟨v, q, rfl, ⟨j', rfl, hj⟩, hq2⟩ := t_sc hq1
    obtain ⟨v, q, rfl, ⟨rfl, hrf⟩, hq⟩ := t_sc hq2
    obtain ⟨ha0, haR⟩ := t_nn hrf
    obtain ⟨hb0, hbR⟩ := t_nn hv
    dsimp only at ha0 haR hb0 hbR
    split
    · exact q_no
    · next hR =>
      split
      · next rs rs2 hsp hsp2 =>
        have hcell := t_spec ht (fun z => hR (Or.inl z)) hsp haR
        have hcel2 := t_spec ht (fun z => hR (Or.inr z)) hsp2 hbR
        split
        · next hk =>
          obtain ⟨k1, k2, k3, k4, k5, k6, k7, k8⟩ := hk
          have hin := t_ixS (n := 0) hw hj hcell.2.1.1 k4
          have hlt : j'.toNatClampNeg < 1000 := by
            have h9 := hin
            unfold m_in at h9
            rw [Bool.and_eq_true] at h9
            have h10 := of_decide_eq_true h9.2
            rcases hlen R rs hsp with q9 | q9
            · have := hcell.2.1.2
              omega
            · exact absurd k1 q9
          split
          · next f hf =>
            split
            · next hr =>
              have e0 : r_ft rs j'.toNatClampNeg = some (.inr (.inr f)) := by
                unfold r_ft at hf ⊢
                rw [k3] at hf ⊢
                exact hf
              unfold e_aast
              dsimp only
              rw [if_pos (show 16 ≤ α o ∧ (30 ≤ (h_k h (α o)).1 ∧ (h_k h (α o)).1 < 33) ∧ m_in j' (h_k h (α o)).2 = true ∧ 16 ≤ α o2 ∧ (h_k h (α o2)).1 = m_el (h_k h (α o)).1 from ⟨hcell.2.2.1 k2, by rw [hcell.1]; exact k1, hin, hcel2.2.2.1 k6, by rw [hcel2.1, hcell.1]; exact k7⟩)]
              have ht2 := s_srT (x := α o2) ht hsp haR e0 (t_asgS hr hv)
              intro L e9
              cases (Option.some.inj e9)
              obtain ⟨w1, w2, w3, w4, w5, w6, w7⟩ := hw
              exact ⟨_, lv', q, _, rfl, s_srF haR (Or.inr (List.contains_iff_mem.mp k5)), _, List.mem_singleton.mpr rfl, ht2, σ, α, w1, w2, s_srC2 hlt haR w3 k8, w4, w5, w6, hq⟩
            · exact q_no
          · exact q_no
        · exact q_no
      · exact q_no
  · exact q_no
end
end
section
-- a copy of rows; every plain step
def j_cp (sp : List RS) (W : List (Nat × Nat)) (i pc : Nat) (S : AST) : Option (List AO) := match a_st S with
  | .inl n :: .inl dp :: .inr (.inr (o1, (R1, true))) :: .inl sq :: .inr (.inr (o0, (R0, true))) :: r => if R0 = 0 ∨ R1 = 0 then none else (match sp[R0]?, sp[R1]? with
    | some s0, some s1 => if s0.2.1 = true ∧ s1.2.1 = true ∧ s0.2.2.1 = true ∧ s1.2.2.1 = true ∧ s0.1.1 = s1.1.1 ∧ (s0.1.1 = 20 ∨ s0.1.1 = 21) ∧ W.contains (R1, 1001) = true ∧ (a_ca S).all (fun q => !(q.1.2.1 == R1) || q.1.2.2 == 1000) = true ∧ 1 ≤ m_fr i ∧ ((r.map a_cat).sum) + 18 ≤ m_lo i ∧ (r.map a_cat).sum ≤ 8 ∧
        le_ent (a_iv S) (a_cs S) (le_mul (-1) sq) = true ∧ le_ent (a_iv S) (a_cs S) (le_mul (-1) dp) = true ∧ le_ent (a_iv S) (a_cs S) (le_mul (-1) n) = true ∧ le_ent (a_iv S) (a_cs S) (le_sub (le_add sq n) (le_c s0.1.2.1)) = true ∧ le_ent (a_iv S) (a_cs S) (le_sub (le_add dp n) (le_c s1.1.2.1)) = true then (match r_ft s0 0, r_ft s1 0 with
      | some (.inl p), some (.inl p2) => if p2.1 ≤ p.1 ∧ p.2 ≤ p2.2 then t_go (pc + 3) S r else none
      | _, _ => none) else none
    | _, _ => none)
  | _ => none
section
variable {sp : List RS} {ρ : Nat → Nat} {W : List (Nat × Nat)} {K : List Int} {KA : List Nat} {S : AST} {lv' : List (Nat × Value)} {st' : List Value} {h : MH} {pc : Nat} {st : List AT} {σ : Nat → Int} {α : Nat → Nat}
theorem t_ct : ∀ {a : List AT} {v : List Value}, t_sk σ α ρ a v → m_cat v = (a.map a_cat).sum
  | [], [], _ => rfl
  | a :: r, v :: q, h => by
    have ih := t_ct h.2
    unfold m_cat at ih ⊢
    rw [List.map_cons, List.map_cons, List.sum_cons, List.sum_cons, ih, a_catE h.1]
  | [], _ :: _, h => h.elim
  | _ :: _, [], h => h.elim
theorem s_cpI (h : MH) (a0 a1 s d n b j : Nat) : h_i (h_cpi h a0 a1 s d n) b j = if b = a1 ∧ (d ≤ j ∧ j < d + n) then h_i h a0 (s + (j - d)) else h_i h b j := by
  show m_u (h_i h) a1 (fun j => if d ≤ j ∧ j < d + n then h_i h a0 (s + (j - d)) else h_i h a1 j) b j = _
  by_cases e : b = a1
  · rw [e, m_uE]
    by_cases e2 : d ≤ j ∧ j < d + n
    · rw [if_pos e2, if_pos ⟨rfl, e2⟩]
    · rw [if_neg e2, if_neg (fun z => e2 z.2)]
  · rw [m_uN _ _ _ _ e, if_neg (fun z => e z.1)]
theorem s_cpT {a0 a1 sx d n R0 R1 : Nat} {s0 s1 : RS} {p p2 : Int × Int} (ht : TH sp ρ h) (h0 : R0 ≠ 0) (hs0 : sp[R0]? = some s0) (hs1 : sp[R1]? = some s1) (ha0 : ρ a0 = R0) (ha1 : ρ a1 = R1) (hr0 : s0.2.2.1 = true) (hr1 : s1.2.2.1 = true) (hf0 : r_ft s0 0 = some (.inl p)) (hf1 : r_ft s1 0 = some (.inl p2)) (hp : p2.1 ≤ p.1 ∧ p.2 ≤ p2.2) : TH sp ρ (h_cpi h a0 a1 sx d n) := by
  have hc0 := t_spec ht h0 hs0 ha0
  refine ⟨ht.1, fun b hb => ?_⟩
  obtain ⟨q1, rs2, q2, q3, q4, q5, q6⟩ := ht.2 b hb
  refine ⟨q1, rs2, q2, q3, q4, q5, fun j ft hj => ?_⟩
  have q7 := q6 j ft hj
  cases ft with
  | inl p3 =>
    show p3.1 ≤ (h_i (h_cpi h a0 a1 sx d n) b j).toInt ∧ (h_i (h_cpi h a0 a1 sx d n) b j).toInt ≤ p3.2
    rw [s_cpI]
    by_cases e : b = a1 ∧ (d ≤ j ∧ j < d + n)
    · rw [if_pos e]
      rw [e.1, ha1, hs1] at q2
      cases q2
      have e1 : r_ft s1 j = r_ft s1 0 := by
        unfold r_ft
        rw [hr1]
      rw [e1, hf1] at hj
      cases hj
      have e2 : r_ft s0 (sx + (j - d)) = some (.inl p) := by
        rw [← hf0]
        unfold r_ft
        rw [hr0]
      have q8 := hc0.2.2.2 _ _ e2
      have q9 : p.1 ≤ (h_i h a0 (sx + (j - d))).toInt ∧ (h_i h a0 (sx + (j - d))).toInt ≤ p.2 := q8
      omega
    · rw [if_neg e]
      exact q7
  | inr ft => cases ft with
    | inl u => trivial
    | inr q => exact q7
theorem s_cpF {a0 a1 sx d n R1 : Nat} (ha : ρ a1 = R1) (hW : (R1, 1001) ∈ W) : FR ρ W h (h_cpi h a0 a1 sx d n) := by
  refine ⟨rfl, fun _ => rfl, fun b j hj => ⟨?_, rfl, rfl⟩⟩
  rw [s_cpI]
  by_cases e : b = a1 ∧ (d ≤ j ∧ j < d + n)
  · rw [e.1, ha] at hj
    exact absurd (Or.inr hW) hj
  · rw [if_neg e]
theorem s_cpC {a0 a1 sx d n R : Nat} {ca : CA} (hR : ρ a1 = R) (hc : t_ca σ α ρ h ca) (hn : ca.all (fun q => !(q.1.2.1 == R) || q.1.2.2 == 1000) = true) : t_ca σ α ρ (h_cpi h a0 a1 sx d n) ca := by
  intro q hq
  obtain ⟨g1, g2⟩ := hc q hq
  refine ⟨g1, ?_⟩
  have hn2 := List.all_eq_true.mp hn q hq
  obtain ⟨⟨o, R2, k2⟩, t⟩ := q
  dsimp only at g1 g2 hn2 ⊢
  cases t with
  | inl e =>
    show if k2 = 1000 then ((h_k h (α o)).2 : Int) = le_ev σ e else (h_i (h_cpi h a0 a1 sx d n) (α o) k2).toInt = le_ev σ e
    have g3 : if k2 = 1000 then ((h_k h (α o)).2 : Int) = le_ev σ e else (h_i h (α o) k2).toInt = le_ev σ e := g2
    by_cases hk : k2 = 1000
    · rw [if_pos hk] at g3 ⊢
      exact g3
    · have hne : ¬ α o = a1 := fun z => by
        rw [z, hR] at g1
        rw [← g1.2] at hn2
        simp [hk] at hn2
      have hne2 : ¬ (α o = a1 ∧ (d ≤ k2 ∧ k2 < d + n)) := fun z => hne z.1
      rw [s_cpI, if_neg hne2]
      exact g3
  | inr t => cases t with
    | inl u => trivial
    | inr q => exact g2
theorem q_cp (i : Nat) (ht : TH sp ρ h) (hw : TW ρ K KA S lv' st' h σ α) : T_P sp ρ W K KA (j_cp sp W i pc S) h (e_cp i pc lv' st' h) := by
  have hs := hw.2.2.2.2.2.2
  unfold j_cp
  split
  · next n dp o1 R1 sq o0 R0 r hst =>
    rw [hst] at hs
    obtain ⟨v, q, rfl, ⟨n', rfl, hn⟩, hq1⟩ := t_sc hs
    obtain ⟨v, q, rfl, ⟨dp', rfl, hdp⟩, hq2⟩ := t_sc hq1
    obtain ⟨v, q, rfl, ⟨rfl, hrf1⟩, hq3⟩ := t_sc hq2
    obtain ⟨v, q, rfl, ⟨sq', rfl, hsq⟩, hq4⟩ := t_sc hq3
    obtain ⟨v, q, rfl, ⟨rfl, hrf0⟩, hq⟩ := t_sc hq4
    obtain ⟨a10, a1R⟩ := t_nn hrf1
    obtain ⟨a00, a0R⟩ := t_nn hrf0
    dsimp only at a10 a1R a00 a0R
    split
    · exact q_no
    · next hR =>
      split
      · next s0 s1 hs0 hs1 =>
        have hc0 := t_spec ht (fun z => hR (Or.inl z)) hs0 a0R
        have hc1 := t_spec ht (fun z => hR (Or.inr z)) hs1 a1R
        split
        · next hk =>
          obtain ⟨k1, k2, k3, k4, k5, k6, k7, k8, k9, k10, k11, k12, k13, k14, k15, k16⟩ := hk
          split
          · next p p2 hp hp2 =>
            split
            · next hpp =>
              have l1 := le_entS hw.1 hw.2.1 k12
              have l2 := le_entS hw.1 hw.2.1 k13
              have l3 := le_entS hw.1 hw.2.1 k14
              have l4 := le_entS hw.1 hw.2.1 k15
              have l5 := le_entS hw.1 hw.2.1 k16
              rw [le_mulE] at l1 l2 l3
              rw [le_subE, le_addE, le_cE] at l4 l5
              have e1 : ∀ {x : Int32}, 0 ≤ x.toInt → ¬ x < 0 := fun {x} hx z => by
                have := Int32.lt_iff_toInt_lt.mp z
                have : (0 : Int32).toInt = 0 := by decide
                omega
              have c0 := hc0.2.1.1
              have c1 := hc1.2.1.1
              have f1 : sq'.toNatClampNeg + n'.toNatClampNeg ≤ (h_k h (α o0)).2 := by
                show sq'.toInt.toNat + n'.toInt.toNat ≤ _
                omega
              have f2 : dp'.toNatClampNeg + n'.toNatClampNeg ≤ (h_k h (α o1)).2 := by
                show dp'.toInt.toNat + n'.toInt.toNat ≤ _
                omega
              have hct := t_ct hq
              unfold e_cp
              dsimp only
              have hcc : 16 ≤ α o0 ∧ 16 ≤ α o1 ∧ ¬ sq' < 0 ∧ ¬ dp' < 0 ∧ ¬ n' < 0 ∧ sq'.toNatClampNeg + n'.toNatClampNeg ≤ (h_k h (α o0)).2 ∧ dp'.toNatClampNeg + n'.toNatClampNeg ≤ (h_k h (α o1)).2 ∧ 1 ≤ m_fr i ∧ m_cat q + 18 ≤ m_lo i ∧ m_cat q ≤ 8 := ⟨hc0.2.2.1 k1, hc1.2.2.1 k2, e1 (by omega), e1 (by omega), e1 (by omega), f1, f2, k9, by omega, by omega⟩
              rw [if_pos hcc]
              have hkk : ((h_k h (α o0)).1 = 20 ∧ (h_k h (α o1)).1 = 20) ∨ ((h_k h (α o0)).1 = 21 ∧ (h_k h (α o1)).1 = 21) := by
                rw [hc0.1, hc1.1]
                omega
              rw [if_pos hkk]
              have ht2 := s_cpT (sx := sq'.toNatClampNeg) (d := dp'.toNatClampNeg) (n := n'.toNatClampNeg) ht (fun z => hR (Or.inl z)) hs0 hs1 a0R a1R k3 k4 hp hp2 hpp
              intro L e9
              cases (Option.some.inj e9)
              obtain ⟨w1, w2, w3, w4, w5, w6, w7⟩ := hw
              exact ⟨_, lv', q, _, rfl, s_cpF a1R (List.contains_iff_mem.mp k7), _, List.mem_singleton.mpr rfl, ht2, σ, α, w1, w2, s_cpC a1R w3 k8, w4, w5, w6, hq⟩
            · exact q_no
          · exact q_no
        · exact q_no
      · exact q_no
  · exact q_no
end
end
