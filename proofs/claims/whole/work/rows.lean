section
-- ===== PART A: goes FIRST, ahead of the names: the tables' words, and 'selects' of the private methods out of them =====
/-- a private method of a class that the tables say can be made, by its rows of tables_1 -/
def lw_okq (q : MethodName × Nat) : Prop := (q.1.cls ≠ "java/lang/invoke/MethodHandle" ∧ q.1.cls ≠ "java/lang/invoke/VarHandle") ∧ Cond.instantiable q.1.cls q.2 ∈ tables_1 ∧ Cond.privateMethod q.1 ∈ tables_1 ∧ Cond.instanceMethod q.1 ∈ tables_1
theorem lw_p0 : lw_okq (⟨"RopeSwing$Reader", "begin", "()V"⟩, 8) := ⟨⟨by decide +kernel, by decide +kernel⟩, List.mem_of_getElem? (i := 43) (by decide +kernel), List.mem_of_getElem? (i := 392) (by decide +kernel), List.mem_of_getElem? (i := 393) (by decide +kernel)⟩
theorem lw_p1 : lw_okq (⟨"RopeSwing$Reader", "take", "()V"⟩, 8) := ⟨⟨by decide +kernel, by decide +kernel⟩, List.mem_of_getElem? (i := 43) (by decide +kernel), List.mem_of_getElem? (i := 396) (by decide +kernel), List.mem_of_getElem? (i := 397) (by decide +kernel)⟩
theorem lw_p2 : lw_okq (⟨"RopeSwing$Reader", "clauseInHand", "()I"⟩, 8) := ⟨⟨by decide +kernel, by decide +kernel⟩, List.mem_of_getElem? (i := 43) (by decide +kernel), List.mem_of_getElem? (i := 411) (by decide +kernel), List.mem_of_getElem? (i := 412) (by decide +kernel)⟩
theorem lw_p3 : lw_okq (⟨"RopeSwing$Reader", "isWord", "(Ljava/lang/String;)Z"⟩, 8) := ⟨⟨by decide +kernel, by decide +kernel⟩, List.mem_of_getElem? (i := 43) (by decide +kernel), List.mem_of_getElem? (i := 427) (by decide +kernel), List.mem_of_getElem? (i := 428) (by decide +kernel)⟩
theorem lw_p4 : lw_okq (⟨"RopeSwing$Reader", "fail", "(I)Z"⟩, 8) := ⟨⟨by decide +kernel, by decide +kernel⟩, List.mem_of_getElem? (i := 43) (by decide +kernel), List.mem_of_getElem? (i := 479) (by decide +kernel), List.mem_of_getElem? (i := 480) (by decide +kernel)⟩
theorem lw_p5 : lw_okq (⟨"RopeSwing$Reader", "readClause", "(ILRopeSwing$Place;)Z"⟩, 8) := ⟨⟨by decide +kernel, by decide +kernel⟩, List.mem_of_getElem? (i := 43) (by decide +kernel), List.mem_of_getElem? (i := 483) (by decide +kernel), List.mem_of_getElem? (i := 484) (by decide +kernel)⟩
theorem lw_p6 : lw_okq (⟨"RopeSwing$Reader", "readList", "([II)Z"⟩, 8) := ⟨⟨by decide +kernel, by decide +kernel⟩, List.mem_of_getElem? (i := 43) (by decide +kernel), List.mem_of_getElem? (i := 487) (by decide +kernel), List.mem_of_getElem? (i := 488) (by decide +kernel)⟩
theorem lw_p7 : lw_okq (⟨"RopeSwing$Reader", "takeNumber", "(II)Z"⟩, 8) := ⟨⟨by decide +kernel, by decide +kernel⟩, List.mem_of_getElem? (i := 43) (by decide +kernel), List.mem_of_getElem? (i := 491) (by decide +kernel), List.mem_of_getElem? (i := 492) (by decide +kernel)⟩
theorem lw_p8 : lw_okq (⟨"RopeSwing$Reader", "isSign", "(I)Z"⟩, 8) := ⟨⟨by decide +kernel, by decide +kernel⟩, List.mem_of_getElem? (i := 43) (by decide +kernel), List.mem_of_getElem? (i := 499) (by decide +kernel), List.mem_of_getElem? (i := 500) (by decide +kernel)⟩
theorem lw_p9 : lw_okq (⟨"RopeSwing$Reader", "readStones", "([I)Z"⟩, 8) := ⟨⟨by decide +kernel, by decide +kernel⟩, List.mem_of_getElem? (i := 43) (by decide +kernel), List.mem_of_getElem? (i := 503) (by decide +kernel), List.mem_of_getElem? (i := 504) (by decide +kernel)⟩
theorem lw_p10 : lw_okq (⟨"RopeSwing$Reader", "readNumbers", "(II[I)Z"⟩, 8) := ⟨⟨by decide +kernel, by decide +kernel⟩, List.mem_of_getElem? (i := 43) (by decide +kernel), List.mem_of_getElem? (i := 514) (by decide +kernel), List.mem_of_getElem? (i := 515) (by decide +kernel)⟩
theorem lw_p11 : lw_okq (⟨"RopeSwing", "lowerNow", "()I"⟩, 14) := ⟨⟨by decide +kernel, by decide +kernel⟩, List.mem_of_getElem? (i := 21) (by decide +kernel), List.mem_of_getElem? (i := 581) (by decide +kernel), List.mem_of_getElem? (i := 582) (by decide +kernel)⟩
theorem lw_p12 : lw_okq (⟨"RopeSwing", "swingerAt", "(I)LRopeSwing$Swinger;"⟩, 14) := ⟨⟨by decide +kernel, by decide +kernel⟩, List.mem_of_getElem? (i := 21) (by decide +kernel), List.mem_of_getElem? (i := 603) (by decide +kernel), List.mem_of_getElem? (i := 604) (by decide +kernel)⟩
theorem lw_p13 : lw_okq (⟨"RopeSwing", "mostInHand", "(I)I"⟩, 14) := ⟨⟨by decide +kernel, by decide +kernel⟩, List.mem_of_getElem? (i := 21) (by decide +kernel), List.mem_of_getElem? (i := 618) (by decide +kernel), List.mem_of_getElem? (i := 619) (by decide +kernel)⟩
theorem lw_p14 : lw_okq (⟨"RopeSwing", "lengthNow", "()I"⟩, 14) := ⟨⟨by decide +kernel, by decide +kernel⟩, List.mem_of_getElem? (i := 21) (by decide +kernel), List.mem_of_getElem? (i := 629) (by decide +kernel), List.mem_of_getElem? (i := 630) (by decide +kernel)⟩
theorem lw_p15 : lw_okq (⟨"RopeSwing", "strengthAfter", "(I)I"⟩, 14) := ⟨⟨by decide +kernel, by decide +kernel⟩, List.mem_of_getElem? (i := 21) (by decide +kernel), List.mem_of_getElem? (i := 633) (by decide +kernel), List.mem_of_getElem? (i := 634) (by decide +kernel)⟩
def lw_privs_1 : List (MethodName × Nat) := [(⟨"RopeSwing$Reader", "begin", "()V"⟩, 8), (⟨"RopeSwing$Reader", "take", "()V"⟩, 8), (⟨"RopeSwing$Reader", "clauseInHand", "()I"⟩, 8), (⟨"RopeSwing$Reader", "isWord", "(Ljava/lang/String;)Z"⟩, 8), (⟨"RopeSwing$Reader", "fail", "(I)Z"⟩, 8), (⟨"RopeSwing$Reader", "readClause", "(ILRopeSwing$Place;)Z"⟩, 8), (⟨"RopeSwing$Reader", "readList", "([II)Z"⟩, 8), (⟨"RopeSwing$Reader", "takeNumber", "(II)Z"⟩, 8), (⟨"RopeSwing$Reader", "isSign", "(I)Z"⟩, 8), (⟨"RopeSwing$Reader", "readStones", "([I)Z"⟩, 8), (⟨"RopeSwing$Reader", "readNumbers", "(II[I)Z"⟩, 8), (⟨"RopeSwing", "lowerNow", "()I"⟩, 14), (⟨"RopeSwing", "swingerAt", "(I)LRopeSwing$Swinger;"⟩, 14), (⟨"RopeSwing", "mostInHand", "(I)I"⟩, 14), (⟨"RopeSwing", "lengthNow", "()I"⟩, 14), (⟨"RopeSwing", "strengthAfter", "(I)I"⟩, 14)]
theorem lw_r1 : ∀ q ∈ lw_privs_1, lw_okq q := List.forall_mem_cons.mpr ⟨lw_p0, List.forall_mem_cons.mpr ⟨lw_p1, List.forall_mem_cons.mpr ⟨lw_p2, List.forall_mem_cons.mpr ⟨lw_p3, List.forall_mem_cons.mpr ⟨lw_p4, List.forall_mem_cons.mpr ⟨lw_p5, List.forall_mem_cons.mpr ⟨lw_p6, List.forall_mem_cons.mpr ⟨lw_p7, List.forall_mem_cons.mpr ⟨lw_p8, List.forall_mem_cons.mpr ⟨lw_p9, List.forall_mem_cons.mpr ⟨lw_p10, List.forall_mem_cons.mpr ⟨lw_p11, List.forall_mem_cons.mpr ⟨lw_p12, List.forall_mem_cons.mpr ⟨lw_p13, List.forall_mem_cons.mpr ⟨lw_p14, List.forall_mem_cons.mpr ⟨lw_p15, fun _ h => absurd h List.not_mem_nil⟩⟩⟩⟩⟩⟩⟩⟩⟩⟩⟩⟩⟩⟩⟩⟩
theorem lw_p16 : lw_okq (⟨"RopeSwing", "traceNow", "()V"⟩, 14) := ⟨⟨by decide +kernel, by decide +kernel⟩, List.mem_of_getElem? (i := 21) (by decide +kernel), List.mem_of_getElem? (i := 654) (by decide +kernel), List.mem_of_getElem? (i := 655) (by decide +kernel)⟩
theorem lw_p17 : lw_okq (⟨"RopeSwing$Path", "note", "(I)V"⟩, 13) := ⟨⟨by decide +kernel, by decide +kernel⟩, List.mem_of_getElem? (i := 164) (by decide +kernel), List.mem_of_getElem? (i := 669) (by decide +kernel), List.mem_of_getElem? (i := 670) (by decide +kernel)⟩
theorem lw_p18 : lw_okq (⟨"RopeSwing", "ready", "(LRopeSwing$Swinger;)V"⟩, 14) := ⟨⟨by decide +kernel, by decide +kernel⟩, List.mem_of_getElem? (i := 21) (by decide +kernel), List.mem_of_getElem? (i := 716) (by decide +kernel), List.mem_of_getElem? (i := 717) (by decide +kernel)⟩
theorem lw_p19 : lw_okq (⟨"RopeSwing$Jump", "stopsBehind", "(III)I"⟩, 17) := ⟨⟨by decide +kernel, by decide +kernel⟩, List.mem_of_getElem? (i := 212) (by decide +kernel), List.mem_of_getElem? (i := 731) (by decide +kernel), List.mem_of_getElem? (i := 732) (by decide +kernel)⟩
theorem lw_p20 : lw_okq (⟨"RopeSwing$Jump", "canLetGo", "(I)Z"⟩, 17) := ⟨⟨by decide +kernel, by decide +kernel⟩, List.mem_of_getElem? (i := 212) (by decide +kernel), List.mem_of_getElem? (i := 747) (by decide +kernel), List.mem_of_getElem? (i := 748) (by decide +kernel)⟩
theorem lw_p21 : lw_okq (⟨"RopeSwing$Jump", "fly", "(I)V"⟩, 17) := ⟨⟨by decide +kernel, by decide +kernel⟩, List.mem_of_getElem? (i := 212) (by decide +kernel), List.mem_of_getElem? (i := 751) (by decide +kernel), List.mem_of_getElem? (i := 752) (by decide +kernel)⟩
theorem lw_p22 : lw_okq (⟨"RopeSwing$Jump", "landing", "(I)I"⟩, 17) := ⟨⟨by decide +kernel, by decide +kernel⟩, List.mem_of_getElem? (i := 212) (by decide +kernel), List.mem_of_getElem? (i := 763) (by decide +kernel), List.mem_of_getElem? (i := 764) (by decide +kernel)⟩
theorem lw_p23 : lw_okq (⟨"RopeSwing", "findFarthest", "()V"⟩, 14) := ⟨⟨by decide +kernel, by decide +kernel⟩, List.mem_of_getElem? (i := 21) (by decide +kernel), List.mem_of_getElem? (i := 847) (by decide +kernel), List.mem_of_getElem? (i := 848) (by decide +kernel)⟩
theorem lw_p24 : lw_okq (⟨"RopeSwing", "harmedBy", "(I)I"⟩, 14) := ⟨⟨by decide +kernel, by decide +kernel⟩, List.mem_of_getElem? (i := 21) (by decide +kernel), List.mem_of_getElem? (i := 852) (by decide +kernel), List.mem_of_getElem? (i := 853) (by decide +kernel)⟩
theorem lw_p25 : lw_okq (⟨"RopeSwing", "keptOut", "(LRopeSwing$Swinger;I)Z"⟩, 14) := ⟨⟨by decide +kernel, by decide +kernel⟩, List.mem_of_getElem? (i := 21) (by decide +kernel), List.mem_of_getElem? (i := 856) (by decide +kernel), List.mem_of_getElem? (i := 857) (by decide +kernel)⟩
theorem lw_p26 : lw_okq (⟨"RopeSwing", "comesToHarm", "(LRopeSwing$Swinger;II)Z"⟩, 14) := ⟨⟨by decide +kernel, by decide +kernel⟩, List.mem_of_getElem? (i := 21) (by decide +kernel), List.mem_of_getElem? (i := 860) (by decide +kernel), List.mem_of_getElem? (i := 861) (by decide +kernel)⟩
theorem lw_p27 : lw_okq (⟨"RopeSwing", "imageAt", "(I)LRopeSwing$State;"⟩, 14) := ⟨⟨by decide +kernel, by decide +kernel⟩, List.mem_of_getElem? (i := 21) (by decide +kernel), List.mem_of_getElem? (i := 907) (by decide +kernel), List.mem_of_getElem? (i := 908) (by decide +kernel)⟩
theorem lw_p28 : lw_okq (⟨"RopeSwingModel", "bare", "()V"⟩, 46) := ⟨⟨by decide +kernel, by decide +kernel⟩, List.mem_of_getElem? (i := 921) (by decide +kernel), List.mem_of_getElem? (i := 927) (by decide +kernel), List.mem_of_getElem? (i := 928) (by decide +kernel)⟩
theorem lw_p29 : lw_okq (⟨"RopeSwingModel", "takePlace", "()V"⟩, 46) := ⟨⟨by decide +kernel, by decide +kernel⟩, List.mem_of_getElem? (i := 921) (by decide +kernel), List.mem_of_getElem? (i := 934) (by decide +kernel), List.mem_of_getElem? (i := 935) (by decide +kernel)⟩
theorem lw_p30 : lw_okq (⟨"RopeSwingModel", "here", "()I"⟩, 46) := ⟨⟨by decide +kernel, by decide +kernel⟩, List.mem_of_getElem? (i := 921) (by decide +kernel), List.mem_of_getElem? (i := 1093) (by decide +kernel), List.mem_of_getElem? (i := 1094) (by decide +kernel)⟩
theorem lw_p31 : lw_okq (⟨"RopeSwingModel", "takeClause", "()I"⟩, 46) := ⟨⟨by decide +kernel, by decide +kernel⟩, List.mem_of_getElem? (i := 921) (by decide +kernel), List.mem_of_getElem? (i := 1097) (by decide +kernel), List.mem_of_getElem? (i := 1098) (by decide +kernel)⟩
def lw_privs_2 : List (MethodName × Nat) := [(⟨"RopeSwing", "traceNow", "()V"⟩, 14), (⟨"RopeSwing$Path", "note", "(I)V"⟩, 13), (⟨"RopeSwing", "ready", "(LRopeSwing$Swinger;)V"⟩, 14), (⟨"RopeSwing$Jump", "stopsBehind", "(III)I"⟩, 17), (⟨"RopeSwing$Jump", "canLetGo", "(I)Z"⟩, 17), (⟨"RopeSwing$Jump", "fly", "(I)V"⟩, 17), (⟨"RopeSwing$Jump", "landing", "(I)I"⟩, 17), (⟨"RopeSwing", "findFarthest", "()V"⟩, 14), (⟨"RopeSwing", "harmedBy", "(I)I"⟩, 14), (⟨"RopeSwing", "keptOut", "(LRopeSwing$Swinger;I)Z"⟩, 14), (⟨"RopeSwing", "comesToHarm", "(LRopeSwing$Swinger;II)Z"⟩, 14), (⟨"RopeSwing", "imageAt", "(I)LRopeSwing$State;"⟩, 14), (⟨"RopeSwingModel", "bare", "()V"⟩, 46), (⟨"RopeSwingModel", "takePlace", "()V"⟩, 46), (⟨"RopeSwingModel", "here", "()I"⟩, 46), (⟨"RopeSwingModel", "takeClause", "()I"⟩, 46)]
theorem lw_r2 : ∀ q ∈ lw_privs_2, lw_okq q := List.forall_mem_cons.mpr ⟨lw_p16, List.forall_mem_cons.mpr ⟨lw_p17, List.forall_mem_cons.mpr ⟨lw_p18, List.forall_mem_cons.mpr ⟨lw_p19, List.forall_mem_cons.mpr ⟨lw_p20, List.forall_mem_cons.mpr ⟨lw_p21, List.forall_mem_cons.mpr ⟨lw_p22, List.forall_mem_cons.mpr ⟨lw_p23, List.forall_mem_cons.mpr ⟨lw_p24, List.forall_mem_cons.mpr ⟨lw_p25, List.forall_mem_cons.mpr ⟨lw_p26, List.forall_mem_cons.mpr ⟨lw_p27, List.forall_mem_cons.mpr ⟨lw_p28, List.forall_mem_cons.mpr ⟨lw_p29, List.forall_mem_cons.mpr ⟨lw_p30, List.forall_mem_cons.mpr ⟨lw_p31, fun _ h => absurd h List.not_mem_nil⟩⟩⟩⟩⟩⟩⟩⟩⟩⟩⟩⟩⟩⟩⟩⟩
theorem lw_p32 : lw_okq (⟨"RopeSwingModel", "readWord", "()V"⟩, 46) := ⟨⟨by decide +kernel, by decide +kernel⟩, List.mem_of_getElem? (i := 921) (by decide +kernel), List.mem_of_getElem? (i := 1101) (by decide +kernel), List.mem_of_getElem? (i := 1102) (by decide +kernel)⟩
theorem lw_p33 : lw_okq (⟨"RopeSwingModel", "clauseOf", "()I"⟩, 46) := ⟨⟨by decide +kernel, by decide +kernel⟩, List.mem_of_getElem? (i := 921) (by decide +kernel), List.mem_of_getElem? (i := 1111) (by decide +kernel), List.mem_of_getElem? (i := 1112) (by decide +kernel)⟩
theorem lw_p34 : lw_okq (⟨"RopeSwingModel", "fails", "(II)I"⟩, 46) := ⟨⟨by decide +kernel, by decide +kernel⟩, List.mem_of_getElem? (i := 921) (by decide +kernel), List.mem_of_getElem? (i := 1121) (by decide +kernel), List.mem_of_getElem? (i := 1122) (by decide +kernel)⟩
theorem lw_p35 : lw_okq (⟨"RopeSwingModel", "take", "(III)I"⟩, 46) := ⟨⟨by decide +kernel, by decide +kernel⟩, List.mem_of_getElem? (i := 921) (by decide +kernel), List.mem_of_getElem? (i := 1125) (by decide +kernel), List.mem_of_getElem? (i := 1126) (by decide +kernel)⟩
theorem lw_p36 : lw_okq (⟨"RopeSwingModel", "takeNumber", "(II)I"⟩, 46) := ⟨⟨by decide +kernel, by decide +kernel⟩, List.mem_of_getElem? (i := 921) (by decide +kernel), List.mem_of_getElem? (i := 1129) (by decide +kernel), List.mem_of_getElem? (i := 1130) (by decide +kernel)⟩
theorem lw_p37 : lw_okq (⟨"RopeSwingModel", "takeRope", "()I"⟩, 46) := ⟨⟨by decide +kernel, by decide +kernel⟩, List.mem_of_getElem? (i := 921) (by decide +kernel), List.mem_of_getElem? (i := 1135) (by decide +kernel), List.mem_of_getElem? (i := 1136) (by decide +kernel)⟩
theorem lw_p38 : lw_okq (⟨"RopeSwingModel", "takeStart", "()I"⟩, 46) := ⟨⟨by decide +kernel, by decide +kernel⟩, List.mem_of_getElem? (i := 921) (by decide +kernel), List.mem_of_getElem? (i := 1139) (by decide +kernel), List.mem_of_getElem? (i := 1140) (by decide +kernel)⟩
theorem lw_p39 : lw_okq (⟨"RopeSwingModel", "takeRow", "([III)I"⟩, 46) := ⟨⟨by decide +kernel, by decide +kernel⟩, List.mem_of_getElem? (i := 921) (by decide +kernel), List.mem_of_getElem? (i := 1143) (by decide +kernel), List.mem_of_getElem? (i := 1144) (by decide +kernel)⟩
theorem lw_p40 : lw_okq (⟨"RopeSwingModel", "isComma", "()Z"⟩, 46) := ⟨⟨by decide +kernel, by decide +kernel⟩, List.mem_of_getElem? (i := 921) (by decide +kernel), List.mem_of_getElem? (i := 1147) (by decide +kernel), List.mem_of_getElem? (i := 1148) (by decide +kernel)⟩
theorem lw_p41 : lw_okq (⟨"RopeSwingModel", "takeStones", "()I"⟩, 46) := ⟨⟨by decide +kernel, by decide +kernel⟩, List.mem_of_getElem? (i := 921) (by decide +kernel), List.mem_of_getElem? (i := 1151) (by decide +kernel), List.mem_of_getElem? (i := 1152) (by decide +kernel)⟩
theorem lw_p42 : lw_okq (⟨"RopeSwingModel", "takeStop", "()I"⟩, 46) := ⟨⟨by decide +kernel, by decide +kernel⟩, List.mem_of_getElem? (i := 921) (by decide +kernel), List.mem_of_getElem? (i := 1155) (by decide +kernel), List.mem_of_getElem? (i := 1156) (by decide +kernel)⟩
theorem lw_p43 : lw_okq (⟨"RopeSwingModel", "takeSwinger", "()I"⟩, 46) := ⟨⟨by decide +kernel, by decide +kernel⟩, List.mem_of_getElem? (i := 921) (by decide +kernel), List.mem_of_getElem? (i := 1164) (by decide +kernel), List.mem_of_getElem? (i := 1165) (by decide +kernel)⟩
theorem lw_p44 : lw_okq (⟨"RopeSwingModel", "depthOf", "(I)I"⟩, 46) := ⟨⟨by decide +kernel, by decide +kernel⟩, List.mem_of_getElem? (i := 921) (by decide +kernel), List.mem_of_getElem? (i := 1182) (by decide +kernel), List.mem_of_getElem? (i := 1183) (by decide +kernel)⟩
theorem lw_p45 : lw_okq (⟨"RopeSwingModel", "lower", "()I"⟩, 46) := ⟨⟨by decide +kernel, by decide +kernel⟩, List.mem_of_getElem? (i := 921) (by decide +kernel), List.mem_of_getElem? (i := 1186) (by decide +kernel), List.mem_of_getElem? (i := 1187) (by decide +kernel)⟩
theorem lw_p46 : lw_okq (⟨"RopeSwingModel", "kindOf", "(I)I"⟩, 46) := ⟨⟨by decide +kernel, by decide +kernel⟩, List.mem_of_getElem? (i := 921) (by decide +kernel), List.mem_of_getElem? (i := 1190) (by decide +kernel), List.mem_of_getElem? (i := 1191) (by decide +kernel)⟩
theorem lw_p47 : lw_okq (⟨"RopeSwingModel", "isSwinger", "(I)Z"⟩, 46) := ⟨⟨by decide +kernel, by decide +kernel⟩, List.mem_of_getElem? (i := 921) (by decide +kernel), List.mem_of_getElem? (i := 1198) (by decide +kernel), List.mem_of_getElem? (i := 1199) (by decide +kernel)⟩
def lw_privs_3 : List (MethodName × Nat) := [(⟨"RopeSwingModel", "readWord", "()V"⟩, 46), (⟨"RopeSwingModel", "clauseOf", "()I"⟩, 46), (⟨"RopeSwingModel", "fails", "(II)I"⟩, 46), (⟨"RopeSwingModel", "take", "(III)I"⟩, 46), (⟨"RopeSwingModel", "takeNumber", "(II)I"⟩, 46), (⟨"RopeSwingModel", "takeRope", "()I"⟩, 46), (⟨"RopeSwingModel", "takeStart", "()I"⟩, 46), (⟨"RopeSwingModel", "takeRow", "([III)I"⟩, 46), (⟨"RopeSwingModel", "isComma", "()Z"⟩, 46), (⟨"RopeSwingModel", "takeStones", "()I"⟩, 46), (⟨"RopeSwingModel", "takeStop", "()I"⟩, 46), (⟨"RopeSwingModel", "takeSwinger", "()I"⟩, 46), (⟨"RopeSwingModel", "depthOf", "(I)I"⟩, 46), (⟨"RopeSwingModel", "lower", "()I"⟩, 46), (⟨"RopeSwingModel", "kindOf", "(I)I"⟩, 46), (⟨"RopeSwingModel", "isSwinger", "(I)Z"⟩, 46)]
theorem lw_r3 : ∀ q ∈ lw_privs_3, lw_okq q := List.forall_mem_cons.mpr ⟨lw_p32, List.forall_mem_cons.mpr ⟨lw_p33, List.forall_mem_cons.mpr ⟨lw_p34, List.forall_mem_cons.mpr ⟨lw_p35, List.forall_mem_cons.mpr ⟨lw_p36, List.forall_mem_cons.mpr ⟨lw_p37, List.forall_mem_cons.mpr ⟨lw_p38, List.forall_mem_cons.mpr ⟨lw_p39, List.forall_mem_cons.mpr ⟨lw_p40, List.forall_mem_cons.mpr ⟨lw_p41, List.forall_mem_cons.mpr ⟨lw_p42, List.forall_mem_cons.mpr ⟨lw_p43, List.forall_mem_cons.mpr ⟨lw_p44, List.forall_mem_cons.mpr ⟨lw_p45, List.forall_mem_cons.mpr ⟨lw_p46, List.forall_mem_cons.mpr ⟨lw_p47, fun _ h => absurd h List.not_mem_nil⟩⟩⟩⟩⟩⟩⟩⟩⟩⟩⟩⟩⟩⟩⟩⟩
theorem lw_p48 : lw_okq (⟨"RopeSwingModel", "strengthIn", "(I)I"⟩, 46) := ⟨⟨by decide +kernel, by decide +kernel⟩, List.mem_of_getElem? (i := 921) (by decide +kernel), List.mem_of_getElem? (i := 1214) (by decide +kernel), List.mem_of_getElem? (i := 1215) (by decide +kernel)⟩
theorem lw_p49 : lw_okq (⟨"RopeSwingModel", "useHand", "()V"⟩, 46) := ⟨⟨by decide +kernel, by decide +kernel⟩, List.mem_of_getElem? (i := 921) (by decide +kernel), List.mem_of_getElem? (i := 1238) (by decide +kernel), List.mem_of_getElem? (i := 1239) (by decide +kernel)⟩
theorem lw_p50 : lw_okq (⟨"RopeSwingModel", "usePerson", "(I)V"⟩, 46) := ⟨⟨by decide +kernel, by decide +kernel⟩, List.mem_of_getElem? (i := 921) (by decide +kernel), List.mem_of_getElem? (i := 1242) (by decide +kernel), List.mem_of_getElem? (i := 1243) (by decide +kernel)⟩
theorem lw_p51 : lw_okq (⟨"RopeSwingModel", "swing", "()V"⟩, 46) := ⟨⟨by decide +kernel, by decide +kernel⟩, List.mem_of_getElem? (i := 921) (by decide +kernel), List.mem_of_getElem? (i := 1246) (by decide +kernel), List.mem_of_getElem? (i := 1247) (by decide +kernel)⟩
theorem lw_p52 : lw_okq (⟨"RopeSwingModel", "pullOf", "(III)I"⟩, 46) := ⟨⟨by decide +kernel, by decide +kernel⟩, List.mem_of_getElem? (i := 921) (by decide +kernel), List.mem_of_getElem? (i := 1250) (by decide +kernel), List.mem_of_getElem? (i := 1251) (by decide +kernel)⟩
theorem lw_p53 : lw_okq (⟨"RopeSwingModel", "handsX", "(I)I"⟩, 46) := ⟨⟨by decide +kernel, by decide +kernel⟩, List.mem_of_getElem? (i := 921) (by decide +kernel), List.mem_of_getElem? (i := 1259) (by decide +kernel), List.mem_of_getElem? (i := 1260) (by decide +kernel)⟩
theorem lw_p54 : lw_okq (⟨"RopeSwingModel", "handsHeight", "(I)I"⟩, 46) := ⟨⟨by decide +kernel, by decide +kernel⟩, List.mem_of_getElem? (i := 921) (by decide +kernel), List.mem_of_getElem? (i := 1263) (by decide +kernel), List.mem_of_getElem? (i := 1264) (by decide +kernel)⟩
theorem lw_p55 : lw_okq (⟨"RopeSwingModel", "ready", "(I)V"⟩, 46) := ⟨⟨by decide +kernel, by decide +kernel⟩, List.mem_of_getElem? (i := 921) (by decide +kernel), List.mem_of_getElem? (i := 1274) (by decide +kernel), List.mem_of_getElem? (i := 1275) (by decide +kernel)⟩
theorem lw_p56 : lw_okq (⟨"RopeSwingModel", "letGo", "(I)V"⟩, 46) := ⟨⟨by decide +kernel, by decide +kernel⟩, List.mem_of_getElem? (i := 921) (by decide +kernel), List.mem_of_getElem? (i := 1278) (by decide +kernel), List.mem_of_getElem? (i := 1279) (by decide +kernel)⟩
theorem lw_p57 : lw_okq (⟨"RopeSwingModel", "endAt", "(II)I"⟩, 46) := ⟨⟨by decide +kernel, by decide +kernel⟩, List.mem_of_getElem? (i := 921) (by decide +kernel), List.mem_of_getElem? (i := 1282) (by decide +kernel), List.mem_of_getElem? (i := 1283) (by decide +kernel)⟩
theorem lw_p58 : lw_okq (⟨"RopeSwingModel", "fly", "(IZ)V"⟩, 46) := ⟨⟨by decide +kernel, by decide +kernel⟩, List.mem_of_getElem? (i := 921) (by decide +kernel), List.mem_of_getElem? (i := 1289) (by decide +kernel), List.mem_of_getElem? (i := 1290) (by decide +kernel)⟩
theorem lw_p59 : lw_okq (⟨"RopeSwingModel", "isDown", "(JJ)Z"⟩, 46) := ⟨⟨by decide +kernel, by decide +kernel⟩, List.mem_of_getElem? (i := 921) (by decide +kernel), List.mem_of_getElem? (i := 1296) (by decide +kernel), List.mem_of_getElem? (i := 1297) (by decide +kernel)⟩
theorem lw_p60 : lw_okq (⟨"RopeSwingModel", "land", "(IZ)V"⟩, 46) := ⟨⟨by decide +kernel, by decide +kernel⟩, List.mem_of_getElem? (i := 921) (by decide +kernel), List.mem_of_getElem? (i := 1301) (by decide +kernel), List.mem_of_getElem? (i := 1302) (by decide +kernel)⟩
theorem lw_p61 : lw_okq (⟨"RopeSwingModel", "bestTime", "(I)I"⟩, 46) := ⟨⟨by decide +kernel, by decide +kernel⟩, List.mem_of_getElem? (i := 921) (by decide +kernel), List.mem_of_getElem? (i := 1309) (by decide +kernel), List.mem_of_getElem? (i := 1310) (by decide +kernel)⟩
theorem lw_p62 : lw_okq (⟨"RopeSwingModel", "isGood", "(I)Z"⟩, 46) := ⟨⟨by decide +kernel, by decide +kernel⟩, List.mem_of_getElem? (i := 921) (by decide +kernel), List.mem_of_getElem? (i := 1313) (by decide +kernel), List.mem_of_getElem? (i := 1314) (by decide +kernel)⟩
theorem lw_p63 : lw_okq (⟨"RopeSwingModel", "wideRow", "()I"⟩, 46) := ⟨⟨by decide +kernel, by decide +kernel⟩, List.mem_of_getElem? (i := 921) (by decide +kernel), List.mem_of_getElem? (i := 1322) (by decide +kernel), List.mem_of_getElem? (i := 1323) (by decide +kernel)⟩
def lw_privs_4 : List (MethodName × Nat) := [(⟨"RopeSwingModel", "strengthIn", "(I)I"⟩, 46), (⟨"RopeSwingModel", "useHand", "()V"⟩, 46), (⟨"RopeSwingModel", "usePerson", "(I)V"⟩, 46), (⟨"RopeSwingModel", "swing", "()V"⟩, 46), (⟨"RopeSwingModel", "pullOf", "(III)I"⟩, 46), (⟨"RopeSwingModel", "handsX", "(I)I"⟩, 46), (⟨"RopeSwingModel", "handsHeight", "(I)I"⟩, 46), (⟨"RopeSwingModel", "ready", "(I)V"⟩, 46), (⟨"RopeSwingModel", "letGo", "(I)V"⟩, 46), (⟨"RopeSwingModel", "endAt", "(II)I"⟩, 46), (⟨"RopeSwingModel", "fly", "(IZ)V"⟩, 46), (⟨"RopeSwingModel", "isDown", "(JJ)Z"⟩, 46), (⟨"RopeSwingModel", "land", "(IZ)V"⟩, 46), (⟨"RopeSwingModel", "bestTime", "(I)I"⟩, 46), (⟨"RopeSwingModel", "isGood", "(I)Z"⟩, 46), (⟨"RopeSwingModel", "wideRow", "()I"⟩, 46)]
theorem lw_r4 : ∀ q ∈ lw_privs_4, lw_okq q := List.forall_mem_cons.mpr ⟨lw_p48, List.forall_mem_cons.mpr ⟨lw_p49, List.forall_mem_cons.mpr ⟨lw_p50, List.forall_mem_cons.mpr ⟨lw_p51, List.forall_mem_cons.mpr ⟨lw_p52, List.forall_mem_cons.mpr ⟨lw_p53, List.forall_mem_cons.mpr ⟨lw_p54, List.forall_mem_cons.mpr ⟨lw_p55, List.forall_mem_cons.mpr ⟨lw_p56, List.forall_mem_cons.mpr ⟨lw_p57, List.forall_mem_cons.mpr ⟨lw_p58, List.forall_mem_cons.mpr ⟨lw_p59, List.forall_mem_cons.mpr ⟨lw_p60, List.forall_mem_cons.mpr ⟨lw_p61, List.forall_mem_cons.mpr ⟨lw_p62, List.forall_mem_cons.mpr ⟨lw_p63, fun _ h => absurd h List.not_mem_nil⟩⟩⟩⟩⟩⟩⟩⟩⟩⟩⟩⟩⟩⟩⟩⟩
theorem lw_p64 : lw_okq (⟨"RopeSwingModel", "hasGood", "()Z"⟩, 46) := ⟨⟨by decide +kernel, by decide +kernel⟩, List.mem_of_getElem? (i := 921) (by decide +kernel), List.mem_of_getElem? (i := 1344) (by decide +kernel), List.mem_of_getElem? (i := 1345) (by decide +kernel)⟩
theorem lw_p65 : lw_okq (⟨"RopeSwingModel", "findFarthest", "()V"⟩, 46) := ⟨⟨by decide +kernel, by decide +kernel⟩, List.mem_of_getElem? (i := 921) (by decide +kernel), List.mem_of_getElem? (i := 1375) (by decide +kernel), List.mem_of_getElem? (i := 1376) (by decide +kernel)⟩
theorem lw_p66 : lw_okq (⟨"RopeSwingModel", "harmedBy", "(I)I"⟩, 46) := ⟨⟨by decide +kernel, by decide +kernel⟩, List.mem_of_getElem? (i := 921) (by decide +kernel), List.mem_of_getElem? (i := 1379) (by decide +kernel), List.mem_of_getElem? (i := 1380) (by decide +kernel)⟩
theorem lw_p67 : lw_okq (⟨"RopeSwingModel", "isOut", "(II)Z"⟩, 46) := ⟨⟨by decide +kernel, by decide +kernel⟩, List.mem_of_getElem? (i := 921) (by decide +kernel), List.mem_of_getElem? (i := 1383) (by decide +kernel), List.mem_of_getElem? (i := 1384) (by decide +kernel)⟩
theorem lw_p68 : lw_okq (⟨"RopeSwingModel", "draw", "(I)I"⟩, 46) := ⟨⟨by decide +kernel, by decide +kernel⟩, List.mem_of_getElem? (i := 921) (by decide +kernel), List.mem_of_getElem? (i := 1402) (by decide +kernel), List.mem_of_getElem? (i := 1403) (by decide +kernel)⟩
def lw_privs_5 : List (MethodName × Nat) := [(⟨"RopeSwingModel", "hasGood", "()Z"⟩, 46), (⟨"RopeSwingModel", "findFarthest", "()V"⟩, 46), (⟨"RopeSwingModel", "harmedBy", "(I)I"⟩, 46), (⟨"RopeSwingModel", "isOut", "(II)Z"⟩, 46), (⟨"RopeSwingModel", "draw", "(I)I"⟩, 46)]
theorem lw_r5 : ∀ q ∈ lw_privs_5, lw_okq q := List.forall_mem_cons.mpr ⟨lw_p64, List.forall_mem_cons.mpr ⟨lw_p65, List.forall_mem_cons.mpr ⟨lw_p66, List.forall_mem_cons.mpr ⟨lw_p67, List.forall_mem_cons.mpr ⟨lw_p68, fun _ h => absurd h List.not_mem_nil⟩⟩⟩⟩⟩
def lw_privs : List (MethodName × Nat) := lw_privs_1 ++ (lw_privs_2 ++ (lw_privs_3 ++ (lw_privs_4 ++ (lw_privs_5))))
def lw_tbl : List Cond := k2_sels lw_privs ++ tables_1
theorem lw_privs_ok : ∀ q ∈ lw_privs, lw_okq q := by
  show ∀ q ∈ lw_privs_1 ++ (lw_privs_2 ++ (lw_privs_3 ++ (lw_privs_4 ++ (lw_privs_5)))), lw_okq q
  exact List.forall_mem_append.mpr ⟨lw_r1, List.forall_mem_append.mpr ⟨lw_r2, List.forall_mem_append.mpr ⟨lw_r3, List.forall_mem_append.mpr ⟨lw_r4, lw_r5⟩⟩⟩⟩
end
section
def RX0 : String := "RopeSwing$Jump"
def TX0 : u_T := fun k => match k with
  | 0 => ("RopeSwing$Jump", "place", "LRopeSwing$Place;", true)
  | 1 => ("RopeSwing$Jump", "path", "LRopeSwing$Path;", true)
  | 2 => ("RopeSwing$Jump", "strength", "I", false)
  | 3 => ("RopeSwing$Jump", "lower", "I", false)
  | 4 => ("RopeSwing$Jump", "weight", "I", false)
  | 5 => ("RopeSwing$Jump", "feet", "I", false)
  | 6 => ("RopeSwing$Jump", "grip", "I", false)
  | 7 => ("RopeSwing$Jump", "lag", "I", false)
  | 8 => ("RopeSwing$Jump", "turning", "I", false)
  | 9 => ("RopeSwing$Jump", "stop", "I", false)
  | 10 => ("RopeSwing$Jump", "stopEnd", "I", false)
  | 11 => ("RopeSwing$Jump", "end", "I", false)
  | 12 => ("RopeSwing$Jump", "where", "I", false)
  | 13 => ("RopeSwing$Jump", "heldTill", "I", false)
  | 14 => ("RopeSwing$Jump", "flown", "I", false)
  | 15 => ("RopeSwing$Jump", "highest", "I", false)
  | _ => ("RopeSwing$Jump", "turned", "I", false)
def tyX0 : Nat → FieldType := fun k => match k with
  | 0 => .object "RopeSwing$Place"
  | 1 => .object "RopeSwing$Path"
  | 2 => .int
  | 3 => .int
  | 4 => .int
  | 5 => .int
  | 6 => .int
  | 7 => .int
  | 8 => .int
  | 9 => .int
  | 10 => .int
  | 11 => .int
  | 12 => .int
  | 13 => .int
  | 14 => .int
  | 15 => .int
  | _ => .int
abbrev wsX00 : List Cond := u_ws RX0 TX0 17
theorem nmX0 : ∀ a, a < 17 → ∀ b, b < 17 → a ≠ b → (TX0 a).2.1 ≠ (TX0 b).2.1 := by decide +kernel
theorem tyX0_ok : ∀ k, k < 17 → parseFieldDescriptor (TX0 k).2.2.1 = some (tyX0 k) := by decide +kernel
abbrev cX0_init : ByteArray := prog_2_method_1_code
def yX0_init : MethodName := ⟨RX0, "<init>", "(LRopeSwing$Place;LRopeSwing$Path;)V"⟩
abbrev cX0_suit : ByteArray := prog_2_method_2_code
def yX0_suit : MethodName := ⟨RX0, "suit", "(LRopeSwing$Swinger;)V"⟩
abbrev cX0_hold : ByteArray := prog_2_method_3_code
def yX0_hold : MethodName := ⟨RX0, "hold", "()V"⟩
abbrev cX0_stopsBehind : ByteArray := prog_2_method_4_code
def yX0_stopsBehind : MethodName := ⟨RX0, "stopsBehind", "(III)I"⟩
abbrev cX0_canLetGo : ByteArray := prog_2_method_5_code
def yX0_canLetGo : MethodName := ⟨RX0, "canLetGo", "(I)Z"⟩
abbrev cX0_letGo : ByteArray := prog_2_method_6_code
def yX0_letGo : MethodName := ⟨RX0, "letGo", "(I)V"⟩
abbrev cX0_fly : ByteArray := prog_2_method_7_code
def yX0_fly : MethodName := ⟨RX0, "fly", "(I)V"⟩
abbrev cX0_landing : ByteArray := prog_2_method_8_code
def yX0_landing : MethodName := ⟨RX0, "landing", "(I)I"⟩
abbrev cX0_endsGood : ByteArray := prog_2_method_9_code
def yX0_endsGood : MethodName := ⟨RX0, "endsGood", "(I)Z"⟩
abbrev cX0_hasGoodTime : ByteArray := prog_2_method_10_code
def yX0_hasGoodTime : MethodName := ⟨RX0, "hasGoodTime", "()Z"⟩
def RX1 : String := "RopeSwing$Path"
def TX1 : u_T := fun k => match k with
  | 0 => ("RopeSwing$Path", "pendulum", "LRopeSwing$Pendulum;", true)
  | 1 => ("RopeSwing$Path", "angle", "[I", true)
  | 2 => ("RopeSwing$Path", "pace", "[I", true)
  | 3 => ("RopeSwing$Path", "x", "[I", true)
  | 4 => ("RopeSwing$Path", "height", "[I", true)
  | 5 => ("RopeSwing$Path", "load", "[I", true)
  | 6 => ("RopeSwing$Path", "across", "[I", true)
  | 7 => ("RopeSwing$Path", "up", "[I", true)
  | 8 => ("RopeSwing$Path", "traced", "Z", false)
  | 9 => ("RopeSwing$Path", "bough", "I", false)
  | 10 => ("RopeSwing$Path", "length", "I", false)
  | 11 => ("RopeSwing$Path", "back", "I", false)
  | _ => ("RopeSwing$Path", "run", "I", false)
def tyX1 : Nat → FieldType := fun k => match k with
  | 0 => .object "RopeSwing$Pendulum"
  | 1 => .array .int
  | 2 => .array .int
  | 3 => .array .int
  | 4 => .array .int
  | 5 => .array .int
  | 6 => .array .int
  | 7 => .array .int
  | 8 => .boolean
  | 9 => .int
  | 10 => .int
  | 11 => .int
  | _ => .int
abbrev wsX10 : List Cond := u_ws RX1 TX1 13
theorem nmX1 : ∀ a, a < 13 → ∀ b, b < 13 → a ≠ b → (TX1 a).2.1 ≠ (TX1 b).2.1 := by decide +kernel
theorem tyX1_ok : ∀ k, k < 13 → parseFieldDescriptor (TX1 k).2.2.1 = some (tyX1 k) := by decide +kernel
abbrev cX1_init : ByteArray := prog_3_method_1_code
def yX1_init : MethodName := ⟨RX1, "<init>", "()V"⟩
abbrev cX1_trace : ByteArray := prog_3_method_2_code
def yX1_trace : MethodName := ⟨RX1, "trace", "(IIII)V"⟩
abbrev cX1_note : ByteArray := prog_3_method_3_code
def yX1_note : MethodName := ⟨RX1, "note", "(I)V"⟩
abbrev cX1_angle : ByteArray := prog_3_method_4_code
def yX1_angle : MethodName := ⟨RX1, "angle", "(I)I"⟩
abbrev cX1_pace : ByteArray := prog_3_method_5_code
def yX1_pace : MethodName := ⟨RX1, "pace", "(I)I"⟩
abbrev cX1_x : ByteArray := prog_3_method_6_code
def yX1_x : MethodName := ⟨RX1, "x", "(I)I"⟩
abbrev cX1_height : ByteArray := prog_3_method_7_code
def yX1_height : MethodName := ⟨RX1, "height", "(I)I"⟩
abbrev cX1_across : ByteArray := prog_3_method_8_code
def yX1_across : MethodName := ⟨RX1, "across", "(I)I"⟩
abbrev cX1_up : ByteArray := prog_3_method_9_code
def yX1_up : MethodName := ⟨RX1, "up", "(I)I"⟩
abbrev cX1_pull : ByteArray := prog_3_method_10_code
def yX1_pull : MethodName := ⟨RX1, "pull", "(II)I"⟩
abbrev cX1_left : ByteArray := prog_3_method_11_code
def yX1_left : MethodName := ⟨RX1, "left", "(III)I"⟩
abbrev cX1_hardestPull : ByteArray := prog_3_method_12_code
def yX1_hardestPull : MethodName := ⟨RX1, "hardestPull", "(I)I"⟩
def RX2 : String := "RopeSwing$Pendulum"
def TX2 : u_T := fun k => match k with
  | 0 => ("RopeSwing$Pendulum", "length", "I", false)
  | 1 => ("RopeSwing$Pendulum", "angle", "I", false)
  | _ => ("RopeSwing$Pendulum", "pace", "I", false)
def tyX2 : Nat → FieldType := fun k => match k with
  | 0 => .int
  | 1 => .int
  | _ => .int
abbrev wsX20 : List Cond := u_ws RX2 TX2 3
theorem nmX2 : ∀ a, a < 3 → ∀ b, b < 3 → a ≠ b → (TX2 a).2.1 ≠ (TX2 b).2.1 := by decide +kernel
theorem tyX2_ok : ∀ k, k < 3 → parseFieldDescriptor (TX2 k).2.2.1 = some (tyX2 k) := by decide +kernel
abbrev cX2_init : ByteArray := prog_4_method_1_code
def yX2_init : MethodName := ⟨RX2, "<init>", "()V"⟩
abbrev cX2_begin : ByteArray := prog_4_method_2_code
def yX2_begin : MethodName := ⟨RX2, "begin", "(III)V"⟩
abbrev cX2_swing : ByteArray := prog_4_method_3_code
def yX2_swing : MethodName := ⟨RX2, "swing", "()V"⟩
def RX3 : String := "RopeSwing$Place"
def TX3 : u_T := fun k => match k with
  | 0 => ("RopeSwing$Place", "numbers", "[I", true)
  | 1 => ("RopeSwing$Place", "depths", "[I", true)
  | 2 => ("RopeSwing$Place", "stones", "[I", true)
  | _ => ("RopeSwing$Place", "lower", "[I", true)
def tyX3 : Nat → FieldType := fun k => match k with
  | 0 => .array .int
  | 1 => .array .int
  | 2 => .array .int
  | _ => .array .int
abbrev wsX30 : List Cond := u_ws RX3 TX3 4
theorem nmX3 : ∀ a, a < 4 → ∀ b, b < 4 → a ≠ b → (TX3 a).2.1 ≠ (TX3 b).2.1 := by decide +kernel
theorem tyX3_ok : ∀ k, k < 4 → parseFieldDescriptor (TX3 k).2.2.1 = some (tyX3 k) := by decide +kernel
abbrev cX3_init : ByteArray := prog_5_method_1_code
def yX3_init : MethodName := ⟨RX3, "<init>", "()V"⟩
abbrev cX3_clear : ByteArray := prog_5_method_2_code
def yX3_clear : MethodName := ⟨RX3, "clear", "()V"⟩
abbrev cX3_copy : ByteArray := prog_5_method_3_code
def yX3_copy : MethodName := ⟨RX3, "copy", "(LRopeSwing$Place;)V"⟩
abbrev cX3_number : ByteArray := prog_5_method_4_code
def yX3_number : MethodName := ⟨RX3, "number", "(I)I"⟩
abbrev cX3_lower : ByteArray := prog_5_method_5_code
def yX3_lower : MethodName := ⟨RX3, "lower", "(I)I"⟩
abbrev cX3_depth : ByteArray := prog_5_method_6_code
def yX3_depth : MethodName := ⟨RX3, "depth", "(II)I"⟩
abbrev cX3_kind : ByteArray := prog_5_method_7_code
def yX3_kind : MethodName := ⟨RX3, "kind", "(I)I"⟩
abbrev cX3_cellAt : ByteArray := prog_5_method_8_code
def yX3_cellAt : MethodName := ⟨RX3, "cellAt", "(I)I"⟩
def RX4 : String := "RopeSwing$Reader"
def TX4 : u_T := fun k => match k with
  | 0 => ("RopeSwing$Reader", "text", "LRopeSwing$Text;", true)
  | 1 => ("RopeSwing$Reader", "next", "I", false)
  | 2 => ("RopeSwing$Reader", "kind", "I", false)
  | 3 => ("RopeSwing$Reader", "start", "I", false)
  | 4 => ("RopeSwing$Reader", "value", "I", false)
  | 5 => ("RopeSwing$Reader", "faultNumber", "I", false)
  | 6 => ("RopeSwing$Reader", "faultAt", "I", false)
  | _ => ("RopeSwing$Reader", "clauses", "I", false)
def tyX4 : Nat → FieldType := fun k => match k with
  | 0 => .object "RopeSwing$Text"
  | 1 => .int
  | 2 => .int
  | 3 => .int
  | 4 => .int
  | 5 => .int
  | 6 => .int
  | _ => .int
abbrev wsX40 : List Cond := u_ws RX4 TX4 8
theorem nmX4 : ∀ a, a < 8 → ∀ b, b < 8 → a ≠ b → (TX4 a).2.1 ≠ (TX4 b).2.1 := by decide +kernel
theorem tyX4_ok : ∀ k, k < 8 → parseFieldDescriptor (TX4 k).2.2.1 = some (tyX4 k) := by decide +kernel
abbrev cX4_init : ByteArray := prog_6_method_1_code
def yX4_init : MethodName := ⟨RX4, "<init>", "(LRopeSwing$Text;)V"⟩
abbrev cX4_faultNumber : ByteArray := prog_6_method_2_code
def yX4_faultNumber : MethodName := ⟨RX4, "faultNumber", "()I"⟩
abbrev cX4_faultAt : ByteArray := prog_6_method_3_code
def yX4_faultAt : MethodName := ⟨RX4, "faultAt", "()I"⟩
abbrev cX4_clauses : ByteArray := prog_6_method_4_code
def yX4_clauses : MethodName := ⟨RX4, "clauses", "()I"⟩
abbrev cX4_readPlace : ByteArray := prog_6_method_5_code
def yX4_readPlace : MethodName := ⟨RX4, "readPlace", "(LRopeSwing$Place;)Z"⟩
abbrev cX4_readSwinger : ByteArray := prog_6_method_6_code
def yX4_readSwinger : MethodName := ⟨RX4, "readSwinger", "(LRopeSwing$Swinger;)Z"⟩
abbrev cX4_readClause : ByteArray := prog_6_method_7_code
def yX4_readClause : MethodName := ⟨RX4, "readClause", "(ILRopeSwing$Place;)Z"⟩
abbrev cX4_readNumbers : ByteArray := prog_6_method_8_code
def yX4_readNumbers : MethodName := ⟨RX4, "readNumbers", "(II[I)Z"⟩
abbrev cX4_readList : ByteArray := prog_6_method_9_code
def yX4_readList : MethodName := ⟨RX4, "readList", "([II)Z"⟩
abbrev cX4_readStones : ByteArray := prog_6_method_10_code
def yX4_readStones : MethodName := ⟨RX4, "readStones", "([I)Z"⟩
abbrev cX4_begin : ByteArray := prog_6_method_11_code
def yX4_begin : MethodName := ⟨RX4, "begin", "()V"⟩
abbrev cX4_fail : ByteArray := prog_6_method_12_code
def yX4_fail : MethodName := ⟨RX4, "fail", "(I)Z"⟩
abbrev cX4_takeNumber : ByteArray := prog_6_method_13_code
def yX4_takeNumber : MethodName := ⟨RX4, "takeNumber", "(II)Z"⟩
abbrev cX4_isSign : ByteArray := prog_6_method_14_code
def yX4_isSign : MethodName := ⟨RX4, "isSign", "(I)Z"⟩
abbrev cX4_take : ByteArray := prog_6_method_15_code
def yX4_take : MethodName := ⟨RX4, "take", "()V"⟩
abbrev cX4_clauseInHand : ByteArray := prog_6_method_16_code
def yX4_clauseInHand : MethodName := ⟨RX4, "clauseInHand", "()I"⟩
abbrev cX4_nameOf : ByteArray := prog_6_method_17_code
def yX4_nameOf : MethodName := ⟨RX4, "nameOf", "(I)Ljava/lang/String;"⟩
abbrev cX4_isWord : ByteArray := prog_6_method_18_code
def yX4_isWord : MethodName := ⟨RX4, "isWord", "(Ljava/lang/String;)Z"⟩
abbrev cX4_isLetter : ByteArray := prog_6_method_19_code
def yX4_isLetter : MethodName := ⟨RX4, "isLetter", "(I)Z"⟩
abbrev cX4_isFigure : ByteArray := prog_6_method_20_code
def yX4_isFigure : MethodName := ⟨RX4, "isFigure", "(I)Z"⟩
def RX5 : String := "RopeSwing$State"
def TX5 : u_T := fun k => match k with
  | 0 => ("RopeSwing$State", "inHand", "[I", true)
  | 1 => ("RopeSwing$State", "ends", "[I", true)
  | 2 => ("RopeSwing$State", "seed", "I", false)
  | _ => ("RopeSwing$State", "kept", "Z", false)
def tyX5 : Nat → FieldType := fun k => match k with
  | 0 => .array .int
  | 1 => .array .int
  | 2 => .int
  | _ => .boolean
abbrev wsX50 : List Cond := u_ws RX5 TX5 4
theorem nmX5 : ∀ a, a < 4 → ∀ b, b < 4 → a ≠ b → (TX5 a).2.1 ≠ (TX5 b).2.1 := by decide +kernel
theorem tyX5_ok : ∀ k, k < 4 → parseFieldDescriptor (TX5 k).2.2.1 = some (tyX5 k) := by decide +kernel
abbrev cX5_init : ByteArray := prog_7_method_1_code
def yX5_init : MethodName := ⟨RX5, "<init>", "()V"⟩
abbrev cX5_begin : ByteArray := prog_7_method_2_code
def yX5_begin : MethodName := ⟨RX5, "begin", "(LRopeSwing$Place;)V"⟩
abbrev cX5_inHand : ByteArray := prog_7_method_3_code
def yX5_inHand : MethodName := ⟨RX5, "inHand", "(I)I"⟩
abbrev cX5_take : ByteArray := prog_7_method_4_code
def yX5_take : MethodName := ⟨RX5, "take", "(II)V"⟩
abbrev cX5_draw : ByteArray := prog_7_method_5_code
def yX5_draw : MethodName := ⟨RX5, "draw", "(I)I"⟩
abbrev cX5_count : ByteArray := prog_7_method_6_code
def yX5_count : MethodName := ⟨RX5, "count", "(I)V"⟩
abbrev cX5_counted : ByteArray := prog_7_method_7_code
def yX5_counted : MethodName := ⟨RX5, "counted", "(I)I"⟩
abbrev cX5_copy : ByteArray := prog_7_method_8_code
def yX5_copy : MethodName := ⟨RX5, "copy", "(LRopeSwing$State;)V"⟩
def RX6 : String := "RopeSwing$Swinger"
def TX6 : u_T := fun k => match k with
  | _ => ("RopeSwing$Swinger", "numbers", "[I", true)
def tyX6 : Nat → FieldType := fun k => match k with
  | _ => .array .int
abbrev wsX60 : List Cond := u_ws RX6 TX6 1
theorem nmX6 : ∀ a, a < 1 → ∀ b, b < 1 → a ≠ b → (TX6 a).2.1 ≠ (TX6 b).2.1 := by decide +kernel
theorem tyX6_ok : ∀ k, k < 1 → parseFieldDescriptor (TX6 k).2.2.1 = some (tyX6 k) := by decide +kernel
abbrev cX6_init : ByteArray := prog_8_method_1_code
def yX6_init : MethodName := ⟨RX6, "<init>", "()V"⟩
abbrev cX6_least : ByteArray := prog_8_method_2_code
def yX6_least : MethodName := ⟨RX6, "least", "(I)I"⟩
abbrev cX6_most : ByteArray := prog_8_method_3_code
def yX6_most : MethodName := ⟨RX6, "most", "(I)I"⟩
abbrev cX6_number : ByteArray := prog_8_method_4_code
def yX6_number : MethodName := ⟨RX6, "number", "(I)I"⟩
def RX7 : String := "RopeSwing$Text"
def TX7 : u_T := fun k => match k with
  | 0 => ("RopeSwing$Text", "bytes", "[I", true)
  | _ => ("RopeSwing$Text", "length", "I", false)
def tyX7 : Nat → FieldType := fun k => match k with
  | 0 => .array .int
  | _ => .int
abbrev wsX70 : List Cond := u_ws RX7 TX7 2
theorem nmX7 : ∀ a, a < 2 → ∀ b, b < 2 → a ≠ b → (TX7 a).2.1 ≠ (TX7 b).2.1 := by decide +kernel
theorem tyX7_ok : ∀ k, k < 2 → parseFieldDescriptor (TX7 k).2.2.1 = some (tyX7 k) := by decide +kernel
abbrev cX7_init : ByteArray := prog_9_method_1_code
def yX7_init : MethodName := ⟨RX7, "<init>", "()V"⟩
abbrev cX7_length : ByteArray := prog_9_method_2_code
def yX7_length : MethodName := ⟨RX7, "length", "()I"⟩
abbrev cX7_add : ByteArray := prog_9_method_3_code
def yX7_add : MethodName := ⟨RX7, "add", "(I)V"⟩
abbrev cX7_byteAt : ByteArray := prog_9_method_4_code
def yX7_byteAt : MethodName := ⟨RX7, "byteAt", "(I)I"⟩
abbrev cX7_clear : ByteArray := prog_9_method_5_code
def yX7_clear : MethodName := ⟨RX7, "clear", "()V"⟩
def RX8 : String := "RopeSwing$Times"
def TX8 : u_T := fun k => match k with
  | 0 => ("RopeSwing$Times", "farthest", "I", false)
  | 1 => ("RopeSwing$Times", "highest", "I", false)
  | 2 => ("RopeSwing$Times", "longest", "I", false)
  | 3 => ("RopeSwing$Times", "first", "I", false)
  | _ => ("RopeSwing$Times", "good", "I", false)
def tyX8 : Nat → FieldType := fun k => match k with
  | 0 => .int
  | 1 => .int
  | 2 => .int
  | 3 => .int
  | _ => .int
abbrev wsX80 : List Cond := u_ws RX8 TX8 5
theorem nmX8 : ∀ a, a < 5 → ∀ b, b < 5 → a ≠ b → (TX8 a).2.1 ≠ (TX8 b).2.1 := by decide +kernel
theorem tyX8_ok : ∀ k, k < 5 → parseFieldDescriptor (TX8 k).2.2.1 = some (tyX8 k) := by decide +kernel
abbrev cX8_init : ByteArray := prog_10_method_1_code
def yX8_init : MethodName := ⟨RX8, "<init>", "()V"⟩
abbrev cX8_scan : ByteArray := prog_10_method_2_code
def yX8_scan : MethodName := ⟨RX8, "scan", "(LRopeSwing$Jump;)V"⟩
def RX9 : String := "RopeSwing"
def TX9 : u_T := fun k => match k with
  | 0 => ("RopeSwing", "text", "LRopeSwing$Text;", true)
  | 1 => ("RopeSwing", "reader", "LRopeSwing$Reader;", true)
  | 2 => ("RopeSwing", "place", "LRopeSwing$Place;", true)
  | 3 => ("RopeSwing", "draft", "LRopeSwing$Place;", true)
  | 4 => ("RopeSwing", "swingers", "[LRopeSwing$Swinger;", true)
  | 5 => ("RopeSwing", "howMany", "I", false)
  | 6 => ("RopeSwing", "state", "LRopeSwing$State;", true)
  | 7 => ("RopeSwing", "images", "[LRopeSwing$State;", true)
  | 8 => ("RopeSwing", "pendulum", "LRopeSwing$Pendulum;", true)
  | 9 => ("RopeSwing", "path", "LRopeSwing$Path;", true)
  | 10 => ("RopeSwing", "jump", "LRopeSwing$Jump;", true)
  | 11 => ("RopeSwing", "times", "LRopeSwing$Times;", true)
  | 12 => ("RopeSwing", "farthest", "[I", true)
  | _ => ("RopeSwing", "faultAt", "I", false)
def tyX9 : Nat → FieldType := fun k => match k with
  | 0 => .object "RopeSwing$Text"
  | 1 => .object "RopeSwing$Reader"
  | 2 => .object "RopeSwing$Place"
  | 3 => .object "RopeSwing$Place"
  | 4 => .array (.object "RopeSwing$Swinger")
  | 5 => .int
  | 6 => .object "RopeSwing$State"
  | 7 => .array (.object "RopeSwing$State")
  | 8 => .object "RopeSwing$Pendulum"
  | 9 => .object "RopeSwing$Path"
  | 10 => .object "RopeSwing$Jump"
  | 11 => .object "RopeSwing$Times"
  | 12 => .array .int
  | _ => .int
abbrev wsX90 : List Cond := u_ws RX9 TX9 14
theorem nmX9 : ∀ a, a < 14 → ∀ b, b < 14 → a ≠ b → (TX9 a).2.1 ≠ (TX9 b).2.1 := by decide +kernel
theorem tyX9_ok : ∀ k, k < 14 → parseFieldDescriptor (TX9 k).2.2.1 = some (tyX9 k) := by decide +kernel
abbrev cX9_init : ByteArray := prog_1_method_1_code
def yX9_init : MethodName := ⟨RX9, "<init>", "()V"⟩
abbrev cX9_feed : ByteArray := prog_1_method_2_code
def yX9_feed : MethodName := ⟨RX9, "feed", "(IJ)I"⟩
abbrev cX9_place : ByteArray := prog_1_method_3_code
def yX9_place : MethodName := ⟨RX9, "place", "()I"⟩
abbrev cX9_swinger : ByteArray := prog_1_method_4_code
def yX9_swinger : MethodName := ⟨RX9, "swinger", "()I"⟩
abbrev cX9_fault : ByteArray := prog_1_method_5_code
def yX9_fault : MethodName := ⟨RX9, "fault", "()I"⟩
abbrev cX9_told : ByteArray := prog_1_method_6_code
def yX9_told : MethodName := ⟨RX9, "told", "(I)I"⟩
abbrev cX9_cell : ByteArray := prog_1_method_7_code
def yX9_cell : MethodName := ⟨RX9, "cell", "(II)I"⟩
abbrev cX9_who : ByteArray := prog_1_method_8_code
def yX9_who : MethodName := ⟨RX9, "who", "(II)I"⟩
abbrev cX9_set : ByteArray := prog_1_method_9_code
def yX9_set : MethodName := ⟨RX9, "set", "(II)I"⟩
abbrev cX9_now : ByteArray := prog_1_method_10_code
def yX9_now : MethodName := ⟨RX9, "now", "(I)I"⟩
abbrev cX9_sine : ByteArray := prog_1_method_11_code
def yX9_sine : MethodName := ⟨RX9, "sine", "(I)I"⟩
abbrev cX9_holds : ByteArray := prog_1_method_12_code
def yX9_holds : MethodName := ⟨RX9, "holds", "(III)I"⟩
abbrev cX9_lands : ByteArray := prog_1_method_13_code
def yX9_lands : MethodName := ⟨RX9, "lands", "(III)I"⟩
abbrev cX9_best : ByteArray := prog_1_method_14_code
def yX9_best : MethodName := ⟨RX9, "best", "(II)I"⟩
abbrev cX9_wide : ByteArray := prog_1_method_15_code
def yX9_wide : MethodName := ⟨RX9, "wide", "(II)I"⟩
abbrev cX9_odds : ByteArray := prog_1_method_16_code
def yX9_odds : MethodName := ⟨RX9, "odds", "(III)I"⟩
abbrev cX9_strong : ByteArray := prog_1_method_17_code
def yX9_strong : MethodName := ⟨RX9, "strong", "(II)I"⟩
abbrev cX9_heavy : ByteArray := prog_1_method_18_code
def yX9_heavy : MethodName := ⟨RX9, "heavy", "()I"⟩
abbrev cX9_may : ByteArray := prog_1_method_19_code
def yX9_may : MethodName := ⟨RX9, "may", "()I"⟩
abbrev cX9_months : ByteArray := prog_1_method_20_code
def yX9_months : MethodName := ⟨RX9, "months", "(I)I"⟩
abbrev cX9_rope : ByteArray := prog_1_method_21_code
def yX9_rope : MethodName := ⟨RX9, "rope", "(II)I"⟩
abbrev cX9_turn : ByteArray := prog_1_method_22_code
def yX9_turn : MethodName := ⟨RX9, "turn", "(II)I"⟩
abbrev cX9_film : ByteArray := prog_1_method_23_code
def yX9_film : MethodName := ⟨RX9, "film", "(II)I"⟩
abbrev cX9_age : ByteArray := prog_1_method_24_code
def yX9_age : MethodName := ⟨RX9, "age", "(I)I"⟩
abbrev cX9_harmed : ByteArray := prog_1_method_25_code
def yX9_harmed : MethodName := ⟨RX9, "harmed", "(I)I"⟩
abbrev cX9_enough : ByteArray := prog_1_method_26_code
def yX9_enough : MethodName := ⟨RX9, "enough", "()I"⟩
abbrev cX9_seed : ByteArray := prog_1_method_27_code
def yX9_seed : MethodName := ⟨RX9, "seed", "(I)I"⟩
abbrev cX9_afternoon : ByteArray := prog_1_method_28_code
def yX9_afternoon : MethodName := ⟨RX9, "afternoon", "(I)I"⟩
abbrev cX9_ends : ByteArray := prog_1_method_29_code
def yX9_ends : MethodName := ⟨RX9, "ends", "(I)I"⟩
abbrev cX9_keep : ByteArray := prog_1_method_30_code
def yX9_keep : MethodName := ⟨RX9, "keep", "(I)I"⟩
abbrev cX9_goBack : ByteArray := prog_1_method_31_code
def yX9_goBack : MethodName := ⟨RX9, "goBack", "(I)I"⟩
abbrev cX9_swingerAt : ByteArray := prog_1_method_32_code
def yX9_swingerAt : MethodName := ⟨RX9, "swingerAt", "(I)LRopeSwing$Swinger;"⟩
abbrev cX9_imageAt : ByteArray := prog_1_method_33_code
def yX9_imageAt : MethodName := ⟨RX9, "imageAt", "(I)LRopeSwing$State;"⟩
abbrev cX9_mostInHand : ByteArray := prog_1_method_34_code
def yX9_mostInHand : MethodName := ⟨RX9, "mostInHand", "(I)I"⟩
abbrev cX9_lengthNow : ByteArray := prog_1_method_35_code
def yX9_lengthNow : MethodName := ⟨RX9, "lengthNow", "()I"⟩
abbrev cX9_lowerNow : ByteArray := prog_1_method_36_code
def yX9_lowerNow : MethodName := ⟨RX9, "lowerNow", "()I"⟩
abbrev cX9_strengthAfter : ByteArray := prog_1_method_37_code
def yX9_strengthAfter : MethodName := ⟨RX9, "strengthAfter", "(I)I"⟩
abbrev cX9_traceNow : ByteArray := prog_1_method_38_code
def yX9_traceNow : MethodName := ⟨RX9, "traceNow", "()V"⟩
abbrev cX9_ready : ByteArray := prog_1_method_39_code
def yX9_ready : MethodName := ⟨RX9, "ready", "(LRopeSwing$Swinger;)V"⟩
abbrev cX9_findFarthest : ByteArray := prog_1_method_40_code
def yX9_findFarthest : MethodName := ⟨RX9, "findFarthest", "()V"⟩
abbrev cX9_harmedBy : ByteArray := prog_1_method_41_code
def yX9_harmedBy : MethodName := ⟨RX9, "harmedBy", "(I)I"⟩
abbrev cX9_keptOut : ByteArray := prog_1_method_42_code
def yX9_keptOut : MethodName := ⟨RX9, "keptOut", "(LRopeSwing$Swinger;I)Z"⟩
abbrev cX9_comesToHarm : ByteArray := prog_1_method_43_code
def yX9_comesToHarm : MethodName := ⟨RX9, "comesToHarm", "(LRopeSwing$Swinger;II)Z"⟩
abbrev cX9_within : ByteArray := prog_1_method_44_code
def yX9_within : MethodName := ⟨RX9, "within", "(III)Z"⟩
abbrev cX9_isGood : ByteArray := prog_1_method_45_code
def yX9_isGood : MethodName := ⟨RX9, "isGood", "(I)Z"⟩
abbrev cX9_quotient : ByteArray := prog_1_method_46_code
def yX9_quotient : MethodName := ⟨RX9, "quotient", "(II)I"⟩
abbrev cX9_at : ByteArray := prog_1_method_47_code
def yX9_at : MethodName := ⟨RX9, "at", "([II)I"⟩
abbrev cX9_put : ByteArray := prog_1_method_48_code
def yX9_put : MethodName := ⟨RX9, "put", "([III)V"⟩
abbrev cX9_sineOf : ByteArray := prog_1_method_49_code
def yX9_sineOf : MethodName := ⟨RX9, "sineOf", "(I)I"⟩
abbrev cX9_sizeOf : ByteArray := prog_1_method_50_code
def yX9_sizeOf : MethodName := ⟨RX9, "sizeOf", "(I)I"⟩
def RX10 : String := "RopeSwingModel"
def TX10 : u_T := fun k => match k with
  | 0 => ("RopeSwingModel", "told", "[I", true)
  | 1 => ("RopeSwingModel", "depths", "[I", true)
  | 2 => ("RopeSwingModel", "isStone", "[Z", true)
  | 3 => ("RopeSwingModel", "lowers", "[I", true)
  | 4 => ("RopeSwingModel", "swingers", "I", false)
  | 5 => ("RopeSwingModel", "people", "[I", true)
  | 6 => ("RopeSwingModel", "hand", "[I", true)
  | 7 => ("RopeSwingModel", "text", "[I", true)
  | 8 => ("RopeSwingModel", "texted", "I", false)
  | 9 => ("RopeSwingModel", "faultPlace", "I", false)
  | 10 => ("RopeSwingModel", "at0", "I", false)
  | 11 => ("RopeSwingModel", "said", "J", false)
  | 12 => ("RopeSwingModel", "wordEnd", "I", false)
  | 13 => ("RopeSwingModel", "number", "I", false)
  | 14 => ("RopeSwingModel", "numberAt", "I", false)
  | 15 => ("RopeSwingModel", "readTold", "[I", true)
  | 16 => ("RopeSwingModel", "readDepths", "[I", true)
  | 17 => ("RopeSwingModel", "readStone", "[Z", true)
  | 18 => ("RopeSwingModel", "readLowers", "[I", true)
  | 19 => ("RopeSwingModel", "toldSet", "I", false)
  | 20 => ("RopeSwingModel", "clauses", "I", false)
  | 21 => ("RopeSwingModel", "ropeLong", "I", false)
  | 22 => ("RopeSwingModel", "run", "I", false)
  | 23 => ("RopeSwingModel", "strength", "I", false)
  | 24 => ("RopeSwingModel", "weight", "I", false)
  | 25 => ("RopeSwingModel", "feet", "I", false)
  | 26 => ("RopeSwingModel", "grip", "I", false)
  | 27 => ("RopeSwingModel", "lag", "I", false)
  | 28 => ("RopeSwingModel", "turning", "I", false)
  | 29 => ("RopeSwingModel", "angleAt", "[I", true)
  | 30 => ("RopeSwingModel", "paceAt", "[I", true)
  | 31 => ("RopeSwingModel", "pullAt", "[I", true)
  | 32 => ("RopeSwingModel", "leftAt", "[I", true)
  | 33 => ("RopeSwingModel", "ended", "I", false)
  | 34 => ("RopeSwingModel", "where", "I", false)
  | 35 => ("RopeSwingModel", "endTick", "I", false)
  | 36 => ("RopeSwingModel", "flew", "I", false)
  | 37 => ("RopeSwingModel", "highest", "I", false)
  | 38 => ("RopeSwingModel", "turned", "I", false)
  | 39 => ("RopeSwingModel", "wideFrom", "I", false)
  | 40 => ("RopeSwingModel", "goodMany", "I", false)
  | 41 => ("RopeSwingModel", "farthest", "[I", true)
  | 42 => ("RopeSwingModel", "seed", "I", false)
  | 43 => ("RopeSwingModel", "endMany", "[I", true)
  | 44 => ("RopeSwingModel", "images", "[I", true)
  | _ => ("RopeSwingModel", "isKept", "[Z", true)
def tyX10 : Nat → FieldType := fun k => match k with
  | 0 => .array .int
  | 1 => .array .int
  | 2 => .array .boolean
  | 3 => .array .int
  | 4 => .int
  | 5 => .array .int
  | 6 => .array .int
  | 7 => .array .int
  | 8 => .int
  | 9 => .int
  | 10 => .int
  | 11 => .long
  | 12 => .int
  | 13 => .int
  | 14 => .int
  | 15 => .array .int
  | 16 => .array .int
  | 17 => .array .boolean
  | 18 => .array .int
  | 19 => .int
  | 20 => .int
  | 21 => .int
  | 22 => .int
  | 23 => .int
  | 24 => .int
  | 25 => .int
  | 26 => .int
  | 27 => .int
  | 28 => .int
  | 29 => .array .int
  | 30 => .array .int
  | 31 => .array .int
  | 32 => .array .int
  | 33 => .int
  | 34 => .int
  | 35 => .int
  | 36 => .int
  | 37 => .int
  | 38 => .int
  | 39 => .int
  | 40 => .int
  | 41 => .array .int
  | 42 => .int
  | 43 => .array .int
  | 44 => .array .int
  | _ => .array .boolean
abbrev wsX100 : List Cond := u_ws RX10 TX10 46
theorem nmX10 : ∀ a, a < 46 → ∀ b, b < 46 → a ≠ b → (TX10 a).2.1 ≠ (TX10 b).2.1 := by decide +kernel
theorem tyX10_ok : ∀ k, k < 46 → parseFieldDescriptor (TX10 k).2.2.1 = some (tyX10 k) := by decide +kernel
abbrev cX10_init : ByteArray := prog_12_method_1_code
def yX10_init : MethodName := ⟨RX10, "<init>", "()V"⟩
abbrev cX10_in : ByteArray := prog_12_method_3_code
def yX10_in : MethodName := ⟨RX10, "in", "(JJJ)Z"⟩
abbrev cX10_isSwinger : ByteArray := prog_12_method_4_code
def yX10_isSwinger : MethodName := ⟨RX10, "isSwinger", "(I)Z"⟩
abbrev cX10_feed : ByteArray := prog_12_method_5_code
def yX10_feed : MethodName := ⟨RX10, "feed", "(IJ)I"⟩
abbrev cX10_here : ByteArray := prog_12_method_6_code
def yX10_here : MethodName := ⟨RX10, "here", "()I"⟩
abbrev cX10_fails : ByteArray := prog_12_method_7_code
def yX10_fails : MethodName := ⟨RX10, "fails", "(II)I"⟩
abbrev cX10_readWord : ByteArray := prog_12_method_8_code
def yX10_readWord : MethodName := ⟨RX10, "readWord", "()V"⟩
abbrev cX10_code : ByteArray := prog_12_method_9_code
def yX10_code : MethodName := ⟨RX10, "code", "(IIII)J"⟩
abbrev cX10_longer : ByteArray := prog_12_method_10_code
def yX10_longer : MethodName := ⟨RX10, "longer", "(JI)J"⟩
abbrev cX10_takeNumber : ByteArray := prog_12_method_11_code
def yX10_takeNumber : MethodName := ⟨RX10, "takeNumber", "(II)I"⟩
abbrev cX10_takeStop : ByteArray := prog_12_method_12_code
def yX10_takeStop : MethodName := ⟨RX10, "takeStop", "()I"⟩
abbrev cX10_isComma : ByteArray := prog_12_method_13_code
def yX10_isComma : MethodName := ⟨RX10, "isComma", "()Z"⟩
abbrev cX10_bare : ByteArray := prog_12_method_14_code
def yX10_bare : MethodName := ⟨RX10, "bare", "()V"⟩
abbrev cX10_untold : ByteArray := prog_12_method_15_code
def yX10_untold : MethodName := ⟨RX10, "untold", "(I)I"⟩
abbrev cX10_take : ByteArray := prog_12_method_16_code
def yX10_take : MethodName := ⟨RX10, "take", "(III)I"⟩
abbrev cX10_takeRope : ByteArray := prog_12_method_17_code
def yX10_takeRope : MethodName := ⟨RX10, "takeRope", "()I"⟩
abbrev cX10_takeStart : ByteArray := prog_12_method_18_code
def yX10_takeStart : MethodName := ⟨RX10, "takeStart", "()I"⟩
abbrev cX10_takeRow : ByteArray := prog_12_method_19_code
def yX10_takeRow : MethodName := ⟨RX10, "takeRow", "([III)I"⟩
abbrev cX10_takeStones : ByteArray := prog_12_method_20_code
def yX10_takeStones : MethodName := ⟨RX10, "takeStones", "()I"⟩
abbrev cX10_clauseOf : ByteArray := prog_12_method_21_code
def yX10_clauseOf : MethodName := ⟨RX10, "clauseOf", "()I"⟩
abbrev cX10_takeClause : ByteArray := prog_12_method_22_code
def yX10_takeClause : MethodName := ⟨RX10, "takeClause", "()I"⟩
abbrev cX10_takePlace : ByteArray := prog_12_method_23_code
def yX10_takePlace : MethodName := ⟨RX10, "takePlace", "()V"⟩
abbrev cX10_place : ByteArray := prog_12_method_24_code
def yX10_place : MethodName := ⟨RX10, "place", "()I"⟩
abbrev cX10_takeSwinger : ByteArray := prog_12_method_25_code
def yX10_takeSwinger : MethodName := ⟨RX10, "takeSwinger", "()I"⟩
abbrev cX10_swinger : ByteArray := prog_12_method_26_code
def yX10_swinger : MethodName := ⟨RX10, "swinger", "()I"⟩
abbrev cX10_fault : ByteArray := prog_12_method_27_code
def yX10_fault : MethodName := ⟨RX10, "fault", "()I"⟩
abbrev cX10_told : ByteArray := prog_12_method_28_code
def yX10_told : MethodName := ⟨RX10, "told", "(I)I"⟩
abbrev cX10_lower : ByteArray := prog_12_method_29_code
def yX10_lower : MethodName := ⟨RX10, "lower", "()I"⟩
abbrev cX10_depthOf : ByteArray := prog_12_method_30_code
def yX10_depthOf : MethodName := ⟨RX10, "depthOf", "(I)I"⟩
abbrev cX10_kindOf : ByteArray := prog_12_method_31_code
def yX10_kindOf : MethodName := ⟨RX10, "kindOf", "(I)I"⟩
abbrev cX10_cell : ByteArray := prog_12_method_32_code
def yX10_cell : MethodName := ⟨RX10, "cell", "(II)I"⟩
abbrev cX10_who : ByteArray := prog_12_method_33_code
def yX10_who : MethodName := ⟨RX10, "who", "(II)I"⟩
abbrev cX10_mostOf : ByteArray := prog_12_method_34_code
def yX10_mostOf : MethodName := ⟨RX10, "mostOf", "(I)I"⟩
abbrev cX10_set : ByteArray := prog_12_method_35_code
def yX10_set : MethodName := ⟨RX10, "set", "(II)I"⟩
abbrev cX10_strengthIn : ByteArray := prog_12_method_36_code
def yX10_strengthIn : MethodName := ⟨RX10, "strengthIn", "(I)I"⟩
abbrev cX10_now : ByteArray := prog_12_method_37_code
def yX10_now : MethodName := ⟨RX10, "now", "(I)I"⟩
abbrev cX10_size : ByteArray := prog_12_method_38_code
def yX10_size : MethodName := ⟨RX10, "size", "(I)I"⟩
abbrev cX10_sineOf : ByteArray := prog_12_method_39_code
def yX10_sineOf : MethodName := ⟨RX10, "sineOf", "(I)I"⟩
abbrev cX10_cosineOf : ByteArray := prog_12_method_40_code
def yX10_cosineOf : MethodName := ⟨RX10, "cosineOf", "(I)I"⟩
abbrev cX10_sine : ByteArray := prog_12_method_41_code
def yX10_sine : MethodName := ⟨RX10, "sine", "(I)I"⟩
abbrev cX10_useHand : ByteArray := prog_12_method_42_code
def yX10_useHand : MethodName := ⟨RX10, "useHand", "()V"⟩
abbrev cX10_usePerson : ByteArray := prog_12_method_43_code
def yX10_usePerson : MethodName := ⟨RX10, "usePerson", "(I)V"⟩
abbrev cX10_pullOf : ByteArray := prog_12_method_44_code
def yX10_pullOf : MethodName := ⟨RX10, "pullOf", "(III)I"⟩
abbrev cX10_swing : ByteArray := prog_12_method_45_code
def yX10_swing : MethodName := ⟨RX10, "swing", "()V"⟩
abbrev cX10_handsX : ByteArray := prog_12_method_46_code
def yX10_handsX : MethodName := ⟨RX10, "handsX", "(I)I"⟩
abbrev cX10_handsHeight : ByteArray := prog_12_method_47_code
def yX10_handsHeight : MethodName := ⟨RX10, "handsHeight", "(I)I"⟩
abbrev cX10_holds : ByteArray := prog_12_method_48_code
def yX10_holds : MethodName := ⟨RX10, "holds", "(III)I"⟩
abbrev cX10_cellOf : ByteArray := prog_12_method_49_code
def yX10_cellOf : MethodName := ⟨RX10, "cellOf", "(I)I"⟩
abbrev cX10_isDown : ByteArray := prog_12_method_50_code
def yX10_isDown : MethodName := ⟨RX10, "isDown", "(JJ)Z"⟩
abbrev cX10_land : ByteArray := prog_12_method_51_code
def yX10_land : MethodName := ⟨RX10, "land", "(IZ)V"⟩
abbrev cX10_fly : ByteArray := prog_12_method_52_code
def yX10_fly : MethodName := ⟨RX10, "fly", "(IZ)V"⟩
abbrev cX10_endAt : ByteArray := prog_12_method_53_code
def yX10_endAt : MethodName := ⟨RX10, "endAt", "(II)I"⟩
abbrev cX10_letGo : ByteArray := prog_12_method_54_code
def yX10_letGo : MethodName := ⟨RX10, "letGo", "(I)V"⟩
abbrev cX10_isTime : ByteArray := prog_12_method_55_code
def yX10_isTime : MethodName := ⟨RX10, "isTime", "(I)Z"⟩
abbrev cX10_ready : ByteArray := prog_12_method_56_code
def yX10_ready : MethodName := ⟨RX10, "ready", "(I)V"⟩
abbrev cX10_lands : ByteArray := prog_12_method_57_code
def yX10_lands : MethodName := ⟨RX10, "lands", "(III)I"⟩
abbrev cX10_isGood : ByteArray := prog_12_method_58_code
def yX10_isGood : MethodName := ⟨RX10, "isGood", "(I)Z"⟩
abbrev cX10_bestTime : ByteArray := prog_12_method_59_code
def yX10_bestTime : MethodName := ⟨RX10, "bestTime", "(I)I"⟩
abbrev cX10_best : ByteArray := prog_12_method_60_code
def yX10_best : MethodName := ⟨RX10, "best", "(II)I"⟩
abbrev cX10_wideRow : ByteArray := prog_12_method_61_code
def yX10_wideRow : MethodName := ⟨RX10, "wideRow", "()I"⟩
abbrev cX10_wide : ByteArray := prog_12_method_62_code
def yX10_wide : MethodName := ⟨RX10, "wide", "(II)I"⟩
abbrev cX10_odds : ByteArray := prog_12_method_63_code
def yX10_odds : MethodName := ⟨RX10, "odds", "(III)I"⟩
abbrev cX10_strong : ByteArray := prog_12_method_64_code
def yX10_strong : MethodName := ⟨RX10, "strong", "(II)I"⟩
abbrev cX10_heavy : ByteArray := prog_12_method_65_code
def yX10_heavy : MethodName := ⟨RX10, "heavy", "()I"⟩
abbrev cX10_hasGood : ByteArray := prog_12_method_66_code
def yX10_hasGood : MethodName := ⟨RX10, "hasGood", "()Z"⟩
abbrev cX10_may : ByteArray := prog_12_method_67_code
def yX10_may : MethodName := ⟨RX10, "may", "()I"⟩
abbrev cX10_months : ByteArray := prog_12_method_68_code
def yX10_months : MethodName := ⟨RX10, "months", "(I)I"⟩
abbrev cX10_rope : ByteArray := prog_12_method_69_code
def yX10_rope : MethodName := ⟨RX10, "rope", "(II)I"⟩
abbrev cX10_turn : ByteArray := prog_12_method_70_code
def yX10_turn : MethodName := ⟨RX10, "turn", "(II)I"⟩
abbrev cX10_film : ByteArray := prog_12_method_71_code
def yX10_film : MethodName := ⟨RX10, "film", "(II)I"⟩
abbrev cX10_age : ByteArray := prog_12_method_72_code
def yX10_age : MethodName := ⟨RX10, "age", "(I)I"⟩
abbrev cX10_isOut : ByteArray := prog_12_method_73_code
def yX10_isOut : MethodName := ⟨RX10, "isOut", "(II)Z"⟩
abbrev cX10_findFarthest : ByteArray := prog_12_method_74_code
def yX10_findFarthest : MethodName := ⟨RX10, "findFarthest", "()V"⟩
abbrev cX10_harmedBy : ByteArray := prog_12_method_75_code
def yX10_harmedBy : MethodName := ⟨RX10, "harmedBy", "(I)I"⟩
abbrev cX10_harmed : ByteArray := prog_12_method_76_code
def yX10_harmed : MethodName := ⟨RX10, "harmed", "(I)I"⟩
abbrev cX10_bits : ByteArray := prog_12_method_77_code
def yX10_bits : MethodName := ⟨RX10, "bits", "(I)I"⟩
abbrev cX10_enough : ByteArray := prog_12_method_78_code
def yX10_enough : MethodName := ⟨RX10, "enough", "()I"⟩
abbrev cX10_seed : ByteArray := prog_12_method_79_code
def yX10_seed : MethodName := ⟨RX10, "seed", "(I)I"⟩
abbrev cX10_draw : ByteArray := prog_12_method_80_code
def yX10_draw : MethodName := ⟨RX10, "draw", "(I)I"⟩
abbrev cX10_afternoon : ByteArray := prog_12_method_81_code
def yX10_afternoon : MethodName := ⟨RX10, "afternoon", "(I)I"⟩
abbrev cX10_ends : ByteArray := prog_12_method_82_code
def yX10_ends : MethodName := ⟨RX10, "ends", "(I)I"⟩
abbrev cX10_keep : ByteArray := prog_12_method_83_code
def yX10_keep : MethodName := ⟨RX10, "keep", "(I)I"⟩
abbrev cX10_goBack : ByteArray := prog_12_method_84_code
def yX10_goBack : MethodName := ⟨RX10, "goBack", "(I)I"⟩
def RJx145de : String := "java/io/Serializable"
def TJx145de : u_T := fun k => match k with
  | _ => ("", "", "", false)
def tyJx145de : Nat → FieldType := fun k => match k with
  | _ => .int
def RJx9f9b0 : String := "java/lang/CharSequence"
def TJx9f9b0 : u_T := fun k => match k with
  | _ => ("", "", "", false)
def tyJx9f9b0 : Nat → FieldType := fun k => match k with
  | _ => .int
def RJxb160c : String := "java/lang/Comparable"
def TJxb160c : u_T := fun k => match k with
  | _ => ("", "", "", false)
def tyJxb160c : Nat → FieldType := fun k => match k with
  | _ => .int
def RJ6 : String := "java/lang/Integer"
def TJ6 : u_T := fun k => match k with
  | _ => ("", "", "", false)
def tyJ6 : Nat → FieldType := fun k => match k with
  | _ => .int
abbrev cJ6_bitCount_0f7a4 : ByteArray := prog_13_method_49_code
def yJ6_bitCount_0f7a4 : MethodName := ⟨RJ6, "bitCount", "(I)I"⟩
def RJ9 : String := "java/lang/Math"
def TJ9 : u_T := fun k => match k with
  | _ => ("", "", "", false)
def tyJ9 : Nat → FieldType := fun k => match k with
  | _ => .int
abbrev cJ9_abs_0f7a4 : ByteArray := prog_14_method_59_code
def yJ9_abs_0f7a4 : MethodName := ⟨RJ9, "abs", "(I)I"⟩
abbrev cJ9_max_7cf53 : ByteArray := prog_14_method_65_code
def yJ9_max_7cf53 : MethodName := ⟨RJ9, "max", "(II)I"⟩
abbrev cJ9_min_7cf53 : ByteArray := prog_14_method_69_code
def yJ9_min_7cf53 : MethodName := ⟨RJ9, "min", "(II)I"⟩
def RJ0 : String := "java/lang/String"
def TJ0 : u_T := fun k => match k with
  | _ => ("", "", "", false)
def tyJ0 : Nat → FieldType := fun k => match k with
  | _ => .int
abbrev cJ0_length_8abf5 : ByteArray := prog_15_method_54_code
def yJ0_length_8abf5 : MethodName := ⟨RJ0, "length", "()I"⟩
abbrev cJ0_charAt_5068e : ByteArray := prog_15_method_56_code
def yJ0_charAt_5068e : MethodName := ⟨RJ0, "charAt", "(I)C"⟩
abbrev cJ0_coder_7d493 : ByteArray := prog_15_method_152_code
def yJ0_coder_7d493 : MethodName := ⟨RJ0, "coder", "()B"⟩
abbrev cJ0_isLatin1_aae02 : ByteArray := prog_15_method_154_code
def yJ0_isLatin1_aae02 : MethodName := ⟨RJ0, "isLatin1", "()Z"⟩
abbrev cJ0_checkIndex_df160 : ByteArray := prog_15_method_155_code
def yJ0_checkIndex_df160 : MethodName := ⟨RJ0, "checkIndex", "(II)V"⟩
def RJ1 : String := "java/lang/StringLatin1"
def TJ1 : u_T := fun k => match k with
  | _ => ("", "", "", false)
def tyJ1 : Nat → FieldType := fun k => match k with
  | _ => .int
abbrev cJ1_charAt_3b067 : ByteArray := prog_16_method_2_code
def yJ1_charAt_3b067 : MethodName := ⟨RJ1, "charAt", "([BI)C"⟩
def RJ2 : String := "java/lang/StringUTF16"
def TJ2 : u_T := fun k => match k with
  | _ => ("", "", "", false)
def tyJ2 : Nat → FieldType := fun k => match k with
  | _ => .int
abbrev cJ2_getChar_3b067 : ByteArray := prog_17_method_5_code
def yJ2_getChar_3b067 : MethodName := ⟨RJ2, "getChar", "([BI)C"⟩
abbrev cJ2_length_9d52b : ByteArray := prog_17_method_6_code
def yJ2_length_9d52b : MethodName := ⟨RJ2, "length", "([B)I"⟩
abbrev cJ2_charAt_3b067 : ByteArray := prog_17_method_83_code
def yJ2_charAt_3b067 : MethodName := ⟨RJ2, "charAt", "([BI)C"⟩
abbrev cJ2_checkIndex_2214a : ByteArray := prog_17_method_91_code
def yJ2_checkIndex_2214a : MethodName := ⟨RJ2, "checkIndex", "(I[B)V"⟩
def RJ10 : String := "java/lang/System"
def TJ10 : u_T := fun k => match k with
  | _ => ("", "", "", false)
def tyJ10 : Nat → FieldType := fun k => match k with
  | _ => .int
def RJxfd54e : String := "java/lang/constant/Constable"
def TJxfd54e : u_T := fun k => match k with
  | _ => ("", "", "", false)
def tyJxfd54e : Nat → FieldType := fun k => match k with
  | _ => .int
def RJx3cf43 : String := "java/lang/constant/ConstantDesc"
def TJx3cf43 : u_T := fun k => match k with
  | _ => ("", "", "", false)
def tyJx3cf43 : Nat → FieldType := fun k => match k with
  | _ => .int
def RJ7 : String := "java/util/Arrays"
def TJ7 : u_T := fun k => match k with
  | _ => ("", "", "", false)
def tyJ7 : Nat → FieldType := fun k => match k with
  | _ => .int
abbrev cJ7_fill_53178 : ByteArray := prog_19_method_103_code
def yJ7_fill_53178 : MethodName := ⟨RJ7, "fill", "([II)V"⟩
def RJ3 : String := "jdk/internal/util/Preconditions"
def TJ3 : u_T := fun k => match k with
  | _ => ("", "", "", false)
def tyJ3 : Nat → FieldType := fun k => match k with
  | _ => .int
abbrev cJ3_checkIndex_8e157 : ByteArray := prog_20_method_11_code
def yJ3_checkIndex_8e157 : MethodName := ⟨RJ3, "checkIndex", "(IILjava/util/function/BiFunction;)I"⟩
def RL : String := "RopeSwingLaw"
abbrev cL_law : ByteArray := code
def yL_law : MethodName := ⟨RL, "law", "([I)Z"⟩
/-- the tables' words that stay when the tables grow warmer -/
def TB : List Cond := lw_tbl.filter goodWord
theorem tb_of (i : Nat) (w : Cond) (h : lw_tbl[i]? = some w) (hg : goodWord w = true) : w ∈ TB := List.mem_filter.mpr ⟨List.mem_of_getElem? h, hg⟩
theorem tb_lw {w : Cond} (h : w ∈ TB) : w ∈ lw_tbl := (List.mem_filter.mp h).1
theorem tb_good {w : Cond} (h : w ∈ TB) : goodWord w = true := (List.mem_filter.mp h).2
/-- a method's words: its own code, and the tables' -/
abbrev WS (c0 : Cond) : List Cond := c0 :: TB
theorem ws_in {c0 w : Cond} (h : w ∈ TB) : w ∈ WS c0 := List.mem_cons_of_mem _ h
theorem ws_good {c0 c1 : Cond} (h : c1 ∈ TB) : GoodIn (WS c0) (WS c1) := fun w hw => (List.mem_cons.mp hw).elim (fun e => by subst e; exact ⟨ws_in h, good_of_word (tb_good h)⟩) (fun q => ⟨ws_in q, good_of_word (tb_good q)⟩)
theorem ws_V {c0 : Cond} {own C : String} {idx n : Nat} {y : MethodName} {b : ByteArray} {r : Option FieldType} (h1 : Cond.methodLink own idx y ∈ TB) (h2 : Cond.instanceMethod y ∈ TB) (h3 : Cond.selects C y y ∈ TB) (h4 : Cond.initialized C ∈ TB) (h5 : Cond.code y b n r ∈ TB) : GoodIn (WS c0) (wsV own idx C y (WS (.code y b n r))) := by
  intro w hw
  have g : ∀ {v : Cond}, v ∈ TB → v ∈ WS c0 ∧ ((v.onTables && v.keeps) = true ∨ ∃ ty, v = .arrayClass ty) := fun q => ⟨ws_in q, good_of_word (tb_good q)⟩
  rcases List.mem_append.mp hw with q | q
  · simp only [List.mem_cons, List.not_mem_nil, or_false] at q
    rcases q with rfl | rfl | rfl | rfl
    · exact g h1
    · exact g h2
    · exact g h3
    · exact g h4
  · exact ws_good h5 w q
theorem ws_S {c0 : Cond} {own : String} {idx n : Nat} {y : MethodName} {b : ByteArray} {r : Option FieldType} (h1 : Cond.methodLink own idx y ∈ TB) (h2 : Cond.static y ∈ TB) (h4 : Cond.initialized y.cls ∈ TB) (h5 : Cond.code y b n r ∈ TB) : GoodIn (WS c0) (va_wsS own idx y (WS (.code y b n r))) := by
  intro w hw
  have g : ∀ {v : Cond}, v ∈ TB → v ∈ WS c0 ∧ ((v.onTables && v.keeps) = true ∨ ∃ ty, v = .arrayClass ty) := fun q => ⟨ws_in q, good_of_word (tb_good q)⟩
  rcases List.mem_append.mp hw with q | q
  · simp only [List.mem_cons, List.not_mem_nil, or_false] at q
    rcases q with rfl | rfl | rfl
    · exact g h1
    · exact g h2
    · exact g h4
  · exact ws_good h5 w q
theorem tb_at {ws : List Cond} (is : List Nat) (h : ws = is.filterMap (fun i => lw_tbl[i]?)) (hg : ws.all goodWord = true) : ∀ w ∈ ws, w ∈ TB := by
  intro w hw
  have hg1 := List.all_eq_true.mp hg w hw
  rw [h] at hw
  obtain ⟨i, -, hi⟩ := List.mem_filterMap.mp hw
  exact tb_of i w hi hg1

theorem wd_0 : (Jvm.Cond.selects "RopeSwing$Reader" ({ cls := "RopeSwing$Reader", name := "begin", desc := "()V" } : Jvm.MethodName) ({ cls := "RopeSwing$Reader", name := "begin", desc := "()V" } : Jvm.MethodName)) ∈ TB := tb_of 0 _ (by decide +kernel) rfl
theorem wd_1 : (Jvm.Cond.selects "RopeSwing$Reader" ({ cls := "RopeSwing$Reader", name := "take", desc := "()V" } : Jvm.MethodName) ({ cls := "RopeSwing$Reader", name := "take", desc := "()V" } : Jvm.MethodName)) ∈ TB := tb_of 1 _ (by decide +kernel) rfl
theorem wd_2 : (Jvm.Cond.selects "RopeSwing$Reader" ({ cls := "RopeSwing$Reader", name := "clauseInHand", desc := "()I" } : Jvm.MethodName) ({ cls := "RopeSwing$Reader", name := "clauseInHand", desc := "()I" } : Jvm.MethodName)) ∈ TB := tb_of 2 _ (by decide +kernel) rfl
theorem wd_3 : (Jvm.Cond.selects "RopeSwing$Reader" ({ cls := "RopeSwing$Reader", name := "isWord", desc := "(Ljava/lang/String;)Z" } : Jvm.MethodName) ({ cls := "RopeSwing$Reader", name := "isWord", desc := "(Ljava/lang/String;)Z" } : Jvm.MethodName)) ∈ TB := tb_of 3 _ (by decide +kernel) rfl
theorem wd_4 : (Jvm.Cond.selects "RopeSwing$Reader" ({ cls := "RopeSwing$Reader", name := "fail", desc := "(I)Z" } : Jvm.MethodName) ({ cls := "RopeSwing$Reader", name := "fail", desc := "(I)Z" } : Jvm.MethodName)) ∈ TB := tb_of 4 _ (by decide +kernel) rfl
theorem wd_5 : (Jvm.Cond.selects "RopeSwing$Reader" ({ cls := "RopeSwing$Reader", name := "readClause", desc := "(ILRopeSwing$Place;)Z" } : Jvm.MethodName) ({ cls := "RopeSwing$Reader", name := "readClause", desc := "(ILRopeSwing$Place;)Z" } : Jvm.MethodName)) ∈ TB := tb_of 5 _ (by decide +kernel) rfl
theorem wd_6 : (Jvm.Cond.selects "RopeSwing$Reader" ({ cls := "RopeSwing$Reader", name := "readList", desc := "([II)Z" } : Jvm.MethodName) ({ cls := "RopeSwing$Reader", name := "readList", desc := "([II)Z" } : Jvm.MethodName)) ∈ TB := tb_of 6 _ (by decide +kernel) rfl
theorem wd_7 : (Jvm.Cond.selects "RopeSwing$Reader" ({ cls := "RopeSwing$Reader", name := "takeNumber", desc := "(II)Z" } : Jvm.MethodName) ({ cls := "RopeSwing$Reader", name := "takeNumber", desc := "(II)Z" } : Jvm.MethodName)) ∈ TB := tb_of 7 _ (by decide +kernel) rfl
theorem wd_8 : (Jvm.Cond.selects "RopeSwing$Reader" ({ cls := "RopeSwing$Reader", name := "isSign", desc := "(I)Z" } : Jvm.MethodName) ({ cls := "RopeSwing$Reader", name := "isSign", desc := "(I)Z" } : Jvm.MethodName)) ∈ TB := tb_of 8 _ (by decide +kernel) rfl
theorem wd_9 : (Jvm.Cond.selects "RopeSwing$Reader" ({ cls := "RopeSwing$Reader", name := "readStones", desc := "([I)Z" } : Jvm.MethodName) ({ cls := "RopeSwing$Reader", name := "readStones", desc := "([I)Z" } : Jvm.MethodName)) ∈ TB := tb_of 9 _ (by decide +kernel) rfl
theorem wd_10 : (Jvm.Cond.selects "RopeSwing$Reader" ({ cls := "RopeSwing$Reader", name := "readNumbers", desc := "(II[I)Z" } : Jvm.MethodName) ({ cls := "RopeSwing$Reader", name := "readNumbers", desc := "(II[I)Z" } : Jvm.MethodName)) ∈ TB := tb_of 10 _ (by decide +kernel) rfl
theorem wd_11 : (Jvm.Cond.selects "RopeSwing" ({ cls := "RopeSwing", name := "lowerNow", desc := "()I" } : Jvm.MethodName) ({ cls := "RopeSwing", name := "lowerNow", desc := "()I" } : Jvm.MethodName)) ∈ TB := tb_of 11 _ (by decide +kernel) rfl
theorem wd_12 : (Jvm.Cond.selects "RopeSwing" ({ cls := "RopeSwing", name := "swingerAt", desc := "(I)LRopeSwing$Swinger;" } : Jvm.MethodName) ({ cls := "RopeSwing", name := "swingerAt", desc := "(I)LRopeSwing$Swinger;" } : Jvm.MethodName)) ∈ TB := tb_of 12 _ (by decide +kernel) rfl
theorem wd_13 : (Jvm.Cond.selects "RopeSwing" ({ cls := "RopeSwing", name := "mostInHand", desc := "(I)I" } : Jvm.MethodName) ({ cls := "RopeSwing", name := "mostInHand", desc := "(I)I" } : Jvm.MethodName)) ∈ TB := tb_of 13 _ (by decide +kernel) rfl
theorem wd_14 : (Jvm.Cond.selects "RopeSwing" ({ cls := "RopeSwing", name := "lengthNow", desc := "()I" } : Jvm.MethodName) ({ cls := "RopeSwing", name := "lengthNow", desc := "()I" } : Jvm.MethodName)) ∈ TB := tb_of 14 _ (by decide +kernel) rfl
theorem wd_15 : (Jvm.Cond.selects "RopeSwing" ({ cls := "RopeSwing", name := "strengthAfter", desc := "(I)I" } : Jvm.MethodName) ({ cls := "RopeSwing", name := "strengthAfter", desc := "(I)I" } : Jvm.MethodName)) ∈ TB := tb_of 15 _ (by decide +kernel) rfl
theorem wd_16 : (Jvm.Cond.selects "RopeSwing" ({ cls := "RopeSwing", name := "traceNow", desc := "()V" } : Jvm.MethodName) ({ cls := "RopeSwing", name := "traceNow", desc := "()V" } : Jvm.MethodName)) ∈ TB := tb_of 16 _ (by decide +kernel) rfl
theorem wd_17 : (Jvm.Cond.selects "RopeSwing$Path" ({ cls := "RopeSwing$Path", name := "note", desc := "(I)V" } : Jvm.MethodName) ({ cls := "RopeSwing$Path", name := "note", desc := "(I)V" } : Jvm.MethodName)) ∈ TB := tb_of 17 _ (by decide +kernel) rfl
theorem wd_18 : (Jvm.Cond.selects "RopeSwing" ({ cls := "RopeSwing", name := "ready", desc := "(LRopeSwing$Swinger;)V" } : Jvm.MethodName) ({ cls := "RopeSwing", name := "ready", desc := "(LRopeSwing$Swinger;)V" } : Jvm.MethodName)) ∈ TB := tb_of 18 _ (by decide +kernel) rfl
theorem wd_19 : (Jvm.Cond.selects "RopeSwing$Jump" ({ cls := "RopeSwing$Jump", name := "stopsBehind", desc := "(III)I" } : Jvm.MethodName) ({ cls := "RopeSwing$Jump", name := "stopsBehind", desc := "(III)I" } : Jvm.MethodName)) ∈ TB := tb_of 19 _ (by decide +kernel) rfl
theorem wd_20 : (Jvm.Cond.selects "RopeSwing$Jump" ({ cls := "RopeSwing$Jump", name := "canLetGo", desc := "(I)Z" } : Jvm.MethodName) ({ cls := "RopeSwing$Jump", name := "canLetGo", desc := "(I)Z" } : Jvm.MethodName)) ∈ TB := tb_of 20 _ (by decide +kernel) rfl
theorem wd_21 : (Jvm.Cond.selects "RopeSwing$Jump" ({ cls := "RopeSwing$Jump", name := "fly", desc := "(I)V" } : Jvm.MethodName) ({ cls := "RopeSwing$Jump", name := "fly", desc := "(I)V" } : Jvm.MethodName)) ∈ TB := tb_of 21 _ (by decide +kernel) rfl
theorem wd_22 : (Jvm.Cond.selects "RopeSwing$Jump" ({ cls := "RopeSwing$Jump", name := "landing", desc := "(I)I" } : Jvm.MethodName) ({ cls := "RopeSwing$Jump", name := "landing", desc := "(I)I" } : Jvm.MethodName)) ∈ TB := tb_of 22 _ (by decide +kernel) rfl
theorem wd_23 : (Jvm.Cond.selects "RopeSwing" ({ cls := "RopeSwing", name := "findFarthest", desc := "()V" } : Jvm.MethodName) ({ cls := "RopeSwing", name := "findFarthest", desc := "()V" } : Jvm.MethodName)) ∈ TB := tb_of 23 _ (by decide +kernel) rfl
theorem wd_24 : (Jvm.Cond.selects "RopeSwing" ({ cls := "RopeSwing", name := "harmedBy", desc := "(I)I" } : Jvm.MethodName) ({ cls := "RopeSwing", name := "harmedBy", desc := "(I)I" } : Jvm.MethodName)) ∈ TB := tb_of 24 _ (by decide +kernel) rfl
theorem wd_25 : (Jvm.Cond.selects "RopeSwing" ({ cls := "RopeSwing", name := "keptOut", desc := "(LRopeSwing$Swinger;I)Z" } : Jvm.MethodName) ({ cls := "RopeSwing", name := "keptOut", desc := "(LRopeSwing$Swinger;I)Z" } : Jvm.MethodName)) ∈ TB := tb_of 25 _ (by decide +kernel) rfl
theorem wd_26 : (Jvm.Cond.selects "RopeSwing" ({ cls := "RopeSwing", name := "comesToHarm", desc := "(LRopeSwing$Swinger;II)Z" } : Jvm.MethodName) ({ cls := "RopeSwing", name := "comesToHarm", desc := "(LRopeSwing$Swinger;II)Z" } : Jvm.MethodName)) ∈ TB := tb_of 26 _ (by decide +kernel) rfl
theorem wd_27 : (Jvm.Cond.selects "RopeSwing" ({ cls := "RopeSwing", name := "imageAt", desc := "(I)LRopeSwing$State;" } : Jvm.MethodName) ({ cls := "RopeSwing", name := "imageAt", desc := "(I)LRopeSwing$State;" } : Jvm.MethodName)) ∈ TB := tb_of 27 _ (by decide +kernel) rfl
theorem wd_28 : (Jvm.Cond.selects "RopeSwingModel" ({ cls := "RopeSwingModel", name := "bare", desc := "()V" } : Jvm.MethodName) ({ cls := "RopeSwingModel", name := "bare", desc := "()V" } : Jvm.MethodName)) ∈ TB := tb_of 28 _ (by decide +kernel) rfl
theorem wd_29 : (Jvm.Cond.selects "RopeSwingModel" ({ cls := "RopeSwingModel", name := "takePlace", desc := "()V" } : Jvm.MethodName) ({ cls := "RopeSwingModel", name := "takePlace", desc := "()V" } : Jvm.MethodName)) ∈ TB := tb_of 29 _ (by decide +kernel) rfl
theorem wd_30 : (Jvm.Cond.selects "RopeSwingModel" ({ cls := "RopeSwingModel", name := "here", desc := "()I" } : Jvm.MethodName) ({ cls := "RopeSwingModel", name := "here", desc := "()I" } : Jvm.MethodName)) ∈ TB := tb_of 30 _ (by decide +kernel) rfl
theorem wd_31 : (Jvm.Cond.selects "RopeSwingModel" ({ cls := "RopeSwingModel", name := "takeClause", desc := "()I" } : Jvm.MethodName) ({ cls := "RopeSwingModel", name := "takeClause", desc := "()I" } : Jvm.MethodName)) ∈ TB := tb_of 31 _ (by decide +kernel) rfl
theorem wd_32 : (Jvm.Cond.selects "RopeSwingModel" ({ cls := "RopeSwingModel", name := "readWord", desc := "()V" } : Jvm.MethodName) ({ cls := "RopeSwingModel", name := "readWord", desc := "()V" } : Jvm.MethodName)) ∈ TB := tb_of 32 _ (by decide +kernel) rfl
theorem wd_33 : (Jvm.Cond.selects "RopeSwingModel" ({ cls := "RopeSwingModel", name := "clauseOf", desc := "()I" } : Jvm.MethodName) ({ cls := "RopeSwingModel", name := "clauseOf", desc := "()I" } : Jvm.MethodName)) ∈ TB := tb_of 33 _ (by decide +kernel) rfl
theorem wd_34 : (Jvm.Cond.selects "RopeSwingModel" ({ cls := "RopeSwingModel", name := "fails", desc := "(II)I" } : Jvm.MethodName) ({ cls := "RopeSwingModel", name := "fails", desc := "(II)I" } : Jvm.MethodName)) ∈ TB := tb_of 34 _ (by decide +kernel) rfl
theorem wd_35 : (Jvm.Cond.selects "RopeSwingModel" ({ cls := "RopeSwingModel", name := "take", desc := "(III)I" } : Jvm.MethodName) ({ cls := "RopeSwingModel", name := "take", desc := "(III)I" } : Jvm.MethodName)) ∈ TB := tb_of 35 _ (by decide +kernel) rfl
theorem wd_36 : (Jvm.Cond.selects "RopeSwingModel" ({ cls := "RopeSwingModel", name := "takeNumber", desc := "(II)I" } : Jvm.MethodName) ({ cls := "RopeSwingModel", name := "takeNumber", desc := "(II)I" } : Jvm.MethodName)) ∈ TB := tb_of 36 _ (by decide +kernel) rfl
theorem wd_37 : (Jvm.Cond.selects "RopeSwingModel" ({ cls := "RopeSwingModel", name := "takeRope", desc := "()I" } : Jvm.MethodName) ({ cls := "RopeSwingModel", name := "takeRope", desc := "()I" } : Jvm.MethodName)) ∈ TB := tb_of 37 _ (by decide +kernel) rfl
theorem wd_38 : (Jvm.Cond.selects "RopeSwingModel" ({ cls := "RopeSwingModel", name := "takeStart", desc := "()I" } : Jvm.MethodName) ({ cls := "RopeSwingModel", name := "takeStart", desc := "()I" } : Jvm.MethodName)) ∈ TB := tb_of 38 _ (by decide +kernel) rfl
theorem wd_39 : (Jvm.Cond.selects "RopeSwingModel" ({ cls := "RopeSwingModel", name := "takeRow", desc := "([III)I" } : Jvm.MethodName) ({ cls := "RopeSwingModel", name := "takeRow", desc := "([III)I" } : Jvm.MethodName)) ∈ TB := tb_of 39 _ (by decide +kernel) rfl
theorem wd_40 : (Jvm.Cond.selects "RopeSwingModel" ({ cls := "RopeSwingModel", name := "isComma", desc := "()Z" } : Jvm.MethodName) ({ cls := "RopeSwingModel", name := "isComma", desc := "()Z" } : Jvm.MethodName)) ∈ TB := tb_of 40 _ (by decide +kernel) rfl
theorem wd_41 : (Jvm.Cond.selects "RopeSwingModel" ({ cls := "RopeSwingModel", name := "takeStones", desc := "()I" } : Jvm.MethodName) ({ cls := "RopeSwingModel", name := "takeStones", desc := "()I" } : Jvm.MethodName)) ∈ TB := tb_of 41 _ (by decide +kernel) rfl
theorem wd_42 : (Jvm.Cond.selects "RopeSwingModel" ({ cls := "RopeSwingModel", name := "takeStop", desc := "()I" } : Jvm.MethodName) ({ cls := "RopeSwingModel", name := "takeStop", desc := "()I" } : Jvm.MethodName)) ∈ TB := tb_of 42 _ (by decide +kernel) rfl
theorem wd_43 : (Jvm.Cond.selects "RopeSwingModel" ({ cls := "RopeSwingModel", name := "takeSwinger", desc := "()I" } : Jvm.MethodName) ({ cls := "RopeSwingModel", name := "takeSwinger", desc := "()I" } : Jvm.MethodName)) ∈ TB := tb_of 43 _ (by decide +kernel) rfl
theorem wd_44 : (Jvm.Cond.selects "RopeSwingModel" ({ cls := "RopeSwingModel", name := "depthOf", desc := "(I)I" } : Jvm.MethodName) ({ cls := "RopeSwingModel", name := "depthOf", desc := "(I)I" } : Jvm.MethodName)) ∈ TB := tb_of 44 _ (by decide +kernel) rfl
theorem wd_45 : (Jvm.Cond.selects "RopeSwingModel" ({ cls := "RopeSwingModel", name := "lower", desc := "()I" } : Jvm.MethodName) ({ cls := "RopeSwingModel", name := "lower", desc := "()I" } : Jvm.MethodName)) ∈ TB := tb_of 45 _ (by decide +kernel) rfl
theorem wd_46 : (Jvm.Cond.selects "RopeSwingModel" ({ cls := "RopeSwingModel", name := "kindOf", desc := "(I)I" } : Jvm.MethodName) ({ cls := "RopeSwingModel", name := "kindOf", desc := "(I)I" } : Jvm.MethodName)) ∈ TB := tb_of 46 _ (by decide +kernel) rfl
theorem wd_47 : (Jvm.Cond.selects "RopeSwingModel" ({ cls := "RopeSwingModel", name := "isSwinger", desc := "(I)Z" } : Jvm.MethodName) ({ cls := "RopeSwingModel", name := "isSwinger", desc := "(I)Z" } : Jvm.MethodName)) ∈ TB := tb_of 47 _ (by decide +kernel) rfl
theorem wd_48 : (Jvm.Cond.selects "RopeSwingModel" ({ cls := "RopeSwingModel", name := "strengthIn", desc := "(I)I" } : Jvm.MethodName) ({ cls := "RopeSwingModel", name := "strengthIn", desc := "(I)I" } : Jvm.MethodName)) ∈ TB := tb_of 48 _ (by decide +kernel) rfl
theorem wd_49 : (Jvm.Cond.selects "RopeSwingModel" ({ cls := "RopeSwingModel", name := "useHand", desc := "()V" } : Jvm.MethodName) ({ cls := "RopeSwingModel", name := "useHand", desc := "()V" } : Jvm.MethodName)) ∈ TB := tb_of 49 _ (by decide +kernel) rfl
theorem wd_50 : (Jvm.Cond.selects "RopeSwingModel" ({ cls := "RopeSwingModel", name := "usePerson", desc := "(I)V" } : Jvm.MethodName) ({ cls := "RopeSwingModel", name := "usePerson", desc := "(I)V" } : Jvm.MethodName)) ∈ TB := tb_of 50 _ (by decide +kernel) rfl
theorem wd_51 : (Jvm.Cond.selects "RopeSwingModel" ({ cls := "RopeSwingModel", name := "swing", desc := "()V" } : Jvm.MethodName) ({ cls := "RopeSwingModel", name := "swing", desc := "()V" } : Jvm.MethodName)) ∈ TB := tb_of 51 _ (by decide +kernel) rfl
theorem wd_52 : (Jvm.Cond.selects "RopeSwingModel" ({ cls := "RopeSwingModel", name := "pullOf", desc := "(III)I" } : Jvm.MethodName) ({ cls := "RopeSwingModel", name := "pullOf", desc := "(III)I" } : Jvm.MethodName)) ∈ TB := tb_of 52 _ (by decide +kernel) rfl
theorem wd_53 : (Jvm.Cond.selects "RopeSwingModel" ({ cls := "RopeSwingModel", name := "handsX", desc := "(I)I" } : Jvm.MethodName) ({ cls := "RopeSwingModel", name := "handsX", desc := "(I)I" } : Jvm.MethodName)) ∈ TB := tb_of 53 _ (by decide +kernel) rfl
theorem wd_54 : (Jvm.Cond.selects "RopeSwingModel" ({ cls := "RopeSwingModel", name := "handsHeight", desc := "(I)I" } : Jvm.MethodName) ({ cls := "RopeSwingModel", name := "handsHeight", desc := "(I)I" } : Jvm.MethodName)) ∈ TB := tb_of 54 _ (by decide +kernel) rfl
theorem wd_55 : (Jvm.Cond.selects "RopeSwingModel" ({ cls := "RopeSwingModel", name := "ready", desc := "(I)V" } : Jvm.MethodName) ({ cls := "RopeSwingModel", name := "ready", desc := "(I)V" } : Jvm.MethodName)) ∈ TB := tb_of 55 _ (by decide +kernel) rfl
theorem wd_56 : (Jvm.Cond.selects "RopeSwingModel" ({ cls := "RopeSwingModel", name := "letGo", desc := "(I)V" } : Jvm.MethodName) ({ cls := "RopeSwingModel", name := "letGo", desc := "(I)V" } : Jvm.MethodName)) ∈ TB := tb_of 56 _ (by decide +kernel) rfl
theorem wd_57 : (Jvm.Cond.selects "RopeSwingModel" ({ cls := "RopeSwingModel", name := "endAt", desc := "(II)I" } : Jvm.MethodName) ({ cls := "RopeSwingModel", name := "endAt", desc := "(II)I" } : Jvm.MethodName)) ∈ TB := tb_of 57 _ (by decide +kernel) rfl
theorem wd_58 : (Jvm.Cond.selects "RopeSwingModel" ({ cls := "RopeSwingModel", name := "fly", desc := "(IZ)V" } : Jvm.MethodName) ({ cls := "RopeSwingModel", name := "fly", desc := "(IZ)V" } : Jvm.MethodName)) ∈ TB := tb_of 58 _ (by decide +kernel) rfl
theorem wd_59 : (Jvm.Cond.selects "RopeSwingModel" ({ cls := "RopeSwingModel", name := "isDown", desc := "(JJ)Z" } : Jvm.MethodName) ({ cls := "RopeSwingModel", name := "isDown", desc := "(JJ)Z" } : Jvm.MethodName)) ∈ TB := tb_of 59 _ (by decide +kernel) rfl
theorem wd_60 : (Jvm.Cond.selects "RopeSwingModel" ({ cls := "RopeSwingModel", name := "land", desc := "(IZ)V" } : Jvm.MethodName) ({ cls := "RopeSwingModel", name := "land", desc := "(IZ)V" } : Jvm.MethodName)) ∈ TB := tb_of 60 _ (by decide +kernel) rfl
theorem wd_61 : (Jvm.Cond.selects "RopeSwingModel" ({ cls := "RopeSwingModel", name := "bestTime", desc := "(I)I" } : Jvm.MethodName) ({ cls := "RopeSwingModel", name := "bestTime", desc := "(I)I" } : Jvm.MethodName)) ∈ TB := tb_of 61 _ (by decide +kernel) rfl
theorem wd_62 : (Jvm.Cond.selects "RopeSwingModel" ({ cls := "RopeSwingModel", name := "isGood", desc := "(I)Z" } : Jvm.MethodName) ({ cls := "RopeSwingModel", name := "isGood", desc := "(I)Z" } : Jvm.MethodName)) ∈ TB := tb_of 62 _ (by decide +kernel) rfl
theorem wd_63 : (Jvm.Cond.selects "RopeSwingModel" ({ cls := "RopeSwingModel", name := "wideRow", desc := "()I" } : Jvm.MethodName) ({ cls := "RopeSwingModel", name := "wideRow", desc := "()I" } : Jvm.MethodName)) ∈ TB := tb_of 63 _ (by decide +kernel) rfl
theorem wd_64 : (Jvm.Cond.selects "RopeSwingModel" ({ cls := "RopeSwingModel", name := "hasGood", desc := "()Z" } : Jvm.MethodName) ({ cls := "RopeSwingModel", name := "hasGood", desc := "()Z" } : Jvm.MethodName)) ∈ TB := tb_of 64 _ (by decide +kernel) rfl
theorem wd_65 : (Jvm.Cond.selects "RopeSwingModel" ({ cls := "RopeSwingModel", name := "findFarthest", desc := "()V" } : Jvm.MethodName) ({ cls := "RopeSwingModel", name := "findFarthest", desc := "()V" } : Jvm.MethodName)) ∈ TB := tb_of 65 _ (by decide +kernel) rfl
theorem wd_66 : (Jvm.Cond.selects "RopeSwingModel" ({ cls := "RopeSwingModel", name := "harmedBy", desc := "(I)I" } : Jvm.MethodName) ({ cls := "RopeSwingModel", name := "harmedBy", desc := "(I)I" } : Jvm.MethodName)) ∈ TB := tb_of 66 _ (by decide +kernel) rfl
theorem wd_67 : (Jvm.Cond.selects "RopeSwingModel" ({ cls := "RopeSwingModel", name := "isOut", desc := "(II)Z" } : Jvm.MethodName) ({ cls := "RopeSwingModel", name := "isOut", desc := "(II)Z" } : Jvm.MethodName)) ∈ TB := tb_of 67 _ (by decide +kernel) rfl
theorem wd_68 : (Jvm.Cond.selects "RopeSwingModel" ({ cls := "RopeSwingModel", name := "draw", desc := "(I)I" } : Jvm.MethodName) ({ cls := "RopeSwingModel", name := "draw", desc := "(I)I" } : Jvm.MethodName)) ∈ TB := tb_of 68 _ (by decide +kernel) rfl
theorem wd_69 : (Jvm.Cond.initialized "RopeSwingLaw") ∈ TB := tb_of 69 _ (by decide +kernel) rfl
theorem wd_70 : (Jvm.Cond.initialized "RopeSwing") ∈ TB := tb_of 70 _ (by decide +kernel) rfl
theorem wd_71 : (Jvm.Cond.initialized "RopeSwing$Text") ∈ TB := tb_of 71 _ (by decide +kernel) rfl
theorem wd_72 : (Jvm.Cond.initialized "RopeSwing$Reader") ∈ TB := tb_of 72 _ (by decide +kernel) rfl
theorem wd_73 : (Jvm.Cond.initialized "RopeSwing$Place") ∈ TB := tb_of 73 _ (by decide +kernel) rfl
theorem wd_74 : (Jvm.Cond.initialized "java/lang/Math") ∈ TB := tb_of 74 _ (by decide +kernel) rfl
theorem wd_75 : (Jvm.Cond.initialized "java/lang/System") ∈ TB := tb_of 75 _ (by decide +kernel) rfl
theorem wd_76 : (Jvm.Cond.initialized "java/util/Arrays") ∈ TB := tb_of 76 _ (by decide +kernel) rfl
theorem wd_77 : (Jvm.Cond.initialized "RopeSwing$Swinger") ∈ TB := tb_of 77 _ (by decide +kernel) rfl
theorem wd_78 : (Jvm.Cond.initialized "RopeSwing$State") ∈ TB := tb_of 78 _ (by decide +kernel) rfl
theorem wd_79 : (Jvm.Cond.initialized "RopeSwing$Pendulum") ∈ TB := tb_of 79 _ (by decide +kernel) rfl
theorem wd_80 : (Jvm.Cond.initialized "RopeSwing$Path") ∈ TB := tb_of 80 _ (by decide +kernel) rfl
theorem wd_81 : (Jvm.Cond.initialized "RopeSwing$Jump") ∈ TB := tb_of 81 _ (by decide +kernel) rfl
theorem wd_82 : (Jvm.Cond.initialized "RopeSwing$Times") ∈ TB := tb_of 82 _ (by decide +kernel) rfl
theorem wd_83 : (Jvm.Cond.initialized "RopeSwingModel") ∈ TB := tb_of 83 _ (by decide +kernel) rfl
theorem wd_84 : (Jvm.Cond.initialized "java/lang/String") ∈ TB := tb_of 84 _ (by decide +kernel) rfl
theorem wd_85 : (Jvm.Cond.initialized "java/lang/StringLatin1") ∈ TB := tb_of 85 _ (by decide +kernel) rfl
theorem wd_86 : (Jvm.Cond.initialized "jdk/internal/util/Preconditions") ∈ TB := tb_of 86 _ (by decide +kernel) rfl
theorem wd_87 : (Jvm.Cond.initialized "java/lang/StringUTF16") ∈ TB := tb_of 87 _ (by decide +kernel) rfl
theorem wd_88 : (Jvm.Cond.initialized "java/lang/Integer") ∈ TB := tb_of 88 _ (by decide +kernel) rfl
theorem wd_89 : (Jvm.Cond.classLink "RopeSwingLaw" (7 : Nat) "RopeSwing") ∈ TB := tb_of 89 _ (by decide +kernel) rfl
theorem wd_90 : (Jvm.Cond.instantiable "RopeSwing" (14 : Nat)) ∈ TB := tb_of 90 _ (by decide +kernel) rfl
theorem wd_91 : (Jvm.Cond.methodLink "RopeSwingLaw" (9 : Nat) ({ cls := "RopeSwing", name := "<init>", desc := "()V" } : Jvm.MethodName)) ∈ TB := tb_of 91 _ (by decide +kernel) rfl
theorem wd_92 : (Jvm.Cond.instanceMethod ({ cls := "RopeSwing", name := "<init>", desc := "()V" } : Jvm.MethodName)) ∈ TB := tb_of 92 _ (by decide +kernel) rfl
theorem wd_93 : (Jvm.Cond.code ({ cls := "RopeSwing", name := "<init>", desc := "()V" } : Jvm.MethodName) prog_1_method_1_code (2 : Nat) (Option.none : Option Jvm.ClassFile.FieldType)) ∈ TB := tb_of 93 _ (by decide +kernel) rfl
theorem wd_94 : (Jvm.Cond.methodLink "RopeSwing" (1 : Nat) ({ cls := "java/lang/Object", name := "<init>", desc := "()V" } : Jvm.MethodName)) ∈ TB := tb_of 94 _ (by decide +kernel) rfl
theorem wd_95 : (Jvm.Cond.instanceMethod ({ cls := "java/lang/Object", name := "<init>", desc := "()V" } : Jvm.MethodName)) ∈ TB := tb_of 95 _ (by decide +kernel) rfl
theorem wd_96 : (Jvm.Cond.code ({ cls := "java/lang/Object", name := "<init>", desc := "()V" } : Jvm.MethodName) object_method_1_code (1 : Nat) (Option.none : Option Jvm.ClassFile.FieldType)) ∈ TB := tb_of 96 _ (by decide +kernel) rfl
theorem wd_97 : (Jvm.Cond.classLink "RopeSwing" (7 : Nat) "RopeSwing$Text") ∈ TB := tb_of 97 _ (by decide +kernel) rfl
theorem wd_98 : (Jvm.Cond.instantiable "RopeSwing$Text" (2 : Nat)) ∈ TB := tb_of 98 _ (by decide +kernel) rfl
theorem wd_100 : (Jvm.Cond.instanceMethod ({ cls := "RopeSwing$Text", name := "<init>", desc := "()V" } : Jvm.MethodName)) ∈ TB := tb_of 100 _ (by decide +kernel) rfl
theorem wd_101 : (Jvm.Cond.code ({ cls := "RopeSwing$Text", name := "<init>", desc := "()V" } : Jvm.MethodName) prog_9_method_1_code (1 : Nat) (Option.none : Option Jvm.ClassFile.FieldType)) ∈ TB := tb_of 101 _ (by decide +kernel) rfl
theorem wd_102 : (Jvm.Cond.methodLink "RopeSwing$Text" (3 : Nat) ({ cls := "java/lang/Object", name := "<init>", desc := "()V" } : Jvm.MethodName)) ∈ TB := tb_of 102 _ (by decide +kernel) rfl
theorem wd_103 : (Jvm.Cond.fieldLink "RopeSwing$Text" (11 : Nat) "RopeSwing$Text" "bytes" "[I") ∈ TB := tb_of 103 _ (by decide +kernel) rfl
theorem wd_104 : (Jvm.Cond.fieldLink "RopeSwing$Text" (15 : Nat) "RopeSwing$Text" "length" "I") ∈ TB := tb_of 104 _ (by decide +kernel) rfl
theorem wd_105 : (Jvm.Cond.laysFinal "RopeSwing$Text" "RopeSwing$Text" "bytes" "[I") ∈ TB := tb_of 105 _ (by decide +kernel) rfl
theorem wd_107 : (Jvm.Cond.lays "RopeSwing$Text" "RopeSwing$Text" "length" "I") ∈ TB := tb_of 107 _ (by decide +kernel) rfl
theorem wd_110 : (Jvm.Cond.arrayClass Jvm.ClassFile.FieldType.int) ∈ TB := tb_of 110 _ (by decide +kernel) rfl
theorem wd_111 : (Jvm.Cond.classLink "RopeSwing" (16 : Nat) "RopeSwing$Reader") ∈ TB := tb_of 111 _ (by decide +kernel) rfl
theorem wd_112 : (Jvm.Cond.instantiable "RopeSwing$Reader" (8 : Nat)) ∈ TB := tb_of 112 _ (by decide +kernel) rfl
theorem wd_113 : (Jvm.Cond.methodLink "RopeSwing" (18 : Nat) ({ cls := "RopeSwing$Reader", name := "<init>", desc := "(LRopeSwing$Text;)V" } : Jvm.MethodName)) ∈ TB := tb_of 113 _ (by decide +kernel) rfl
theorem wd_114 : (Jvm.Cond.instanceMethod ({ cls := "RopeSwing$Reader", name := "<init>", desc := "(LRopeSwing$Text;)V" } : Jvm.MethodName)) ∈ TB := tb_of 114 _ (by decide +kernel) rfl
theorem wd_115 : (Jvm.Cond.code ({ cls := "RopeSwing$Reader", name := "<init>", desc := "(LRopeSwing$Text;)V" } : Jvm.MethodName) prog_6_method_1_code (2 : Nat) (Option.none : Option Jvm.ClassFile.FieldType)) ∈ TB := tb_of 115 _ (by decide +kernel) rfl
theorem wd_116 : (Jvm.Cond.methodLink "RopeSwing$Reader" (3 : Nat) ({ cls := "java/lang/Object", name := "<init>", desc := "()V" } : Jvm.MethodName)) ∈ TB := tb_of 116 _ (by decide +kernel) rfl
theorem wd_117 : (Jvm.Cond.fieldLink "RopeSwing$Reader" (9 : Nat) "RopeSwing$Reader" "text" "LRopeSwing$Text;") ∈ TB := tb_of 117 _ (by decide +kernel) rfl
theorem wd_118 : (Jvm.Cond.fieldLink "RopeSwing$Reader" (113 : Nat) "RopeSwing$Reader" "next" "I") ∈ TB := tb_of 118 _ (by decide +kernel) rfl
theorem wd_119 : (Jvm.Cond.fieldLink "RopeSwing$Reader" (31 : Nat) "RopeSwing$Reader" "kind" "I") ∈ TB := tb_of 119 _ (by decide +kernel) rfl
theorem wd_120 : (Jvm.Cond.fieldLink "RopeSwing$Reader" (116 : Nat) "RopeSwing$Reader" "start" "I") ∈ TB := tb_of 120 _ (by decide +kernel) rfl
theorem wd_121 : (Jvm.Cond.fieldLink "RopeSwing$Reader" (63 : Nat) "RopeSwing$Reader" "value" "I") ∈ TB := tb_of 121 _ (by decide +kernel) rfl
theorem wd_122 : (Jvm.Cond.fieldLink "RopeSwing$Reader" (15 : Nat) "RopeSwing$Reader" "faultNumber" "I") ∈ TB := tb_of 122 _ (by decide +kernel) rfl
theorem wd_123 : (Jvm.Cond.fieldLink "RopeSwing$Reader" (19 : Nat) "RopeSwing$Reader" "faultAt" "I") ∈ TB := tb_of 123 _ (by decide +kernel) rfl
theorem wd_124 : (Jvm.Cond.fieldLink "RopeSwing$Reader" (22 : Nat) "RopeSwing$Reader" "clauses" "I") ∈ TB := tb_of 124 _ (by decide +kernel) rfl
theorem wd_125 : (Jvm.Cond.laysFinal "RopeSwing$Reader" "RopeSwing$Reader" "text" "LRopeSwing$Text;") ∈ TB := tb_of 125 _ (by decide +kernel) rfl
theorem wd_127 : (Jvm.Cond.lays "RopeSwing$Reader" "RopeSwing$Reader" "next" "I") ∈ TB := tb_of 127 _ (by decide +kernel) rfl
theorem wd_129 : (Jvm.Cond.lays "RopeSwing$Reader" "RopeSwing$Reader" "kind" "I") ∈ TB := tb_of 129 _ (by decide +kernel) rfl
theorem wd_131 : (Jvm.Cond.lays "RopeSwing$Reader" "RopeSwing$Reader" "start" "I") ∈ TB := tb_of 131 _ (by decide +kernel) rfl
theorem wd_133 : (Jvm.Cond.lays "RopeSwing$Reader" "RopeSwing$Reader" "value" "I") ∈ TB := tb_of 133 _ (by decide +kernel) rfl
theorem wd_135 : (Jvm.Cond.lays "RopeSwing$Reader" "RopeSwing$Reader" "faultNumber" "I") ∈ TB := tb_of 135 _ (by decide +kernel) rfl
theorem wd_137 : (Jvm.Cond.lays "RopeSwing$Reader" "RopeSwing$Reader" "faultAt" "I") ∈ TB := tb_of 137 _ (by decide +kernel) rfl
theorem wd_139 : (Jvm.Cond.lays "RopeSwing$Reader" "RopeSwing$Reader" "clauses" "I") ∈ TB := tb_of 139 _ (by decide +kernel) rfl
theorem wd_142 : (Jvm.Cond.classLink "RopeSwing" (25 : Nat) "RopeSwing$Place") ∈ TB := tb_of 142 _ (by decide +kernel) rfl
theorem wd_143 : (Jvm.Cond.instantiable "RopeSwing$Place" (4 : Nat)) ∈ TB := tb_of 143 _ (by decide +kernel) rfl
theorem wd_144 : (Jvm.Cond.methodLink "RopeSwing" (27 : Nat) ({ cls := "RopeSwing$Place", name := "<init>", desc := "()V" } : Jvm.MethodName)) ∈ TB := tb_of 144 _ (by decide +kernel) rfl
theorem wd_145 : (Jvm.Cond.instanceMethod ({ cls := "RopeSwing$Place", name := "<init>", desc := "()V" } : Jvm.MethodName)) ∈ TB := tb_of 145 _ (by decide +kernel) rfl
theorem wd_146 : (Jvm.Cond.code ({ cls := "RopeSwing$Place", name := "<init>", desc := "()V" } : Jvm.MethodName) prog_5_method_1_code (1 : Nat) (Option.none : Option Jvm.ClassFile.FieldType)) ∈ TB := tb_of 146 _ (by decide +kernel) rfl
theorem wd_147 : (Jvm.Cond.methodLink "RopeSwing$Place" (3 : Nat) ({ cls := "java/lang/Object", name := "<init>", desc := "()V" } : Jvm.MethodName)) ∈ TB := tb_of 147 _ (by decide +kernel) rfl
theorem wd_148 : (Jvm.Cond.methodLink "RopeSwing$Place" (24 : Nat) ({ cls := "RopeSwing$Place", name := "clear", desc := "()V" } : Jvm.MethodName)) ∈ TB := tb_of 148 _ (by decide +kernel) rfl
theorem wd_149 : (Jvm.Cond.instanceMethod ({ cls := "RopeSwing$Place", name := "clear", desc := "()V" } : Jvm.MethodName)) ∈ TB := tb_of 149 _ (by decide +kernel) rfl
theorem wd_150 : (Jvm.Cond.selects "RopeSwing$Place" ({ cls := "RopeSwing$Place", name := "clear", desc := "()V" } : Jvm.MethodName) ({ cls := "RopeSwing$Place", name := "clear", desc := "()V" } : Jvm.MethodName)) ∈ TB := tb_of 150 _ (by decide +kernel) rfl
theorem wd_151 : (Jvm.Cond.code ({ cls := "RopeSwing$Place", name := "clear", desc := "()V" } : Jvm.MethodName) prog_5_method_2_code (1 : Nat) (Option.none : Option Jvm.ClassFile.FieldType)) ∈ TB := tb_of 151 _ (by decide +kernel) rfl
theorem wd_152 : (Jvm.Cond.fieldLink "RopeSwing$Place" (27 : Nat) "RopeSwing$Place" "UNTOLD" "[I") ∈ TB := tb_of 152 _ (by decide +kernel) rfl
theorem wd_154 : (Jvm.Cond.methodLink "RopeSwing$Place" (30 : Nat) ({ cls := "java/lang/Math", name := "min", desc := "(II)I" } : Jvm.MethodName)) ∈ TB := tb_of 154 _ (by decide +kernel) rfl
theorem wd_155 : (Jvm.Cond.static ({ cls := "java/lang/Math", name := "min", desc := "(II)I" } : Jvm.MethodName)) ∈ TB := tb_of 155 _ (by decide +kernel) rfl
theorem wd_156 : (Jvm.Cond.code ({ cls := "java/lang/Math", name := "min", desc := "(II)I" } : Jvm.MethodName) prog_14_method_69_code (2 : Nat) (Option.some Jvm.ClassFile.FieldType.int)) ∈ TB := tb_of 156 _ (by decide +kernel) rfl
theorem wd_157 : (Jvm.Cond.methodLink "RopeSwing$Place" (36 : Nat) ({ cls := "java/lang/System", name := "arraycopy", desc := "(Ljava/lang/Object;ILjava/lang/Object;II)V" } : Jvm.MethodName)) ∈ TB := tb_of 157 _ (by decide +kernel) rfl
theorem wd_158 : (Jvm.Cond.static ({ cls := "java/lang/System", name := "arraycopy", desc := "(Ljava/lang/Object;ILjava/lang/Object;II)V" } : Jvm.MethodName)) ∈ TB := tb_of 158 _ (by decide +kernel) rfl
theorem wd_160 : (Jvm.Cond.methodLink "RopeSwing$Place" (42 : Nat) ({ cls := "java/util/Arrays", name := "fill", desc := "([II)V" } : Jvm.MethodName)) ∈ TB := tb_of 160 _ (by decide +kernel) rfl
theorem wd_161 : (Jvm.Cond.static ({ cls := "java/util/Arrays", name := "fill", desc := "([II)V" } : Jvm.MethodName)) ∈ TB := tb_of 161 _ (by decide +kernel) rfl
theorem wd_162 : (Jvm.Cond.code ({ cls := "java/util/Arrays", name := "fill", desc := "([II)V" } : Jvm.MethodName) prog_19_method_103_code (4 : Nat) (Option.none : Option Jvm.ClassFile.FieldType)) ∈ TB := tb_of 162 _ (by decide +kernel) rfl
theorem wd_163 : (Jvm.Cond.fieldLink "RopeSwing$Place" (9 : Nat) "RopeSwing$Place" "numbers" "[I") ∈ TB := tb_of 163 _ (by decide +kernel) rfl
theorem wd_165 : (Jvm.Cond.fieldLink "RopeSwing$Place" (15 : Nat) "RopeSwing$Place" "depths" "[I") ∈ TB := tb_of 165 _ (by decide +kernel) rfl
theorem wd_167 : (Jvm.Cond.fieldLink "RopeSwing$Place" (18 : Nat) "RopeSwing$Place" "stones" "[I") ∈ TB := tb_of 167 _ (by decide +kernel) rfl
theorem wd_169 : (Jvm.Cond.fieldLink "RopeSwing$Place" (21 : Nat) "RopeSwing$Place" "lower" "[I") ∈ TB := tb_of 169 _ (by decide +kernel) rfl
theorem wd_171 : (Jvm.Cond.laysFinal "RopeSwing$Place" "RopeSwing$Place" "numbers" "[I") ∈ TB := tb_of 171 _ (by decide +kernel) rfl
theorem wd_173 : (Jvm.Cond.laysFinal "RopeSwing$Place" "RopeSwing$Place" "depths" "[I") ∈ TB := tb_of 173 _ (by decide +kernel) rfl
theorem wd_175 : (Jvm.Cond.laysFinal "RopeSwing$Place" "RopeSwing$Place" "stones" "[I") ∈ TB := tb_of 175 _ (by decide +kernel) rfl
theorem wd_177 : (Jvm.Cond.laysFinal "RopeSwing$Place" "RopeSwing$Place" "lower" "[I") ∈ TB := tb_of 177 _ (by decide +kernel) rfl
theorem wd_180 : (Jvm.Cond.classLink "RopeSwing" (35 : Nat) "RopeSwing$Swinger") ∈ TB := tb_of 180 _ (by decide +kernel) rfl
theorem wd_182 : (Jvm.Cond.instantiable "RopeSwing$Swinger" (1 : Nat)) ∈ TB := tb_of 182 _ (by decide +kernel) rfl
theorem wd_184 : (Jvm.Cond.instanceMethod ({ cls := "RopeSwing$Swinger", name := "<init>", desc := "()V" } : Jvm.MethodName)) ∈ TB := tb_of 184 _ (by decide +kernel) rfl
theorem wd_185 : (Jvm.Cond.code ({ cls := "RopeSwing$Swinger", name := "<init>", desc := "()V" } : Jvm.MethodName) prog_8_method_1_code (1 : Nat) (Option.none : Option Jvm.ClassFile.FieldType)) ∈ TB := tb_of 185 _ (by decide +kernel) rfl
theorem wd_186 : (Jvm.Cond.methodLink "RopeSwing$Swinger" (1 : Nat) ({ cls := "java/lang/Object", name := "<init>", desc := "()V" } : Jvm.MethodName)) ∈ TB := tb_of 186 _ (by decide +kernel) rfl
theorem wd_187 : (Jvm.Cond.fieldLink "RopeSwing$Swinger" (9 : Nat) "RopeSwing$Swinger" "numbers" "[I") ∈ TB := tb_of 187 _ (by decide +kernel) rfl
theorem wd_189 : (Jvm.Cond.laysFinal "RopeSwing$Swinger" "RopeSwing$Swinger" "numbers" "[I") ∈ TB := tb_of 189 _ (by decide +kernel) rfl
theorem wd_192 : (Jvm.Cond.classLink "RopeSwing" (42 : Nat) "RopeSwing$State") ∈ TB := tb_of 192 _ (by decide +kernel) rfl
theorem wd_193 : (Jvm.Cond.instantiable "RopeSwing$State" (4 : Nat)) ∈ TB := tb_of 193 _ (by decide +kernel) rfl
theorem wd_195 : (Jvm.Cond.instanceMethod ({ cls := "RopeSwing$State", name := "<init>", desc := "()V" } : Jvm.MethodName)) ∈ TB := tb_of 195 _ (by decide +kernel) rfl
theorem wd_196 : (Jvm.Cond.code ({ cls := "RopeSwing$State", name := "<init>", desc := "()V" } : Jvm.MethodName) prog_7_method_1_code (1 : Nat) (Option.none : Option Jvm.ClassFile.FieldType)) ∈ TB := tb_of 196 _ (by decide +kernel) rfl
theorem wd_197 : (Jvm.Cond.methodLink "RopeSwing$State" (3 : Nat) ({ cls := "java/lang/Object", name := "<init>", desc := "()V" } : Jvm.MethodName)) ∈ TB := tb_of 197 _ (by decide +kernel) rfl
theorem wd_198 : (Jvm.Cond.fieldLink "RopeSwing$State" (9 : Nat) "RopeSwing$State" "inHand" "[I") ∈ TB := tb_of 198 _ (by decide +kernel) rfl
theorem wd_199 : (Jvm.Cond.fieldLink "RopeSwing$State" (15 : Nat) "RopeSwing$State" "ends" "[I") ∈ TB := tb_of 199 _ (by decide +kernel) rfl
theorem wd_200 : (Jvm.Cond.fieldLink "RopeSwing$State" (36 : Nat) "RopeSwing$State" "seed" "I") ∈ TB := tb_of 200 _ (by decide +kernel) rfl
theorem wd_203 : (Jvm.Cond.laysFinal "RopeSwing$State" "RopeSwing$State" "inHand" "[I") ∈ TB := tb_of 203 _ (by decide +kernel) rfl
theorem wd_205 : (Jvm.Cond.laysFinal "RopeSwing$State" "RopeSwing$State" "ends" "[I") ∈ TB := tb_of 205 _ (by decide +kernel) rfl
theorem wd_207 : (Jvm.Cond.lays "RopeSwing$State" "RopeSwing$State" "seed" "I") ∈ TB := tb_of 207 _ (by decide +kernel) rfl
theorem wd_209 : (Jvm.Cond.lays "RopeSwing$State" "RopeSwing$State" "kept" "Z") ∈ TB := tb_of 209 _ (by decide +kernel) rfl
theorem wd_213 : (Jvm.Cond.classLink "RopeSwing" (53 : Nat) "RopeSwing$Pendulum") ∈ TB := tb_of 213 _ (by decide +kernel) rfl
theorem wd_214 : (Jvm.Cond.instantiable "RopeSwing$Pendulum" (3 : Nat)) ∈ TB := tb_of 214 _ (by decide +kernel) rfl
theorem wd_216 : (Jvm.Cond.instanceMethod ({ cls := "RopeSwing$Pendulum", name := "<init>", desc := "()V" } : Jvm.MethodName)) ∈ TB := tb_of 216 _ (by decide +kernel) rfl
theorem wd_217 : (Jvm.Cond.code ({ cls := "RopeSwing$Pendulum", name := "<init>", desc := "()V" } : Jvm.MethodName) prog_4_method_1_code (1 : Nat) (Option.none : Option Jvm.ClassFile.FieldType)) ∈ TB := tb_of 217 _ (by decide +kernel) rfl
theorem wd_218 : (Jvm.Cond.methodLink "RopeSwing$Pendulum" (1 : Nat) ({ cls := "java/lang/Object", name := "<init>", desc := "()V" } : Jvm.MethodName)) ∈ TB := tb_of 218 _ (by decide +kernel) rfl
theorem wd_219 : (Jvm.Cond.fieldLink "RopeSwing$Pendulum" (7 : Nat) "RopeSwing$Pendulum" "length" "I") ∈ TB := tb_of 219 _ (by decide +kernel) rfl
theorem wd_220 : (Jvm.Cond.fieldLink "RopeSwing$Pendulum" (13 : Nat) "RopeSwing$Pendulum" "angle" "I") ∈ TB := tb_of 220 _ (by decide +kernel) rfl
theorem wd_223 : (Jvm.Cond.fieldLink "RopeSwing$Pendulum" (22 : Nat) "RopeSwing$Pendulum" "pace" "I") ∈ TB := tb_of 223 _ (by decide +kernel) rfl
theorem wd_225 : (Jvm.Cond.lays "RopeSwing$Pendulum" "RopeSwing$Pendulum" "length" "I") ∈ TB := tb_of 225 _ (by decide +kernel) rfl
theorem wd_227 : (Jvm.Cond.lays "RopeSwing$Pendulum" "RopeSwing$Pendulum" "angle" "I") ∈ TB := tb_of 227 _ (by decide +kernel) rfl
theorem wd_229 : (Jvm.Cond.lays "RopeSwing$Pendulum" "RopeSwing$Pendulum" "pace" "I") ∈ TB := tb_of 229 _ (by decide +kernel) rfl
theorem wd_232 : (Jvm.Cond.classLink "RopeSwing" (60 : Nat) "RopeSwing$Path") ∈ TB := tb_of 232 _ (by decide +kernel) rfl
theorem wd_233 : (Jvm.Cond.instantiable "RopeSwing$Path" (13 : Nat)) ∈ TB := tb_of 233 _ (by decide +kernel) rfl
theorem wd_235 : (Jvm.Cond.instanceMethod ({ cls := "RopeSwing$Path", name := "<init>", desc := "()V" } : Jvm.MethodName)) ∈ TB := tb_of 235 _ (by decide +kernel) rfl
theorem wd_236 : (Jvm.Cond.code ({ cls := "RopeSwing$Path", name := "<init>", desc := "()V" } : Jvm.MethodName) prog_3_method_1_code (1 : Nat) (Option.none : Option Jvm.ClassFile.FieldType)) ∈ TB := tb_of 236 _ (by decide +kernel) rfl
theorem wd_237 : (Jvm.Cond.methodLink "RopeSwing$Path" (3 : Nat) ({ cls := "java/lang/Object", name := "<init>", desc := "()V" } : Jvm.MethodName)) ∈ TB := tb_of 237 _ (by decide +kernel) rfl
theorem wd_238 : (Jvm.Cond.classLink "RopeSwing$Path" (9 : Nat) "RopeSwing$Pendulum") ∈ TB := tb_of 238 _ (by decide +kernel) rfl
theorem wd_240 : (Jvm.Cond.fieldLink "RopeSwing$Path" (12 : Nat) "RopeSwing$Path" "pendulum" "LRopeSwing$Pendulum;") ∈ TB := tb_of 240 _ (by decide +kernel) rfl
theorem wd_241 : (Jvm.Cond.fieldLink "RopeSwing$Path" (18 : Nat) "RopeSwing$Path" "angle" "[I") ∈ TB := tb_of 241 _ (by decide +kernel) rfl
theorem wd_242 : (Jvm.Cond.fieldLink "RopeSwing$Path" (22 : Nat) "RopeSwing$Path" "pace" "[I") ∈ TB := tb_of 242 _ (by decide +kernel) rfl
theorem wd_243 : (Jvm.Cond.fieldLink "RopeSwing$Path" (25 : Nat) "RopeSwing$Path" "x" "[I") ∈ TB := tb_of 243 _ (by decide +kernel) rfl
theorem wd_244 : (Jvm.Cond.fieldLink "RopeSwing$Path" (28 : Nat) "RopeSwing$Path" "height" "[I") ∈ TB := tb_of 244 _ (by decide +kernel) rfl
theorem wd_245 : (Jvm.Cond.fieldLink "RopeSwing$Path" (31 : Nat) "RopeSwing$Path" "load" "[I") ∈ TB := tb_of 245 _ (by decide +kernel) rfl
theorem wd_246 : (Jvm.Cond.fieldLink "RopeSwing$Path" (34 : Nat) "RopeSwing$Path" "across" "[I") ∈ TB := tb_of 246 _ (by decide +kernel) rfl
theorem wd_247 : (Jvm.Cond.fieldLink "RopeSwing$Path" (37 : Nat) "RopeSwing$Path" "up" "[I") ∈ TB := tb_of 247 _ (by decide +kernel) rfl
theorem wd_248 : (Jvm.Cond.fieldLink "RopeSwing$Path" (40 : Nat) "RopeSwing$Path" "traced" "Z") ∈ TB := tb_of 248 _ (by decide +kernel) rfl
theorem wd_249 : (Jvm.Cond.fieldLink "RopeSwing$Path" (44 : Nat) "RopeSwing$Path" "bough" "I") ∈ TB := tb_of 249 _ (by decide +kernel) rfl
theorem wd_250 : (Jvm.Cond.fieldLink "RopeSwing$Path" (48 : Nat) "RopeSwing$Path" "length" "I") ∈ TB := tb_of 250 _ (by decide +kernel) rfl
theorem wd_251 : (Jvm.Cond.fieldLink "RopeSwing$Path" (51 : Nat) "RopeSwing$Path" "back" "I") ∈ TB := tb_of 251 _ (by decide +kernel) rfl
theorem wd_252 : (Jvm.Cond.fieldLink "RopeSwing$Path" (54 : Nat) "RopeSwing$Path" "run" "I") ∈ TB := tb_of 252 _ (by decide +kernel) rfl
theorem wd_253 : (Jvm.Cond.laysFinal "RopeSwing$Path" "RopeSwing$Path" "pendulum" "LRopeSwing$Pendulum;") ∈ TB := tb_of 253 _ (by decide +kernel) rfl
theorem wd_255 : (Jvm.Cond.laysFinal "RopeSwing$Path" "RopeSwing$Path" "angle" "[I") ∈ TB := tb_of 255 _ (by decide +kernel) rfl
theorem wd_257 : (Jvm.Cond.laysFinal "RopeSwing$Path" "RopeSwing$Path" "pace" "[I") ∈ TB := tb_of 257 _ (by decide +kernel) rfl
theorem wd_259 : (Jvm.Cond.laysFinal "RopeSwing$Path" "RopeSwing$Path" "x" "[I") ∈ TB := tb_of 259 _ (by decide +kernel) rfl
theorem wd_261 : (Jvm.Cond.laysFinal "RopeSwing$Path" "RopeSwing$Path" "height" "[I") ∈ TB := tb_of 261 _ (by decide +kernel) rfl
theorem wd_263 : (Jvm.Cond.laysFinal "RopeSwing$Path" "RopeSwing$Path" "load" "[I") ∈ TB := tb_of 263 _ (by decide +kernel) rfl
theorem wd_265 : (Jvm.Cond.laysFinal "RopeSwing$Path" "RopeSwing$Path" "across" "[I") ∈ TB := tb_of 265 _ (by decide +kernel) rfl
theorem wd_267 : (Jvm.Cond.laysFinal "RopeSwing$Path" "RopeSwing$Path" "up" "[I") ∈ TB := tb_of 267 _ (by decide +kernel) rfl
theorem wd_269 : (Jvm.Cond.lays "RopeSwing$Path" "RopeSwing$Path" "traced" "Z") ∈ TB := tb_of 269 _ (by decide +kernel) rfl
theorem wd_271 : (Jvm.Cond.lays "RopeSwing$Path" "RopeSwing$Path" "bough" "I") ∈ TB := tb_of 271 _ (by decide +kernel) rfl
theorem wd_273 : (Jvm.Cond.lays "RopeSwing$Path" "RopeSwing$Path" "length" "I") ∈ TB := tb_of 273 _ (by decide +kernel) rfl
theorem wd_275 : (Jvm.Cond.lays "RopeSwing$Path" "RopeSwing$Path" "back" "I") ∈ TB := tb_of 275 _ (by decide +kernel) rfl
theorem wd_277 : (Jvm.Cond.lays "RopeSwing$Path" "RopeSwing$Path" "run" "I") ∈ TB := tb_of 277 _ (by decide +kernel) rfl
theorem wd_280 : (Jvm.Cond.classLink "RopeSwing" (67 : Nat) "RopeSwing$Jump") ∈ TB := tb_of 280 _ (by decide +kernel) rfl
theorem wd_281 : (Jvm.Cond.instantiable "RopeSwing$Jump" (17 : Nat)) ∈ TB := tb_of 281 _ (by decide +kernel) rfl
theorem wd_282 : (Jvm.Cond.methodLink "RopeSwing" (69 : Nat) ({ cls := "RopeSwing$Jump", name := "<init>", desc := "(LRopeSwing$Place;LRopeSwing$Path;)V" } : Jvm.MethodName)) ∈ TB := tb_of 282 _ (by decide +kernel) rfl
theorem wd_283 : (Jvm.Cond.instanceMethod ({ cls := "RopeSwing$Jump", name := "<init>", desc := "(LRopeSwing$Place;LRopeSwing$Path;)V" } : Jvm.MethodName)) ∈ TB := tb_of 283 _ (by decide +kernel) rfl
theorem wd_284 : (Jvm.Cond.code ({ cls := "RopeSwing$Jump", name := "<init>", desc := "(LRopeSwing$Place;LRopeSwing$Path;)V" } : Jvm.MethodName) prog_2_method_1_code (3 : Nat) (Option.none : Option Jvm.ClassFile.FieldType)) ∈ TB := tb_of 284 _ (by decide +kernel) rfl
theorem wd_285 : (Jvm.Cond.methodLink "RopeSwing$Jump" (3 : Nat) ({ cls := "java/lang/Object", name := "<init>", desc := "()V" } : Jvm.MethodName)) ∈ TB := tb_of 285 _ (by decide +kernel) rfl
theorem wd_286 : (Jvm.Cond.fieldLink "RopeSwing$Jump" (9 : Nat) "RopeSwing$Jump" "place" "LRopeSwing$Place;") ∈ TB := tb_of 286 _ (by decide +kernel) rfl
theorem wd_287 : (Jvm.Cond.fieldLink "RopeSwing$Jump" (15 : Nat) "RopeSwing$Jump" "path" "LRopeSwing$Path;") ∈ TB := tb_of 287 _ (by decide +kernel) rfl
theorem wd_288 : (Jvm.Cond.fieldLink "RopeSwing$Jump" (60 : Nat) "RopeSwing$Jump" "strength" "I") ∈ TB := tb_of 288 _ (by decide +kernel) rfl
theorem wd_290 : (Jvm.Cond.fieldLink "RopeSwing$Jump" (75 : Nat) "RopeSwing$Jump" "lower" "I") ∈ TB := tb_of 290 _ (by decide +kernel) rfl
theorem wd_292 : (Jvm.Cond.fieldLink "RopeSwing$Jump" (25 : Nat) "RopeSwing$Jump" "weight" "I") ∈ TB := tb_of 292 _ (by decide +kernel) rfl
theorem wd_293 : (Jvm.Cond.fieldLink "RopeSwing$Jump" (29 : Nat) "RopeSwing$Jump" "feet" "I") ∈ TB := tb_of 293 _ (by decide +kernel) rfl
theorem wd_294 : (Jvm.Cond.fieldLink "RopeSwing$Jump" (32 : Nat) "RopeSwing$Jump" "grip" "I") ∈ TB := tb_of 294 _ (by decide +kernel) rfl
theorem wd_295 : (Jvm.Cond.fieldLink "RopeSwing$Jump" (35 : Nat) "RopeSwing$Jump" "lag" "I") ∈ TB := tb_of 295 _ (by decide +kernel) rfl
theorem wd_298 : (Jvm.Cond.fieldLink "RopeSwing$Jump" (38 : Nat) "RopeSwing$Jump" "turning" "I") ∈ TB := tb_of 298 _ (by decide +kernel) rfl
theorem wd_300 : (Jvm.Cond.fieldLink "RopeSwing$Jump" (41 : Nat) "RopeSwing$Jump" "stop" "I") ∈ TB := tb_of 300 _ (by decide +kernel) rfl
theorem wd_301 : (Jvm.Cond.fieldLink "RopeSwing$Jump" (44 : Nat) "RopeSwing$Jump" "stopEnd" "I") ∈ TB := tb_of 301 _ (by decide +kernel) rfl
theorem wd_302 : (Jvm.Cond.fieldLink "RopeSwing$Jump" (92 : Nat) "RopeSwing$Jump" "end" "I") ∈ TB := tb_of 302 _ (by decide +kernel) rfl
theorem wd_305 : (Jvm.Cond.fieldLink "RopeSwing$Jump" (98 : Nat) "RopeSwing$Jump" "where" "I") ∈ TB := tb_of 305 _ (by decide +kernel) rfl
theorem wd_307 : (Jvm.Cond.fieldLink "RopeSwing$Jump" (95 : Nat) "RopeSwing$Jump" "heldTill" "I") ∈ TB := tb_of 307 _ (by decide +kernel) rfl
theorem wd_309 : (Jvm.Cond.fieldLink "RopeSwing$Jump" (101 : Nat) "RopeSwing$Jump" "flown" "I") ∈ TB := tb_of 309 _ (by decide +kernel) rfl
theorem wd_312 : (Jvm.Cond.fieldLink "RopeSwing$Jump" (104 : Nat) "RopeSwing$Jump" "highest" "I") ∈ TB := tb_of 312 _ (by decide +kernel) rfl
theorem wd_314 : (Jvm.Cond.fieldLink "RopeSwing$Jump" (107 : Nat) "RopeSwing$Jump" "turned" "I") ∈ TB := tb_of 314 _ (by decide +kernel) rfl
theorem wd_316 : (Jvm.Cond.laysFinal "RopeSwing$Jump" "RopeSwing$Jump" "place" "LRopeSwing$Place;") ∈ TB := tb_of 316 _ (by decide +kernel) rfl
theorem wd_318 : (Jvm.Cond.laysFinal "RopeSwing$Jump" "RopeSwing$Jump" "path" "LRopeSwing$Path;") ∈ TB := tb_of 318 _ (by decide +kernel) rfl
theorem wd_320 : (Jvm.Cond.lays "RopeSwing$Jump" "RopeSwing$Jump" "strength" "I") ∈ TB := tb_of 320 _ (by decide +kernel) rfl
theorem wd_322 : (Jvm.Cond.lays "RopeSwing$Jump" "RopeSwing$Jump" "lower" "I") ∈ TB := tb_of 322 _ (by decide +kernel) rfl
theorem wd_324 : (Jvm.Cond.lays "RopeSwing$Jump" "RopeSwing$Jump" "weight" "I") ∈ TB := tb_of 324 _ (by decide +kernel) rfl
theorem wd_326 : (Jvm.Cond.lays "RopeSwing$Jump" "RopeSwing$Jump" "feet" "I") ∈ TB := tb_of 326 _ (by decide +kernel) rfl
theorem wd_328 : (Jvm.Cond.lays "RopeSwing$Jump" "RopeSwing$Jump" "grip" "I") ∈ TB := tb_of 328 _ (by decide +kernel) rfl
theorem wd_330 : (Jvm.Cond.lays "RopeSwing$Jump" "RopeSwing$Jump" "lag" "I") ∈ TB := tb_of 330 _ (by decide +kernel) rfl
theorem wd_332 : (Jvm.Cond.lays "RopeSwing$Jump" "RopeSwing$Jump" "turning" "I") ∈ TB := tb_of 332 _ (by decide +kernel) rfl
theorem wd_334 : (Jvm.Cond.lays "RopeSwing$Jump" "RopeSwing$Jump" "stop" "I") ∈ TB := tb_of 334 _ (by decide +kernel) rfl
theorem wd_336 : (Jvm.Cond.lays "RopeSwing$Jump" "RopeSwing$Jump" "stopEnd" "I") ∈ TB := tb_of 336 _ (by decide +kernel) rfl
theorem wd_338 : (Jvm.Cond.lays "RopeSwing$Jump" "RopeSwing$Jump" "end" "I") ∈ TB := tb_of 338 _ (by decide +kernel) rfl
theorem wd_340 : (Jvm.Cond.lays "RopeSwing$Jump" "RopeSwing$Jump" "where" "I") ∈ TB := tb_of 340 _ (by decide +kernel) rfl
theorem wd_342 : (Jvm.Cond.lays "RopeSwing$Jump" "RopeSwing$Jump" "heldTill" "I") ∈ TB := tb_of 342 _ (by decide +kernel) rfl
theorem wd_344 : (Jvm.Cond.lays "RopeSwing$Jump" "RopeSwing$Jump" "flown" "I") ∈ TB := tb_of 344 _ (by decide +kernel) rfl
theorem wd_346 : (Jvm.Cond.lays "RopeSwing$Jump" "RopeSwing$Jump" "highest" "I") ∈ TB := tb_of 346 _ (by decide +kernel) rfl
theorem wd_348 : (Jvm.Cond.lays "RopeSwing$Jump" "RopeSwing$Jump" "turned" "I") ∈ TB := tb_of 348 _ (by decide +kernel) rfl
theorem wd_351 : (Jvm.Cond.classLink "RopeSwing" (76 : Nat) "RopeSwing$Times") ∈ TB := tb_of 351 _ (by decide +kernel) rfl
theorem wd_352 : (Jvm.Cond.instantiable "RopeSwing$Times" (5 : Nat)) ∈ TB := tb_of 352 _ (by decide +kernel) rfl
theorem wd_354 : (Jvm.Cond.instanceMethod ({ cls := "RopeSwing$Times", name := "<init>", desc := "()V" } : Jvm.MethodName)) ∈ TB := tb_of 354 _ (by decide +kernel) rfl
theorem wd_355 : (Jvm.Cond.code ({ cls := "RopeSwing$Times", name := "<init>", desc := "()V" } : Jvm.MethodName) prog_10_method_1_code (1 : Nat) (Option.none : Option Jvm.ClassFile.FieldType)) ∈ TB := tb_of 355 _ (by decide +kernel) rfl
theorem wd_356 : (Jvm.Cond.methodLink "RopeSwing$Times" (3 : Nat) ({ cls := "java/lang/Object", name := "<init>", desc := "()V" } : Jvm.MethodName)) ∈ TB := tb_of 356 _ (by decide +kernel) rfl
theorem wd_357 : (Jvm.Cond.fieldLink "RopeSwing$Times" (9 : Nat) "RopeSwing$Times" "farthest" "I") ∈ TB := tb_of 357 _ (by decide +kernel) rfl
theorem wd_359 : (Jvm.Cond.fieldLink "RopeSwing$Times" (15 : Nat) "RopeSwing$Times" "highest" "I") ∈ TB := tb_of 359 _ (by decide +kernel) rfl
theorem wd_361 : (Jvm.Cond.fieldLink "RopeSwing$Times" (18 : Nat) "RopeSwing$Times" "longest" "I") ∈ TB := tb_of 361 _ (by decide +kernel) rfl
theorem wd_363 : (Jvm.Cond.fieldLink "RopeSwing$Times" (21 : Nat) "RopeSwing$Times" "first" "I") ∈ TB := tb_of 363 _ (by decide +kernel) rfl
theorem wd_365 : (Jvm.Cond.fieldLink "RopeSwing$Times" (24 : Nat) "RopeSwing$Times" "good" "I") ∈ TB := tb_of 365 _ (by decide +kernel) rfl
theorem wd_367 : (Jvm.Cond.lays "RopeSwing$Times" "RopeSwing$Times" "farthest" "I") ∈ TB := tb_of 367 _ (by decide +kernel) rfl
theorem wd_369 : (Jvm.Cond.lays "RopeSwing$Times" "RopeSwing$Times" "highest" "I") ∈ TB := tb_of 369 _ (by decide +kernel) rfl
theorem wd_371 : (Jvm.Cond.lays "RopeSwing$Times" "RopeSwing$Times" "longest" "I") ∈ TB := tb_of 371 _ (by decide +kernel) rfl
theorem wd_373 : (Jvm.Cond.lays "RopeSwing$Times" "RopeSwing$Times" "first" "I") ∈ TB := tb_of 373 _ (by decide +kernel) rfl
theorem wd_375 : (Jvm.Cond.lays "RopeSwing$Times" "RopeSwing$Times" "good" "I") ∈ TB := tb_of 375 _ (by decide +kernel) rfl
theorem wd_378 : (Jvm.Cond.methodLink "RopeSwing" (91 : Nat) ({ cls := "RopeSwing$State", name := "begin", desc := "(LRopeSwing$Place;)V" } : Jvm.MethodName)) ∈ TB := tb_of 378 _ (by decide +kernel) rfl
theorem wd_379 : (Jvm.Cond.instanceMethod ({ cls := "RopeSwing$State", name := "begin", desc := "(LRopeSwing$Place;)V" } : Jvm.MethodName)) ∈ TB := tb_of 379 _ (by decide +kernel) rfl
theorem wd_380 : (Jvm.Cond.selects "RopeSwing$State" ({ cls := "RopeSwing$State", name := "begin", desc := "(LRopeSwing$Place;)V" } : Jvm.MethodName) ({ cls := "RopeSwing$State", name := "begin", desc := "(LRopeSwing$Place;)V" } : Jvm.MethodName)) ∈ TB := tb_of 380 _ (by decide +kernel) rfl
theorem wd_381 : (Jvm.Cond.code ({ cls := "RopeSwing$State", name := "begin", desc := "(LRopeSwing$Place;)V" } : Jvm.MethodName) prog_7_method_2_code (2 : Nat) (Option.none : Option Jvm.ClassFile.FieldType)) ∈ TB := tb_of 381 _ (by decide +kernel) rfl
theorem wd_382 : (Jvm.Cond.methodLink "RopeSwing$State" (18 : Nat) ({ cls := "RopeSwing$State", name := "take", desc := "(II)V" } : Jvm.MethodName)) ∈ TB := tb_of 382 _ (by decide +kernel) rfl
theorem wd_383 : (Jvm.Cond.instanceMethod ({ cls := "RopeSwing$State", name := "take", desc := "(II)V" } : Jvm.MethodName)) ∈ TB := tb_of 383 _ (by decide +kernel) rfl
theorem wd_384 : (Jvm.Cond.selects "RopeSwing$State" ({ cls := "RopeSwing$State", name := "take", desc := "(II)V" } : Jvm.MethodName) ({ cls := "RopeSwing$State", name := "take", desc := "(II)V" } : Jvm.MethodName)) ∈ TB := tb_of 384 _ (by decide +kernel) rfl
theorem wd_385 : (Jvm.Cond.code ({ cls := "RopeSwing$State", name := "take", desc := "(II)V" } : Jvm.MethodName) prog_7_method_4_code (3 : Nat) (Option.none : Option Jvm.ClassFile.FieldType)) ∈ TB := tb_of 385 _ (by decide +kernel) rfl
theorem wd_387 : (Jvm.Cond.static ({ cls := "RopeSwing", name := "put", desc := "([III)V" } : Jvm.MethodName)) ∈ TB := tb_of 387 _ (by decide +kernel) rfl
theorem wd_388 : (Jvm.Cond.code ({ cls := "RopeSwing", name := "put", desc := "([III)V" } : Jvm.MethodName) prog_1_method_48_code (3 : Nat) (Option.none : Option Jvm.ClassFile.FieldType)) ∈ TB := tb_of 388 _ (by decide +kernel) rfl
theorem wd_389 : (Jvm.Cond.methodLink "RopeSwing$State" (22 : Nat) ({ cls := "RopeSwing$Place", name := "number", desc := "(I)I" } : Jvm.MethodName)) ∈ TB := tb_of 389 _ (by decide +kernel) rfl
theorem wd_390 : (Jvm.Cond.instanceMethod ({ cls := "RopeSwing$Place", name := "number", desc := "(I)I" } : Jvm.MethodName)) ∈ TB := tb_of 390 _ (by decide +kernel) rfl
theorem wd_391 : (Jvm.Cond.selects "RopeSwing$Place" ({ cls := "RopeSwing$Place", name := "number", desc := "(I)I" } : Jvm.MethodName) ({ cls := "RopeSwing$Place", name := "number", desc := "(I)I" } : Jvm.MethodName)) ∈ TB := tb_of 391 _ (by decide +kernel) rfl
theorem wd_392 : (Jvm.Cond.code ({ cls := "RopeSwing$Place", name := "number", desc := "(I)I" } : Jvm.MethodName) prog_5_method_4_code (2 : Nat) (Option.some Jvm.ClassFile.FieldType.int)) ∈ TB := tb_of 392 _ (by decide +kernel) rfl
theorem wd_393 : (Jvm.Cond.fieldLink "RopeSwing" (10 : Nat) "RopeSwing" "text" "LRopeSwing$Text;") ∈ TB := tb_of 393 _ (by decide +kernel) rfl
theorem wd_394 : (Jvm.Cond.fieldLink "RopeSwing" (21 : Nat) "RopeSwing" "reader" "LRopeSwing$Reader;") ∈ TB := tb_of 394 _ (by decide +kernel) rfl
theorem wd_395 : (Jvm.Cond.fieldLink "RopeSwing" (28 : Nat) "RopeSwing" "place" "LRopeSwing$Place;") ∈ TB := tb_of 395 _ (by decide +kernel) rfl
theorem wd_396 : (Jvm.Cond.fieldLink "RopeSwing" (32 : Nat) "RopeSwing" "draft" "LRopeSwing$Place;") ∈ TB := tb_of 396 _ (by decide +kernel) rfl
theorem wd_397 : (Jvm.Cond.fieldLink "RopeSwing" (37 : Nat) "RopeSwing" "swingers" "[LRopeSwing$Swinger;") ∈ TB := tb_of 397 _ (by decide +kernel) rfl
theorem wd_398 : (Jvm.Cond.fieldLink "RopeSwing" (125 : Nat) "RopeSwing" "howMany" "I") ∈ TB := tb_of 398 _ (by decide +kernel) rfl
theorem wd_399 : (Jvm.Cond.fieldLink "RopeSwing" (45 : Nat) "RopeSwing" "state" "LRopeSwing$State;") ∈ TB := tb_of 399 _ (by decide +kernel) rfl
theorem wd_400 : (Jvm.Cond.fieldLink "RopeSwing" (49 : Nat) "RopeSwing" "images" "[LRopeSwing$State;") ∈ TB := tb_of 400 _ (by decide +kernel) rfl
theorem wd_401 : (Jvm.Cond.fieldLink "RopeSwing" (56 : Nat) "RopeSwing" "pendulum" "LRopeSwing$Pendulum;") ∈ TB := tb_of 401 _ (by decide +kernel) rfl
theorem wd_402 : (Jvm.Cond.fieldLink "RopeSwing" (63 : Nat) "RopeSwing" "path" "LRopeSwing$Path;") ∈ TB := tb_of 402 _ (by decide +kernel) rfl
theorem wd_403 : (Jvm.Cond.fieldLink "RopeSwing" (72 : Nat) "RopeSwing" "jump" "LRopeSwing$Jump;") ∈ TB := tb_of 403 _ (by decide +kernel) rfl
theorem wd_404 : (Jvm.Cond.fieldLink "RopeSwing" (79 : Nat) "RopeSwing" "times" "LRopeSwing$Times;") ∈ TB := tb_of 404 _ (by decide +kernel) rfl
theorem wd_405 : (Jvm.Cond.fieldLink "RopeSwing" (83 : Nat) "RopeSwing" "farthest" "[I") ∈ TB := tb_of 405 _ (by decide +kernel) rfl
theorem wd_406 : (Jvm.Cond.fieldLink "RopeSwing" (87 : Nat) "RopeSwing" "faultAt" "I") ∈ TB := tb_of 406 _ (by decide +kernel) rfl
theorem wd_407 : (Jvm.Cond.laysFinal "RopeSwing" "RopeSwing" "text" "LRopeSwing$Text;") ∈ TB := tb_of 407 _ (by decide +kernel) rfl
theorem wd_409 : (Jvm.Cond.laysFinal "RopeSwing" "RopeSwing" "reader" "LRopeSwing$Reader;") ∈ TB := tb_of 409 _ (by decide +kernel) rfl
theorem wd_411 : (Jvm.Cond.laysFinal "RopeSwing" "RopeSwing" "place" "LRopeSwing$Place;") ∈ TB := tb_of 411 _ (by decide +kernel) rfl
theorem wd_413 : (Jvm.Cond.laysFinal "RopeSwing" "RopeSwing" "draft" "LRopeSwing$Place;") ∈ TB := tb_of 413 _ (by decide +kernel) rfl
theorem wd_415 : (Jvm.Cond.laysFinal "RopeSwing" "RopeSwing" "swingers" "[LRopeSwing$Swinger;") ∈ TB := tb_of 415 _ (by decide +kernel) rfl
theorem wd_417 : (Jvm.Cond.lays "RopeSwing" "RopeSwing" "howMany" "I") ∈ TB := tb_of 417 _ (by decide +kernel) rfl
theorem wd_419 : (Jvm.Cond.laysFinal "RopeSwing" "RopeSwing" "state" "LRopeSwing$State;") ∈ TB := tb_of 419 _ (by decide +kernel) rfl
theorem wd_421 : (Jvm.Cond.laysFinal "RopeSwing" "RopeSwing" "images" "[LRopeSwing$State;") ∈ TB := tb_of 421 _ (by decide +kernel) rfl
theorem wd_423 : (Jvm.Cond.laysFinal "RopeSwing" "RopeSwing" "pendulum" "LRopeSwing$Pendulum;") ∈ TB := tb_of 423 _ (by decide +kernel) rfl
theorem wd_425 : (Jvm.Cond.laysFinal "RopeSwing" "RopeSwing" "path" "LRopeSwing$Path;") ∈ TB := tb_of 425 _ (by decide +kernel) rfl
theorem wd_427 : (Jvm.Cond.laysFinal "RopeSwing" "RopeSwing" "jump" "LRopeSwing$Jump;") ∈ TB := tb_of 427 _ (by decide +kernel) rfl
theorem wd_429 : (Jvm.Cond.laysFinal "RopeSwing" "RopeSwing" "times" "LRopeSwing$Times;") ∈ TB := tb_of 429 _ (by decide +kernel) rfl
theorem wd_431 : (Jvm.Cond.laysFinal "RopeSwing" "RopeSwing" "farthest" "[I") ∈ TB := tb_of 431 _ (by decide +kernel) rfl
theorem wd_433 : (Jvm.Cond.lays "RopeSwing" "RopeSwing" "faultAt" "I") ∈ TB := tb_of 433 _ (by decide +kernel) rfl
theorem wd_436 : (Jvm.Cond.methodLink "RopeSwingLaw" (15 : Nat) ({ cls := "RopeSwing", name := "feed", desc := "(IJ)I" } : Jvm.MethodName)) ∈ TB := tb_of 436 _ (by decide +kernel) rfl
theorem wd_437 : (Jvm.Cond.instanceMethod ({ cls := "RopeSwing", name := "feed", desc := "(IJ)I" } : Jvm.MethodName)) ∈ TB := tb_of 437 _ (by decide +kernel) rfl
theorem wd_438 : (Jvm.Cond.selects "RopeSwing" ({ cls := "RopeSwing", name := "feed", desc := "(IJ)I" } : Jvm.MethodName) ({ cls := "RopeSwing", name := "feed", desc := "(IJ)I" } : Jvm.MethodName)) ∈ TB := tb_of 438 _ (by decide +kernel) rfl
theorem wd_439 : (Jvm.Cond.code ({ cls := "RopeSwing", name := "feed", desc := "(IJ)I" } : Jvm.MethodName) prog_1_method_2_code (5 : Nat) (Option.some Jvm.ClassFile.FieldType.int)) ∈ TB := tb_of 439 _ (by decide +kernel) rfl
theorem wd_440 : (Jvm.Cond.constant "RopeSwing" (95 : Nat) (-1000000002 : Int32)) ∈ TB := tb_of 440 _ (by decide +kernel) rfl
theorem wd_441 : (Jvm.Cond.methodLink "RopeSwing" (96 : Nat) ({ cls := "RopeSwing$Text", name := "length", desc := "()I" } : Jvm.MethodName)) ∈ TB := tb_of 441 _ (by decide +kernel) rfl
theorem wd_442 : (Jvm.Cond.instanceMethod ({ cls := "RopeSwing$Text", name := "length", desc := "()I" } : Jvm.MethodName)) ∈ TB := tb_of 442 _ (by decide +kernel) rfl
theorem wd_443 : (Jvm.Cond.selects "RopeSwing$Text" ({ cls := "RopeSwing$Text", name := "length", desc := "()I" } : Jvm.MethodName) ({ cls := "RopeSwing$Text", name := "length", desc := "()I" } : Jvm.MethodName)) ∈ TB := tb_of 443 _ (by decide +kernel) rfl
theorem wd_444 : (Jvm.Cond.code ({ cls := "RopeSwing$Text", name := "length", desc := "()I" } : Jvm.MethodName) prog_9_method_2_code (1 : Nat) (Option.some Jvm.ClassFile.FieldType.int)) ∈ TB := tb_of 444 _ (by decide +kernel) rfl
theorem wd_445 : (Jvm.Cond.constant "RopeSwing" (100 : Nat) (-1000000004 : Int32)) ∈ TB := tb_of 445 _ (by decide +kernel) rfl
theorem wd_446 : (Jvm.Cond.methodLink "RopeSwing" (101 : Nat) ({ cls := "RopeSwing$Text", name := "add", desc := "(I)V" } : Jvm.MethodName)) ∈ TB := tb_of 446 _ (by decide +kernel) rfl
theorem wd_447 : (Jvm.Cond.instanceMethod ({ cls := "RopeSwing$Text", name := "add", desc := "(I)V" } : Jvm.MethodName)) ∈ TB := tb_of 447 _ (by decide +kernel) rfl
theorem wd_448 : (Jvm.Cond.selects "RopeSwing$Text" ({ cls := "RopeSwing$Text", name := "add", desc := "(I)V" } : Jvm.MethodName) ({ cls := "RopeSwing$Text", name := "add", desc := "(I)V" } : Jvm.MethodName)) ∈ TB := tb_of 448 _ (by decide +kernel) rfl
theorem wd_449 : (Jvm.Cond.code ({ cls := "RopeSwing$Text", name := "add", desc := "(I)V" } : Jvm.MethodName) prog_9_method_3_code (2 : Nat) (Option.none : Option Jvm.ClassFile.FieldType)) ∈ TB := tb_of 449 _ (by decide +kernel) rfl
theorem wd_451 : (Jvm.Cond.methodLink "RopeSwingLaw" (20 : Nat) ({ cls := "RopeSwing", name := "place", desc := "()I" } : Jvm.MethodName)) ∈ TB := tb_of 451 _ (by decide +kernel) rfl
theorem wd_452 : (Jvm.Cond.instanceMethod ({ cls := "RopeSwing", name := "place", desc := "()I" } : Jvm.MethodName)) ∈ TB := tb_of 452 _ (by decide +kernel) rfl
theorem wd_453 : (Jvm.Cond.selects "RopeSwing" ({ cls := "RopeSwing", name := "place", desc := "()I" } : Jvm.MethodName) ({ cls := "RopeSwing", name := "place", desc := "()I" } : Jvm.MethodName)) ∈ TB := tb_of 453 _ (by decide +kernel) rfl
theorem wd_454 : (Jvm.Cond.code ({ cls := "RopeSwing", name := "place", desc := "()I" } : Jvm.MethodName) prog_1_method_3_code (2 : Nat) (Option.some Jvm.ClassFile.FieldType.int)) ∈ TB := tb_of 454 _ (by decide +kernel) rfl
theorem wd_455 : (Jvm.Cond.methodLink "RopeSwing" (105 : Nat) ({ cls := "RopeSwing$Place", name := "clear", desc := "()V" } : Jvm.MethodName)) ∈ TB := tb_of 455 _ (by decide +kernel) rfl
theorem wd_456 : (Jvm.Cond.methodLink "RopeSwing" (108 : Nat) ({ cls := "RopeSwing$Reader", name := "readPlace", desc := "(LRopeSwing$Place;)Z" } : Jvm.MethodName)) ∈ TB := tb_of 456 _ (by decide +kernel) rfl
theorem wd_457 : (Jvm.Cond.instanceMethod ({ cls := "RopeSwing$Reader", name := "readPlace", desc := "(LRopeSwing$Place;)Z" } : Jvm.MethodName)) ∈ TB := tb_of 457 _ (by decide +kernel) rfl
theorem wd_458 : (Jvm.Cond.selects "RopeSwing$Reader" ({ cls := "RopeSwing$Reader", name := "readPlace", desc := "(LRopeSwing$Place;)Z" } : Jvm.MethodName) ({ cls := "RopeSwing$Reader", name := "readPlace", desc := "(LRopeSwing$Place;)Z" } : Jvm.MethodName)) ∈ TB := tb_of 458 _ (by decide +kernel) rfl
theorem wd_459 : (Jvm.Cond.code ({ cls := "RopeSwing$Reader", name := "readPlace", desc := "(LRopeSwing$Place;)Z" } : Jvm.MethodName) prog_6_method_5_code (5 : Nat) (Option.some Jvm.ClassFile.FieldType.boolean)) ∈ TB := tb_of 459 _ (by decide +kernel) rfl
theorem wd_460 : (Jvm.Cond.methodLink "RopeSwing$Reader" (25 : Nat) ({ cls := "RopeSwing$Reader", name := "begin", desc := "()V" } : Jvm.MethodName)) ∈ TB := tb_of 460 _ (by decide +kernel) rfl
theorem wd_462 : (Jvm.Cond.instanceMethod ({ cls := "RopeSwing$Reader", name := "begin", desc := "()V" } : Jvm.MethodName)) ∈ TB := tb_of 462 _ (by decide +kernel) rfl
theorem wd_463 : (Jvm.Cond.code ({ cls := "RopeSwing$Reader", name := "begin", desc := "()V" } : Jvm.MethodName) prog_6_method_11_code (1 : Nat) (Option.none : Option Jvm.ClassFile.FieldType)) ∈ TB := tb_of 463 _ (by decide +kernel) rfl
theorem wd_464 : (Jvm.Cond.methodLink "RopeSwing$Reader" (28 : Nat) ({ cls := "RopeSwing$Reader", name := "take", desc := "()V" } : Jvm.MethodName)) ∈ TB := tb_of 464 _ (by decide +kernel) rfl
theorem wd_466 : (Jvm.Cond.instanceMethod ({ cls := "RopeSwing$Reader", name := "take", desc := "()V" } : Jvm.MethodName)) ∈ TB := tb_of 466 _ (by decide +kernel) rfl
theorem wd_467 : (Jvm.Cond.code ({ cls := "RopeSwing$Reader", name := "take", desc := "()V" } : Jvm.MethodName) prog_6_method_15_code (3 : Nat) (Option.none : Option Jvm.ClassFile.FieldType)) ∈ TB := tb_of 467 _ (by decide +kernel) rfl
theorem wd_468 : (Jvm.Cond.methodLink "RopeSwing$Reader" (123 : Nat) ({ cls := "RopeSwing$Text", name := "length", desc := "()I" } : Jvm.MethodName)) ∈ TB := tb_of 468 _ (by decide +kernel) rfl
theorem wd_469 : (Jvm.Cond.methodLink "RopeSwing$Reader" (128 : Nat) ({ cls := "RopeSwing$Text", name := "byteAt", desc := "(I)I" } : Jvm.MethodName)) ∈ TB := tb_of 469 _ (by decide +kernel) rfl
theorem wd_470 : (Jvm.Cond.instanceMethod ({ cls := "RopeSwing$Text", name := "byteAt", desc := "(I)I" } : Jvm.MethodName)) ∈ TB := tb_of 470 _ (by decide +kernel) rfl
theorem wd_471 : (Jvm.Cond.selects "RopeSwing$Text" ({ cls := "RopeSwing$Text", name := "byteAt", desc := "(I)I" } : Jvm.MethodName) ({ cls := "RopeSwing$Text", name := "byteAt", desc := "(I)I" } : Jvm.MethodName)) ∈ TB := tb_of 471 _ (by decide +kernel) rfl
theorem wd_472 : (Jvm.Cond.code ({ cls := "RopeSwing$Text", name := "byteAt", desc := "(I)I" } : Jvm.MethodName) prog_9_method_4_code (2 : Nat) (Option.some Jvm.ClassFile.FieldType.int)) ∈ TB := tb_of 472 _ (by decide +kernel) rfl
theorem wd_473 : (Jvm.Cond.methodLink "RopeSwing$Reader" (131 : Nat) ({ cls := "RopeSwing$Reader", name := "isLetter", desc := "(I)Z" } : Jvm.MethodName)) ∈ TB := tb_of 473 _ (by decide +kernel) rfl
theorem wd_474 : (Jvm.Cond.static ({ cls := "RopeSwing$Reader", name := "isLetter", desc := "(I)Z" } : Jvm.MethodName)) ∈ TB := tb_of 474 _ (by decide +kernel) rfl
theorem wd_475 : (Jvm.Cond.code ({ cls := "RopeSwing$Reader", name := "isLetter", desc := "(I)Z" } : Jvm.MethodName) prog_6_method_19_code (1 : Nat) (Option.some Jvm.ClassFile.FieldType.boolean)) ∈ TB := tb_of 475 _ (by decide +kernel) rfl
theorem wd_476 : (Jvm.Cond.methodLink "RopeSwing$Reader" (134 : Nat) ({ cls := "RopeSwing$Reader", name := "isFigure", desc := "(I)Z" } : Jvm.MethodName)) ∈ TB := tb_of 476 _ (by decide +kernel) rfl
theorem wd_477 : (Jvm.Cond.static ({ cls := "RopeSwing$Reader", name := "isFigure", desc := "(I)Z" } : Jvm.MethodName)) ∈ TB := tb_of 477 _ (by decide +kernel) rfl
theorem wd_478 : (Jvm.Cond.code ({ cls := "RopeSwing$Reader", name := "isFigure", desc := "(I)Z" } : Jvm.MethodName) prog_6_method_20_code (1 : Nat) (Option.some Jvm.ClassFile.FieldType.boolean)) ∈ TB := tb_of 478 _ (by decide +kernel) rfl
theorem wd_479 : (Jvm.Cond.methodLink "RopeSwing$Reader" (34 : Nat) ({ cls := "RopeSwing$Reader", name := "clauseInHand", desc := "()I" } : Jvm.MethodName)) ∈ TB := tb_of 479 _ (by decide +kernel) rfl
theorem wd_481 : (Jvm.Cond.instanceMethod ({ cls := "RopeSwing$Reader", name := "clauseInHand", desc := "()I" } : Jvm.MethodName)) ∈ TB := tb_of 481 _ (by decide +kernel) rfl
theorem wd_482 : (Jvm.Cond.code ({ cls := "RopeSwing$Reader", name := "clauseInHand", desc := "()I" } : Jvm.MethodName) prog_6_method_16_code (2 : Nat) (Option.some Jvm.ClassFile.FieldType.int)) ∈ TB := tb_of 482 _ (by decide +kernel) rfl
theorem wd_483 : (Jvm.Cond.methodLink "RopeSwing$Reader" (137 : Nat) ({ cls := "RopeSwing$Reader", name := "nameOf", desc := "(I)Ljava/lang/String;" } : Jvm.MethodName)) ∈ TB := tb_of 483 _ (by decide +kernel) rfl
theorem wd_484 : (Jvm.Cond.static ({ cls := "RopeSwing$Reader", name := "nameOf", desc := "(I)Ljava/lang/String;" } : Jvm.MethodName)) ∈ TB := tb_of 484 _ (by decide +kernel) rfl
theorem wd_485 : (Jvm.Cond.code ({ cls := "RopeSwing$Reader", name := "nameOf", desc := "(I)Ljava/lang/String;" } : Jvm.MethodName) prog_6_method_17_code (1 : Nat) (Option.some (Jvm.ClassFile.FieldType.object "java/lang/String"))) ∈ TB := tb_of 485 _ (by decide +kernel) rfl
theorem wd_495 : (Jvm.Cond.methodLink "RopeSwing$Reader" (141 : Nat) ({ cls := "RopeSwing$Reader", name := "isWord", desc := "(Ljava/lang/String;)Z" } : Jvm.MethodName)) ∈ TB := tb_of 495 _ (by decide +kernel) rfl
theorem wd_497 : (Jvm.Cond.instanceMethod ({ cls := "RopeSwing$Reader", name := "isWord", desc := "(Ljava/lang/String;)Z" } : Jvm.MethodName)) ∈ TB := tb_of 497 _ (by decide +kernel) rfl
theorem wd_498 : (Jvm.Cond.code ({ cls := "RopeSwing$Reader", name := "isWord", desc := "(Ljava/lang/String;)Z" } : Jvm.MethodName) prog_6_method_18_code (3 : Nat) (Option.some Jvm.ClassFile.FieldType.boolean)) ∈ TB := tb_of 498 _ (by decide +kernel) rfl
theorem wd_499 : (Jvm.Cond.methodLink "RopeSwing$Reader" (161 : Nat) ({ cls := "java/lang/String", name := "length", desc := "()I" } : Jvm.MethodName)) ∈ TB := tb_of 499 _ (by decide +kernel) rfl
theorem wd_500 : (Jvm.Cond.instanceMethod ({ cls := "java/lang/String", name := "length", desc := "()I" } : Jvm.MethodName)) ∈ TB := tb_of 500 _ (by decide +kernel) rfl
theorem wd_501 : (Jvm.Cond.selects "java/lang/String" ({ cls := "java/lang/String", name := "length", desc := "()I" } : Jvm.MethodName) ({ cls := "java/lang/String", name := "length", desc := "()I" } : Jvm.MethodName)) ∈ TB := tb_of 501 _ (by decide +kernel) rfl
theorem wd_502 : (Jvm.Cond.code ({ cls := "java/lang/String", name := "length", desc := "()I" } : Jvm.MethodName) prog_15_method_54_code (1 : Nat) (Option.some Jvm.ClassFile.FieldType.int)) ∈ TB := tb_of 502 _ (by decide +kernel) rfl
theorem wd_503 : (Jvm.Cond.methodLink "java/lang/String" (335 : Nat) ({ cls := "java/lang/String", name := "coder", desc := "()B" } : Jvm.MethodName)) ∈ TB := tb_of 503 _ (by decide +kernel) rfl
theorem wd_504 : (Jvm.Cond.instanceMethod ({ cls := "java/lang/String", name := "coder", desc := "()B" } : Jvm.MethodName)) ∈ TB := tb_of 504 _ (by decide +kernel) rfl
theorem wd_505 : (Jvm.Cond.selects "java/lang/String" ({ cls := "java/lang/String", name := "coder", desc := "()B" } : Jvm.MethodName) ({ cls := "java/lang/String", name := "coder", desc := "()B" } : Jvm.MethodName)) ∈ TB := tb_of 505 _ (by decide +kernel) rfl
theorem wd_506 : (Jvm.Cond.code ({ cls := "java/lang/String", name := "coder", desc := "()B" } : Jvm.MethodName) prog_15_method_152_code (1 : Nat) (Option.some Jvm.ClassFile.FieldType.byte)) ∈ TB := tb_of 506 _ (by decide +kernel) rfl
theorem wd_507 : (Jvm.Cond.fieldLink "java/lang/String" (38 : Nat) "java/lang/String" "COMPACT_STRINGS" "Z") ∈ TB := tb_of 507 _ (by decide +kernel) rfl
theorem wd_509 : (Jvm.Cond.methodLink "RopeSwing$Reader" (164 : Nat) ({ cls := "java/lang/String", name := "charAt", desc := "(I)C" } : Jvm.MethodName)) ∈ TB := tb_of 509 _ (by decide +kernel) rfl
theorem wd_510 : (Jvm.Cond.instanceMethod ({ cls := "java/lang/String", name := "charAt", desc := "(I)C" } : Jvm.MethodName)) ∈ TB := tb_of 510 _ (by decide +kernel) rfl
theorem wd_511 : (Jvm.Cond.selects "java/lang/String" ({ cls := "java/lang/String", name := "charAt", desc := "(I)C" } : Jvm.MethodName) ({ cls := "java/lang/String", name := "charAt", desc := "(I)C" } : Jvm.MethodName)) ∈ TB := tb_of 511 _ (by decide +kernel) rfl
theorem wd_512 : (Jvm.Cond.code ({ cls := "java/lang/String", name := "charAt", desc := "(I)C" } : Jvm.MethodName) prog_15_method_56_code (2 : Nat) (Option.some Jvm.ClassFile.FieldType.char)) ∈ TB := tb_of 512 _ (by decide +kernel) rfl
theorem wd_513 : (Jvm.Cond.methodLink "java/lang/String" (492 : Nat) ({ cls := "java/lang/String", name := "isLatin1", desc := "()Z" } : Jvm.MethodName)) ∈ TB := tb_of 513 _ (by decide +kernel) rfl
theorem wd_514 : (Jvm.Cond.instanceMethod ({ cls := "java/lang/String", name := "isLatin1", desc := "()Z" } : Jvm.MethodName)) ∈ TB := tb_of 514 _ (by decide +kernel) rfl
theorem wd_515 : (Jvm.Cond.selects "java/lang/String" ({ cls := "java/lang/String", name := "isLatin1", desc := "()Z" } : Jvm.MethodName) ({ cls := "java/lang/String", name := "isLatin1", desc := "()Z" } : Jvm.MethodName)) ∈ TB := tb_of 515 _ (by decide +kernel) rfl
theorem wd_516 : (Jvm.Cond.code ({ cls := "java/lang/String", name := "isLatin1", desc := "()Z" } : Jvm.MethodName) prog_15_method_154_code (1 : Nat) (Option.some Jvm.ClassFile.FieldType.boolean)) ∈ TB := tb_of 516 _ (by decide +kernel) rfl
theorem wd_517 : (Jvm.Cond.methodLink "java/lang/String" (495 : Nat) ({ cls := "java/lang/StringLatin1", name := "charAt", desc := "([BI)C" } : Jvm.MethodName)) ∈ TB := tb_of 517 _ (by decide +kernel) rfl
theorem wd_518 : (Jvm.Cond.static ({ cls := "java/lang/StringLatin1", name := "charAt", desc := "([BI)C" } : Jvm.MethodName)) ∈ TB := tb_of 518 _ (by decide +kernel) rfl
theorem wd_519 : (Jvm.Cond.code ({ cls := "java/lang/StringLatin1", name := "charAt", desc := "([BI)C" } : Jvm.MethodName) prog_16_method_2_code (2 : Nat) (Option.some Jvm.ClassFile.FieldType.char)) ∈ TB := tb_of 519 _ (by decide +kernel) rfl
theorem wd_520 : (Jvm.Cond.methodLink "java/lang/StringLatin1" (9 : Nat) ({ cls := "java/lang/String", name := "checkIndex", desc := "(II)V" } : Jvm.MethodName)) ∈ TB := tb_of 520 _ (by decide +kernel) rfl
theorem wd_521 : (Jvm.Cond.static ({ cls := "java/lang/String", name := "checkIndex", desc := "(II)V" } : Jvm.MethodName)) ∈ TB := tb_of 521 _ (by decide +kernel) rfl
theorem wd_522 : (Jvm.Cond.code ({ cls := "java/lang/String", name := "checkIndex", desc := "(II)V" } : Jvm.MethodName) prog_15_method_155_code (2 : Nat) (Option.none : Option Jvm.ClassFile.FieldType)) ∈ TB := tb_of 522 _ (by decide +kernel) rfl
theorem wd_523 : (Jvm.Cond.fieldLink "java/lang/String" (1053 : Nat) "jdk/internal/util/Preconditions" "SIOOBE_FORMATTER" "Ljava/util/function/BiFunction;") ∈ TB := tb_of 523 _ (by decide +kernel) rfl
theorem wd_525 : (Jvm.Cond.methodLink "java/lang/String" (1059 : Nat) ({ cls := "jdk/internal/util/Preconditions", name := "checkIndex", desc := "(IILjava/util/function/BiFunction;)I" } : Jvm.MethodName)) ∈ TB := tb_of 525 _ (by decide +kernel) rfl
theorem wd_526 : (Jvm.Cond.static ({ cls := "jdk/internal/util/Preconditions", name := "checkIndex", desc := "(IILjava/util/function/BiFunction;)I" } : Jvm.MethodName)) ∈ TB := tb_of 526 _ (by decide +kernel) rfl
theorem wd_527 : (Jvm.Cond.code ({ cls := "jdk/internal/util/Preconditions", name := "checkIndex", desc := "(IILjava/util/function/BiFunction;)I" } : Jvm.MethodName) prog_20_method_11_code (3 : Nat) (Option.some Jvm.ClassFile.FieldType.int)) ∈ TB := tb_of 527 _ (by decide +kernel) rfl
theorem wd_528 : (Jvm.Cond.methodLink "java/lang/String" (498 : Nat) ({ cls := "java/lang/StringUTF16", name := "charAt", desc := "([BI)C" } : Jvm.MethodName)) ∈ TB := tb_of 528 _ (by decide +kernel) rfl
theorem wd_529 : (Jvm.Cond.static ({ cls := "java/lang/StringUTF16", name := "charAt", desc := "([BI)C" } : Jvm.MethodName)) ∈ TB := tb_of 529 _ (by decide +kernel) rfl
theorem wd_530 : (Jvm.Cond.code ({ cls := "java/lang/StringUTF16", name := "charAt", desc := "([BI)C" } : Jvm.MethodName) prog_17_method_83_code (2 : Nat) (Option.some Jvm.ClassFile.FieldType.char)) ∈ TB := tb_of 530 _ (by decide +kernel) rfl
theorem wd_531 : (Jvm.Cond.methodLink "java/lang/StringUTF16" (67 : Nat) ({ cls := "java/lang/StringUTF16", name := "checkIndex", desc := "(I[B)V" } : Jvm.MethodName)) ∈ TB := tb_of 531 _ (by decide +kernel) rfl
theorem wd_532 : (Jvm.Cond.static ({ cls := "java/lang/StringUTF16", name := "checkIndex", desc := "(I[B)V" } : Jvm.MethodName)) ∈ TB := tb_of 532 _ (by decide +kernel) rfl
theorem wd_533 : (Jvm.Cond.code ({ cls := "java/lang/StringUTF16", name := "checkIndex", desc := "(I[B)V" } : Jvm.MethodName) prog_17_method_91_code (2 : Nat) (Option.none : Option Jvm.ClassFile.FieldType)) ∈ TB := tb_of 533 _ (by decide +kernel) rfl
theorem wd_534 : (Jvm.Cond.methodLink "java/lang/StringUTF16" (48 : Nat) ({ cls := "java/lang/StringUTF16", name := "length", desc := "([B)I" } : Jvm.MethodName)) ∈ TB := tb_of 534 _ (by decide +kernel) rfl
theorem wd_535 : (Jvm.Cond.static ({ cls := "java/lang/StringUTF16", name := "length", desc := "([B)I" } : Jvm.MethodName)) ∈ TB := tb_of 535 _ (by decide +kernel) rfl
theorem wd_536 : (Jvm.Cond.code ({ cls := "java/lang/StringUTF16", name := "length", desc := "([B)I" } : Jvm.MethodName) prog_17_method_6_code (1 : Nat) (Option.some Jvm.ClassFile.FieldType.int)) ∈ TB := tb_of 536 _ (by decide +kernel) rfl
theorem wd_537 : (Jvm.Cond.methodLink "java/lang/StringUTF16" (414 : Nat) ({ cls := "java/lang/String", name := "checkIndex", desc := "(II)V" } : Jvm.MethodName)) ∈ TB := tb_of 537 _ (by decide +kernel) rfl
theorem wd_538 : (Jvm.Cond.methodLink "java/lang/StringUTF16" (71 : Nat) ({ cls := "java/lang/StringUTF16", name := "getChar", desc := "([BI)C" } : Jvm.MethodName)) ∈ TB := tb_of 538 _ (by decide +kernel) rfl
theorem wd_539 : (Jvm.Cond.static ({ cls := "java/lang/StringUTF16", name := "getChar", desc := "([BI)C" } : Jvm.MethodName)) ∈ TB := tb_of 539 _ (by decide +kernel) rfl
theorem wd_540 : (Jvm.Cond.code ({ cls := "java/lang/StringUTF16", name := "getChar", desc := "([BI)C" } : Jvm.MethodName) prog_17_method_5_code (2 : Nat) (Option.some Jvm.ClassFile.FieldType.char)) ∈ TB := tb_of 540 _ (by decide +kernel) rfl
theorem wd_541 : (Jvm.Cond.fieldLink "java/lang/StringUTF16" (44 : Nat) "java/lang/StringUTF16" "$assertionsDisabled" "Z") ∈ TB := tb_of 541 _ (by decide +kernel) rfl
theorem wd_543 : (Jvm.Cond.fieldLink "java/lang/StringUTF16" (59 : Nat) "java/lang/StringUTF16" "HI_BYTE_SHIFT" "I") ∈ TB := tb_of 543 _ (by decide +kernel) rfl
theorem wd_545 : (Jvm.Cond.fieldLink "java/lang/StringUTF16" (63 : Nat) "java/lang/StringUTF16" "LO_BYTE_SHIFT" "I") ∈ TB := tb_of 545 _ (by decide +kernel) rfl
theorem wd_547 : (Jvm.Cond.methodLink "RopeSwing$Reader" (38 : Nat) ({ cls := "RopeSwing$Reader", name := "fail", desc := "(I)Z" } : Jvm.MethodName)) ∈ TB := tb_of 547 _ (by decide +kernel) rfl
theorem wd_549 : (Jvm.Cond.instanceMethod ({ cls := "RopeSwing$Reader", name := "fail", desc := "(I)Z" } : Jvm.MethodName)) ∈ TB := tb_of 549 _ (by decide +kernel) rfl
theorem wd_550 : (Jvm.Cond.code ({ cls := "RopeSwing$Reader", name := "fail", desc := "(I)Z" } : Jvm.MethodName) prog_6_method_12_code (2 : Nat) (Option.some Jvm.ClassFile.FieldType.boolean)) ∈ TB := tb_of 550 _ (by decide +kernel) rfl
theorem wd_551 : (Jvm.Cond.methodLink "RopeSwing$Reader" (42 : Nat) ({ cls := "RopeSwing$Reader", name := "readClause", desc := "(ILRopeSwing$Place;)Z" } : Jvm.MethodName)) ∈ TB := tb_of 551 _ (by decide +kernel) rfl
theorem wd_553 : (Jvm.Cond.instanceMethod ({ cls := "RopeSwing$Reader", name := "readClause", desc := "(ILRopeSwing$Place;)Z" } : Jvm.MethodName)) ∈ TB := tb_of 553 _ (by decide +kernel) rfl
theorem wd_554 : (Jvm.Cond.code ({ cls := "RopeSwing$Reader", name := "readClause", desc := "(ILRopeSwing$Place;)Z" } : Jvm.MethodName) prog_6_method_7_code (3 : Nat) (Option.some Jvm.ClassFile.FieldType.boolean)) ∈ TB := tb_of 554 _ (by decide +kernel) rfl
theorem wd_555 : (Jvm.Cond.methodLink "RopeSwing$Reader" (75 : Nat) ({ cls := "RopeSwing$Reader", name := "readList", desc := "([II)Z" } : Jvm.MethodName)) ∈ TB := tb_of 555 _ (by decide +kernel) rfl
theorem wd_557 : (Jvm.Cond.instanceMethod ({ cls := "RopeSwing$Reader", name := "readList", desc := "([II)Z" } : Jvm.MethodName)) ∈ TB := tb_of 557 _ (by decide +kernel) rfl
theorem wd_558 : (Jvm.Cond.code ({ cls := "RopeSwing$Reader", name := "readList", desc := "([II)Z" } : Jvm.MethodName) prog_6_method_9_code (4 : Nat) (Option.some Jvm.ClassFile.FieldType.boolean)) ∈ TB := tb_of 558 _ (by decide +kernel) rfl
theorem wd_559 : (Jvm.Cond.methodLink "RopeSwing$Reader" (55 : Nat) ({ cls := "RopeSwing$Reader", name := "takeNumber", desc := "(II)Z" } : Jvm.MethodName)) ∈ TB := tb_of 559 _ (by decide +kernel) rfl
theorem wd_561 : (Jvm.Cond.instanceMethod ({ cls := "RopeSwing$Reader", name := "takeNumber", desc := "(II)Z" } : Jvm.MethodName)) ∈ TB := tb_of 561 _ (by decide +kernel) rfl
theorem wd_562 : (Jvm.Cond.code ({ cls := "RopeSwing$Reader", name := "takeNumber", desc := "(II)Z" } : Jvm.MethodName) prog_6_method_13_code (3 : Nat) (Option.some Jvm.ClassFile.FieldType.boolean)) ∈ TB := tb_of 562 _ (by decide +kernel) rfl
theorem wd_564 : (Jvm.Cond.static ({ cls := "RopeSwing", name := "within", desc := "(III)Z" } : Jvm.MethodName)) ∈ TB := tb_of 564 _ (by decide +kernel) rfl
theorem wd_565 : (Jvm.Cond.code ({ cls := "RopeSwing", name := "within", desc := "(III)Z" } : Jvm.MethodName) prog_1_method_44_code (3 : Nat) (Option.some Jvm.ClassFile.FieldType.boolean)) ∈ TB := tb_of 565 _ (by decide +kernel) rfl
theorem wd_567 : (Jvm.Cond.methodLink "RopeSwing$Reader" (110 : Nat) ({ cls := "RopeSwing$Reader", name := "isSign", desc := "(I)Z" } : Jvm.MethodName)) ∈ TB := tb_of 567 _ (by decide +kernel) rfl
theorem wd_569 : (Jvm.Cond.instanceMethod ({ cls := "RopeSwing$Reader", name := "isSign", desc := "(I)Z" } : Jvm.MethodName)) ∈ TB := tb_of 569 _ (by decide +kernel) rfl
theorem wd_570 : (Jvm.Cond.code ({ cls := "RopeSwing$Reader", name := "isSign", desc := "(I)Z" } : Jvm.MethodName) prog_6_method_14_code (2 : Nat) (Option.some Jvm.ClassFile.FieldType.boolean)) ∈ TB := tb_of 570 _ (by decide +kernel) rfl
theorem wd_571 : (Jvm.Cond.methodLink "RopeSwing$Reader" (82 : Nat) ({ cls := "RopeSwing$Reader", name := "readStones", desc := "([I)Z" } : Jvm.MethodName)) ∈ TB := tb_of 571 _ (by decide +kernel) rfl
theorem wd_573 : (Jvm.Cond.instanceMethod ({ cls := "RopeSwing$Reader", name := "readStones", desc := "([I)Z" } : Jvm.MethodName)) ∈ TB := tb_of 573 _ (by decide +kernel) rfl
theorem wd_574 : (Jvm.Cond.code ({ cls := "RopeSwing$Reader", name := "readStones", desc := "([I)Z" } : Jvm.MethodName) prog_6_method_10_code (3 : Nat) (Option.some Jvm.ClassFile.FieldType.boolean)) ∈ TB := tb_of 574 _ (by decide +kernel) rfl
theorem wd_576 : (Jvm.Cond.static ({ cls := "RopeSwing", name := "at", desc := "([II)I" } : Jvm.MethodName)) ∈ TB := tb_of 576 _ (by decide +kernel) rfl
theorem wd_577 : (Jvm.Cond.code ({ cls := "RopeSwing", name := "at", desc := "([II)I" } : Jvm.MethodName) prog_1_method_47_code (2 : Nat) (Option.some Jvm.ClassFile.FieldType.int)) ∈ TB := tb_of 577 _ (by decide +kernel) rfl
theorem wd_578 : (Jvm.Cond.fieldLink "RopeSwing$Reader" (89 : Nat) "RopeSwing$Reader" "FROM" "[I") ∈ TB := tb_of 578 _ (by decide +kernel) rfl
theorem wd_580 : (Jvm.Cond.fieldLink "RopeSwing$Reader" (96 : Nat) "RopeSwing$Reader" "MANY" "[I") ∈ TB := tb_of 580 _ (by decide +kernel) rfl
theorem wd_582 : (Jvm.Cond.methodLink "RopeSwing$Reader" (100 : Nat) ({ cls := "RopeSwing$Reader", name := "readNumbers", desc := "(II[I)Z" } : Jvm.MethodName)) ∈ TB := tb_of 582 _ (by decide +kernel) rfl
theorem wd_584 : (Jvm.Cond.instanceMethod ({ cls := "RopeSwing$Reader", name := "readNumbers", desc := "(II[I)Z" } : Jvm.MethodName)) ∈ TB := tb_of 584 _ (by decide +kernel) rfl
theorem wd_585 : (Jvm.Cond.code ({ cls := "RopeSwing$Reader", name := "readNumbers", desc := "(II[I)Z" } : Jvm.MethodName) prog_6_method_8_code (5 : Nat) (Option.some Jvm.ClassFile.FieldType.boolean)) ∈ TB := tb_of 585 _ (by decide +kernel) rfl
theorem wd_586 : (Jvm.Cond.fieldLink "RopeSwing$Reader" (104 : Nat) "RopeSwing$Reader" "LEAST" "[I") ∈ TB := tb_of 586 _ (by decide +kernel) rfl
theorem wd_588 : (Jvm.Cond.fieldLink "RopeSwing$Reader" (107 : Nat) "RopeSwing$Reader" "MOST" "[I") ∈ TB := tb_of 588 _ (by decide +kernel) rfl
theorem wd_590 : (Jvm.Cond.methodLink "RopeSwing" (112 : Nat) ({ cls := "RopeSwing$Text", name := "clear", desc := "()V" } : Jvm.MethodName)) ∈ TB := tb_of 590 _ (by decide +kernel) rfl
theorem wd_591 : (Jvm.Cond.instanceMethod ({ cls := "RopeSwing$Text", name := "clear", desc := "()V" } : Jvm.MethodName)) ∈ TB := tb_of 591 _ (by decide +kernel) rfl
theorem wd_592 : (Jvm.Cond.selects "RopeSwing$Text" ({ cls := "RopeSwing$Text", name := "clear", desc := "()V" } : Jvm.MethodName) ({ cls := "RopeSwing$Text", name := "clear", desc := "()V" } : Jvm.MethodName)) ∈ TB := tb_of 592 _ (by decide +kernel) rfl
theorem wd_593 : (Jvm.Cond.code ({ cls := "RopeSwing$Text", name := "clear", desc := "()V" } : Jvm.MethodName) prog_9_method_5_code (1 : Nat) (Option.none : Option Jvm.ClassFile.FieldType)) ∈ TB := tb_of 593 _ (by decide +kernel) rfl
theorem wd_594 : (Jvm.Cond.methodLink "RopeSwing" (113 : Nat) ({ cls := "RopeSwing$Reader", name := "faultAt", desc := "()I" } : Jvm.MethodName)) ∈ TB := tb_of 594 _ (by decide +kernel) rfl
theorem wd_595 : (Jvm.Cond.instanceMethod ({ cls := "RopeSwing$Reader", name := "faultAt", desc := "()I" } : Jvm.MethodName)) ∈ TB := tb_of 595 _ (by decide +kernel) rfl
theorem wd_596 : (Jvm.Cond.selects "RopeSwing$Reader" ({ cls := "RopeSwing$Reader", name := "faultAt", desc := "()I" } : Jvm.MethodName) ({ cls := "RopeSwing$Reader", name := "faultAt", desc := "()I" } : Jvm.MethodName)) ∈ TB := tb_of 596 _ (by decide +kernel) rfl
theorem wd_597 : (Jvm.Cond.code ({ cls := "RopeSwing$Reader", name := "faultAt", desc := "()I" } : Jvm.MethodName) prog_6_method_3_code (1 : Nat) (Option.some Jvm.ClassFile.FieldType.int)) ∈ TB := tb_of 597 _ (by decide +kernel) rfl
theorem wd_598 : (Jvm.Cond.methodLink "RopeSwing" (115 : Nat) ({ cls := "RopeSwing$Reader", name := "faultNumber", desc := "()I" } : Jvm.MethodName)) ∈ TB := tb_of 598 _ (by decide +kernel) rfl
theorem wd_599 : (Jvm.Cond.instanceMethod ({ cls := "RopeSwing$Reader", name := "faultNumber", desc := "()I" } : Jvm.MethodName)) ∈ TB := tb_of 599 _ (by decide +kernel) rfl
theorem wd_600 : (Jvm.Cond.selects "RopeSwing$Reader" ({ cls := "RopeSwing$Reader", name := "faultNumber", desc := "()I" } : Jvm.MethodName) ({ cls := "RopeSwing$Reader", name := "faultNumber", desc := "()I" } : Jvm.MethodName)) ∈ TB := tb_of 600 _ (by decide +kernel) rfl
theorem wd_601 : (Jvm.Cond.code ({ cls := "RopeSwing$Reader", name := "faultNumber", desc := "()I" } : Jvm.MethodName) prog_6_method_2_code (1 : Nat) (Option.some Jvm.ClassFile.FieldType.int)) ∈ TB := tb_of 601 _ (by decide +kernel) rfl
theorem wd_602 : (Jvm.Cond.methodLink "RopeSwing" (118 : Nat) ({ cls := "RopeSwing$Place", name := "copy", desc := "(LRopeSwing$Place;)V" } : Jvm.MethodName)) ∈ TB := tb_of 602 _ (by decide +kernel) rfl
theorem wd_603 : (Jvm.Cond.instanceMethod ({ cls := "RopeSwing$Place", name := "copy", desc := "(LRopeSwing$Place;)V" } : Jvm.MethodName)) ∈ TB := tb_of 603 _ (by decide +kernel) rfl
theorem wd_604 : (Jvm.Cond.selects "RopeSwing$Place" ({ cls := "RopeSwing$Place", name := "copy", desc := "(LRopeSwing$Place;)V" } : Jvm.MethodName) ({ cls := "RopeSwing$Place", name := "copy", desc := "(LRopeSwing$Place;)V" } : Jvm.MethodName)) ∈ TB := tb_of 604 _ (by decide +kernel) rfl
theorem wd_605 : (Jvm.Cond.code ({ cls := "RopeSwing$Place", name := "copy", desc := "(LRopeSwing$Place;)V" } : Jvm.MethodName) prog_5_method_3_code (2 : Nat) (Option.none : Option Jvm.ClassFile.FieldType)) ∈ TB := tb_of 605 _ (by decide +kernel) rfl
theorem wd_606 : (Jvm.Cond.methodLink "RopeSwing" (121 : Nat) ({ cls := "RopeSwing$Reader", name := "clauses", desc := "()I" } : Jvm.MethodName)) ∈ TB := tb_of 606 _ (by decide +kernel) rfl
theorem wd_607 : (Jvm.Cond.instanceMethod ({ cls := "RopeSwing$Reader", name := "clauses", desc := "()I" } : Jvm.MethodName)) ∈ TB := tb_of 607 _ (by decide +kernel) rfl
theorem wd_608 : (Jvm.Cond.selects "RopeSwing$Reader" ({ cls := "RopeSwing$Reader", name := "clauses", desc := "()I" } : Jvm.MethodName) ({ cls := "RopeSwing$Reader", name := "clauses", desc := "()I" } : Jvm.MethodName)) ∈ TB := tb_of 608 _ (by decide +kernel) rfl
theorem wd_609 : (Jvm.Cond.code ({ cls := "RopeSwing$Reader", name := "clauses", desc := "()I" } : Jvm.MethodName) prog_6_method_4_code (1 : Nat) (Option.some Jvm.ClassFile.FieldType.int)) ∈ TB := tb_of 609 _ (by decide +kernel) rfl
theorem wd_610 : (Jvm.Cond.arrayClass Jvm.ClassFile.FieldType.byte) ∈ TB := tb_of 610 _ (by decide +kernel) rfl
theorem wd_611 : (Jvm.Cond.methodLink "RopeSwingLaw" (25 : Nat) ({ cls := "RopeSwing", name := "swinger", desc := "()I" } : Jvm.MethodName)) ∈ TB := tb_of 611 _ (by decide +kernel) rfl
theorem wd_612 : (Jvm.Cond.instanceMethod ({ cls := "RopeSwing", name := "swinger", desc := "()I" } : Jvm.MethodName)) ∈ TB := tb_of 612 _ (by decide +kernel) rfl
theorem wd_613 : (Jvm.Cond.selects "RopeSwing" ({ cls := "RopeSwing", name := "swinger", desc := "()I" } : Jvm.MethodName) ({ cls := "RopeSwing", name := "swinger", desc := "()I" } : Jvm.MethodName)) ∈ TB := tb_of 613 _ (by decide +kernel) rfl
theorem wd_614 : (Jvm.Cond.code ({ cls := "RopeSwing", name := "swinger", desc := "()I" } : Jvm.MethodName) prog_1_method_4_code (3 : Nat) (Option.some Jvm.ClassFile.FieldType.int)) ∈ TB := tb_of 614 _ (by decide +kernel) rfl
theorem wd_615 : (Jvm.Cond.constant "RopeSwing" (124 : Nat) (-1000000003 : Int32)) ∈ TB := tb_of 615 _ (by decide +kernel) rfl
theorem wd_616 : (Jvm.Cond.methodLink "RopeSwing" (128 : Nat) ({ cls := "RopeSwing$Reader", name := "readSwinger", desc := "(LRopeSwing$Swinger;)Z" } : Jvm.MethodName)) ∈ TB := tb_of 616 _ (by decide +kernel) rfl
theorem wd_617 : (Jvm.Cond.instanceMethod ({ cls := "RopeSwing$Reader", name := "readSwinger", desc := "(LRopeSwing$Swinger;)Z" } : Jvm.MethodName)) ∈ TB := tb_of 617 _ (by decide +kernel) rfl
theorem wd_618 : (Jvm.Cond.selects "RopeSwing$Reader" ({ cls := "RopeSwing$Reader", name := "readSwinger", desc := "(LRopeSwing$Swinger;)Z" } : Jvm.MethodName) ({ cls := "RopeSwing$Reader", name := "readSwinger", desc := "(LRopeSwing$Swinger;)Z" } : Jvm.MethodName)) ∈ TB := tb_of 618 _ (by decide +kernel) rfl
theorem wd_619 : (Jvm.Cond.code ({ cls := "RopeSwing$Reader", name := "readSwinger", desc := "(LRopeSwing$Swinger;)Z" } : Jvm.MethodName) prog_6_method_6_code (3 : Nat) (Option.some Jvm.ClassFile.FieldType.boolean)) ∈ TB := tb_of 619 _ (by decide +kernel) rfl
theorem wd_620 : (Jvm.Cond.methodLink "RopeSwing$Reader" (48 : Nat) ({ cls := "RopeSwing$Swinger", name := "least", desc := "(I)I" } : Jvm.MethodName)) ∈ TB := tb_of 620 _ (by decide +kernel) rfl
theorem wd_621 : (Jvm.Cond.static ({ cls := "RopeSwing$Swinger", name := "least", desc := "(I)I" } : Jvm.MethodName)) ∈ TB := tb_of 621 _ (by decide +kernel) rfl
theorem wd_622 : (Jvm.Cond.code ({ cls := "RopeSwing$Swinger", name := "least", desc := "(I)I" } : Jvm.MethodName) prog_8_method_2_code (1 : Nat) (Option.some Jvm.ClassFile.FieldType.int)) ∈ TB := tb_of 622 _ (by decide +kernel) rfl
theorem wd_623 : (Jvm.Cond.fieldLink "RopeSwing$Swinger" (13 : Nat) "RopeSwing$Swinger" "LEAST" "[I") ∈ TB := tb_of 623 _ (by decide +kernel) rfl
theorem wd_626 : (Jvm.Cond.methodLink "RopeSwing$Reader" (52 : Nat) ({ cls := "RopeSwing$Swinger", name := "most", desc := "(I)I" } : Jvm.MethodName)) ∈ TB := tb_of 626 _ (by decide +kernel) rfl
theorem wd_627 : (Jvm.Cond.static ({ cls := "RopeSwing$Swinger", name := "most", desc := "(I)I" } : Jvm.MethodName)) ∈ TB := tb_of 627 _ (by decide +kernel) rfl
theorem wd_628 : (Jvm.Cond.code ({ cls := "RopeSwing$Swinger", name := "most", desc := "(I)I" } : Jvm.MethodName) prog_8_method_3_code (1 : Nat) (Option.some Jvm.ClassFile.FieldType.int)) ∈ TB := tb_of 628 _ (by decide +kernel) rfl
theorem wd_629 : (Jvm.Cond.fieldLink "RopeSwing$Swinger" (22 : Nat) "RopeSwing$Swinger" "MOST" "[I") ∈ TB := tb_of 629 _ (by decide +kernel) rfl
theorem wd_631 : (Jvm.Cond.methodLink "RopeSwingLaw" (29 : Nat) ({ cls := "RopeSwing", name := "fault", desc := "()I" } : Jvm.MethodName)) ∈ TB := tb_of 631 _ (by decide +kernel) rfl
theorem wd_632 : (Jvm.Cond.instanceMethod ({ cls := "RopeSwing", name := "fault", desc := "()I" } : Jvm.MethodName)) ∈ TB := tb_of 632 _ (by decide +kernel) rfl
theorem wd_633 : (Jvm.Cond.selects "RopeSwing" ({ cls := "RopeSwing", name := "fault", desc := "()I" } : Jvm.MethodName) ({ cls := "RopeSwing", name := "fault", desc := "()I" } : Jvm.MethodName)) ∈ TB := tb_of 633 _ (by decide +kernel) rfl
theorem wd_634 : (Jvm.Cond.code ({ cls := "RopeSwing", name := "fault", desc := "()I" } : Jvm.MethodName) prog_1_method_5_code (1 : Nat) (Option.some Jvm.ClassFile.FieldType.int)) ∈ TB := tb_of 634 _ (by decide +kernel) rfl
theorem wd_635 : (Jvm.Cond.methodLink "RopeSwingLaw" (33 : Nat) ({ cls := "RopeSwing", name := "told", desc := "(I)I" } : Jvm.MethodName)) ∈ TB := tb_of 635 _ (by decide +kernel) rfl
theorem wd_636 : (Jvm.Cond.instanceMethod ({ cls := "RopeSwing", name := "told", desc := "(I)I" } : Jvm.MethodName)) ∈ TB := tb_of 636 _ (by decide +kernel) rfl
theorem wd_637 : (Jvm.Cond.selects "RopeSwing" ({ cls := "RopeSwing", name := "told", desc := "(I)I" } : Jvm.MethodName) ({ cls := "RopeSwing", name := "told", desc := "(I)I" } : Jvm.MethodName)) ∈ TB := tb_of 637 _ (by decide +kernel) rfl
theorem wd_638 : (Jvm.Cond.code ({ cls := "RopeSwing", name := "told", desc := "(I)I" } : Jvm.MethodName) prog_1_method_6_code (2 : Nat) (Option.some Jvm.ClassFile.FieldType.int)) ∈ TB := tb_of 638 _ (by decide +kernel) rfl
theorem wd_639 : (Jvm.Cond.methodLink "RopeSwing" (132 : Nat) ({ cls := "RopeSwing$Place", name := "number", desc := "(I)I" } : Jvm.MethodName)) ∈ TB := tb_of 639 _ (by decide +kernel) rfl
theorem wd_640 : (Jvm.Cond.methodLink "RopeSwingLaw" (38 : Nat) ({ cls := "RopeSwing", name := "cell", desc := "(II)I" } : Jvm.MethodName)) ∈ TB := tb_of 640 _ (by decide +kernel) rfl
theorem wd_641 : (Jvm.Cond.instanceMethod ({ cls := "RopeSwing", name := "cell", desc := "(II)I" } : Jvm.MethodName)) ∈ TB := tb_of 641 _ (by decide +kernel) rfl
theorem wd_642 : (Jvm.Cond.selects "RopeSwing" ({ cls := "RopeSwing", name := "cell", desc := "(II)I" } : Jvm.MethodName) ({ cls := "RopeSwing", name := "cell", desc := "(II)I" } : Jvm.MethodName)) ∈ TB := tb_of 642 _ (by decide +kernel) rfl
theorem wd_643 : (Jvm.Cond.code ({ cls := "RopeSwing", name := "cell", desc := "(II)I" } : Jvm.MethodName) prog_1_method_7_code (3 : Nat) (Option.some Jvm.ClassFile.FieldType.int)) ∈ TB := tb_of 643 _ (by decide +kernel) rfl
theorem wd_644 : (Jvm.Cond.constant "RopeSwing" (136 : Nat) (-1000000001 : Int32)) ∈ TB := tb_of 644 _ (by decide +kernel) rfl
theorem wd_645 : (Jvm.Cond.methodLink "RopeSwing" (137 : Nat) ({ cls := "RopeSwing$Place", name := "kind", desc := "(I)I" } : Jvm.MethodName)) ∈ TB := tb_of 645 _ (by decide +kernel) rfl
theorem wd_646 : (Jvm.Cond.instanceMethod ({ cls := "RopeSwing$Place", name := "kind", desc := "(I)I" } : Jvm.MethodName)) ∈ TB := tb_of 646 _ (by decide +kernel) rfl
theorem wd_647 : (Jvm.Cond.selects "RopeSwing$Place" ({ cls := "RopeSwing$Place", name := "kind", desc := "(I)I" } : Jvm.MethodName) ({ cls := "RopeSwing$Place", name := "kind", desc := "(I)I" } : Jvm.MethodName)) ∈ TB := tb_of 647 _ (by decide +kernel) rfl
theorem wd_648 : (Jvm.Cond.code ({ cls := "RopeSwing$Place", name := "kind", desc := "(I)I" } : Jvm.MethodName) prog_5_method_7_code (2 : Nat) (Option.some Jvm.ClassFile.FieldType.int)) ∈ TB := tb_of 648 _ (by decide +kernel) rfl
theorem wd_649 : (Jvm.Cond.methodLink "RopeSwing" (140 : Nat) ({ cls := "RopeSwing", name := "lowerNow", desc := "()I" } : Jvm.MethodName)) ∈ TB := tb_of 649 _ (by decide +kernel) rfl
theorem wd_651 : (Jvm.Cond.instanceMethod ({ cls := "RopeSwing", name := "lowerNow", desc := "()I" } : Jvm.MethodName)) ∈ TB := tb_of 651 _ (by decide +kernel) rfl
theorem wd_652 : (Jvm.Cond.code ({ cls := "RopeSwing", name := "lowerNow", desc := "()I" } : Jvm.MethodName) prog_1_method_36_code (1 : Nat) (Option.some Jvm.ClassFile.FieldType.int)) ∈ TB := tb_of 652 _ (by decide +kernel) rfl
theorem wd_653 : (Jvm.Cond.methodLink "RopeSwing" (162 : Nat) ({ cls := "RopeSwing$State", name := "inHand", desc := "(I)I" } : Jvm.MethodName)) ∈ TB := tb_of 653 _ (by decide +kernel) rfl
theorem wd_654 : (Jvm.Cond.instanceMethod ({ cls := "RopeSwing$State", name := "inHand", desc := "(I)I" } : Jvm.MethodName)) ∈ TB := tb_of 654 _ (by decide +kernel) rfl
theorem wd_655 : (Jvm.Cond.selects "RopeSwing$State" ({ cls := "RopeSwing$State", name := "inHand", desc := "(I)I" } : Jvm.MethodName) ({ cls := "RopeSwing$State", name := "inHand", desc := "(I)I" } : Jvm.MethodName)) ∈ TB := tb_of 655 _ (by decide +kernel) rfl
theorem wd_656 : (Jvm.Cond.code ({ cls := "RopeSwing$State", name := "inHand", desc := "(I)I" } : Jvm.MethodName) prog_7_method_3_code (2 : Nat) (Option.some Jvm.ClassFile.FieldType.int)) ∈ TB := tb_of 656 _ (by decide +kernel) rfl
theorem wd_658 : (Jvm.Cond.methodLink "RopeSwing" (265 : Nat) ({ cls := "RopeSwing$Place", name := "lower", desc := "(I)I" } : Jvm.MethodName)) ∈ TB := tb_of 658 _ (by decide +kernel) rfl
theorem wd_659 : (Jvm.Cond.instanceMethod ({ cls := "RopeSwing$Place", name := "lower", desc := "(I)I" } : Jvm.MethodName)) ∈ TB := tb_of 659 _ (by decide +kernel) rfl
theorem wd_660 : (Jvm.Cond.selects "RopeSwing$Place" ({ cls := "RopeSwing$Place", name := "lower", desc := "(I)I" } : Jvm.MethodName) ({ cls := "RopeSwing$Place", name := "lower", desc := "(I)I" } : Jvm.MethodName)) ∈ TB := tb_of 660 _ (by decide +kernel) rfl
theorem wd_661 : (Jvm.Cond.code ({ cls := "RopeSwing$Place", name := "lower", desc := "(I)I" } : Jvm.MethodName) prog_5_method_5_code (2 : Nat) (Option.some Jvm.ClassFile.FieldType.int)) ∈ TB := tb_of 661 _ (by decide +kernel) rfl
theorem wd_663 : (Jvm.Cond.methodLink "RopeSwing" (143 : Nat) ({ cls := "RopeSwing$Place", name := "depth", desc := "(II)I" } : Jvm.MethodName)) ∈ TB := tb_of 663 _ (by decide +kernel) rfl
theorem wd_664 : (Jvm.Cond.instanceMethod ({ cls := "RopeSwing$Place", name := "depth", desc := "(II)I" } : Jvm.MethodName)) ∈ TB := tb_of 664 _ (by decide +kernel) rfl
theorem wd_665 : (Jvm.Cond.selects "RopeSwing$Place" ({ cls := "RopeSwing$Place", name := "depth", desc := "(II)I" } : Jvm.MethodName) ({ cls := "RopeSwing$Place", name := "depth", desc := "(II)I" } : Jvm.MethodName)) ∈ TB := tb_of 665 _ (by decide +kernel) rfl
theorem wd_666 : (Jvm.Cond.code ({ cls := "RopeSwing$Place", name := "depth", desc := "(II)I" } : Jvm.MethodName) prog_5_method_6_code (4 : Nat) (Option.some Jvm.ClassFile.FieldType.int)) ∈ TB := tb_of 666 _ (by decide +kernel) rfl
theorem wd_667 : (Jvm.Cond.methodLink "RopeSwingLaw" (43 : Nat) ({ cls := "RopeSwing", name := "who", desc := "(II)I" } : Jvm.MethodName)) ∈ TB := tb_of 667 _ (by decide +kernel) rfl
theorem wd_668 : (Jvm.Cond.instanceMethod ({ cls := "RopeSwing", name := "who", desc := "(II)I" } : Jvm.MethodName)) ∈ TB := tb_of 668 _ (by decide +kernel) rfl
theorem wd_669 : (Jvm.Cond.selects "RopeSwing" ({ cls := "RopeSwing", name := "who", desc := "(II)I" } : Jvm.MethodName) ({ cls := "RopeSwing", name := "who", desc := "(II)I" } : Jvm.MethodName)) ∈ TB := tb_of 669 _ (by decide +kernel) rfl
theorem wd_670 : (Jvm.Cond.code ({ cls := "RopeSwing", name := "who", desc := "(II)I" } : Jvm.MethodName) prog_1_method_8_code (4 : Nat) (Option.some Jvm.ClassFile.FieldType.int)) ∈ TB := tb_of 670 _ (by decide +kernel) rfl
theorem wd_671 : (Jvm.Cond.methodLink "RopeSwing" (147 : Nat) ({ cls := "RopeSwing", name := "swingerAt", desc := "(I)LRopeSwing$Swinger;" } : Jvm.MethodName)) ∈ TB := tb_of 671 _ (by decide +kernel) rfl
theorem wd_673 : (Jvm.Cond.instanceMethod ({ cls := "RopeSwing", name := "swingerAt", desc := "(I)LRopeSwing$Swinger;" } : Jvm.MethodName)) ∈ TB := tb_of 673 _ (by decide +kernel) rfl
theorem wd_674 : (Jvm.Cond.code ({ cls := "RopeSwing", name := "swingerAt", desc := "(I)LRopeSwing$Swinger;" } : Jvm.MethodName) prog_1_method_32_code (2 : Nat) (Option.some (Jvm.ClassFile.FieldType.object "RopeSwing$Swinger"))) ∈ TB := tb_of 674 _ (by decide +kernel) rfl
theorem wd_675 : (Jvm.Cond.methodLink "RopeSwing" (151 : Nat) ({ cls := "RopeSwing", name := "within", desc := "(III)Z" } : Jvm.MethodName)) ∈ TB := tb_of 675 _ (by decide +kernel) rfl
theorem wd_676 : (Jvm.Cond.methodLink "RopeSwing" (155 : Nat) ({ cls := "RopeSwing$Swinger", name := "number", desc := "(I)I" } : Jvm.MethodName)) ∈ TB := tb_of 676 _ (by decide +kernel) rfl
theorem wd_677 : (Jvm.Cond.instanceMethod ({ cls := "RopeSwing$Swinger", name := "number", desc := "(I)I" } : Jvm.MethodName)) ∈ TB := tb_of 677 _ (by decide +kernel) rfl
theorem wd_678 : (Jvm.Cond.selects "RopeSwing$Swinger" ({ cls := "RopeSwing$Swinger", name := "number", desc := "(I)I" } : Jvm.MethodName) ({ cls := "RopeSwing$Swinger", name := "number", desc := "(I)I" } : Jvm.MethodName)) ∈ TB := tb_of 678 _ (by decide +kernel) rfl
theorem wd_679 : (Jvm.Cond.code ({ cls := "RopeSwing$Swinger", name := "number", desc := "(I)I" } : Jvm.MethodName) prog_8_method_4_code (2 : Nat) (Option.some Jvm.ClassFile.FieldType.int)) ∈ TB := tb_of 679 _ (by decide +kernel) rfl
theorem wd_680 : (Jvm.Cond.methodLink "RopeSwingLaw" (47 : Nat) ({ cls := "RopeSwing", name := "set", desc := "(II)I" } : Jvm.MethodName)) ∈ TB := tb_of 680 _ (by decide +kernel) rfl
theorem wd_681 : (Jvm.Cond.instanceMethod ({ cls := "RopeSwing", name := "set", desc := "(II)I" } : Jvm.MethodName)) ∈ TB := tb_of 681 _ (by decide +kernel) rfl
theorem wd_682 : (Jvm.Cond.selects "RopeSwing" ({ cls := "RopeSwing", name := "set", desc := "(II)I" } : Jvm.MethodName) ({ cls := "RopeSwing", name := "set", desc := "(II)I" } : Jvm.MethodName)) ∈ TB := tb_of 682 _ (by decide +kernel) rfl
theorem wd_683 : (Jvm.Cond.code ({ cls := "RopeSwing", name := "set", desc := "(II)I" } : Jvm.MethodName) prog_1_method_9_code (4 : Nat) (Option.some Jvm.ClassFile.FieldType.int)) ∈ TB := tb_of 683 _ (by decide +kernel) rfl
theorem wd_684 : (Jvm.Cond.fieldLink "RopeSwing" (156 : Nat) "RopeSwing" "MOST_IN_HAND" "[I") ∈ TB := tb_of 684 _ (by decide +kernel) rfl
theorem wd_686 : (Jvm.Cond.methodLink "RopeSwing" (159 : Nat) ({ cls := "RopeSwing", name := "mostInHand", desc := "(I)I" } : Jvm.MethodName)) ∈ TB := tb_of 686 _ (by decide +kernel) rfl
theorem wd_688 : (Jvm.Cond.instanceMethod ({ cls := "RopeSwing", name := "mostInHand", desc := "(I)I" } : Jvm.MethodName)) ∈ TB := tb_of 688 _ (by decide +kernel) rfl
theorem wd_689 : (Jvm.Cond.code ({ cls := "RopeSwing", name := "mostInHand", desc := "(I)I" } : Jvm.MethodName) prog_1_method_34_code (3 : Nat) (Option.some Jvm.ClassFile.FieldType.int)) ∈ TB := tb_of 689 _ (by decide +kernel) rfl
theorem wd_690 : (Jvm.Cond.methodLink "RopeSwing" (337 : Nat) ({ cls := "RopeSwing", name := "at", desc := "([II)I" } : Jvm.MethodName)) ∈ TB := tb_of 690 _ (by decide +kernel) rfl
theorem wd_691 : (Jvm.Cond.methodLink "RopeSwing" (334 : Nat) ({ cls := "java/lang/Math", name := "min", desc := "(II)I" } : Jvm.MethodName)) ∈ TB := tb_of 691 _ (by decide +kernel) rfl
theorem wd_692 : (Jvm.Cond.methodLink "RopeSwing" (165 : Nat) ({ cls := "RopeSwing$State", name := "take", desc := "(II)V" } : Jvm.MethodName)) ∈ TB := tb_of 692 _ (by decide +kernel) rfl
theorem wd_693 : (Jvm.Cond.methodLink "RopeSwingLaw" (51 : Nat) ({ cls := "RopeSwing", name := "now", desc := "(I)I" } : Jvm.MethodName)) ∈ TB := tb_of 693 _ (by decide +kernel) rfl
theorem wd_694 : (Jvm.Cond.instanceMethod ({ cls := "RopeSwing", name := "now", desc := "(I)I" } : Jvm.MethodName)) ∈ TB := tb_of 694 _ (by decide +kernel) rfl
theorem wd_695 : (Jvm.Cond.selects "RopeSwing" ({ cls := "RopeSwing", name := "now", desc := "(I)I" } : Jvm.MethodName) ({ cls := "RopeSwing", name := "now", desc := "(I)I" } : Jvm.MethodName)) ∈ TB := tb_of 695 _ (by decide +kernel) rfl
theorem wd_696 : (Jvm.Cond.code ({ cls := "RopeSwing", name := "now", desc := "(I)I" } : Jvm.MethodName) prog_1_method_10_code (2 : Nat) (Option.some Jvm.ClassFile.FieldType.int)) ∈ TB := tb_of 696 _ (by decide +kernel) rfl
theorem wd_697 : (Jvm.Cond.methodLink "RopeSwing" (169 : Nat) ({ cls := "RopeSwing", name := "lengthNow", desc := "()I" } : Jvm.MethodName)) ∈ TB := tb_of 697 _ (by decide +kernel) rfl
theorem wd_699 : (Jvm.Cond.instanceMethod ({ cls := "RopeSwing", name := "lengthNow", desc := "()I" } : Jvm.MethodName)) ∈ TB := tb_of 699 _ (by decide +kernel) rfl
theorem wd_700 : (Jvm.Cond.code ({ cls := "RopeSwing", name := "lengthNow", desc := "()I" } : Jvm.MethodName) prog_1_method_35_code (1 : Nat) (Option.some Jvm.ClassFile.FieldType.int)) ∈ TB := tb_of 700 _ (by decide +kernel) rfl
theorem wd_701 : (Jvm.Cond.methodLink "RopeSwing" (172 : Nat) ({ cls := "RopeSwing", name := "strengthAfter", desc := "(I)I" } : Jvm.MethodName)) ∈ TB := tb_of 701 _ (by decide +kernel) rfl
theorem wd_703 : (Jvm.Cond.instanceMethod ({ cls := "RopeSwing", name := "strengthAfter", desc := "(I)I" } : Jvm.MethodName)) ∈ TB := tb_of 703 _ (by decide +kernel) rfl
theorem wd_704 : (Jvm.Cond.code ({ cls := "RopeSwing", name := "strengthAfter", desc := "(I)I" } : Jvm.MethodName) prog_1_method_37_code (4 : Nat) (Option.some Jvm.ClassFile.FieldType.int)) ∈ TB := tb_of 704 _ (by decide +kernel) rfl
theorem wd_705 : (Jvm.Cond.methodLink "RopeSwingLaw" (55 : Nat) ({ cls := "RopeSwing", name := "sine", desc := "(I)I" } : Jvm.MethodName)) ∈ TB := tb_of 705 _ (by decide +kernel) rfl
theorem wd_706 : (Jvm.Cond.instanceMethod ({ cls := "RopeSwing", name := "sine", desc := "(I)I" } : Jvm.MethodName)) ∈ TB := tb_of 706 _ (by decide +kernel) rfl
theorem wd_707 : (Jvm.Cond.selects "RopeSwing" ({ cls := "RopeSwing", name := "sine", desc := "(I)I" } : Jvm.MethodName) ({ cls := "RopeSwing", name := "sine", desc := "(I)I" } : Jvm.MethodName)) ∈ TB := tb_of 707 _ (by decide +kernel) rfl
theorem wd_708 : (Jvm.Cond.code ({ cls := "RopeSwing", name := "sine", desc := "(I)I" } : Jvm.MethodName) prog_1_method_11_code (2 : Nat) (Option.some Jvm.ClassFile.FieldType.int)) ∈ TB := tb_of 708 _ (by decide +kernel) rfl
theorem wd_709 : (Jvm.Cond.methodLink "RopeSwing" (175 : Nat) ({ cls := "RopeSwing", name := "sineOf", desc := "(I)I" } : Jvm.MethodName)) ∈ TB := tb_of 709 _ (by decide +kernel) rfl
theorem wd_710 : (Jvm.Cond.static ({ cls := "RopeSwing", name := "sineOf", desc := "(I)I" } : Jvm.MethodName)) ∈ TB := tb_of 710 _ (by decide +kernel) rfl
theorem wd_711 : (Jvm.Cond.code ({ cls := "RopeSwing", name := "sineOf", desc := "(I)I" } : Jvm.MethodName) prog_1_method_49_code (8 : Nat) (Option.some Jvm.ClassFile.FieldType.int)) ∈ TB := tb_of 711 _ (by decide +kernel) rfl
theorem wd_712 : (Jvm.Cond.methodLink "RopeSwing" (356 : Nat) ({ cls := "RopeSwing", name := "sizeOf", desc := "(I)I" } : Jvm.MethodName)) ∈ TB := tb_of 712 _ (by decide +kernel) rfl
theorem wd_713 : (Jvm.Cond.static ({ cls := "RopeSwing", name := "sizeOf", desc := "(I)I" } : Jvm.MethodName)) ∈ TB := tb_of 713 _ (by decide +kernel) rfl
theorem wd_714 : (Jvm.Cond.code ({ cls := "RopeSwing", name := "sizeOf", desc := "(I)I" } : Jvm.MethodName) prog_1_method_50_code (1 : Nat) (Option.some Jvm.ClassFile.FieldType.int)) ∈ TB := tb_of 714 _ (by decide +kernel) rfl
theorem wd_715 : (Jvm.Cond.constantLong "RopeSwing" (359 : Nat) (1800 : Int64)) ∈ TB := tb_of 715 _ (by decide +kernel) rfl
theorem wd_716 : (Jvm.Cond.constantLong "RopeSwing" (361 : Nat) (4050000 : Int64)) ∈ TB := tb_of 716 _ (by decide +kernel) rfl
theorem wd_717 : (Jvm.Cond.constantLong "RopeSwing" (363 : Nat) (4000 : Int64)) ∈ TB := tb_of 717 _ (by decide +kernel) rfl
theorem wd_718 : (Jvm.Cond.methodLink "RopeSwingLaw" (59 : Nat) ({ cls := "RopeSwing", name := "holds", desc := "(III)I" } : Jvm.MethodName)) ∈ TB := tb_of 718 _ (by decide +kernel) rfl
theorem wd_719 : (Jvm.Cond.instanceMethod ({ cls := "RopeSwing", name := "holds", desc := "(III)I" } : Jvm.MethodName)) ∈ TB := tb_of 719 _ (by decide +kernel) rfl
theorem wd_720 : (Jvm.Cond.selects "RopeSwing" ({ cls := "RopeSwing", name := "holds", desc := "(III)I" } : Jvm.MethodName) ({ cls := "RopeSwing", name := "holds", desc := "(III)I" } : Jvm.MethodName)) ∈ TB := tb_of 720 _ (by decide +kernel) rfl
theorem wd_721 : (Jvm.Cond.code ({ cls := "RopeSwing", name := "holds", desc := "(III)I" } : Jvm.MethodName) prog_1_method_12_code (5 : Nat) (Option.some Jvm.ClassFile.FieldType.int)) ∈ TB := tb_of 721 _ (by decide +kernel) rfl
theorem wd_722 : (Jvm.Cond.methodLink "RopeSwing" (178 : Nat) ({ cls := "RopeSwing", name := "traceNow", desc := "()V" } : Jvm.MethodName)) ∈ TB := tb_of 722 _ (by decide +kernel) rfl
theorem wd_724 : (Jvm.Cond.instanceMethod ({ cls := "RopeSwing", name := "traceNow", desc := "()V" } : Jvm.MethodName)) ∈ TB := tb_of 724 _ (by decide +kernel) rfl
theorem wd_725 : (Jvm.Cond.code ({ cls := "RopeSwing", name := "traceNow", desc := "()V" } : Jvm.MethodName) prog_1_method_38_code (1 : Nat) (Option.none : Option Jvm.ClassFile.FieldType)) ∈ TB := tb_of 725 _ (by decide +kernel) rfl
theorem wd_726 : (Jvm.Cond.methodLink "RopeSwing" (273 : Nat) ({ cls := "RopeSwing$Path", name := "trace", desc := "(IIII)V" } : Jvm.MethodName)) ∈ TB := tb_of 726 _ (by decide +kernel) rfl
theorem wd_727 : (Jvm.Cond.instanceMethod ({ cls := "RopeSwing$Path", name := "trace", desc := "(IIII)V" } : Jvm.MethodName)) ∈ TB := tb_of 727 _ (by decide +kernel) rfl
theorem wd_728 : (Jvm.Cond.selects "RopeSwing$Path" ({ cls := "RopeSwing$Path", name := "trace", desc := "(IIII)V" } : Jvm.MethodName) ({ cls := "RopeSwing$Path", name := "trace", desc := "(IIII)V" } : Jvm.MethodName)) ∈ TB := tb_of 728 _ (by decide +kernel) rfl
theorem wd_729 : (Jvm.Cond.code ({ cls := "RopeSwing$Path", name := "trace", desc := "(IIII)V" } : Jvm.MethodName) prog_3_method_2_code (6 : Nat) (Option.none : Option Jvm.ClassFile.FieldType)) ∈ TB := tb_of 729 _ (by decide +kernel) rfl
theorem wd_730 : (Jvm.Cond.methodLink "RopeSwing$Path" (57 : Nat) ({ cls := "RopeSwing$Pendulum", name := "begin", desc := "(III)V" } : Jvm.MethodName)) ∈ TB := tb_of 730 _ (by decide +kernel) rfl
theorem wd_731 : (Jvm.Cond.instanceMethod ({ cls := "RopeSwing$Pendulum", name := "begin", desc := "(III)V" } : Jvm.MethodName)) ∈ TB := tb_of 731 _ (by decide +kernel) rfl
theorem wd_732 : (Jvm.Cond.selects "RopeSwing$Pendulum" ({ cls := "RopeSwing$Pendulum", name := "begin", desc := "(III)V" } : Jvm.MethodName) ({ cls := "RopeSwing$Pendulum", name := "begin", desc := "(III)V" } : Jvm.MethodName)) ∈ TB := tb_of 732 _ (by decide +kernel) rfl
theorem wd_733 : (Jvm.Cond.code ({ cls := "RopeSwing$Pendulum", name := "begin", desc := "(III)V" } : Jvm.MethodName) prog_4_method_2_code (4 : Nat) (Option.none : Option Jvm.ClassFile.FieldType)) ∈ TB := tb_of 733 _ (by decide +kernel) rfl
theorem wd_735 : (Jvm.Cond.static ({ cls := "RopeSwing", name := "quotient", desc := "(II)I" } : Jvm.MethodName)) ∈ TB := tb_of 735 _ (by decide +kernel) rfl
theorem wd_736 : (Jvm.Cond.code ({ cls := "RopeSwing", name := "quotient", desc := "(II)I" } : Jvm.MethodName) prog_1_method_46_code (2 : Nat) (Option.some Jvm.ClassFile.FieldType.int)) ∈ TB := tb_of 736 _ (by decide +kernel) rfl
theorem wd_737 : (Jvm.Cond.methodLink "RopeSwing$Path" (61 : Nat) ({ cls := "RopeSwing$Path", name := "note", desc := "(I)V" } : Jvm.MethodName)) ∈ TB := tb_of 737 _ (by decide +kernel) rfl
theorem wd_739 : (Jvm.Cond.instanceMethod ({ cls := "RopeSwing$Path", name := "note", desc := "(I)V" } : Jvm.MethodName)) ∈ TB := tb_of 739 _ (by decide +kernel) rfl
theorem wd_740 : (Jvm.Cond.code ({ cls := "RopeSwing$Path", name := "note", desc := "(I)V" } : Jvm.MethodName) prog_3_method_3_code (7 : Nat) (Option.none : Option Jvm.ClassFile.FieldType)) ∈ TB := tb_of 740 _ (by decide +kernel) rfl
theorem wd_743 : (Jvm.Cond.constantLong "RopeSwing$Path" (79 : Nat) (80500000 : Int64)) ∈ TB := tb_of 743 _ (by decide +kernel) rfl
theorem wd_745 : (Jvm.Cond.methodLink "RopeSwing$Path" (65 : Nat) ({ cls := "RopeSwing$Pendulum", name := "swing", desc := "()V" } : Jvm.MethodName)) ∈ TB := tb_of 745 _ (by decide +kernel) rfl
theorem wd_746 : (Jvm.Cond.instanceMethod ({ cls := "RopeSwing$Pendulum", name := "swing", desc := "()V" } : Jvm.MethodName)) ∈ TB := tb_of 746 _ (by decide +kernel) rfl
theorem wd_747 : (Jvm.Cond.selects "RopeSwing$Pendulum" ({ cls := "RopeSwing$Pendulum", name := "swing", desc := "()V" } : Jvm.MethodName) ({ cls := "RopeSwing$Pendulum", name := "swing", desc := "()V" } : Jvm.MethodName)) ∈ TB := tb_of 747 _ (by decide +kernel) rfl
theorem wd_748 : (Jvm.Cond.code ({ cls := "RopeSwing$Pendulum", name := "swing", desc := "()V" } : Jvm.MethodName) prog_4_method_3_code (1 : Nat) (Option.none : Option Jvm.ClassFile.FieldType)) ∈ TB := tb_of 748 _ (by decide +kernel) rfl
theorem wd_750 : (Jvm.Cond.methodLink "RopeSwing" (181 : Nat) ({ cls := "RopeSwing$Path", name := "angle", desc := "(I)I" } : Jvm.MethodName)) ∈ TB := tb_of 750 _ (by decide +kernel) rfl
theorem wd_751 : (Jvm.Cond.instanceMethod ({ cls := "RopeSwing$Path", name := "angle", desc := "(I)I" } : Jvm.MethodName)) ∈ TB := tb_of 751 _ (by decide +kernel) rfl
theorem wd_752 : (Jvm.Cond.selects "RopeSwing$Path" ({ cls := "RopeSwing$Path", name := "angle", desc := "(I)I" } : Jvm.MethodName) ({ cls := "RopeSwing$Path", name := "angle", desc := "(I)I" } : Jvm.MethodName)) ∈ TB := tb_of 752 _ (by decide +kernel) rfl
theorem wd_753 : (Jvm.Cond.code ({ cls := "RopeSwing$Path", name := "angle", desc := "(I)I" } : Jvm.MethodName) prog_3_method_4_code (2 : Nat) (Option.some Jvm.ClassFile.FieldType.int)) ∈ TB := tb_of 753 _ (by decide +kernel) rfl
theorem wd_755 : (Jvm.Cond.methodLink "RopeSwing" (184 : Nat) ({ cls := "RopeSwing$Path", name := "pace", desc := "(I)I" } : Jvm.MethodName)) ∈ TB := tb_of 755 _ (by decide +kernel) rfl
theorem wd_756 : (Jvm.Cond.instanceMethod ({ cls := "RopeSwing$Path", name := "pace", desc := "(I)I" } : Jvm.MethodName)) ∈ TB := tb_of 756 _ (by decide +kernel) rfl
theorem wd_757 : (Jvm.Cond.selects "RopeSwing$Path" ({ cls := "RopeSwing$Path", name := "pace", desc := "(I)I" } : Jvm.MethodName) ({ cls := "RopeSwing$Path", name := "pace", desc := "(I)I" } : Jvm.MethodName)) ∈ TB := tb_of 757 _ (by decide +kernel) rfl
theorem wd_758 : (Jvm.Cond.code ({ cls := "RopeSwing$Path", name := "pace", desc := "(I)I" } : Jvm.MethodName) prog_3_method_5_code (2 : Nat) (Option.some Jvm.ClassFile.FieldType.int)) ∈ TB := tb_of 758 _ (by decide +kernel) rfl
theorem wd_759 : (Jvm.Cond.methodLink "RopeSwing" (187 : Nat) ({ cls := "RopeSwing$Path", name := "x", desc := "(I)I" } : Jvm.MethodName)) ∈ TB := tb_of 759 _ (by decide +kernel) rfl
theorem wd_760 : (Jvm.Cond.instanceMethod ({ cls := "RopeSwing$Path", name := "x", desc := "(I)I" } : Jvm.MethodName)) ∈ TB := tb_of 760 _ (by decide +kernel) rfl
theorem wd_761 : (Jvm.Cond.selects "RopeSwing$Path" ({ cls := "RopeSwing$Path", name := "x", desc := "(I)I" } : Jvm.MethodName) ({ cls := "RopeSwing$Path", name := "x", desc := "(I)I" } : Jvm.MethodName)) ∈ TB := tb_of 761 _ (by decide +kernel) rfl
theorem wd_762 : (Jvm.Cond.code ({ cls := "RopeSwing$Path", name := "x", desc := "(I)I" } : Jvm.MethodName) prog_3_method_6_code (2 : Nat) (Option.some Jvm.ClassFile.FieldType.int)) ∈ TB := tb_of 762 _ (by decide +kernel) rfl
theorem wd_763 : (Jvm.Cond.methodLink "RopeSwing" (190 : Nat) ({ cls := "RopeSwing$Path", name := "height", desc := "(I)I" } : Jvm.MethodName)) ∈ TB := tb_of 763 _ (by decide +kernel) rfl
theorem wd_764 : (Jvm.Cond.instanceMethod ({ cls := "RopeSwing$Path", name := "height", desc := "(I)I" } : Jvm.MethodName)) ∈ TB := tb_of 764 _ (by decide +kernel) rfl
theorem wd_765 : (Jvm.Cond.selects "RopeSwing$Path" ({ cls := "RopeSwing$Path", name := "height", desc := "(I)I" } : Jvm.MethodName) ({ cls := "RopeSwing$Path", name := "height", desc := "(I)I" } : Jvm.MethodName)) ∈ TB := tb_of 765 _ (by decide +kernel) rfl
theorem wd_766 : (Jvm.Cond.code ({ cls := "RopeSwing$Path", name := "height", desc := "(I)I" } : Jvm.MethodName) prog_3_method_7_code (2 : Nat) (Option.some Jvm.ClassFile.FieldType.int)) ∈ TB := tb_of 766 _ (by decide +kernel) rfl
theorem wd_767 : (Jvm.Cond.methodLink "RopeSwing" (193 : Nat) ({ cls := "RopeSwing$Path", name := "pull", desc := "(II)I" } : Jvm.MethodName)) ∈ TB := tb_of 767 _ (by decide +kernel) rfl
theorem wd_768 : (Jvm.Cond.instanceMethod ({ cls := "RopeSwing$Path", name := "pull", desc := "(II)I" } : Jvm.MethodName)) ∈ TB := tb_of 768 _ (by decide +kernel) rfl
theorem wd_769 : (Jvm.Cond.selects "RopeSwing$Path" ({ cls := "RopeSwing$Path", name := "pull", desc := "(II)I" } : Jvm.MethodName) ({ cls := "RopeSwing$Path", name := "pull", desc := "(II)I" } : Jvm.MethodName)) ∈ TB := tb_of 769 _ (by decide +kernel) rfl
theorem wd_770 : (Jvm.Cond.code ({ cls := "RopeSwing$Path", name := "pull", desc := "(II)I" } : Jvm.MethodName) prog_3_method_10_code (3 : Nat) (Option.some Jvm.ClassFile.FieldType.int)) ∈ TB := tb_of 770 _ (by decide +kernel) rfl
theorem wd_771 : (Jvm.Cond.methodLink "RopeSwing$Path" (89 : Nat) ({ cls := "java/lang/Math", name := "max", desc := "(II)I" } : Jvm.MethodName)) ∈ TB := tb_of 771 _ (by decide +kernel) rfl
theorem wd_772 : (Jvm.Cond.static ({ cls := "java/lang/Math", name := "max", desc := "(II)I" } : Jvm.MethodName)) ∈ TB := tb_of 772 _ (by decide +kernel) rfl
theorem wd_773 : (Jvm.Cond.code ({ cls := "java/lang/Math", name := "max", desc := "(II)I" } : Jvm.MethodName) prog_14_method_65_code (2 : Nat) (Option.some Jvm.ClassFile.FieldType.int)) ∈ TB := tb_of 773 _ (by decide +kernel) rfl
theorem wd_774 : (Jvm.Cond.methodLink "RopeSwing" (196 : Nat) ({ cls := "RopeSwing$Path", name := "left", desc := "(III)I" } : Jvm.MethodName)) ∈ TB := tb_of 774 _ (by decide +kernel) rfl
theorem wd_775 : (Jvm.Cond.instanceMethod ({ cls := "RopeSwing$Path", name := "left", desc := "(III)I" } : Jvm.MethodName)) ∈ TB := tb_of 775 _ (by decide +kernel) rfl
theorem wd_776 : (Jvm.Cond.selects "RopeSwing$Path" ({ cls := "RopeSwing$Path", name := "left", desc := "(III)I" } : Jvm.MethodName) ({ cls := "RopeSwing$Path", name := "left", desc := "(III)I" } : Jvm.MethodName)) ∈ TB := tb_of 776 _ (by decide +kernel) rfl
theorem wd_777 : (Jvm.Cond.code ({ cls := "RopeSwing$Path", name := "left", desc := "(III)I" } : Jvm.MethodName) prog_3_method_11_code (6 : Nat) (Option.some Jvm.ClassFile.FieldType.int)) ∈ TB := tb_of 777 _ (by decide +kernel) rfl
theorem wd_778 : (Jvm.Cond.methodLink "RopeSwing$Path" (95 : Nat) ({ cls := "RopeSwing$Path", name := "pull", desc := "(II)I" } : Jvm.MethodName)) ∈ TB := tb_of 778 _ (by decide +kernel) rfl
theorem wd_780 : (Jvm.Cond.methodLink "RopeSwingLaw" (64 : Nat) ({ cls := "RopeSwing", name := "lands", desc := "(III)I" } : Jvm.MethodName)) ∈ TB := tb_of 780 _ (by decide +kernel) rfl
theorem wd_781 : (Jvm.Cond.instanceMethod ({ cls := "RopeSwing", name := "lands", desc := "(III)I" } : Jvm.MethodName)) ∈ TB := tb_of 781 _ (by decide +kernel) rfl
theorem wd_782 : (Jvm.Cond.selects "RopeSwing" ({ cls := "RopeSwing", name := "lands", desc := "(III)I" } : Jvm.MethodName) ({ cls := "RopeSwing", name := "lands", desc := "(III)I" } : Jvm.MethodName)) ∈ TB := tb_of 782 _ (by decide +kernel) rfl
theorem wd_783 : (Jvm.Cond.code ({ cls := "RopeSwing", name := "lands", desc := "(III)I" } : Jvm.MethodName) prog_1_method_13_code (5 : Nat) (Option.some Jvm.ClassFile.FieldType.int)) ∈ TB := tb_of 783 _ (by decide +kernel) rfl
theorem wd_784 : (Jvm.Cond.methodLink "RopeSwing" (200 : Nat) ({ cls := "RopeSwing", name := "ready", desc := "(LRopeSwing$Swinger;)V" } : Jvm.MethodName)) ∈ TB := tb_of 784 _ (by decide +kernel) rfl
theorem wd_786 : (Jvm.Cond.instanceMethod ({ cls := "RopeSwing", name := "ready", desc := "(LRopeSwing$Swinger;)V" } : Jvm.MethodName)) ∈ TB := tb_of 786 _ (by decide +kernel) rfl
theorem wd_787 : (Jvm.Cond.code ({ cls := "RopeSwing", name := "ready", desc := "(LRopeSwing$Swinger;)V" } : Jvm.MethodName) prog_1_method_39_code (2 : Nat) (Option.none : Option Jvm.ClassFile.FieldType)) ∈ TB := tb_of 787 _ (by decide +kernel) rfl
theorem wd_788 : (Jvm.Cond.methodLink "RopeSwing" (341 : Nat) ({ cls := "RopeSwing$Jump", name := "suit", desc := "(LRopeSwing$Swinger;)V" } : Jvm.MethodName)) ∈ TB := tb_of 788 _ (by decide +kernel) rfl
theorem wd_789 : (Jvm.Cond.instanceMethod ({ cls := "RopeSwing$Jump", name := "suit", desc := "(LRopeSwing$Swinger;)V" } : Jvm.MethodName)) ∈ TB := tb_of 789 _ (by decide +kernel) rfl
theorem wd_790 : (Jvm.Cond.selects "RopeSwing$Jump" ({ cls := "RopeSwing$Jump", name := "suit", desc := "(LRopeSwing$Swinger;)V" } : Jvm.MethodName) ({ cls := "RopeSwing$Jump", name := "suit", desc := "(LRopeSwing$Swinger;)V" } : Jvm.MethodName)) ∈ TB := tb_of 790 _ (by decide +kernel) rfl
theorem wd_791 : (Jvm.Cond.code ({ cls := "RopeSwing$Jump", name := "suit", desc := "(LRopeSwing$Swinger;)V" } : Jvm.MethodName) prog_2_method_2_code (2 : Nat) (Option.none : Option Jvm.ClassFile.FieldType)) ∈ TB := tb_of 791 _ (by decide +kernel) rfl
theorem wd_792 : (Jvm.Cond.methodLink "RopeSwing$Jump" (19 : Nat) ({ cls := "RopeSwing$Swinger", name := "number", desc := "(I)I" } : Jvm.MethodName)) ∈ TB := tb_of 792 _ (by decide +kernel) rfl
theorem wd_793 : (Jvm.Cond.methodLink "RopeSwing" (270 : Nat) ({ cls := "RopeSwing$Jump", name := "hold", desc := "()V" } : Jvm.MethodName)) ∈ TB := tb_of 793 _ (by decide +kernel) rfl
theorem wd_794 : (Jvm.Cond.instanceMethod ({ cls := "RopeSwing$Jump", name := "hold", desc := "()V" } : Jvm.MethodName)) ∈ TB := tb_of 794 _ (by decide +kernel) rfl
theorem wd_795 : (Jvm.Cond.selects "RopeSwing$Jump" ({ cls := "RopeSwing$Jump", name := "hold", desc := "()V" } : Jvm.MethodName) ({ cls := "RopeSwing$Jump", name := "hold", desc := "()V" } : Jvm.MethodName)) ∈ TB := tb_of 795 _ (by decide +kernel) rfl
theorem wd_796 : (Jvm.Cond.code ({ cls := "RopeSwing$Jump", name := "hold", desc := "()V" } : Jvm.MethodName) prog_2_method_3_code (5 : Nat) (Option.none : Option Jvm.ClassFile.FieldType)) ∈ TB := tb_of 796 _ (by decide +kernel) rfl
theorem wd_797 : (Jvm.Cond.methodLink "RopeSwing$Jump" (47 : Nat) ({ cls := "RopeSwing$Path", name := "pull", desc := "(II)I" } : Jvm.MethodName)) ∈ TB := tb_of 797 _ (by decide +kernel) rfl
theorem wd_799 : (Jvm.Cond.methodLink "RopeSwing$Jump" (56 : Nat) ({ cls := "RopeSwing$Jump", name := "stopsBehind", desc := "(III)I" } : Jvm.MethodName)) ∈ TB := tb_of 799 _ (by decide +kernel) rfl
theorem wd_801 : (Jvm.Cond.instanceMethod ({ cls := "RopeSwing$Jump", name := "stopsBehind", desc := "(III)I" } : Jvm.MethodName)) ∈ TB := tb_of 801 _ (by decide +kernel) rfl
theorem wd_802 : (Jvm.Cond.code ({ cls := "RopeSwing$Jump", name := "stopsBehind", desc := "(III)I" } : Jvm.MethodName) prog_2_method_4_code (6 : Nat) (Option.some Jvm.ClassFile.FieldType.int)) ∈ TB := tb_of 802 _ (by decide +kernel) rfl
theorem wd_803 : (Jvm.Cond.methodLink "RopeSwing$Jump" (63 : Nat) ({ cls := "RopeSwing$Path", name := "x", desc := "(I)I" } : Jvm.MethodName)) ∈ TB := tb_of 803 _ (by decide +kernel) rfl
theorem wd_804 : (Jvm.Cond.methodLink "RopeSwing$Jump" (66 : Nat) ({ cls := "RopeSwing$Path", name := "pace", desc := "(I)I" } : Jvm.MethodName)) ∈ TB := tb_of 804 _ (by decide +kernel) rfl
theorem wd_805 : (Jvm.Cond.methodLink "RopeSwing$Jump" (69 : Nat) ({ cls := "RopeSwing$Place", name := "number", desc := "(I)I" } : Jvm.MethodName)) ∈ TB := tb_of 805 _ (by decide +kernel) rfl
theorem wd_806 : (Jvm.Cond.methodLink "RopeSwing$Jump" (72 : Nat) ({ cls := "RopeSwing$Path", name := "height", desc := "(I)I" } : Jvm.MethodName)) ∈ TB := tb_of 806 _ (by decide +kernel) rfl
theorem wd_807 : (Jvm.Cond.methodLink "RopeSwing$Jump" (78 : Nat) ({ cls := "RopeSwing$Place", name := "cellAt", desc := "(I)I" } : Jvm.MethodName)) ∈ TB := tb_of 807 _ (by decide +kernel) rfl
theorem wd_808 : (Jvm.Cond.static ({ cls := "RopeSwing$Place", name := "cellAt", desc := "(I)I" } : Jvm.MethodName)) ∈ TB := tb_of 808 _ (by decide +kernel) rfl
theorem wd_809 : (Jvm.Cond.code ({ cls := "RopeSwing$Place", name := "cellAt", desc := "(I)I" } : Jvm.MethodName) prog_5_method_8_code (1 : Nat) (Option.some Jvm.ClassFile.FieldType.int)) ∈ TB := tb_of 809 _ (by decide +kernel) rfl
theorem wd_810 : (Jvm.Cond.methodLink "RopeSwing$Jump" (81 : Nat) ({ cls := "RopeSwing$Place", name := "kind", desc := "(I)I" } : Jvm.MethodName)) ∈ TB := tb_of 810 _ (by decide +kernel) rfl
theorem wd_811 : (Jvm.Cond.methodLink "RopeSwing" (207 : Nat) ({ cls := "RopeSwing$Jump", name := "letGo", desc := "(I)V" } : Jvm.MethodName)) ∈ TB := tb_of 811 _ (by decide +kernel) rfl
theorem wd_812 : (Jvm.Cond.instanceMethod ({ cls := "RopeSwing$Jump", name := "letGo", desc := "(I)V" } : Jvm.MethodName)) ∈ TB := tb_of 812 _ (by decide +kernel) rfl
theorem wd_813 : (Jvm.Cond.selects "RopeSwing$Jump" ({ cls := "RopeSwing$Jump", name := "letGo", desc := "(I)V" } : Jvm.MethodName) ({ cls := "RopeSwing$Jump", name := "letGo", desc := "(I)V" } : Jvm.MethodName)) ∈ TB := tb_of 813 _ (by decide +kernel) rfl
theorem wd_814 : (Jvm.Cond.code ({ cls := "RopeSwing$Jump", name := "letGo", desc := "(I)V" } : Jvm.MethodName) prog_2_method_6_code (2 : Nat) (Option.none : Option Jvm.ClassFile.FieldType)) ∈ TB := tb_of 814 _ (by decide +kernel) rfl
theorem wd_815 : (Jvm.Cond.methodLink "RopeSwing$Jump" (84 : Nat) ({ cls := "RopeSwing$Jump", name := "canLetGo", desc := "(I)Z" } : Jvm.MethodName)) ∈ TB := tb_of 815 _ (by decide +kernel) rfl
theorem wd_817 : (Jvm.Cond.instanceMethod ({ cls := "RopeSwing$Jump", name := "canLetGo", desc := "(I)Z" } : Jvm.MethodName)) ∈ TB := tb_of 817 _ (by decide +kernel) rfl
theorem wd_818 : (Jvm.Cond.code ({ cls := "RopeSwing$Jump", name := "canLetGo", desc := "(I)Z" } : Jvm.MethodName) prog_2_method_5_code (2 : Nat) (Option.some Jvm.ClassFile.FieldType.boolean)) ∈ TB := tb_of 818 _ (by decide +kernel) rfl
theorem wd_819 : (Jvm.Cond.methodLink "RopeSwing$Jump" (88 : Nat) ({ cls := "RopeSwing$Jump", name := "fly", desc := "(I)V" } : Jvm.MethodName)) ∈ TB := tb_of 819 _ (by decide +kernel) rfl
theorem wd_821 : (Jvm.Cond.instanceMethod ({ cls := "RopeSwing$Jump", name := "fly", desc := "(I)V" } : Jvm.MethodName)) ∈ TB := tb_of 821 _ (by decide +kernel) rfl
theorem wd_822 : (Jvm.Cond.code ({ cls := "RopeSwing$Jump", name := "fly", desc := "(I)V" } : Jvm.MethodName) prog_2_method_7_code (9 : Nat) (Option.none : Option Jvm.ClassFile.FieldType)) ∈ TB := tb_of 822 _ (by decide +kernel) rfl
theorem wd_823 : (Jvm.Cond.methodLink "RopeSwing$Jump" (110 : Nat) ({ cls := "RopeSwing$Path", name := "across", desc := "(I)I" } : Jvm.MethodName)) ∈ TB := tb_of 823 _ (by decide +kernel) rfl
theorem wd_824 : (Jvm.Cond.instanceMethod ({ cls := "RopeSwing$Path", name := "across", desc := "(I)I" } : Jvm.MethodName)) ∈ TB := tb_of 824 _ (by decide +kernel) rfl
theorem wd_825 : (Jvm.Cond.selects "RopeSwing$Path" ({ cls := "RopeSwing$Path", name := "across", desc := "(I)I" } : Jvm.MethodName) ({ cls := "RopeSwing$Path", name := "across", desc := "(I)I" } : Jvm.MethodName)) ∈ TB := tb_of 825 _ (by decide +kernel) rfl
theorem wd_826 : (Jvm.Cond.code ({ cls := "RopeSwing$Path", name := "across", desc := "(I)I" } : Jvm.MethodName) prog_3_method_8_code (2 : Nat) (Option.some Jvm.ClassFile.FieldType.int)) ∈ TB := tb_of 826 _ (by decide +kernel) rfl
theorem wd_827 : (Jvm.Cond.methodLink "RopeSwing$Jump" (113 : Nat) ({ cls := "RopeSwing$Path", name := "up", desc := "(I)I" } : Jvm.MethodName)) ∈ TB := tb_of 827 _ (by decide +kernel) rfl
theorem wd_828 : (Jvm.Cond.instanceMethod ({ cls := "RopeSwing$Path", name := "up", desc := "(I)I" } : Jvm.MethodName)) ∈ TB := tb_of 828 _ (by decide +kernel) rfl
theorem wd_829 : (Jvm.Cond.selects "RopeSwing$Path" ({ cls := "RopeSwing$Path", name := "up", desc := "(I)I" } : Jvm.MethodName) ({ cls := "RopeSwing$Path", name := "up", desc := "(I)I" } : Jvm.MethodName)) ∈ TB := tb_of 829 _ (by decide +kernel) rfl
theorem wd_830 : (Jvm.Cond.code ({ cls := "RopeSwing$Path", name := "up", desc := "(I)I" } : Jvm.MethodName) prog_3_method_9_code (2 : Nat) (Option.some Jvm.ClassFile.FieldType.int)) ∈ TB := tb_of 830 _ (by decide +kernel) rfl
theorem wd_831 : (Jvm.Cond.methodLink "RopeSwing$Jump" (116 : Nat) ({ cls := "RopeSwing$Jump", name := "landing", desc := "(I)I" } : Jvm.MethodName)) ∈ TB := tb_of 831 _ (by decide +kernel) rfl
theorem wd_833 : (Jvm.Cond.instanceMethod ({ cls := "RopeSwing$Jump", name := "landing", desc := "(I)I" } : Jvm.MethodName)) ∈ TB := tb_of 833 _ (by decide +kernel) rfl
theorem wd_834 : (Jvm.Cond.code ({ cls := "RopeSwing$Jump", name := "landing", desc := "(I)I" } : Jvm.MethodName) prog_2_method_8_code (3 : Nat) (Option.some Jvm.ClassFile.FieldType.int)) ∈ TB := tb_of 834 _ (by decide +kernel) rfl
theorem wd_835 : (Jvm.Cond.methodLink "RopeSwing$Jump" (119 : Nat) ({ cls := "RopeSwing$Place", name := "depth", desc := "(II)I" } : Jvm.MethodName)) ∈ TB := tb_of 835 _ (by decide +kernel) rfl
theorem wd_836 : (Jvm.Cond.methodLink "RopeSwingLaw" (68 : Nat) ({ cls := "RopeSwing", name := "best", desc := "(II)I" } : Jvm.MethodName)) ∈ TB := tb_of 836 _ (by decide +kernel) rfl
theorem wd_837 : (Jvm.Cond.instanceMethod ({ cls := "RopeSwing", name := "best", desc := "(II)I" } : Jvm.MethodName)) ∈ TB := tb_of 837 _ (by decide +kernel) rfl
theorem wd_838 : (Jvm.Cond.selects "RopeSwing" ({ cls := "RopeSwing", name := "best", desc := "(II)I" } : Jvm.MethodName) ({ cls := "RopeSwing", name := "best", desc := "(II)I" } : Jvm.MethodName)) ∈ TB := tb_of 838 _ (by decide +kernel) rfl
theorem wd_839 : (Jvm.Cond.code ({ cls := "RopeSwing", name := "best", desc := "(II)I" } : Jvm.MethodName) prog_1_method_14_code (4 : Nat) (Option.some Jvm.ClassFile.FieldType.int)) ∈ TB := tb_of 839 _ (by decide +kernel) rfl
theorem wd_840 : (Jvm.Cond.methodLink "RopeSwing" (228 : Nat) ({ cls := "RopeSwing$Times", name := "scan", desc := "(LRopeSwing$Jump;)V" } : Jvm.MethodName)) ∈ TB := tb_of 840 _ (by decide +kernel) rfl
theorem wd_841 : (Jvm.Cond.instanceMethod ({ cls := "RopeSwing$Times", name := "scan", desc := "(LRopeSwing$Jump;)V" } : Jvm.MethodName)) ∈ TB := tb_of 841 _ (by decide +kernel) rfl
theorem wd_842 : (Jvm.Cond.selects "RopeSwing$Times" ({ cls := "RopeSwing$Times", name := "scan", desc := "(LRopeSwing$Jump;)V" } : Jvm.MethodName) ({ cls := "RopeSwing$Times", name := "scan", desc := "(LRopeSwing$Jump;)V" } : Jvm.MethodName)) ∈ TB := tb_of 842 _ (by decide +kernel) rfl
theorem wd_843 : (Jvm.Cond.code ({ cls := "RopeSwing$Times", name := "scan", desc := "(LRopeSwing$Jump;)V" } : Jvm.MethodName) prog_10_method_2_code (6 : Nat) (Option.none : Option Jvm.ClassFile.FieldType)) ∈ TB := tb_of 843 _ (by decide +kernel) rfl
theorem wd_844 : (Jvm.Cond.methodLink "RopeSwing$Times" (32 : Nat) ({ cls := "RopeSwing$Jump", name := "endsGood", desc := "(I)Z" } : Jvm.MethodName)) ∈ TB := tb_of 844 _ (by decide +kernel) rfl
theorem wd_845 : (Jvm.Cond.instanceMethod ({ cls := "RopeSwing$Jump", name := "endsGood", desc := "(I)Z" } : Jvm.MethodName)) ∈ TB := tb_of 845 _ (by decide +kernel) rfl
theorem wd_846 : (Jvm.Cond.selects "RopeSwing$Jump" ({ cls := "RopeSwing$Jump", name := "endsGood", desc := "(I)Z" } : Jvm.MethodName) ({ cls := "RopeSwing$Jump", name := "endsGood", desc := "(I)Z" } : Jvm.MethodName)) ∈ TB := tb_of 846 _ (by decide +kernel) rfl
theorem wd_847 : (Jvm.Cond.code ({ cls := "RopeSwing$Jump", name := "endsGood", desc := "(I)Z" } : Jvm.MethodName) prog_2_method_9_code (2 : Nat) (Option.some Jvm.ClassFile.FieldType.boolean)) ∈ TB := tb_of 847 _ (by decide +kernel) rfl
theorem wd_849 : (Jvm.Cond.static ({ cls := "RopeSwing", name := "isGood", desc := "(I)Z" } : Jvm.MethodName)) ∈ TB := tb_of 849 _ (by decide +kernel) rfl
theorem wd_850 : (Jvm.Cond.code ({ cls := "RopeSwing", name := "isGood", desc := "(I)Z" } : Jvm.MethodName) prog_1_method_45_code (1 : Nat) (Option.some Jvm.ClassFile.FieldType.boolean)) ∈ TB := tb_of 850 _ (by decide +kernel) rfl
theorem wd_851 : (Jvm.Cond.methodLink "RopeSwingLaw" (72 : Nat) ({ cls := "RopeSwing", name := "wide", desc := "(II)I" } : Jvm.MethodName)) ∈ TB := tb_of 851 _ (by decide +kernel) rfl
theorem wd_852 : (Jvm.Cond.instanceMethod ({ cls := "RopeSwing", name := "wide", desc := "(II)I" } : Jvm.MethodName)) ∈ TB := tb_of 852 _ (by decide +kernel) rfl
theorem wd_853 : (Jvm.Cond.selects "RopeSwing" ({ cls := "RopeSwing", name := "wide", desc := "(II)I" } : Jvm.MethodName) ({ cls := "RopeSwing", name := "wide", desc := "(II)I" } : Jvm.MethodName)) ∈ TB := tb_of 853 _ (by decide +kernel) rfl
theorem wd_854 : (Jvm.Cond.code ({ cls := "RopeSwing", name := "wide", desc := "(II)I" } : Jvm.MethodName) prog_1_method_15_code (4 : Nat) (Option.some Jvm.ClassFile.FieldType.int)) ∈ TB := tb_of 854 _ (by decide +kernel) rfl
theorem wd_855 : (Jvm.Cond.methodLink "RopeSwingLaw" (76 : Nat) ({ cls := "RopeSwing", name := "odds", desc := "(III)I" } : Jvm.MethodName)) ∈ TB := tb_of 855 _ (by decide +kernel) rfl
theorem wd_856 : (Jvm.Cond.instanceMethod ({ cls := "RopeSwing", name := "odds", desc := "(III)I" } : Jvm.MethodName)) ∈ TB := tb_of 856 _ (by decide +kernel) rfl
theorem wd_857 : (Jvm.Cond.selects "RopeSwing" ({ cls := "RopeSwing", name := "odds", desc := "(III)I" } : Jvm.MethodName) ({ cls := "RopeSwing", name := "odds", desc := "(III)I" } : Jvm.MethodName)) ∈ TB := tb_of 857 _ (by decide +kernel) rfl
theorem wd_858 : (Jvm.Cond.code ({ cls := "RopeSwing", name := "odds", desc := "(III)I" } : Jvm.MethodName) prog_1_method_16_code (7 : Nat) (Option.some Jvm.ClassFile.FieldType.int)) ∈ TB := tb_of 858 _ (by decide +kernel) rfl
theorem wd_859 : (Jvm.Cond.methodLink "RopeSwing" (244 : Nat) ({ cls := "RopeSwing$Jump", name := "endsGood", desc := "(I)Z" } : Jvm.MethodName)) ∈ TB := tb_of 859 _ (by decide +kernel) rfl
theorem wd_860 : (Jvm.Cond.constant "RopeSwing" (248 : Nat) (1000000 : Int32)) ∈ TB := tb_of 860 _ (by decide +kernel) rfl
theorem wd_861 : (Jvm.Cond.methodLink "RopeSwing" (249 : Nat) ({ cls := "RopeSwing", name := "quotient", desc := "(II)I" } : Jvm.MethodName)) ∈ TB := tb_of 861 _ (by decide +kernel) rfl
theorem wd_862 : (Jvm.Cond.methodLink "RopeSwingLaw" (80 : Nat) ({ cls := "RopeSwing", name := "strong", desc := "(II)I" } : Jvm.MethodName)) ∈ TB := tb_of 862 _ (by decide +kernel) rfl
theorem wd_863 : (Jvm.Cond.instanceMethod ({ cls := "RopeSwing", name := "strong", desc := "(II)I" } : Jvm.MethodName)) ∈ TB := tb_of 863 _ (by decide +kernel) rfl
theorem wd_864 : (Jvm.Cond.selects "RopeSwing" ({ cls := "RopeSwing", name := "strong", desc := "(II)I" } : Jvm.MethodName) ({ cls := "RopeSwing", name := "strong", desc := "(II)I" } : Jvm.MethodName)) ∈ TB := tb_of 864 _ (by decide +kernel) rfl
theorem wd_865 : (Jvm.Cond.code ({ cls := "RopeSwing", name := "strong", desc := "(II)I" } : Jvm.MethodName) prog_1_method_17_code (5 : Nat) (Option.some Jvm.ClassFile.FieldType.int)) ∈ TB := tb_of 865 _ (by decide +kernel) rfl
theorem wd_866 : (Jvm.Cond.methodLink "RopeSwing" (252 : Nat) ({ cls := "RopeSwing$Swinger", name := "least", desc := "(I)I" } : Jvm.MethodName)) ∈ TB := tb_of 866 _ (by decide +kernel) rfl
theorem wd_867 : (Jvm.Cond.methodLink "RopeSwing" (255 : Nat) ({ cls := "RopeSwing$Swinger", name := "most", desc := "(I)I" } : Jvm.MethodName)) ∈ TB := tb_of 867 _ (by decide +kernel) rfl
theorem wd_868 : (Jvm.Cond.methodLink "RopeSwingLaw" (84 : Nat) ({ cls := "RopeSwing", name := "heavy", desc := "()I" } : Jvm.MethodName)) ∈ TB := tb_of 868 _ (by decide +kernel) rfl
theorem wd_869 : (Jvm.Cond.instanceMethod ({ cls := "RopeSwing", name := "heavy", desc := "()I" } : Jvm.MethodName)) ∈ TB := tb_of 869 _ (by decide +kernel) rfl
theorem wd_870 : (Jvm.Cond.selects "RopeSwing" ({ cls := "RopeSwing", name := "heavy", desc := "()I" } : Jvm.MethodName) ({ cls := "RopeSwing", name := "heavy", desc := "()I" } : Jvm.MethodName)) ∈ TB := tb_of 870 _ (by decide +kernel) rfl
theorem wd_871 : (Jvm.Cond.code ({ cls := "RopeSwing", name := "heavy", desc := "()I" } : Jvm.MethodName) prog_1_method_18_code (3 : Nat) (Option.some Jvm.ClassFile.FieldType.int)) ∈ TB := tb_of 871 _ (by decide +kernel) rfl
theorem wd_872 : (Jvm.Cond.methodLink "RopeSwing" (258 : Nat) ({ cls := "RopeSwing$Path", name := "hardestPull", desc := "(I)I" } : Jvm.MethodName)) ∈ TB := tb_of 872 _ (by decide +kernel) rfl
theorem wd_873 : (Jvm.Cond.instanceMethod ({ cls := "RopeSwing$Path", name := "hardestPull", desc := "(I)I" } : Jvm.MethodName)) ∈ TB := tb_of 873 _ (by decide +kernel) rfl
theorem wd_874 : (Jvm.Cond.selects "RopeSwing$Path" ({ cls := "RopeSwing$Path", name := "hardestPull", desc := "(I)I" } : Jvm.MethodName) ({ cls := "RopeSwing$Path", name := "hardestPull", desc := "(I)I" } : Jvm.MethodName)) ∈ TB := tb_of 874 _ (by decide +kernel) rfl
theorem wd_875 : (Jvm.Cond.code ({ cls := "RopeSwing$Path", name := "hardestPull", desc := "(I)I" } : Jvm.MethodName) prog_3_method_12_code (4 : Nat) (Option.some Jvm.ClassFile.FieldType.int)) ∈ TB := tb_of 875 _ (by decide +kernel) rfl
theorem wd_876 : (Jvm.Cond.methodLink "RopeSwingLaw" (88 : Nat) ({ cls := "RopeSwing", name := "may", desc := "()I" } : Jvm.MethodName)) ∈ TB := tb_of 876 _ (by decide +kernel) rfl
theorem wd_877 : (Jvm.Cond.instanceMethod ({ cls := "RopeSwing", name := "may", desc := "()I" } : Jvm.MethodName)) ∈ TB := tb_of 877 _ (by decide +kernel) rfl
theorem wd_878 : (Jvm.Cond.selects "RopeSwing" ({ cls := "RopeSwing", name := "may", desc := "()I" } : Jvm.MethodName) ({ cls := "RopeSwing", name := "may", desc := "()I" } : Jvm.MethodName)) ∈ TB := tb_of 878 _ (by decide +kernel) rfl
theorem wd_879 : (Jvm.Cond.code ({ cls := "RopeSwing", name := "may", desc := "()I" } : Jvm.MethodName) prog_1_method_19_code (4 : Nat) (Option.some Jvm.ClassFile.FieldType.int)) ∈ TB := tb_of 879 _ (by decide +kernel) rfl
theorem wd_880 : (Jvm.Cond.methodLink "RopeSwing" (261 : Nat) ({ cls := "RopeSwing$Jump", name := "hasGoodTime", desc := "()Z" } : Jvm.MethodName)) ∈ TB := tb_of 880 _ (by decide +kernel) rfl
theorem wd_881 : (Jvm.Cond.instanceMethod ({ cls := "RopeSwing$Jump", name := "hasGoodTime", desc := "()Z" } : Jvm.MethodName)) ∈ TB := tb_of 881 _ (by decide +kernel) rfl
theorem wd_882 : (Jvm.Cond.selects "RopeSwing$Jump" ({ cls := "RopeSwing$Jump", name := "hasGoodTime", desc := "()Z" } : Jvm.MethodName) ({ cls := "RopeSwing$Jump", name := "hasGoodTime", desc := "()Z" } : Jvm.MethodName)) ∈ TB := tb_of 882 _ (by decide +kernel) rfl
theorem wd_883 : (Jvm.Cond.code ({ cls := "RopeSwing$Jump", name := "hasGoodTime", desc := "()Z" } : Jvm.MethodName) prog_2_method_10_code (2 : Nat) (Option.some Jvm.ClassFile.FieldType.boolean)) ∈ TB := tb_of 883 _ (by decide +kernel) rfl
theorem wd_884 : (Jvm.Cond.methodLink "RopeSwing$Jump" (125 : Nat) ({ cls := "RopeSwing$Jump", name := "endsGood", desc := "(I)Z" } : Jvm.MethodName)) ∈ TB := tb_of 884 _ (by decide +kernel) rfl
theorem wd_885 : (Jvm.Cond.methodLink "RopeSwingLaw" (92 : Nat) ({ cls := "RopeSwing", name := "months", desc := "(I)I" } : Jvm.MethodName)) ∈ TB := tb_of 885 _ (by decide +kernel) rfl
theorem wd_886 : (Jvm.Cond.instanceMethod ({ cls := "RopeSwing", name := "months", desc := "(I)I" } : Jvm.MethodName)) ∈ TB := tb_of 886 _ (by decide +kernel) rfl
theorem wd_887 : (Jvm.Cond.selects "RopeSwing" ({ cls := "RopeSwing", name := "months", desc := "(I)I" } : Jvm.MethodName) ({ cls := "RopeSwing", name := "months", desc := "(I)I" } : Jvm.MethodName)) ∈ TB := tb_of 887 _ (by decide +kernel) rfl
theorem wd_888 : (Jvm.Cond.code ({ cls := "RopeSwing", name := "months", desc := "(I)I" } : Jvm.MethodName) prog_1_method_20_code (5 : Nat) (Option.some Jvm.ClassFile.FieldType.int)) ∈ TB := tb_of 888 _ (by decide +kernel) rfl
theorem wd_889 : (Jvm.Cond.methodLink "RopeSwingLaw" (96 : Nat) ({ cls := "RopeSwing", name := "rope", desc := "(II)I" } : Jvm.MethodName)) ∈ TB := tb_of 889 _ (by decide +kernel) rfl
theorem wd_890 : (Jvm.Cond.instanceMethod ({ cls := "RopeSwing", name := "rope", desc := "(II)I" } : Jvm.MethodName)) ∈ TB := tb_of 890 _ (by decide +kernel) rfl
theorem wd_891 : (Jvm.Cond.selects "RopeSwing" ({ cls := "RopeSwing", name := "rope", desc := "(II)I" } : Jvm.MethodName) ({ cls := "RopeSwing", name := "rope", desc := "(II)I" } : Jvm.MethodName)) ∈ TB := tb_of 891 _ (by decide +kernel) rfl
theorem wd_892 : (Jvm.Cond.code ({ cls := "RopeSwing", name := "rope", desc := "(II)I" } : Jvm.MethodName) prog_1_method_21_code (9 : Nat) (Option.some Jvm.ClassFile.FieldType.int)) ∈ TB := tb_of 892 _ (by decide +kernel) rfl
theorem wd_893 : (Jvm.Cond.methodLink "RopeSwingLaw" (100 : Nat) ({ cls := "RopeSwing", name := "turn", desc := "(II)I" } : Jvm.MethodName)) ∈ TB := tb_of 893 _ (by decide +kernel) rfl
theorem wd_894 : (Jvm.Cond.instanceMethod ({ cls := "RopeSwing", name := "turn", desc := "(II)I" } : Jvm.MethodName)) ∈ TB := tb_of 894 _ (by decide +kernel) rfl
theorem wd_895 : (Jvm.Cond.selects "RopeSwing" ({ cls := "RopeSwing", name := "turn", desc := "(II)I" } : Jvm.MethodName) ({ cls := "RopeSwing", name := "turn", desc := "(II)I" } : Jvm.MethodName)) ∈ TB := tb_of 895 _ (by decide +kernel) rfl
theorem wd_896 : (Jvm.Cond.code ({ cls := "RopeSwing", name := "turn", desc := "(II)I" } : Jvm.MethodName) prog_1_method_22_code (5 : Nat) (Option.some Jvm.ClassFile.FieldType.int)) ∈ TB := tb_of 896 _ (by decide +kernel) rfl
theorem wd_897 : (Jvm.Cond.methodLink "RopeSwingLaw" (104 : Nat) ({ cls := "RopeSwing", name := "film", desc := "(II)I" } : Jvm.MethodName)) ∈ TB := tb_of 897 _ (by decide +kernel) rfl
theorem wd_898 : (Jvm.Cond.instanceMethod ({ cls := "RopeSwing", name := "film", desc := "(II)I" } : Jvm.MethodName)) ∈ TB := tb_of 898 _ (by decide +kernel) rfl
theorem wd_899 : (Jvm.Cond.selects "RopeSwing" ({ cls := "RopeSwing", name := "film", desc := "(II)I" } : Jvm.MethodName) ({ cls := "RopeSwing", name := "film", desc := "(II)I" } : Jvm.MethodName)) ∈ TB := tb_of 899 _ (by decide +kernel) rfl
theorem wd_900 : (Jvm.Cond.code ({ cls := "RopeSwing", name := "film", desc := "(II)I" } : Jvm.MethodName) prog_1_method_23_code (7 : Nat) (Option.some Jvm.ClassFile.FieldType.int)) ∈ TB := tb_of 900 _ (by decide +kernel) rfl
theorem wd_901 : (Jvm.Cond.constant "RopeSwing" (280 : Nat) (2147483647 : Int32)) ∈ TB := tb_of 901 _ (by decide +kernel) rfl
theorem wd_902 : (Jvm.Cond.methodLink "RopeSwing" (281 : Nat) ({ cls := "RopeSwing$Pendulum", name := "begin", desc := "(III)V" } : Jvm.MethodName)) ∈ TB := tb_of 902 _ (by decide +kernel) rfl
theorem wd_903 : (Jvm.Cond.methodLink "RopeSwing" (284 : Nat) ({ cls := "RopeSwing$Pendulum", name := "swing", desc := "()V" } : Jvm.MethodName)) ∈ TB := tb_of 903 _ (by decide +kernel) rfl
theorem wd_904 : (Jvm.Cond.methodLink "RopeSwing" (289 : Nat) ({ cls := "java/lang/Math", name := "abs", desc := "(I)I" } : Jvm.MethodName)) ∈ TB := tb_of 904 _ (by decide +kernel) rfl
theorem wd_905 : (Jvm.Cond.static ({ cls := "java/lang/Math", name := "abs", desc := "(I)I" } : Jvm.MethodName)) ∈ TB := tb_of 905 _ (by decide +kernel) rfl
theorem wd_906 : (Jvm.Cond.code ({ cls := "java/lang/Math", name := "abs", desc := "(I)I" } : Jvm.MethodName) prog_14_method_59_code (1 : Nat) (Option.some Jvm.ClassFile.FieldType.int)) ∈ TB := tb_of 906 _ (by decide +kernel) rfl
theorem wd_907 : (Jvm.Cond.methodLink "RopeSwingLaw" (108 : Nat) ({ cls := "RopeSwing", name := "age", desc := "(I)I" } : Jvm.MethodName)) ∈ TB := tb_of 907 _ (by decide +kernel) rfl
theorem wd_908 : (Jvm.Cond.instanceMethod ({ cls := "RopeSwing", name := "age", desc := "(I)I" } : Jvm.MethodName)) ∈ TB := tb_of 908 _ (by decide +kernel) rfl
theorem wd_909 : (Jvm.Cond.selects "RopeSwing" ({ cls := "RopeSwing", name := "age", desc := "(I)I" } : Jvm.MethodName) ({ cls := "RopeSwing", name := "age", desc := "(I)I" } : Jvm.MethodName)) ∈ TB := tb_of 909 _ (by decide +kernel) rfl
theorem wd_910 : (Jvm.Cond.code ({ cls := "RopeSwing", name := "age", desc := "(I)I" } : Jvm.MethodName) prog_1_method_24_code (4 : Nat) (Option.some Jvm.ClassFile.FieldType.int)) ∈ TB := tb_of 910 _ (by decide +kernel) rfl
theorem wd_911 : (Jvm.Cond.methodLink "RopeSwingLaw" (112 : Nat) ({ cls := "RopeSwing", name := "harmed", desc := "(I)I" } : Jvm.MethodName)) ∈ TB := tb_of 911 _ (by decide +kernel) rfl
theorem wd_912 : (Jvm.Cond.instanceMethod ({ cls := "RopeSwing", name := "harmed", desc := "(I)I" } : Jvm.MethodName)) ∈ TB := tb_of 912 _ (by decide +kernel) rfl
theorem wd_913 : (Jvm.Cond.selects "RopeSwing" ({ cls := "RopeSwing", name := "harmed", desc := "(I)I" } : Jvm.MethodName) ({ cls := "RopeSwing", name := "harmed", desc := "(I)I" } : Jvm.MethodName)) ∈ TB := tb_of 913 _ (by decide +kernel) rfl
theorem wd_914 : (Jvm.Cond.code ({ cls := "RopeSwing", name := "harmed", desc := "(I)I" } : Jvm.MethodName) prog_1_method_25_code (2 : Nat) (Option.some Jvm.ClassFile.FieldType.int)) ∈ TB := tb_of 914 _ (by decide +kernel) rfl
theorem wd_915 : (Jvm.Cond.methodLink "RopeSwing" (297 : Nat) ({ cls := "RopeSwing", name := "findFarthest", desc := "()V" } : Jvm.MethodName)) ∈ TB := tb_of 915 _ (by decide +kernel) rfl
theorem wd_917 : (Jvm.Cond.instanceMethod ({ cls := "RopeSwing", name := "findFarthest", desc := "()V" } : Jvm.MethodName)) ∈ TB := tb_of 917 _ (by decide +kernel) rfl
theorem wd_918 : (Jvm.Cond.code ({ cls := "RopeSwing", name := "findFarthest", desc := "()V" } : Jvm.MethodName) prog_1_method_40_code (3 : Nat) (Option.none : Option Jvm.ClassFile.FieldType)) ∈ TB := tb_of 918 _ (by decide +kernel) rfl
theorem wd_919 : (Jvm.Cond.methodLink "RopeSwing" (344 : Nat) ({ cls := "RopeSwing", name := "put", desc := "([III)V" } : Jvm.MethodName)) ∈ TB := tb_of 919 _ (by decide +kernel) rfl
theorem wd_920 : (Jvm.Cond.methodLink "RopeSwing" (300 : Nat) ({ cls := "RopeSwing", name := "harmedBy", desc := "(I)I" } : Jvm.MethodName)) ∈ TB := tb_of 920 _ (by decide +kernel) rfl
theorem wd_922 : (Jvm.Cond.instanceMethod ({ cls := "RopeSwing", name := "harmedBy", desc := "(I)I" } : Jvm.MethodName)) ∈ TB := tb_of 922 _ (by decide +kernel) rfl
theorem wd_923 : (Jvm.Cond.code ({ cls := "RopeSwing", name := "harmedBy", desc := "(I)I" } : Jvm.MethodName) prog_1_method_41_code (5 : Nat) (Option.some Jvm.ClassFile.FieldType.int)) ∈ TB := tb_of 923 _ (by decide +kernel) rfl
theorem wd_924 : (Jvm.Cond.methodLink "RopeSwing" (348 : Nat) ({ cls := "RopeSwing", name := "keptOut", desc := "(LRopeSwing$Swinger;I)Z" } : Jvm.MethodName)) ∈ TB := tb_of 924 _ (by decide +kernel) rfl
theorem wd_926 : (Jvm.Cond.instanceMethod ({ cls := "RopeSwing", name := "keptOut", desc := "(LRopeSwing$Swinger;I)Z" } : Jvm.MethodName)) ∈ TB := tb_of 926 _ (by decide +kernel) rfl
theorem wd_927 : (Jvm.Cond.code ({ cls := "RopeSwing", name := "keptOut", desc := "(LRopeSwing$Swinger;I)Z" } : Jvm.MethodName) prog_1_method_42_code (3 : Nat) (Option.some Jvm.ClassFile.FieldType.boolean)) ∈ TB := tb_of 927 _ (by decide +kernel) rfl
theorem wd_928 : (Jvm.Cond.methodLink "RopeSwing" (352 : Nat) ({ cls := "RopeSwing", name := "comesToHarm", desc := "(LRopeSwing$Swinger;II)Z" } : Jvm.MethodName)) ∈ TB := tb_of 928 _ (by decide +kernel) rfl
theorem wd_930 : (Jvm.Cond.instanceMethod ({ cls := "RopeSwing", name := "comesToHarm", desc := "(LRopeSwing$Swinger;II)Z" } : Jvm.MethodName)) ∈ TB := tb_of 930 _ (by decide +kernel) rfl
theorem wd_931 : (Jvm.Cond.code ({ cls := "RopeSwing", name := "comesToHarm", desc := "(LRopeSwing$Swinger;II)Z" } : Jvm.MethodName) prog_1_method_43_code (5 : Nat) (Option.some Jvm.ClassFile.FieldType.boolean)) ∈ TB := tb_of 931 _ (by decide +kernel) rfl
theorem wd_932 : (Jvm.Cond.methodLink "RopeSwingLaw" (116 : Nat) ({ cls := "RopeSwing", name := "enough", desc := "()I" } : Jvm.MethodName)) ∈ TB := tb_of 932 _ (by decide +kernel) rfl
theorem wd_933 : (Jvm.Cond.instanceMethod ({ cls := "RopeSwing", name := "enough", desc := "()I" } : Jvm.MethodName)) ∈ TB := tb_of 933 _ (by decide +kernel) rfl
theorem wd_934 : (Jvm.Cond.selects "RopeSwing" ({ cls := "RopeSwing", name := "enough", desc := "()I" } : Jvm.MethodName) ({ cls := "RopeSwing", name := "enough", desc := "()I" } : Jvm.MethodName)) ∈ TB := tb_of 934 _ (by decide +kernel) rfl
theorem wd_935 : (Jvm.Cond.code ({ cls := "RopeSwing", name := "enough", desc := "()I" } : Jvm.MethodName) prog_1_method_26_code (5 : Nat) (Option.some Jvm.ClassFile.FieldType.int)) ∈ TB := tb_of 935 _ (by decide +kernel) rfl
theorem wd_936 : (Jvm.Cond.methodLink "RopeSwing" (303 : Nat) ({ cls := "java/lang/Integer", name := "bitCount", desc := "(I)I" } : Jvm.MethodName)) ∈ TB := tb_of 936 _ (by decide +kernel) rfl
theorem wd_937 : (Jvm.Cond.static ({ cls := "java/lang/Integer", name := "bitCount", desc := "(I)I" } : Jvm.MethodName)) ∈ TB := tb_of 937 _ (by decide +kernel) rfl
theorem wd_938 : (Jvm.Cond.code ({ cls := "java/lang/Integer", name := "bitCount", desc := "(I)I" } : Jvm.MethodName) prog_13_method_49_code (1 : Nat) (Option.some Jvm.ClassFile.FieldType.int)) ∈ TB := tb_of 938 _ (by decide +kernel) rfl
theorem wd_939 : (Jvm.Cond.constant "java/lang/Integer" (265 : Nat) (1431655765 : Int32)) ∈ TB := tb_of 939 _ (by decide +kernel) rfl
theorem wd_940 : (Jvm.Cond.constant "java/lang/Integer" (266 : Nat) (858993459 : Int32)) ∈ TB := tb_of 940 _ (by decide +kernel) rfl
theorem wd_941 : (Jvm.Cond.constant "java/lang/Integer" (267 : Nat) (252645135 : Int32)) ∈ TB := tb_of 941 _ (by decide +kernel) rfl
theorem wd_942 : (Jvm.Cond.methodLink "RopeSwingLaw" (120 : Nat) ({ cls := "RopeSwing", name := "seed", desc := "(I)I" } : Jvm.MethodName)) ∈ TB := tb_of 942 _ (by decide +kernel) rfl
theorem wd_943 : (Jvm.Cond.instanceMethod ({ cls := "RopeSwing", name := "seed", desc := "(I)I" } : Jvm.MethodName)) ∈ TB := tb_of 943 _ (by decide +kernel) rfl
theorem wd_944 : (Jvm.Cond.selects "RopeSwing" ({ cls := "RopeSwing", name := "seed", desc := "(I)I" } : Jvm.MethodName) ({ cls := "RopeSwing", name := "seed", desc := "(I)I" } : Jvm.MethodName)) ∈ TB := tb_of 944 _ (by decide +kernel) rfl
theorem wd_945 : (Jvm.Cond.code ({ cls := "RopeSwing", name := "seed", desc := "(I)I" } : Jvm.MethodName) prog_1_method_27_code (3 : Nat) (Option.some Jvm.ClassFile.FieldType.int)) ∈ TB := tb_of 945 _ (by decide +kernel) rfl
theorem wd_946 : (Jvm.Cond.methodLink "RopeSwingLaw" (124 : Nat) ({ cls := "RopeSwing", name := "afternoon", desc := "(I)I" } : Jvm.MethodName)) ∈ TB := tb_of 946 _ (by decide +kernel) rfl
theorem wd_947 : (Jvm.Cond.instanceMethod ({ cls := "RopeSwing", name := "afternoon", desc := "(I)I" } : Jvm.MethodName)) ∈ TB := tb_of 947 _ (by decide +kernel) rfl
theorem wd_948 : (Jvm.Cond.selects "RopeSwing" ({ cls := "RopeSwing", name := "afternoon", desc := "(I)I" } : Jvm.MethodName) ({ cls := "RopeSwing", name := "afternoon", desc := "(I)I" } : Jvm.MethodName)) ∈ TB := tb_of 948 _ (by decide +kernel) rfl
theorem wd_949 : (Jvm.Cond.code ({ cls := "RopeSwing", name := "afternoon", desc := "(I)I" } : Jvm.MethodName) prog_1_method_28_code (6 : Nat) (Option.some Jvm.ClassFile.FieldType.int)) ∈ TB := tb_of 949 _ (by decide +kernel) rfl
theorem wd_950 : (Jvm.Cond.methodLink "RopeSwing" (311 : Nat) ({ cls := "RopeSwing$State", name := "draw", desc := "(I)I" } : Jvm.MethodName)) ∈ TB := tb_of 950 _ (by decide +kernel) rfl
theorem wd_951 : (Jvm.Cond.instanceMethod ({ cls := "RopeSwing$State", name := "draw", desc := "(I)I" } : Jvm.MethodName)) ∈ TB := tb_of 951 _ (by decide +kernel) rfl
theorem wd_952 : (Jvm.Cond.selects "RopeSwing$State" ({ cls := "RopeSwing$State", name := "draw", desc := "(I)I" } : Jvm.MethodName) ({ cls := "RopeSwing$State", name := "draw", desc := "(I)I" } : Jvm.MethodName)) ∈ TB := tb_of 952 _ (by decide +kernel) rfl
theorem wd_953 : (Jvm.Cond.code ({ cls := "RopeSwing$State", name := "draw", desc := "(I)I" } : Jvm.MethodName) prog_7_method_5_code (2 : Nat) (Option.some Jvm.ClassFile.FieldType.int)) ∈ TB := tb_of 953 _ (by decide +kernel) rfl
theorem wd_954 : (Jvm.Cond.constantLong "RopeSwing$State" (40 : Nat) (1103515245 : Int64)) ∈ TB := tb_of 954 _ (by decide +kernel) rfl
theorem wd_955 : (Jvm.Cond.constantLong "RopeSwing$State" (42 : Nat) (12345 : Int64)) ∈ TB := tb_of 955 _ (by decide +kernel) rfl
theorem wd_956 : (Jvm.Cond.constantLong "RopeSwing$State" (44 : Nat) (2147483648 : Int64)) ∈ TB := tb_of 956 _ (by decide +kernel) rfl
theorem wd_957 : (Jvm.Cond.constant "RopeSwing$State" (46 : Nat) (65536 : Int32)) ∈ TB := tb_of 957 _ (by decide +kernel) rfl
theorem wd_958 : (Jvm.Cond.methodLink "RopeSwing" (314 : Nat) ({ cls := "RopeSwing$State", name := "count", desc := "(I)V" } : Jvm.MethodName)) ∈ TB := tb_of 958 _ (by decide +kernel) rfl
theorem wd_959 : (Jvm.Cond.instanceMethod ({ cls := "RopeSwing$State", name := "count", desc := "(I)V" } : Jvm.MethodName)) ∈ TB := tb_of 959 _ (by decide +kernel) rfl
theorem wd_960 : (Jvm.Cond.selects "RopeSwing$State" ({ cls := "RopeSwing$State", name := "count", desc := "(I)V" } : Jvm.MethodName) ({ cls := "RopeSwing$State", name := "count", desc := "(I)V" } : Jvm.MethodName)) ∈ TB := tb_of 960 _ (by decide +kernel) rfl
theorem wd_961 : (Jvm.Cond.code ({ cls := "RopeSwing$State", name := "count", desc := "(I)V" } : Jvm.MethodName) prog_7_method_6_code (2 : Nat) (Option.none : Option Jvm.ClassFile.FieldType)) ∈ TB := tb_of 961 _ (by decide +kernel) rfl
theorem wd_962 : (Jvm.Cond.methodLink "RopeSwing" (317 : Nat) ({ cls := "RopeSwing", name := "isGood", desc := "(I)Z" } : Jvm.MethodName)) ∈ TB := tb_of 962 _ (by decide +kernel) rfl
theorem wd_963 : (Jvm.Cond.methodLink "RopeSwingLaw" (128 : Nat) ({ cls := "RopeSwing", name := "ends", desc := "(I)I" } : Jvm.MethodName)) ∈ TB := tb_of 963 _ (by decide +kernel) rfl
theorem wd_964 : (Jvm.Cond.instanceMethod ({ cls := "RopeSwing", name := "ends", desc := "(I)I" } : Jvm.MethodName)) ∈ TB := tb_of 964 _ (by decide +kernel) rfl
theorem wd_965 : (Jvm.Cond.selects "RopeSwing" ({ cls := "RopeSwing", name := "ends", desc := "(I)I" } : Jvm.MethodName) ({ cls := "RopeSwing", name := "ends", desc := "(I)I" } : Jvm.MethodName)) ∈ TB := tb_of 965 _ (by decide +kernel) rfl
theorem wd_966 : (Jvm.Cond.code ({ cls := "RopeSwing", name := "ends", desc := "(I)I" } : Jvm.MethodName) prog_1_method_29_code (2 : Nat) (Option.some Jvm.ClassFile.FieldType.int)) ∈ TB := tb_of 966 _ (by decide +kernel) rfl
theorem wd_967 : (Jvm.Cond.methodLink "RopeSwing" (320 : Nat) ({ cls := "RopeSwing$State", name := "counted", desc := "(I)I" } : Jvm.MethodName)) ∈ TB := tb_of 967 _ (by decide +kernel) rfl
theorem wd_968 : (Jvm.Cond.instanceMethod ({ cls := "RopeSwing$State", name := "counted", desc := "(I)I" } : Jvm.MethodName)) ∈ TB := tb_of 968 _ (by decide +kernel) rfl
theorem wd_969 : (Jvm.Cond.selects "RopeSwing$State" ({ cls := "RopeSwing$State", name := "counted", desc := "(I)I" } : Jvm.MethodName) ({ cls := "RopeSwing$State", name := "counted", desc := "(I)I" } : Jvm.MethodName)) ∈ TB := tb_of 969 _ (by decide +kernel) rfl
theorem wd_970 : (Jvm.Cond.code ({ cls := "RopeSwing$State", name := "counted", desc := "(I)I" } : Jvm.MethodName) prog_7_method_7_code (2 : Nat) (Option.some Jvm.ClassFile.FieldType.int)) ∈ TB := tb_of 970 _ (by decide +kernel) rfl
theorem wd_971 : (Jvm.Cond.methodLink "RopeSwingLaw" (132 : Nat) ({ cls := "RopeSwing", name := "keep", desc := "(I)I" } : Jvm.MethodName)) ∈ TB := tb_of 971 _ (by decide +kernel) rfl
theorem wd_972 : (Jvm.Cond.instanceMethod ({ cls := "RopeSwing", name := "keep", desc := "(I)I" } : Jvm.MethodName)) ∈ TB := tb_of 972 _ (by decide +kernel) rfl
theorem wd_973 : (Jvm.Cond.selects "RopeSwing" ({ cls := "RopeSwing", name := "keep", desc := "(I)I" } : Jvm.MethodName) ({ cls := "RopeSwing", name := "keep", desc := "(I)I" } : Jvm.MethodName)) ∈ TB := tb_of 973 _ (by decide +kernel) rfl
theorem wd_974 : (Jvm.Cond.code ({ cls := "RopeSwing", name := "keep", desc := "(I)I" } : Jvm.MethodName) prog_1_method_30_code (3 : Nat) (Option.some Jvm.ClassFile.FieldType.int)) ∈ TB := tb_of 974 _ (by decide +kernel) rfl
theorem wd_975 : (Jvm.Cond.methodLink "RopeSwing" (323 : Nat) ({ cls := "RopeSwing", name := "imageAt", desc := "(I)LRopeSwing$State;" } : Jvm.MethodName)) ∈ TB := tb_of 975 _ (by decide +kernel) rfl
theorem wd_977 : (Jvm.Cond.instanceMethod ({ cls := "RopeSwing", name := "imageAt", desc := "(I)LRopeSwing$State;" } : Jvm.MethodName)) ∈ TB := tb_of 977 _ (by decide +kernel) rfl
theorem wd_978 : (Jvm.Cond.code ({ cls := "RopeSwing", name := "imageAt", desc := "(I)LRopeSwing$State;" } : Jvm.MethodName) prog_1_method_33_code (2 : Nat) (Option.some (Jvm.ClassFile.FieldType.object "RopeSwing$State"))) ∈ TB := tb_of 978 _ (by decide +kernel) rfl
theorem wd_979 : (Jvm.Cond.methodLink "RopeSwing" (327 : Nat) ({ cls := "RopeSwing$State", name := "copy", desc := "(LRopeSwing$State;)V" } : Jvm.MethodName)) ∈ TB := tb_of 979 _ (by decide +kernel) rfl
theorem wd_980 : (Jvm.Cond.instanceMethod ({ cls := "RopeSwing$State", name := "copy", desc := "(LRopeSwing$State;)V" } : Jvm.MethodName)) ∈ TB := tb_of 980 _ (by decide +kernel) rfl
theorem wd_981 : (Jvm.Cond.selects "RopeSwing$State" ({ cls := "RopeSwing$State", name := "copy", desc := "(LRopeSwing$State;)V" } : Jvm.MethodName) ({ cls := "RopeSwing$State", name := "copy", desc := "(LRopeSwing$State;)V" } : Jvm.MethodName)) ∈ TB := tb_of 981 _ (by decide +kernel) rfl
theorem wd_982 : (Jvm.Cond.code ({ cls := "RopeSwing$State", name := "copy", desc := "(LRopeSwing$State;)V" } : Jvm.MethodName) prog_7_method_8_code (2 : Nat) (Option.none : Option Jvm.ClassFile.FieldType)) ∈ TB := tb_of 982 _ (by decide +kernel) rfl
theorem wd_983 : (Jvm.Cond.methodLink "RopeSwing$State" (47 : Nat) ({ cls := "java/lang/Math", name := "min", desc := "(II)I" } : Jvm.MethodName)) ∈ TB := tb_of 983 _ (by decide +kernel) rfl
theorem wd_984 : (Jvm.Cond.methodLink "RopeSwing$State" (53 : Nat) ({ cls := "java/lang/System", name := "arraycopy", desc := "(Ljava/lang/Object;ILjava/lang/Object;II)V" } : Jvm.MethodName)) ∈ TB := tb_of 984 _ (by decide +kernel) rfl
theorem wd_985 : (Jvm.Cond.methodLink "RopeSwingLaw" (136 : Nat) ({ cls := "RopeSwing", name := "goBack", desc := "(I)I" } : Jvm.MethodName)) ∈ TB := tb_of 985 _ (by decide +kernel) rfl
theorem wd_986 : (Jvm.Cond.instanceMethod ({ cls := "RopeSwing", name := "goBack", desc := "(I)I" } : Jvm.MethodName)) ∈ TB := tb_of 986 _ (by decide +kernel) rfl
theorem wd_987 : (Jvm.Cond.selects "RopeSwing" ({ cls := "RopeSwing", name := "goBack", desc := "(I)I" } : Jvm.MethodName) ({ cls := "RopeSwing", name := "goBack", desc := "(I)I" } : Jvm.MethodName)) ∈ TB := tb_of 987 _ (by decide +kernel) rfl
theorem wd_988 : (Jvm.Cond.code ({ cls := "RopeSwing", name := "goBack", desc := "(I)I" } : Jvm.MethodName) prog_1_method_31_code (3 : Nat) (Option.some Jvm.ClassFile.FieldType.int)) ∈ TB := tb_of 988 _ (by decide +kernel) rfl
theorem wd_989 : (Jvm.Cond.classLink "RopeSwingLaw" (10 : Nat) "RopeSwingModel") ∈ TB := tb_of 989 _ (by decide +kernel) rfl
theorem wd_990 : (Jvm.Cond.instantiable "RopeSwingModel" (46 : Nat)) ∈ TB := tb_of 990 _ (by decide +kernel) rfl
theorem wd_991 : (Jvm.Cond.methodLink "RopeSwingLaw" (12 : Nat) ({ cls := "RopeSwingModel", name := "<init>", desc := "()V" } : Jvm.MethodName)) ∈ TB := tb_of 991 _ (by decide +kernel) rfl
theorem wd_992 : (Jvm.Cond.instanceMethod ({ cls := "RopeSwingModel", name := "<init>", desc := "()V" } : Jvm.MethodName)) ∈ TB := tb_of 992 _ (by decide +kernel) rfl
theorem wd_993 : (Jvm.Cond.code ({ cls := "RopeSwingModel", name := "<init>", desc := "()V" } : Jvm.MethodName) prog_12_method_1_code (1 : Nat) (Option.none : Option Jvm.ClassFile.FieldType)) ∈ TB := tb_of 993 _ (by decide +kernel) rfl
theorem wd_994 : (Jvm.Cond.methodLink "RopeSwingModel" (1 : Nat) ({ cls := "java/lang/Object", name := "<init>", desc := "()V" } : Jvm.MethodName)) ∈ TB := tb_of 994 _ (by decide +kernel) rfl
theorem wd_995 : (Jvm.Cond.methodLink "RopeSwingModel" (72 : Nat) ({ cls := "RopeSwingModel", name := "bare", desc := "()V" } : Jvm.MethodName)) ∈ TB := tb_of 995 _ (by decide +kernel) rfl
theorem wd_997 : (Jvm.Cond.instanceMethod ({ cls := "RopeSwingModel", name := "bare", desc := "()V" } : Jvm.MethodName)) ∈ TB := tb_of 997 _ (by decide +kernel) rfl
theorem wd_998 : (Jvm.Cond.code ({ cls := "RopeSwingModel", name := "bare", desc := "()V" } : Jvm.MethodName) prog_12_method_14_code (2 : Nat) (Option.none : Option Jvm.ClassFile.FieldType)) ∈ TB := tb_of 998 _ (by decide +kernel) rfl
theorem wd_999 : (Jvm.Cond.methodLink "RopeSwingModel" (140 : Nat) ({ cls := "RopeSwingModel", name := "untold", desc := "(I)I" } : Jvm.MethodName)) ∈ TB := tb_of 999 _ (by decide +kernel) rfl
theorem wd_1000 : (Jvm.Cond.static ({ cls := "RopeSwingModel", name := "untold", desc := "(I)I" } : Jvm.MethodName)) ∈ TB := tb_of 1000 _ (by decide +kernel) rfl
theorem wd_1001 : (Jvm.Cond.code ({ cls := "RopeSwingModel", name := "untold", desc := "(I)I" } : Jvm.MethodName) prog_12_method_15_code (1 : Nat) (Option.some Jvm.ClassFile.FieldType.int)) ∈ TB := tb_of 1001 _ (by decide +kernel) rfl
theorem wd_1002 : (Jvm.Cond.methodLink "RopeSwingModel" (75 : Nat) ({ cls := "RopeSwingModel", name := "takePlace", desc := "()V" } : Jvm.MethodName)) ∈ TB := tb_of 1002 _ (by decide +kernel) rfl
theorem wd_1004 : (Jvm.Cond.instanceMethod ({ cls := "RopeSwingModel", name := "takePlace", desc := "()V" } : Jvm.MethodName)) ∈ TB := tb_of 1004 _ (by decide +kernel) rfl
theorem wd_1005 : (Jvm.Cond.code ({ cls := "RopeSwingModel", name := "takePlace", desc := "()V" } : Jvm.MethodName) prog_12_method_23_code (2 : Nat) (Option.none : Option Jvm.ClassFile.FieldType)) ∈ TB := tb_of 1005 _ (by decide +kernel) rfl
theorem wd_1006 : (Jvm.Cond.fieldLink "RopeSwingModel" (7 : Nat) "RopeSwingModel" "told" "[I") ∈ TB := tb_of 1006 _ (by decide +kernel) rfl
theorem wd_1007 : (Jvm.Cond.fieldLink "RopeSwingModel" (13 : Nat) "RopeSwingModel" "depths" "[I") ∈ TB := tb_of 1007 _ (by decide +kernel) rfl
theorem wd_1008 : (Jvm.Cond.fieldLink "RopeSwingModel" (16 : Nat) "RopeSwingModel" "isStone" "[Z") ∈ TB := tb_of 1008 _ (by decide +kernel) rfl
theorem wd_1009 : (Jvm.Cond.fieldLink "RopeSwingModel" (20 : Nat) "RopeSwingModel" "lowers" "[I") ∈ TB := tb_of 1009 _ (by decide +kernel) rfl
theorem wd_1010 : (Jvm.Cond.fieldLink "RopeSwingModel" (78 : Nat) "RopeSwingModel" "swingers" "I") ∈ TB := tb_of 1010 _ (by decide +kernel) rfl
theorem wd_1011 : (Jvm.Cond.fieldLink "RopeSwingModel" (23 : Nat) "RopeSwingModel" "people" "[I") ∈ TB := tb_of 1011 _ (by decide +kernel) rfl
theorem wd_1012 : (Jvm.Cond.fieldLink "RopeSwingModel" (26 : Nat) "RopeSwingModel" "hand" "[I") ∈ TB := tb_of 1012 _ (by decide +kernel) rfl
theorem wd_1013 : (Jvm.Cond.fieldLink "RopeSwingModel" (29 : Nat) "RopeSwingModel" "text" "[I") ∈ TB := tb_of 1013 _ (by decide +kernel) rfl
theorem wd_1014 : (Jvm.Cond.fieldLink "RopeSwingModel" (88 : Nat) "RopeSwingModel" "texted" "I") ∈ TB := tb_of 1014 _ (by decide +kernel) rfl
theorem wd_1015 : (Jvm.Cond.fieldLink "RopeSwingModel" (32 : Nat) "RopeSwingModel" "faultPlace" "I") ∈ TB := tb_of 1015 _ (by decide +kernel) rfl
theorem wd_1016 : (Jvm.Cond.fieldLink "RopeSwingModel" (94 : Nat) "RopeSwingModel" "at0" "I") ∈ TB := tb_of 1016 _ (by decide +kernel) rfl
theorem wd_1017 : (Jvm.Cond.fieldLink "RopeSwingModel" (101 : Nat) "RopeSwingModel" "said" "J") ∈ TB := tb_of 1017 _ (by decide +kernel) rfl
theorem wd_1018 : (Jvm.Cond.fieldLink "RopeSwingModel" (105 : Nat) "RopeSwingModel" "wordEnd" "I") ∈ TB := tb_of 1018 _ (by decide +kernel) rfl
theorem wd_1019 : (Jvm.Cond.fieldLink "RopeSwingModel" (131 : Nat) "RopeSwingModel" "number" "I") ∈ TB := tb_of 1019 _ (by decide +kernel) rfl
theorem wd_1020 : (Jvm.Cond.fieldLink "RopeSwingModel" (128 : Nat) "RopeSwingModel" "numberAt" "I") ∈ TB := tb_of 1020 _ (by decide +kernel) rfl
theorem wd_1021 : (Jvm.Cond.fieldLink "RopeSwingModel" (36 : Nat) "RopeSwingModel" "readTold" "[I") ∈ TB := tb_of 1021 _ (by decide +kernel) rfl
theorem wd_1022 : (Jvm.Cond.fieldLink "RopeSwingModel" (39 : Nat) "RopeSwingModel" "readDepths" "[I") ∈ TB := tb_of 1022 _ (by decide +kernel) rfl
theorem wd_1023 : (Jvm.Cond.fieldLink "RopeSwingModel" (42 : Nat) "RopeSwingModel" "readStone" "[Z") ∈ TB := tb_of 1023 _ (by decide +kernel) rfl
theorem wd_1024 : (Jvm.Cond.fieldLink "RopeSwingModel" (45 : Nat) "RopeSwingModel" "readLowers" "[I") ∈ TB := tb_of 1024 _ (by decide +kernel) rfl
theorem wd_1025 : (Jvm.Cond.fieldLink "RopeSwingModel" (134 : Nat) "RopeSwingModel" "toldSet" "I") ∈ TB := tb_of 1025 _ (by decide +kernel) rfl
theorem wd_1026 : (Jvm.Cond.fieldLink "RopeSwingModel" (137 : Nat) "RopeSwingModel" "clauses" "I") ∈ TB := tb_of 1026 _ (by decide +kernel) rfl
theorem wd_1027 : (Jvm.Cond.fieldLink "RopeSwingModel" (230 : Nat) "RopeSwingModel" "ropeLong" "I") ∈ TB := tb_of 1027 _ (by decide +kernel) rfl
theorem wd_1028 : (Jvm.Cond.fieldLink "RopeSwingModel" (233 : Nat) "RopeSwingModel" "run" "I") ∈ TB := tb_of 1028 _ (by decide +kernel) rfl
theorem wd_1029 : (Jvm.Cond.fieldLink "RopeSwingModel" (236 : Nat) "RopeSwingModel" "strength" "I") ∈ TB := tb_of 1029 _ (by decide +kernel) rfl
theorem wd_1030 : (Jvm.Cond.fieldLink "RopeSwingModel" (239 : Nat) "RopeSwingModel" "weight" "I") ∈ TB := tb_of 1030 _ (by decide +kernel) rfl
theorem wd_1031 : (Jvm.Cond.fieldLink "RopeSwingModel" (242 : Nat) "RopeSwingModel" "feet" "I") ∈ TB := tb_of 1031 _ (by decide +kernel) rfl
theorem wd_1032 : (Jvm.Cond.fieldLink "RopeSwingModel" (245 : Nat) "RopeSwingModel" "grip" "I") ∈ TB := tb_of 1032 _ (by decide +kernel) rfl
theorem wd_1033 : (Jvm.Cond.fieldLink "RopeSwingModel" (248 : Nat) "RopeSwingModel" "lag" "I") ∈ TB := tb_of 1033 _ (by decide +kernel) rfl
theorem wd_1034 : (Jvm.Cond.fieldLink "RopeSwingModel" (251 : Nat) "RopeSwingModel" "turning" "I") ∈ TB := tb_of 1034 _ (by decide +kernel) rfl
theorem wd_1035 : (Jvm.Cond.fieldLink "RopeSwingModel" (48 : Nat) "RopeSwingModel" "angleAt" "[I") ∈ TB := tb_of 1035 _ (by decide +kernel) rfl
theorem wd_1036 : (Jvm.Cond.fieldLink "RopeSwingModel" (51 : Nat) "RopeSwingModel" "paceAt" "[I") ∈ TB := tb_of 1036 _ (by decide +kernel) rfl
theorem wd_1037 : (Jvm.Cond.fieldLink "RopeSwingModel" (54 : Nat) "RopeSwingModel" "pullAt" "[I") ∈ TB := tb_of 1037 _ (by decide +kernel) rfl
theorem wd_1038 : (Jvm.Cond.fieldLink "RopeSwingModel" (57 : Nat) "RopeSwingModel" "leftAt" "[I") ∈ TB := tb_of 1038 _ (by decide +kernel) rfl
theorem wd_1039 : (Jvm.Cond.fieldLink "RopeSwingModel" (292 : Nat) "RopeSwingModel" "ended" "I") ∈ TB := tb_of 1039 _ (by decide +kernel) rfl
theorem wd_1040 : (Jvm.Cond.fieldLink "RopeSwingModel" (311 : Nat) "RopeSwingModel" "where" "I") ∈ TB := tb_of 1040 _ (by decide +kernel) rfl
theorem wd_1041 : (Jvm.Cond.fieldLink "RopeSwingModel" (321 : Nat) "RopeSwingModel" "endTick" "I") ∈ TB := tb_of 1041 _ (by decide +kernel) rfl
theorem wd_1042 : (Jvm.Cond.fieldLink "RopeSwingModel" (299 : Nat) "RopeSwingModel" "flew" "I") ∈ TB := tb_of 1042 _ (by decide +kernel) rfl
theorem wd_1043 : (Jvm.Cond.fieldLink "RopeSwingModel" (308 : Nat) "RopeSwingModel" "highest" "I") ∈ TB := tb_of 1043 _ (by decide +kernel) rfl
theorem wd_1044 : (Jvm.Cond.fieldLink "RopeSwingModel" (289 : Nat) "RopeSwingModel" "turned" "I") ∈ TB := tb_of 1044 _ (by decide +kernel) rfl
theorem wd_1045 : (Jvm.Cond.fieldLink "RopeSwingModel" (342 : Nat) "RopeSwingModel" "wideFrom" "I") ∈ TB := tb_of 1045 _ (by decide +kernel) rfl
theorem wd_1046 : (Jvm.Cond.fieldLink "RopeSwingModel" (345 : Nat) "RopeSwingModel" "goodMany" "I") ∈ TB := tb_of 1046 _ (by decide +kernel) rfl
theorem wd_1047 : (Jvm.Cond.fieldLink "RopeSwingModel" (60 : Nat) "RopeSwingModel" "farthest" "[I") ∈ TB := tb_of 1047 _ (by decide +kernel) rfl
theorem wd_1048 : (Jvm.Cond.fieldLink "RopeSwingModel" (379 : Nat) "RopeSwingModel" "seed" "I") ∈ TB := tb_of 1048 _ (by decide +kernel) rfl
theorem wd_1049 : (Jvm.Cond.fieldLink "RopeSwingModel" (63 : Nat) "RopeSwingModel" "endMany" "[I") ∈ TB := tb_of 1049 _ (by decide +kernel) rfl
theorem wd_1050 : (Jvm.Cond.fieldLink "RopeSwingModel" (66 : Nat) "RopeSwingModel" "images" "[I") ∈ TB := tb_of 1050 _ (by decide +kernel) rfl
theorem wd_1051 : (Jvm.Cond.fieldLink "RopeSwingModel" (69 : Nat) "RopeSwingModel" "isKept" "[Z") ∈ TB := tb_of 1051 _ (by decide +kernel) rfl
theorem wd_1052 : (Jvm.Cond.laysFinal "RopeSwingModel" "RopeSwingModel" "told" "[I") ∈ TB := tb_of 1052 _ (by decide +kernel) rfl
theorem wd_1054 : (Jvm.Cond.laysFinal "RopeSwingModel" "RopeSwingModel" "depths" "[I") ∈ TB := tb_of 1054 _ (by decide +kernel) rfl
theorem wd_1056 : (Jvm.Cond.laysFinal "RopeSwingModel" "RopeSwingModel" "isStone" "[Z") ∈ TB := tb_of 1056 _ (by decide +kernel) rfl
theorem wd_1058 : (Jvm.Cond.laysFinal "RopeSwingModel" "RopeSwingModel" "lowers" "[I") ∈ TB := tb_of 1058 _ (by decide +kernel) rfl
theorem wd_1060 : (Jvm.Cond.lays "RopeSwingModel" "RopeSwingModel" "swingers" "I") ∈ TB := tb_of 1060 _ (by decide +kernel) rfl
theorem wd_1062 : (Jvm.Cond.laysFinal "RopeSwingModel" "RopeSwingModel" "people" "[I") ∈ TB := tb_of 1062 _ (by decide +kernel) rfl
theorem wd_1064 : (Jvm.Cond.laysFinal "RopeSwingModel" "RopeSwingModel" "hand" "[I") ∈ TB := tb_of 1064 _ (by decide +kernel) rfl
theorem wd_1066 : (Jvm.Cond.laysFinal "RopeSwingModel" "RopeSwingModel" "text" "[I") ∈ TB := tb_of 1066 _ (by decide +kernel) rfl
theorem wd_1068 : (Jvm.Cond.lays "RopeSwingModel" "RopeSwingModel" "texted" "I") ∈ TB := tb_of 1068 _ (by decide +kernel) rfl
theorem wd_1070 : (Jvm.Cond.lays "RopeSwingModel" "RopeSwingModel" "faultPlace" "I") ∈ TB := tb_of 1070 _ (by decide +kernel) rfl
theorem wd_1072 : (Jvm.Cond.lays "RopeSwingModel" "RopeSwingModel" "at0" "I") ∈ TB := tb_of 1072 _ (by decide +kernel) rfl
theorem wd_1074 : (Jvm.Cond.lays "RopeSwingModel" "RopeSwingModel" "said" "J") ∈ TB := tb_of 1074 _ (by decide +kernel) rfl
theorem wd_1076 : (Jvm.Cond.lays "RopeSwingModel" "RopeSwingModel" "wordEnd" "I") ∈ TB := tb_of 1076 _ (by decide +kernel) rfl
theorem wd_1078 : (Jvm.Cond.lays "RopeSwingModel" "RopeSwingModel" "number" "I") ∈ TB := tb_of 1078 _ (by decide +kernel) rfl
theorem wd_1080 : (Jvm.Cond.lays "RopeSwingModel" "RopeSwingModel" "numberAt" "I") ∈ TB := tb_of 1080 _ (by decide +kernel) rfl
theorem wd_1082 : (Jvm.Cond.laysFinal "RopeSwingModel" "RopeSwingModel" "readTold" "[I") ∈ TB := tb_of 1082 _ (by decide +kernel) rfl
theorem wd_1084 : (Jvm.Cond.laysFinal "RopeSwingModel" "RopeSwingModel" "readDepths" "[I") ∈ TB := tb_of 1084 _ (by decide +kernel) rfl
theorem wd_1086 : (Jvm.Cond.laysFinal "RopeSwingModel" "RopeSwingModel" "readStone" "[Z") ∈ TB := tb_of 1086 _ (by decide +kernel) rfl
theorem wd_1088 : (Jvm.Cond.laysFinal "RopeSwingModel" "RopeSwingModel" "readLowers" "[I") ∈ TB := tb_of 1088 _ (by decide +kernel) rfl
theorem wd_1090 : (Jvm.Cond.lays "RopeSwingModel" "RopeSwingModel" "toldSet" "I") ∈ TB := tb_of 1090 _ (by decide +kernel) rfl
theorem wd_1092 : (Jvm.Cond.lays "RopeSwingModel" "RopeSwingModel" "clauses" "I") ∈ TB := tb_of 1092 _ (by decide +kernel) rfl
theorem wd_1094 : (Jvm.Cond.lays "RopeSwingModel" "RopeSwingModel" "ropeLong" "I") ∈ TB := tb_of 1094 _ (by decide +kernel) rfl
theorem wd_1096 : (Jvm.Cond.lays "RopeSwingModel" "RopeSwingModel" "run" "I") ∈ TB := tb_of 1096 _ (by decide +kernel) rfl
theorem wd_1098 : (Jvm.Cond.lays "RopeSwingModel" "RopeSwingModel" "strength" "I") ∈ TB := tb_of 1098 _ (by decide +kernel) rfl
theorem wd_1100 : (Jvm.Cond.lays "RopeSwingModel" "RopeSwingModel" "weight" "I") ∈ TB := tb_of 1100 _ (by decide +kernel) rfl
theorem wd_1102 : (Jvm.Cond.lays "RopeSwingModel" "RopeSwingModel" "feet" "I") ∈ TB := tb_of 1102 _ (by decide +kernel) rfl
theorem wd_1104 : (Jvm.Cond.lays "RopeSwingModel" "RopeSwingModel" "grip" "I") ∈ TB := tb_of 1104 _ (by decide +kernel) rfl
theorem wd_1106 : (Jvm.Cond.lays "RopeSwingModel" "RopeSwingModel" "lag" "I") ∈ TB := tb_of 1106 _ (by decide +kernel) rfl
theorem wd_1108 : (Jvm.Cond.lays "RopeSwingModel" "RopeSwingModel" "turning" "I") ∈ TB := tb_of 1108 _ (by decide +kernel) rfl
theorem wd_1110 : (Jvm.Cond.laysFinal "RopeSwingModel" "RopeSwingModel" "angleAt" "[I") ∈ TB := tb_of 1110 _ (by decide +kernel) rfl
theorem wd_1112 : (Jvm.Cond.laysFinal "RopeSwingModel" "RopeSwingModel" "paceAt" "[I") ∈ TB := tb_of 1112 _ (by decide +kernel) rfl
theorem wd_1114 : (Jvm.Cond.laysFinal "RopeSwingModel" "RopeSwingModel" "pullAt" "[I") ∈ TB := tb_of 1114 _ (by decide +kernel) rfl
theorem wd_1116 : (Jvm.Cond.laysFinal "RopeSwingModel" "RopeSwingModel" "leftAt" "[I") ∈ TB := tb_of 1116 _ (by decide +kernel) rfl
theorem wd_1118 : (Jvm.Cond.lays "RopeSwingModel" "RopeSwingModel" "ended" "I") ∈ TB := tb_of 1118 _ (by decide +kernel) rfl
theorem wd_1120 : (Jvm.Cond.lays "RopeSwingModel" "RopeSwingModel" "where" "I") ∈ TB := tb_of 1120 _ (by decide +kernel) rfl
theorem wd_1122 : (Jvm.Cond.lays "RopeSwingModel" "RopeSwingModel" "endTick" "I") ∈ TB := tb_of 1122 _ (by decide +kernel) rfl
theorem wd_1124 : (Jvm.Cond.lays "RopeSwingModel" "RopeSwingModel" "flew" "I") ∈ TB := tb_of 1124 _ (by decide +kernel) rfl
theorem wd_1126 : (Jvm.Cond.lays "RopeSwingModel" "RopeSwingModel" "highest" "I") ∈ TB := tb_of 1126 _ (by decide +kernel) rfl
theorem wd_1128 : (Jvm.Cond.lays "RopeSwingModel" "RopeSwingModel" "turned" "I") ∈ TB := tb_of 1128 _ (by decide +kernel) rfl
theorem wd_1130 : (Jvm.Cond.lays "RopeSwingModel" "RopeSwingModel" "wideFrom" "I") ∈ TB := tb_of 1130 _ (by decide +kernel) rfl
theorem wd_1132 : (Jvm.Cond.lays "RopeSwingModel" "RopeSwingModel" "goodMany" "I") ∈ TB := tb_of 1132 _ (by decide +kernel) rfl
theorem wd_1134 : (Jvm.Cond.laysFinal "RopeSwingModel" "RopeSwingModel" "farthest" "[I") ∈ TB := tb_of 1134 _ (by decide +kernel) rfl
theorem wd_1136 : (Jvm.Cond.lays "RopeSwingModel" "RopeSwingModel" "seed" "I") ∈ TB := tb_of 1136 _ (by decide +kernel) rfl
theorem wd_1138 : (Jvm.Cond.laysFinal "RopeSwingModel" "RopeSwingModel" "endMany" "[I") ∈ TB := tb_of 1138 _ (by decide +kernel) rfl
theorem wd_1140 : (Jvm.Cond.laysFinal "RopeSwingModel" "RopeSwingModel" "images" "[I") ∈ TB := tb_of 1140 _ (by decide +kernel) rfl
theorem wd_1142 : (Jvm.Cond.laysFinal "RopeSwingModel" "RopeSwingModel" "isKept" "[Z") ∈ TB := tb_of 1142 _ (by decide +kernel) rfl
theorem wd_1145 : (Jvm.Cond.arrayClass Jvm.ClassFile.FieldType.boolean) ∈ TB := tb_of 1145 _ (by decide +kernel) rfl
theorem wd_1146 : (Jvm.Cond.methodLink "RopeSwingLaw" (19 : Nat) ({ cls := "RopeSwingModel", name := "feed", desc := "(IJ)I" } : Jvm.MethodName)) ∈ TB := tb_of 1146 _ (by decide +kernel) rfl
theorem wd_1147 : (Jvm.Cond.instanceMethod ({ cls := "RopeSwingModel", name := "feed", desc := "(IJ)I" } : Jvm.MethodName)) ∈ TB := tb_of 1147 _ (by decide +kernel) rfl
theorem wd_1148 : (Jvm.Cond.selects "RopeSwingModel" ({ cls := "RopeSwingModel", name := "feed", desc := "(IJ)I" } : Jvm.MethodName) ({ cls := "RopeSwingModel", name := "feed", desc := "(IJ)I" } : Jvm.MethodName)) ∈ TB := tb_of 1148 _ (by decide +kernel) rfl
theorem wd_1149 : (Jvm.Cond.code ({ cls := "RopeSwingModel", name := "feed", desc := "(IJ)I" } : Jvm.MethodName) prog_12_method_5_code (5 : Nat) (Option.some Jvm.ClassFile.FieldType.int)) ∈ TB := tb_of 1149 _ (by decide +kernel) rfl
theorem wd_1150 : (Jvm.Cond.constantLong "RopeSwingModel" (85 : Nat) (8 : Int64)) ∈ TB := tb_of 1150 _ (by decide +kernel) rfl
theorem wd_1151 : (Jvm.Cond.methodLink "RopeSwingModel" (81 : Nat) ({ cls := "RopeSwingModel", name := "in", desc := "(JJJ)Z" } : Jvm.MethodName)) ∈ TB := tb_of 1151 _ (by decide +kernel) rfl
theorem wd_1152 : (Jvm.Cond.static ({ cls := "RopeSwingModel", name := "in", desc := "(JJJ)Z" } : Jvm.MethodName)) ∈ TB := tb_of 1152 _ (by decide +kernel) rfl
theorem wd_1153 : (Jvm.Cond.code ({ cls := "RopeSwingModel", name := "in", desc := "(JJJ)Z" } : Jvm.MethodName) prog_12_method_3_code (6 : Nat) (Option.some Jvm.ClassFile.FieldType.boolean)) ∈ TB := tb_of 1153 _ (by decide +kernel) rfl
theorem wd_1154 : (Jvm.Cond.constant "RopeSwingModel" (87 : Nat) (-1000000002 : Int32)) ∈ TB := tb_of 1154 _ (by decide +kernel) rfl
theorem wd_1155 : (Jvm.Cond.constant "RopeSwingModel" (91 : Nat) (-1000000004 : Int32)) ∈ TB := tb_of 1155 _ (by decide +kernel) rfl
theorem wd_1156 : (Jvm.Cond.constantLong "RopeSwingModel" (92 : Nat) (255 : Int64)) ∈ TB := tb_of 1156 _ (by decide +kernel) rfl
theorem wd_1157 : (Jvm.Cond.methodLink "RopeSwingLaw" (24 : Nat) ({ cls := "RopeSwingModel", name := "place", desc := "()I" } : Jvm.MethodName)) ∈ TB := tb_of 1157 _ (by decide +kernel) rfl
theorem wd_1158 : (Jvm.Cond.instanceMethod ({ cls := "RopeSwingModel", name := "place", desc := "()I" } : Jvm.MethodName)) ∈ TB := tb_of 1158 _ (by decide +kernel) rfl
theorem wd_1159 : (Jvm.Cond.selects "RopeSwingModel" ({ cls := "RopeSwingModel", name := "place", desc := "()I" } : Jvm.MethodName) ({ cls := "RopeSwingModel", name := "place", desc := "()I" } : Jvm.MethodName)) ∈ TB := tb_of 1159 _ (by decide +kernel) rfl
theorem wd_1160 : (Jvm.Cond.code ({ cls := "RopeSwingModel", name := "place", desc := "()I" } : Jvm.MethodName) prog_12_method_24_code (2 : Nat) (Option.some Jvm.ClassFile.FieldType.int)) ∈ TB := tb_of 1160 _ (by decide +kernel) rfl
theorem wd_1161 : (Jvm.Cond.methodLink "RopeSwingModel" (97 : Nat) ({ cls := "RopeSwingModel", name := "here", desc := "()I" } : Jvm.MethodName)) ∈ TB := tb_of 1161 _ (by decide +kernel) rfl
theorem wd_1163 : (Jvm.Cond.instanceMethod ({ cls := "RopeSwingModel", name := "here", desc := "()I" } : Jvm.MethodName)) ∈ TB := tb_of 1163 _ (by decide +kernel) rfl
theorem wd_1164 : (Jvm.Cond.code ({ cls := "RopeSwingModel", name := "here", desc := "()I" } : Jvm.MethodName) prog_12_method_6_code (1 : Nat) (Option.some Jvm.ClassFile.FieldType.int)) ∈ TB := tb_of 1164 _ (by decide +kernel) rfl
theorem wd_1165 : (Jvm.Cond.methodLink "RopeSwingModel" (185 : Nat) ({ cls := "RopeSwingModel", name := "takeClause", desc := "()I" } : Jvm.MethodName)) ∈ TB := tb_of 1165 _ (by decide +kernel) rfl
theorem wd_1167 : (Jvm.Cond.instanceMethod ({ cls := "RopeSwingModel", name := "takeClause", desc := "()I" } : Jvm.MethodName)) ∈ TB := tb_of 1167 _ (by decide +kernel) rfl
theorem wd_1168 : (Jvm.Cond.code ({ cls := "RopeSwingModel", name := "takeClause", desc := "()I" } : Jvm.MethodName) prog_12_method_22_code (3 : Nat) (Option.some Jvm.ClassFile.FieldType.int)) ∈ TB := tb_of 1168 _ (by decide +kernel) rfl
theorem wd_1169 : (Jvm.Cond.methodLink "RopeSwingModel" (163 : Nat) ({ cls := "RopeSwingModel", name := "readWord", desc := "()V" } : Jvm.MethodName)) ∈ TB := tb_of 1169 _ (by decide +kernel) rfl
theorem wd_1171 : (Jvm.Cond.instanceMethod ({ cls := "RopeSwingModel", name := "readWord", desc := "()V" } : Jvm.MethodName)) ∈ TB := tb_of 1171 _ (by decide +kernel) rfl
theorem wd_1172 : (Jvm.Cond.code ({ cls := "RopeSwingModel", name := "readWord", desc := "()V" } : Jvm.MethodName) prog_12_method_8_code (2 : Nat) (Option.none : Option Jvm.ClassFile.FieldType)) ∈ TB := tb_of 1172 _ (by decide +kernel) rfl
theorem wd_1173 : (Jvm.Cond.constantLong "RopeSwingModel" (108 : Nat) (97 : Int64)) ∈ TB := tb_of 1173 _ (by decide +kernel) rfl
theorem wd_1174 : (Jvm.Cond.constantLong "RopeSwingModel" (110 : Nat) (122 : Int64)) ∈ TB := tb_of 1174 _ (by decide +kernel) rfl
theorem wd_1175 : (Jvm.Cond.constantLong "RopeSwingModel" (112 : Nat) (1000000000000 : Int64)) ∈ TB := tb_of 1175 _ (by decide +kernel) rfl
theorem wd_1176 : (Jvm.Cond.constantLong "RopeSwingModel" (114 : Nat) (2000000000000 : Int64)) ∈ TB := tb_of 1176 _ (by decide +kernel) rfl
theorem wd_1177 : (Jvm.Cond.constantLong "RopeSwingModel" (116 : Nat) (27 : Int64)) ∈ TB := tb_of 1177 _ (by decide +kernel) rfl
theorem wd_1178 : (Jvm.Cond.constantLong "RopeSwingModel" (118 : Nat) (96 : Int64)) ∈ TB := tb_of 1178 _ (by decide +kernel) rfl
theorem wd_1179 : (Jvm.Cond.methodLink "RopeSwingModel" (166 : Nat) ({ cls := "RopeSwingModel", name := "clauseOf", desc := "()I" } : Jvm.MethodName)) ∈ TB := tb_of 1179 _ (by decide +kernel) rfl
theorem wd_1181 : (Jvm.Cond.instanceMethod ({ cls := "RopeSwingModel", name := "clauseOf", desc := "()I" } : Jvm.MethodName)) ∈ TB := tb_of 1181 _ (by decide +kernel) rfl
theorem wd_1182 : (Jvm.Cond.code ({ cls := "RopeSwingModel", name := "clauseOf", desc := "()I" } : Jvm.MethodName) prog_12_method_21_code (3 : Nat) (Option.some Jvm.ClassFile.FieldType.int)) ∈ TB := tb_of 1182 _ (by decide +kernel) rfl
theorem wd_1183 : (Jvm.Cond.methodLink "RopeSwingModel" (155 : Nat) ({ cls := "RopeSwingModel", name := "code", desc := "(IIII)J" } : Jvm.MethodName)) ∈ TB := tb_of 1183 _ (by decide +kernel) rfl
theorem wd_1184 : (Jvm.Cond.static ({ cls := "RopeSwingModel", name := "code", desc := "(IIII)J" } : Jvm.MethodName)) ∈ TB := tb_of 1184 _ (by decide +kernel) rfl
theorem wd_1185 : (Jvm.Cond.code ({ cls := "RopeSwingModel", name := "code", desc := "(IIII)J" } : Jvm.MethodName) prog_12_method_9_code (4 : Nat) (Option.some Jvm.ClassFile.FieldType.long)) ∈ TB := tb_of 1185 _ (by decide +kernel) rfl
theorem wd_1186 : (Jvm.Cond.methodLink "RopeSwingModel" (159 : Nat) ({ cls := "RopeSwingModel", name := "longer", desc := "(JI)J" } : Jvm.MethodName)) ∈ TB := tb_of 1186 _ (by decide +kernel) rfl
theorem wd_1187 : (Jvm.Cond.static ({ cls := "RopeSwingModel", name := "longer", desc := "(JI)J" } : Jvm.MethodName)) ∈ TB := tb_of 1187 _ (by decide +kernel) rfl
theorem wd_1188 : (Jvm.Cond.code ({ cls := "RopeSwingModel", name := "longer", desc := "(JI)J" } : Jvm.MethodName) prog_12_method_10_code (3 : Nat) (Option.some Jvm.ClassFile.FieldType.long)) ∈ TB := tb_of 1188 _ (by decide +kernel) rfl
theorem wd_1189 : (Jvm.Cond.methodLink "RopeSwingModel" (124 : Nat) ({ cls := "RopeSwingModel", name := "fails", desc := "(II)I" } : Jvm.MethodName)) ∈ TB := tb_of 1189 _ (by decide +kernel) rfl
theorem wd_1191 : (Jvm.Cond.instanceMethod ({ cls := "RopeSwingModel", name := "fails", desc := "(II)I" } : Jvm.MethodName)) ∈ TB := tb_of 1191 _ (by decide +kernel) rfl
theorem wd_1192 : (Jvm.Cond.code ({ cls := "RopeSwingModel", name := "fails", desc := "(II)I" } : Jvm.MethodName) prog_12_method_7_code (3 : Nat) (Option.some Jvm.ClassFile.FieldType.int)) ∈ TB := tb_of 1192 _ (by decide +kernel) rfl
theorem wd_1193 : (Jvm.Cond.methodLink "RopeSwingModel" (147 : Nat) ({ cls := "RopeSwingModel", name := "take", desc := "(III)I" } : Jvm.MethodName)) ∈ TB := tb_of 1193 _ (by decide +kernel) rfl
theorem wd_1195 : (Jvm.Cond.instanceMethod ({ cls := "RopeSwingModel", name := "take", desc := "(III)I" } : Jvm.MethodName)) ∈ TB := tb_of 1195 _ (by decide +kernel) rfl
theorem wd_1196 : (Jvm.Cond.code ({ cls := "RopeSwingModel", name := "take", desc := "(III)I" } : Jvm.MethodName) prog_12_method_16_code (5 : Nat) (Option.some Jvm.ClassFile.FieldType.int)) ∈ TB := tb_of 1196 _ (by decide +kernel) rfl
theorem wd_1197 : (Jvm.Cond.methodLink "RopeSwingModel" (144 : Nat) ({ cls := "RopeSwingModel", name := "takeNumber", desc := "(II)I" } : Jvm.MethodName)) ∈ TB := tb_of 1197 _ (by decide +kernel) rfl
theorem wd_1199 : (Jvm.Cond.instanceMethod ({ cls := "RopeSwingModel", name := "takeNumber", desc := "(II)I" } : Jvm.MethodName)) ∈ TB := tb_of 1199 _ (by decide +kernel) rfl
theorem wd_1200 : (Jvm.Cond.code ({ cls := "RopeSwingModel", name := "takeNumber", desc := "(II)I" } : Jvm.MethodName) prog_12_method_11_code (4 : Nat) (Option.some Jvm.ClassFile.FieldType.int)) ∈ TB := tb_of 1200 _ (by decide +kernel) rfl
theorem wd_1201 : (Jvm.Cond.constantLong "RopeSwingModel" (120 : Nat) (48 : Int64)) ∈ TB := tb_of 1201 _ (by decide +kernel) rfl
theorem wd_1202 : (Jvm.Cond.constantLong "RopeSwingModel" (122 : Nat) (57 : Int64)) ∈ TB := tb_of 1202 _ (by decide +kernel) rfl
theorem wd_1203 : (Jvm.Cond.methodLink "RopeSwingModel" (169 : Nat) ({ cls := "RopeSwingModel", name := "takeRope", desc := "()I" } : Jvm.MethodName)) ∈ TB := tb_of 1203 _ (by decide +kernel) rfl
theorem wd_1205 : (Jvm.Cond.instanceMethod ({ cls := "RopeSwingModel", name := "takeRope", desc := "()I" } : Jvm.MethodName)) ∈ TB := tb_of 1205 _ (by decide +kernel) rfl
theorem wd_1206 : (Jvm.Cond.code ({ cls := "RopeSwingModel", name := "takeRope", desc := "()I" } : Jvm.MethodName) prog_12_method_17_code (2 : Nat) (Option.some Jvm.ClassFile.FieldType.int)) ∈ TB := tb_of 1206 _ (by decide +kernel) rfl
theorem wd_1207 : (Jvm.Cond.methodLink "RopeSwingModel" (172 : Nat) ({ cls := "RopeSwingModel", name := "takeStart", desc := "()I" } : Jvm.MethodName)) ∈ TB := tb_of 1207 _ (by decide +kernel) rfl
theorem wd_1209 : (Jvm.Cond.instanceMethod ({ cls := "RopeSwingModel", name := "takeStart", desc := "()I" } : Jvm.MethodName)) ∈ TB := tb_of 1209 _ (by decide +kernel) rfl
theorem wd_1210 : (Jvm.Cond.code ({ cls := "RopeSwingModel", name := "takeStart", desc := "()I" } : Jvm.MethodName) prog_12_method_18_code (2 : Nat) (Option.some Jvm.ClassFile.FieldType.int)) ∈ TB := tb_of 1210 _ (by decide +kernel) rfl
theorem wd_1211 : (Jvm.Cond.methodLink "RopeSwingModel" (175 : Nat) ({ cls := "RopeSwingModel", name := "takeRow", desc := "([III)I" } : Jvm.MethodName)) ∈ TB := tb_of 1211 _ (by decide +kernel) rfl
theorem wd_1213 : (Jvm.Cond.instanceMethod ({ cls := "RopeSwingModel", name := "takeRow", desc := "([III)I" } : Jvm.MethodName)) ∈ TB := tb_of 1213 _ (by decide +kernel) rfl
theorem wd_1214 : (Jvm.Cond.code ({ cls := "RopeSwingModel", name := "takeRow", desc := "([III)I" } : Jvm.MethodName) prog_12_method_19_code (7 : Nat) (Option.some Jvm.ClassFile.FieldType.int)) ∈ TB := tb_of 1214 _ (by decide +kernel) rfl
theorem wd_1215 : (Jvm.Cond.methodLink "RopeSwingModel" (151 : Nat) ({ cls := "RopeSwingModel", name := "isComma", desc := "()Z" } : Jvm.MethodName)) ∈ TB := tb_of 1215 _ (by decide +kernel) rfl
theorem wd_1217 : (Jvm.Cond.instanceMethod ({ cls := "RopeSwingModel", name := "isComma", desc := "()Z" } : Jvm.MethodName)) ∈ TB := tb_of 1217 _ (by decide +kernel) rfl
theorem wd_1218 : (Jvm.Cond.code ({ cls := "RopeSwingModel", name := "isComma", desc := "()Z" } : Jvm.MethodName) prog_12_method_13_code (2 : Nat) (Option.some Jvm.ClassFile.FieldType.boolean)) ∈ TB := tb_of 1218 _ (by decide +kernel) rfl
theorem wd_1219 : (Jvm.Cond.methodLink "RopeSwingModel" (179 : Nat) ({ cls := "RopeSwingModel", name := "takeStones", desc := "()I" } : Jvm.MethodName)) ∈ TB := tb_of 1219 _ (by decide +kernel) rfl
theorem wd_1221 : (Jvm.Cond.instanceMethod ({ cls := "RopeSwingModel", name := "takeStones", desc := "()I" } : Jvm.MethodName)) ∈ TB := tb_of 1221 _ (by decide +kernel) rfl
theorem wd_1222 : (Jvm.Cond.code ({ cls := "RopeSwingModel", name := "takeStones", desc := "()I" } : Jvm.MethodName) prog_12_method_20_code (3 : Nat) (Option.some Jvm.ClassFile.FieldType.int)) ∈ TB := tb_of 1222 _ (by decide +kernel) rfl
theorem wd_1223 : (Jvm.Cond.methodLink "RopeSwingModel" (182 : Nat) ({ cls := "RopeSwingModel", name := "takeStop", desc := "()I" } : Jvm.MethodName)) ∈ TB := tb_of 1223 _ (by decide +kernel) rfl
theorem wd_1225 : (Jvm.Cond.instanceMethod ({ cls := "RopeSwingModel", name := "takeStop", desc := "()I" } : Jvm.MethodName)) ∈ TB := tb_of 1225 _ (by decide +kernel) rfl
theorem wd_1226 : (Jvm.Cond.code ({ cls := "RopeSwingModel", name := "takeStop", desc := "()I" } : Jvm.MethodName) prog_12_method_12_code (1 : Nat) (Option.some Jvm.ClassFile.FieldType.int)) ∈ TB := tb_of 1226 _ (by decide +kernel) rfl
theorem wd_1227 : (Jvm.Cond.methodLink "RopeSwingLaw" (28 : Nat) ({ cls := "RopeSwingModel", name := "swinger", desc := "()I" } : Jvm.MethodName)) ∈ TB := tb_of 1227 _ (by decide +kernel) rfl
theorem wd_1228 : (Jvm.Cond.instanceMethod ({ cls := "RopeSwingModel", name := "swinger", desc := "()I" } : Jvm.MethodName)) ∈ TB := tb_of 1228 _ (by decide +kernel) rfl
theorem wd_1229 : (Jvm.Cond.selects "RopeSwingModel" ({ cls := "RopeSwingModel", name := "swinger", desc := "()I" } : Jvm.MethodName) ({ cls := "RopeSwingModel", name := "swinger", desc := "()I" } : Jvm.MethodName)) ∈ TB := tb_of 1229 _ (by decide +kernel) rfl
theorem wd_1230 : (Jvm.Cond.code ({ cls := "RopeSwingModel", name := "swinger", desc := "()I" } : Jvm.MethodName) prog_12_method_26_code (2 : Nat) (Option.some Jvm.ClassFile.FieldType.int)) ∈ TB := tb_of 1230 _ (by decide +kernel) rfl
theorem wd_1231 : (Jvm.Cond.constant "RopeSwingModel" (188 : Nat) (-1000000003 : Int32)) ∈ TB := tb_of 1231 _ (by decide +kernel) rfl
theorem wd_1232 : (Jvm.Cond.methodLink "RopeSwingModel" (189 : Nat) ({ cls := "RopeSwingModel", name := "takeSwinger", desc := "()I" } : Jvm.MethodName)) ∈ TB := tb_of 1232 _ (by decide +kernel) rfl
theorem wd_1234 : (Jvm.Cond.instanceMethod ({ cls := "RopeSwingModel", name := "takeSwinger", desc := "()I" } : Jvm.MethodName)) ∈ TB := tb_of 1234 _ (by decide +kernel) rfl
theorem wd_1235 : (Jvm.Cond.code ({ cls := "RopeSwingModel", name := "takeSwinger", desc := "()I" } : Jvm.MethodName) prog_12_method_25_code (3 : Nat) (Option.some Jvm.ClassFile.FieldType.int)) ∈ TB := tb_of 1235 _ (by decide +kernel) rfl
theorem wd_1236 : (Jvm.Cond.methodLink "RopeSwingLaw" (32 : Nat) ({ cls := "RopeSwingModel", name := "fault", desc := "()I" } : Jvm.MethodName)) ∈ TB := tb_of 1236 _ (by decide +kernel) rfl
theorem wd_1237 : (Jvm.Cond.instanceMethod ({ cls := "RopeSwingModel", name := "fault", desc := "()I" } : Jvm.MethodName)) ∈ TB := tb_of 1237 _ (by decide +kernel) rfl
theorem wd_1238 : (Jvm.Cond.selects "RopeSwingModel" ({ cls := "RopeSwingModel", name := "fault", desc := "()I" } : Jvm.MethodName) ({ cls := "RopeSwingModel", name := "fault", desc := "()I" } : Jvm.MethodName)) ∈ TB := tb_of 1238 _ (by decide +kernel) rfl
theorem wd_1239 : (Jvm.Cond.code ({ cls := "RopeSwingModel", name := "fault", desc := "()I" } : Jvm.MethodName) prog_12_method_27_code (1 : Nat) (Option.some Jvm.ClassFile.FieldType.int)) ∈ TB := tb_of 1239 _ (by decide +kernel) rfl
theorem wd_1240 : (Jvm.Cond.methodLink "RopeSwingLaw" (37 : Nat) ({ cls := "RopeSwingModel", name := "told", desc := "(I)I" } : Jvm.MethodName)) ∈ TB := tb_of 1240 _ (by decide +kernel) rfl
theorem wd_1241 : (Jvm.Cond.instanceMethod ({ cls := "RopeSwingModel", name := "told", desc := "(I)I" } : Jvm.MethodName)) ∈ TB := tb_of 1241 _ (by decide +kernel) rfl
theorem wd_1242 : (Jvm.Cond.selects "RopeSwingModel" ({ cls := "RopeSwingModel", name := "told", desc := "(I)I" } : Jvm.MethodName) ({ cls := "RopeSwingModel", name := "told", desc := "(I)I" } : Jvm.MethodName)) ∈ TB := tb_of 1242 _ (by decide +kernel) rfl
theorem wd_1243 : (Jvm.Cond.code ({ cls := "RopeSwingModel", name := "told", desc := "(I)I" } : Jvm.MethodName) prog_12_method_28_code (2 : Nat) (Option.some Jvm.ClassFile.FieldType.int)) ∈ TB := tb_of 1243 _ (by decide +kernel) rfl
theorem wd_1244 : (Jvm.Cond.methodLink "RopeSwingLaw" (42 : Nat) ({ cls := "RopeSwingModel", name := "cell", desc := "(II)I" } : Jvm.MethodName)) ∈ TB := tb_of 1244 _ (by decide +kernel) rfl
theorem wd_1245 : (Jvm.Cond.instanceMethod ({ cls := "RopeSwingModel", name := "cell", desc := "(II)I" } : Jvm.MethodName)) ∈ TB := tb_of 1245 _ (by decide +kernel) rfl
theorem wd_1246 : (Jvm.Cond.selects "RopeSwingModel" ({ cls := "RopeSwingModel", name := "cell", desc := "(II)I" } : Jvm.MethodName) ({ cls := "RopeSwingModel", name := "cell", desc := "(II)I" } : Jvm.MethodName)) ∈ TB := tb_of 1246 _ (by decide +kernel) rfl
theorem wd_1247 : (Jvm.Cond.code ({ cls := "RopeSwingModel", name := "cell", desc := "(II)I" } : Jvm.MethodName) prog_12_method_32_code (3 : Nat) (Option.some Jvm.ClassFile.FieldType.int)) ∈ TB := tb_of 1247 _ (by decide +kernel) rfl
theorem wd_1248 : (Jvm.Cond.constantLong "RopeSwingModel" (195 : Nat) (23 : Int64)) ∈ TB := tb_of 1248 _ (by decide +kernel) rfl
theorem wd_1249 : (Jvm.Cond.constant "RopeSwingModel" (197 : Nat) (-1000000001 : Int32)) ∈ TB := tb_of 1249 _ (by decide +kernel) rfl
theorem wd_1250 : (Jvm.Cond.methodLink "RopeSwingModel" (198 : Nat) ({ cls := "RopeSwingModel", name := "depthOf", desc := "(I)I" } : Jvm.MethodName)) ∈ TB := tb_of 1250 _ (by decide +kernel) rfl
theorem wd_1252 : (Jvm.Cond.instanceMethod ({ cls := "RopeSwingModel", name := "depthOf", desc := "(I)I" } : Jvm.MethodName)) ∈ TB := tb_of 1252 _ (by decide +kernel) rfl
theorem wd_1253 : (Jvm.Cond.code ({ cls := "RopeSwingModel", name := "depthOf", desc := "(I)I" } : Jvm.MethodName) prog_12_method_30_code (2 : Nat) (Option.some Jvm.ClassFile.FieldType.int)) ∈ TB := tb_of 1253 _ (by decide +kernel) rfl
theorem wd_1254 : (Jvm.Cond.methodLink "RopeSwingModel" (192 : Nat) ({ cls := "RopeSwingModel", name := "lower", desc := "()I" } : Jvm.MethodName)) ∈ TB := tb_of 1254 _ (by decide +kernel) rfl
theorem wd_1256 : (Jvm.Cond.instanceMethod ({ cls := "RopeSwingModel", name := "lower", desc := "()I" } : Jvm.MethodName)) ∈ TB := tb_of 1256 _ (by decide +kernel) rfl
theorem wd_1257 : (Jvm.Cond.code ({ cls := "RopeSwingModel", name := "lower", desc := "()I" } : Jvm.MethodName) prog_12_method_29_code (1 : Nat) (Option.some Jvm.ClassFile.FieldType.int)) ∈ TB := tb_of 1257 _ (by decide +kernel) rfl
theorem wd_1258 : (Jvm.Cond.methodLink "RopeSwingModel" (201 : Nat) ({ cls := "RopeSwingModel", name := "kindOf", desc := "(I)I" } : Jvm.MethodName)) ∈ TB := tb_of 1258 _ (by decide +kernel) rfl
theorem wd_1260 : (Jvm.Cond.instanceMethod ({ cls := "RopeSwingModel", name := "kindOf", desc := "(I)I" } : Jvm.MethodName)) ∈ TB := tb_of 1260 _ (by decide +kernel) rfl
theorem wd_1261 : (Jvm.Cond.code ({ cls := "RopeSwingModel", name := "kindOf", desc := "(I)I" } : Jvm.MethodName) prog_12_method_31_code (2 : Nat) (Option.some Jvm.ClassFile.FieldType.int)) ∈ TB := tb_of 1261 _ (by decide +kernel) rfl
theorem wd_1262 : (Jvm.Cond.methodLink "RopeSwingLaw" (46 : Nat) ({ cls := "RopeSwingModel", name := "who", desc := "(II)I" } : Jvm.MethodName)) ∈ TB := tb_of 1262 _ (by decide +kernel) rfl
theorem wd_1263 : (Jvm.Cond.instanceMethod ({ cls := "RopeSwingModel", name := "who", desc := "(II)I" } : Jvm.MethodName)) ∈ TB := tb_of 1263 _ (by decide +kernel) rfl
theorem wd_1264 : (Jvm.Cond.selects "RopeSwingModel" ({ cls := "RopeSwingModel", name := "who", desc := "(II)I" } : Jvm.MethodName) ({ cls := "RopeSwingModel", name := "who", desc := "(II)I" } : Jvm.MethodName)) ∈ TB := tb_of 1264 _ (by decide +kernel) rfl
theorem wd_1265 : (Jvm.Cond.code ({ cls := "RopeSwingModel", name := "who", desc := "(II)I" } : Jvm.MethodName) prog_12_method_33_code (3 : Nat) (Option.some Jvm.ClassFile.FieldType.int)) ∈ TB := tb_of 1265 _ (by decide +kernel) rfl
theorem wd_1266 : (Jvm.Cond.methodLink "RopeSwingModel" (204 : Nat) ({ cls := "RopeSwingModel", name := "isSwinger", desc := "(I)Z" } : Jvm.MethodName)) ∈ TB := tb_of 1266 _ (by decide +kernel) rfl
theorem wd_1268 : (Jvm.Cond.instanceMethod ({ cls := "RopeSwingModel", name := "isSwinger", desc := "(I)Z" } : Jvm.MethodName)) ∈ TB := tb_of 1268 _ (by decide +kernel) rfl
theorem wd_1269 : (Jvm.Cond.code ({ cls := "RopeSwingModel", name := "isSwinger", desc := "(I)Z" } : Jvm.MethodName) prog_12_method_4_code (2 : Nat) (Option.some Jvm.ClassFile.FieldType.boolean)) ∈ TB := tb_of 1269 _ (by decide +kernel) rfl
theorem wd_1270 : (Jvm.Cond.constantLong "RopeSwingModel" (208 : Nat) (4 : Int64)) ∈ TB := tb_of 1270 _ (by decide +kernel) rfl
theorem wd_1271 : (Jvm.Cond.methodLink "RopeSwingLaw" (50 : Nat) ({ cls := "RopeSwingModel", name := "set", desc := "(II)I" } : Jvm.MethodName)) ∈ TB := tb_of 1271 _ (by decide +kernel) rfl
theorem wd_1272 : (Jvm.Cond.instanceMethod ({ cls := "RopeSwingModel", name := "set", desc := "(II)I" } : Jvm.MethodName)) ∈ TB := tb_of 1272 _ (by decide +kernel) rfl
theorem wd_1273 : (Jvm.Cond.selects "RopeSwingModel" ({ cls := "RopeSwingModel", name := "set", desc := "(II)I" } : Jvm.MethodName) ({ cls := "RopeSwingModel", name := "set", desc := "(II)I" } : Jvm.MethodName)) ∈ TB := tb_of 1273 _ (by decide +kernel) rfl
theorem wd_1274 : (Jvm.Cond.code ({ cls := "RopeSwingModel", name := "set", desc := "(II)I" } : Jvm.MethodName) prog_12_method_35_code (4 : Nat) (Option.some Jvm.ClassFile.FieldType.int)) ∈ TB := tb_of 1274 _ (by decide +kernel) rfl
theorem wd_1275 : (Jvm.Cond.methodLink "RopeSwingModel" (210 : Nat) ({ cls := "RopeSwingModel", name := "mostOf", desc := "(I)I" } : Jvm.MethodName)) ∈ TB := tb_of 1275 _ (by decide +kernel) rfl
theorem wd_1276 : (Jvm.Cond.static ({ cls := "RopeSwingModel", name := "mostOf", desc := "(I)I" } : Jvm.MethodName)) ∈ TB := tb_of 1276 _ (by decide +kernel) rfl
theorem wd_1277 : (Jvm.Cond.code ({ cls := "RopeSwingModel", name := "mostOf", desc := "(I)I" } : Jvm.MethodName) prog_12_method_34_code (1 : Nat) (Option.some Jvm.ClassFile.FieldType.int)) ∈ TB := tb_of 1277 _ (by decide +kernel) rfl
theorem wd_1278 : (Jvm.Cond.methodLink "RopeSwingLaw" (54 : Nat) ({ cls := "RopeSwingModel", name := "now", desc := "(I)I" } : Jvm.MethodName)) ∈ TB := tb_of 1278 _ (by decide +kernel) rfl
theorem wd_1279 : (Jvm.Cond.instanceMethod ({ cls := "RopeSwingModel", name := "now", desc := "(I)I" } : Jvm.MethodName)) ∈ TB := tb_of 1279 _ (by decide +kernel) rfl
theorem wd_1280 : (Jvm.Cond.selects "RopeSwingModel" ({ cls := "RopeSwingModel", name := "now", desc := "(I)I" } : Jvm.MethodName) ({ cls := "RopeSwingModel", name := "now", desc := "(I)I" } : Jvm.MethodName)) ∈ TB := tb_of 1280 _ (by decide +kernel) rfl
theorem wd_1281 : (Jvm.Cond.code ({ cls := "RopeSwingModel", name := "now", desc := "(I)I" } : Jvm.MethodName) prog_12_method_37_code (2 : Nat) (Option.some Jvm.ClassFile.FieldType.int)) ∈ TB := tb_of 1281 _ (by decide +kernel) rfl
theorem wd_1282 : (Jvm.Cond.methodLink "RopeSwingModel" (213 : Nat) ({ cls := "RopeSwingModel", name := "strengthIn", desc := "(I)I" } : Jvm.MethodName)) ∈ TB := tb_of 1282 _ (by decide +kernel) rfl
theorem wd_1284 : (Jvm.Cond.instanceMethod ({ cls := "RopeSwingModel", name := "strengthIn", desc := "(I)I" } : Jvm.MethodName)) ∈ TB := tb_of 1284 _ (by decide +kernel) rfl
theorem wd_1285 : (Jvm.Cond.code ({ cls := "RopeSwingModel", name := "strengthIn", desc := "(I)I" } : Jvm.MethodName) prog_12_method_36_code (4 : Nat) (Option.some Jvm.ClassFile.FieldType.int)) ∈ TB := tb_of 1285 _ (by decide +kernel) rfl
theorem wd_1286 : (Jvm.Cond.methodLink "RopeSwingLaw" (58 : Nat) ({ cls := "RopeSwingModel", name := "sine", desc := "(I)I" } : Jvm.MethodName)) ∈ TB := tb_of 1286 _ (by decide +kernel) rfl
theorem wd_1287 : (Jvm.Cond.instanceMethod ({ cls := "RopeSwingModel", name := "sine", desc := "(I)I" } : Jvm.MethodName)) ∈ TB := tb_of 1287 _ (by decide +kernel) rfl
theorem wd_1288 : (Jvm.Cond.selects "RopeSwingModel" ({ cls := "RopeSwingModel", name := "sine", desc := "(I)I" } : Jvm.MethodName) ({ cls := "RopeSwingModel", name := "sine", desc := "(I)I" } : Jvm.MethodName)) ∈ TB := tb_of 1288 _ (by decide +kernel) rfl
theorem wd_1289 : (Jvm.Cond.code ({ cls := "RopeSwingModel", name := "sine", desc := "(I)I" } : Jvm.MethodName) prog_12_method_41_code (2 : Nat) (Option.some Jvm.ClassFile.FieldType.int)) ∈ TB := tb_of 1289 _ (by decide +kernel) rfl
theorem wd_1290 : (Jvm.Cond.constantLong "RopeSwingModel" (226 : Nat) (-1800 : Int64)) ∈ TB := tb_of 1290 _ (by decide +kernel) rfl
theorem wd_1291 : (Jvm.Cond.constantLong "RopeSwingModel" (228 : Nat) (1800 : Int64)) ∈ TB := tb_of 1291 _ (by decide +kernel) rfl
theorem wd_1292 : (Jvm.Cond.methodLink "RopeSwingModel" (223 : Nat) ({ cls := "RopeSwingModel", name := "sineOf", desc := "(I)I" } : Jvm.MethodName)) ∈ TB := tb_of 1292 _ (by decide +kernel) rfl
theorem wd_1293 : (Jvm.Cond.static ({ cls := "RopeSwingModel", name := "sineOf", desc := "(I)I" } : Jvm.MethodName)) ∈ TB := tb_of 1293 _ (by decide +kernel) rfl
theorem wd_1294 : (Jvm.Cond.code ({ cls := "RopeSwingModel", name := "sineOf", desc := "(I)I" } : Jvm.MethodName) prog_12_method_39_code (5 : Nat) (Option.some Jvm.ClassFile.FieldType.int)) ∈ TB := tb_of 1294 _ (by decide +kernel) rfl
theorem wd_1295 : (Jvm.Cond.methodLink "RopeSwingModel" (216 : Nat) ({ cls := "RopeSwingModel", name := "size", desc := "(I)I" } : Jvm.MethodName)) ∈ TB := tb_of 1295 _ (by decide +kernel) rfl
theorem wd_1296 : (Jvm.Cond.static ({ cls := "RopeSwingModel", name := "size", desc := "(I)I" } : Jvm.MethodName)) ∈ TB := tb_of 1296 _ (by decide +kernel) rfl
theorem wd_1297 : (Jvm.Cond.code ({ cls := "RopeSwingModel", name := "size", desc := "(I)I" } : Jvm.MethodName) prog_12_method_38_code (1 : Nat) (Option.some Jvm.ClassFile.FieldType.int)) ∈ TB := tb_of 1297 _ (by decide +kernel) rfl
theorem wd_1298 : (Jvm.Cond.constantLong "RopeSwingModel" (219 : Nat) (4000 : Int64)) ∈ TB := tb_of 1298 _ (by decide +kernel) rfl
theorem wd_1299 : (Jvm.Cond.constantLong "RopeSwingModel" (221 : Nat) (4050000 : Int64)) ∈ TB := tb_of 1299 _ (by decide +kernel) rfl
theorem wd_1300 : (Jvm.Cond.methodLink "RopeSwingLaw" (63 : Nat) ({ cls := "RopeSwingModel", name := "holds", desc := "(III)I" } : Jvm.MethodName)) ∈ TB := tb_of 1300 _ (by decide +kernel) rfl
theorem wd_1301 : (Jvm.Cond.instanceMethod ({ cls := "RopeSwingModel", name := "holds", desc := "(III)I" } : Jvm.MethodName)) ∈ TB := tb_of 1301 _ (by decide +kernel) rfl
theorem wd_1302 : (Jvm.Cond.selects "RopeSwingModel" ({ cls := "RopeSwingModel", name := "holds", desc := "(III)I" } : Jvm.MethodName) ({ cls := "RopeSwingModel", name := "holds", desc := "(III)I" } : Jvm.MethodName)) ∈ TB := tb_of 1302 _ (by decide +kernel) rfl
theorem wd_1303 : (Jvm.Cond.code ({ cls := "RopeSwingModel", name := "holds", desc := "(III)I" } : Jvm.MethodName) prog_12_method_48_code (4 : Nat) (Option.some Jvm.ClassFile.FieldType.int)) ∈ TB := tb_of 1303 _ (by decide +kernel) rfl
theorem wd_1304 : (Jvm.Cond.constantLong "RopeSwingModel" (264 : Nat) (200 : Int64)) ∈ TB := tb_of 1304 _ (by decide +kernel) rfl
theorem wd_1305 : (Jvm.Cond.constantLong "RopeSwingModel" (266 : Nat) (5 : Int64)) ∈ TB := tb_of 1305 _ (by decide +kernel) rfl
theorem wd_1306 : (Jvm.Cond.methodLink "RopeSwingModel" (268 : Nat) ({ cls := "RopeSwingModel", name := "useHand", desc := "()V" } : Jvm.MethodName)) ∈ TB := tb_of 1306 _ (by decide +kernel) rfl
theorem wd_1308 : (Jvm.Cond.instanceMethod ({ cls := "RopeSwingModel", name := "useHand", desc := "()V" } : Jvm.MethodName)) ∈ TB := tb_of 1308 _ (by decide +kernel) rfl
theorem wd_1309 : (Jvm.Cond.code ({ cls := "RopeSwingModel", name := "useHand", desc := "()V" } : Jvm.MethodName) prog_12_method_42_code (1 : Nat) (Option.none : Option Jvm.ClassFile.FieldType)) ∈ TB := tb_of 1309 _ (by decide +kernel) rfl
theorem wd_1310 : (Jvm.Cond.methodLink "RopeSwingModel" (271 : Nat) ({ cls := "RopeSwingModel", name := "usePerson", desc := "(I)V" } : Jvm.MethodName)) ∈ TB := tb_of 1310 _ (by decide +kernel) rfl
theorem wd_1312 : (Jvm.Cond.instanceMethod ({ cls := "RopeSwingModel", name := "usePerson", desc := "(I)V" } : Jvm.MethodName)) ∈ TB := tb_of 1312 _ (by decide +kernel) rfl
theorem wd_1313 : (Jvm.Cond.code ({ cls := "RopeSwingModel", name := "usePerson", desc := "(I)V" } : Jvm.MethodName) prog_12_method_43_code (2 : Nat) (Option.none : Option Jvm.ClassFile.FieldType)) ∈ TB := tb_of 1313 _ (by decide +kernel) rfl
theorem wd_1314 : (Jvm.Cond.methodLink "RopeSwingModel" (275 : Nat) ({ cls := "RopeSwingModel", name := "swing", desc := "()V" } : Jvm.MethodName)) ∈ TB := tb_of 1314 _ (by decide +kernel) rfl
theorem wd_1316 : (Jvm.Cond.instanceMethod ({ cls := "RopeSwingModel", name := "swing", desc := "()V" } : Jvm.MethodName)) ∈ TB := tb_of 1316 _ (by decide +kernel) rfl
theorem wd_1317 : (Jvm.Cond.code ({ cls := "RopeSwingModel", name := "swing", desc := "()V" } : Jvm.MethodName) prog_12_method_45_code (2 : Nat) (Option.none : Option Jvm.ClassFile.FieldType)) ∈ TB := tb_of 1317 _ (by decide +kernel) rfl
theorem wd_1318 : (Jvm.Cond.methodLink "RopeSwingModel" (261 : Nat) ({ cls := "RopeSwingModel", name := "pullOf", desc := "(III)I" } : Jvm.MethodName)) ∈ TB := tb_of 1318 _ (by decide +kernel) rfl
theorem wd_1320 : (Jvm.Cond.instanceMethod ({ cls := "RopeSwingModel", name := "pullOf", desc := "(III)I" } : Jvm.MethodName)) ∈ TB := tb_of 1320 _ (by decide +kernel) rfl
theorem wd_1321 : (Jvm.Cond.code ({ cls := "RopeSwingModel", name := "pullOf", desc := "(III)I" } : Jvm.MethodName) prog_12_method_44_code (6 : Nat) (Option.some Jvm.ClassFile.FieldType.int)) ∈ TB := tb_of 1321 _ (by decide +kernel) rfl
theorem wd_1322 : (Jvm.Cond.methodLink "RopeSwingModel" (254 : Nat) ({ cls := "RopeSwingModel", name := "cosineOf", desc := "(I)I" } : Jvm.MethodName)) ∈ TB := tb_of 1322 _ (by decide +kernel) rfl
theorem wd_1323 : (Jvm.Cond.static ({ cls := "RopeSwingModel", name := "cosineOf", desc := "(I)I" } : Jvm.MethodName)) ∈ TB := tb_of 1323 _ (by decide +kernel) rfl
theorem wd_1324 : (Jvm.Cond.code ({ cls := "RopeSwingModel", name := "cosineOf", desc := "(I)I" } : Jvm.MethodName) prog_12_method_40_code (1 : Nat) (Option.some Jvm.ClassFile.FieldType.int)) ∈ TB := tb_of 1324 _ (by decide +kernel) rfl
theorem wd_1325 : (Jvm.Cond.constantLong "RopeSwingModel" (257 : Nat) (80500000 : Int64)) ∈ TB := tb_of 1325 _ (by decide +kernel) rfl
theorem wd_1326 : (Jvm.Cond.constantLong "RopeSwingModel" (259 : Nat) (100 : Int64)) ∈ TB := tb_of 1326 _ (by decide +kernel) rfl
theorem wd_1327 : (Jvm.Cond.methodLink "RopeSwingModel" (278 : Nat) ({ cls := "RopeSwingModel", name := "handsX", desc := "(I)I" } : Jvm.MethodName)) ∈ TB := tb_of 1327 _ (by decide +kernel) rfl
theorem wd_1329 : (Jvm.Cond.instanceMethod ({ cls := "RopeSwingModel", name := "handsX", desc := "(I)I" } : Jvm.MethodName)) ∈ TB := tb_of 1329 _ (by decide +kernel) rfl
theorem wd_1330 : (Jvm.Cond.code ({ cls := "RopeSwingModel", name := "handsX", desc := "(I)I" } : Jvm.MethodName) prog_12_method_46_code (2 : Nat) (Option.some Jvm.ClassFile.FieldType.int)) ∈ TB := tb_of 1330 _ (by decide +kernel) rfl
theorem wd_1331 : (Jvm.Cond.methodLink "RopeSwingModel" (281 : Nat) ({ cls := "RopeSwingModel", name := "handsHeight", desc := "(I)I" } : Jvm.MethodName)) ∈ TB := tb_of 1331 _ (by decide +kernel) rfl
theorem wd_1333 : (Jvm.Cond.instanceMethod ({ cls := "RopeSwingModel", name := "handsHeight", desc := "(I)I" } : Jvm.MethodName)) ∈ TB := tb_of 1333 _ (by decide +kernel) rfl
theorem wd_1334 : (Jvm.Cond.code ({ cls := "RopeSwingModel", name := "handsHeight", desc := "(I)I" } : Jvm.MethodName) prog_12_method_47_code (2 : Nat) (Option.some Jvm.ClassFile.FieldType.int)) ∈ TB := tb_of 1334 _ (by decide +kernel) rfl
theorem wd_1335 : (Jvm.Cond.methodLink "RopeSwingLaw" (67 : Nat) ({ cls := "RopeSwingModel", name := "lands", desc := "(III)I" } : Jvm.MethodName)) ∈ TB := tb_of 1335 _ (by decide +kernel) rfl
theorem wd_1336 : (Jvm.Cond.instanceMethod ({ cls := "RopeSwingModel", name := "lands", desc := "(III)I" } : Jvm.MethodName)) ∈ TB := tb_of 1336 _ (by decide +kernel) rfl
theorem wd_1337 : (Jvm.Cond.selects "RopeSwingModel" ({ cls := "RopeSwingModel", name := "lands", desc := "(III)I" } : Jvm.MethodName) ({ cls := "RopeSwingModel", name := "lands", desc := "(III)I" } : Jvm.MethodName)) ∈ TB := tb_of 1337 _ (by decide +kernel) rfl
theorem wd_1338 : (Jvm.Cond.code ({ cls := "RopeSwingModel", name := "lands", desc := "(III)I" } : Jvm.MethodName) prog_12_method_57_code (4 : Nat) (Option.some Jvm.ClassFile.FieldType.int)) ∈ TB := tb_of 1338 _ (by decide +kernel) rfl
theorem wd_1339 : (Jvm.Cond.methodLink "RopeSwingModel" (327 : Nat) ({ cls := "RopeSwingModel", name := "isTime", desc := "(I)Z" } : Jvm.MethodName)) ∈ TB := tb_of 1339 _ (by decide +kernel) rfl
theorem wd_1340 : (Jvm.Cond.static ({ cls := "RopeSwingModel", name := "isTime", desc := "(I)Z" } : Jvm.MethodName)) ∈ TB := tb_of 1340 _ (by decide +kernel) rfl
theorem wd_1341 : (Jvm.Cond.code ({ cls := "RopeSwingModel", name := "isTime", desc := "(I)Z" } : Jvm.MethodName) prog_12_method_55_code (1 : Nat) (Option.some Jvm.ClassFile.FieldType.boolean)) ∈ TB := tb_of 1341 _ (by decide +kernel) rfl
theorem wd_1342 : (Jvm.Cond.methodLink "RopeSwingModel" (330 : Nat) ({ cls := "RopeSwingModel", name := "ready", desc := "(I)V" } : Jvm.MethodName)) ∈ TB := tb_of 1342 _ (by decide +kernel) rfl
theorem wd_1344 : (Jvm.Cond.instanceMethod ({ cls := "RopeSwingModel", name := "ready", desc := "(I)V" } : Jvm.MethodName)) ∈ TB := tb_of 1344 _ (by decide +kernel) rfl
theorem wd_1345 : (Jvm.Cond.code ({ cls := "RopeSwingModel", name := "ready", desc := "(I)V" } : Jvm.MethodName) prog_12_method_56_code (2 : Nat) (Option.none : Option Jvm.ClassFile.FieldType)) ∈ TB := tb_of 1345 _ (by decide +kernel) rfl
theorem wd_1346 : (Jvm.Cond.methodLink "RopeSwingModel" (333 : Nat) ({ cls := "RopeSwingModel", name := "letGo", desc := "(I)V" } : Jvm.MethodName)) ∈ TB := tb_of 1346 _ (by decide +kernel) rfl
theorem wd_1348 : (Jvm.Cond.instanceMethod ({ cls := "RopeSwingModel", name := "letGo", desc := "(I)V" } : Jvm.MethodName)) ∈ TB := tb_of 1348 _ (by decide +kernel) rfl
theorem wd_1349 : (Jvm.Cond.code ({ cls := "RopeSwingModel", name := "letGo", desc := "(I)V" } : Jvm.MethodName) prog_12_method_54_code (4 : Nat) (Option.none : Option Jvm.ClassFile.FieldType)) ∈ TB := tb_of 1349 _ (by decide +kernel) rfl
theorem wd_1350 : (Jvm.Cond.methodLink "RopeSwingModel" (318 : Nat) ({ cls := "RopeSwingModel", name := "endAt", desc := "(II)I" } : Jvm.MethodName)) ∈ TB := tb_of 1350 _ (by decide +kernel) rfl
theorem wd_1352 : (Jvm.Cond.instanceMethod ({ cls := "RopeSwingModel", name := "endAt", desc := "(II)I" } : Jvm.MethodName)) ∈ TB := tb_of 1352 _ (by decide +kernel) rfl
theorem wd_1353 : (Jvm.Cond.code ({ cls := "RopeSwingModel", name := "endAt", desc := "(II)I" } : Jvm.MethodName) prog_12_method_53_code (4 : Nat) (Option.some Jvm.ClassFile.FieldType.int)) ∈ TB := tb_of 1353 _ (by decide +kernel) rfl
theorem wd_1354 : (Jvm.Cond.methodLink "RopeSwingModel" (284 : Nat) ({ cls := "RopeSwingModel", name := "cellOf", desc := "(I)I" } : Jvm.MethodName)) ∈ TB := tb_of 1354 _ (by decide +kernel) rfl
theorem wd_1355 : (Jvm.Cond.static ({ cls := "RopeSwingModel", name := "cellOf", desc := "(I)I" } : Jvm.MethodName)) ∈ TB := tb_of 1355 _ (by decide +kernel) rfl
theorem wd_1356 : (Jvm.Cond.code ({ cls := "RopeSwingModel", name := "cellOf", desc := "(I)I" } : Jvm.MethodName) prog_12_method_49_code (2 : Nat) (Option.some Jvm.ClassFile.FieldType.int)) ∈ TB := tb_of 1356 _ (by decide +kernel) rfl
theorem wd_1357 : (Jvm.Cond.methodLink "RopeSwingModel" (324 : Nat) ({ cls := "RopeSwingModel", name := "fly", desc := "(IZ)V" } : Jvm.MethodName)) ∈ TB := tb_of 1357 _ (by decide +kernel) rfl
theorem wd_1359 : (Jvm.Cond.instanceMethod ({ cls := "RopeSwingModel", name := "fly", desc := "(IZ)V" } : Jvm.MethodName)) ∈ TB := tb_of 1359 _ (by decide +kernel) rfl
theorem wd_1360 : (Jvm.Cond.code ({ cls := "RopeSwingModel", name := "fly", desc := "(IZ)V" } : Jvm.MethodName) prog_12_method_52_code (17 : Nat) (Option.none : Option Jvm.ClassFile.FieldType)) ∈ TB := tb_of 1360 _ (by decide +kernel) rfl
theorem wd_1361 : (Jvm.Cond.constantLong "RopeSwingModel" (295 : Nat) (573 : Int64)) ∈ TB := tb_of 1361 _ (by decide +kernel) rfl
theorem wd_1362 : (Jvm.Cond.constantLong "RopeSwingModel" (297 : Nat) (1000 : Int64)) ∈ TB := tb_of 1362 _ (by decide +kernel) rfl
theorem wd_1363 : (Jvm.Cond.constantLong "RopeSwingModel" (302 : Nat) (245 : Int64)) ∈ TB := tb_of 1363 _ (by decide +kernel) rfl
theorem wd_1364 : (Jvm.Cond.methodLink "RopeSwingModel" (304 : Nat) ({ cls := "RopeSwingModel", name := "isDown", desc := "(JJ)Z" } : Jvm.MethodName)) ∈ TB := tb_of 1364 _ (by decide +kernel) rfl
theorem wd_1366 : (Jvm.Cond.instanceMethod ({ cls := "RopeSwingModel", name := "isDown", desc := "(JJ)Z" } : Jvm.MethodName)) ∈ TB := tb_of 1366 _ (by decide +kernel) rfl
theorem wd_1367 : (Jvm.Cond.code ({ cls := "RopeSwingModel", name := "isDown", desc := "(JJ)Z" } : Jvm.MethodName) prog_12_method_50_code (6 : Nat) (Option.some Jvm.ClassFile.FieldType.boolean)) ∈ TB := tb_of 1367 _ (by decide +kernel) rfl
theorem wd_1368 : (Jvm.Cond.constantLong "RopeSwingModel" (287 : Nat) (-100 : Int64)) ∈ TB := tb_of 1368 _ (by decide +kernel) rfl
theorem wd_1369 : (Jvm.Cond.methodLink "RopeSwingModel" (314 : Nat) ({ cls := "RopeSwingModel", name := "land", desc := "(IZ)V" } : Jvm.MethodName)) ∈ TB := tb_of 1369 _ (by decide +kernel) rfl
theorem wd_1371 : (Jvm.Cond.instanceMethod ({ cls := "RopeSwingModel", name := "land", desc := "(IZ)V" } : Jvm.MethodName)) ∈ TB := tb_of 1371 _ (by decide +kernel) rfl
theorem wd_1372 : (Jvm.Cond.code ({ cls := "RopeSwingModel", name := "land", desc := "(IZ)V" } : Jvm.MethodName) prog_12_method_51_code (6 : Nat) (Option.none : Option Jvm.ClassFile.FieldType)) ∈ TB := tb_of 1372 _ (by decide +kernel) rfl
theorem wd_1373 : (Jvm.Cond.methodLink "RopeSwingLaw" (71 : Nat) ({ cls := "RopeSwingModel", name := "best", desc := "(II)I" } : Jvm.MethodName)) ∈ TB := tb_of 1373 _ (by decide +kernel) rfl
theorem wd_1374 : (Jvm.Cond.instanceMethod ({ cls := "RopeSwingModel", name := "best", desc := "(II)I" } : Jvm.MethodName)) ∈ TB := tb_of 1374 _ (by decide +kernel) rfl
theorem wd_1375 : (Jvm.Cond.selects "RopeSwingModel" ({ cls := "RopeSwingModel", name := "best", desc := "(II)I" } : Jvm.MethodName) ({ cls := "RopeSwingModel", name := "best", desc := "(II)I" } : Jvm.MethodName)) ∈ TB := tb_of 1375 _ (by decide +kernel) rfl
theorem wd_1376 : (Jvm.Cond.code ({ cls := "RopeSwingModel", name := "best", desc := "(II)I" } : Jvm.MethodName) prog_12_method_60_code (3 : Nat) (Option.some Jvm.ClassFile.FieldType.int)) ∈ TB := tb_of 1376 _ (by decide +kernel) rfl
theorem wd_1377 : (Jvm.Cond.methodLink "RopeSwingModel" (339 : Nat) ({ cls := "RopeSwingModel", name := "bestTime", desc := "(I)I" } : Jvm.MethodName)) ∈ TB := tb_of 1377 _ (by decide +kernel) rfl
theorem wd_1379 : (Jvm.Cond.instanceMethod ({ cls := "RopeSwingModel", name := "bestTime", desc := "(I)I" } : Jvm.MethodName)) ∈ TB := tb_of 1379 _ (by decide +kernel) rfl
theorem wd_1380 : (Jvm.Cond.code ({ cls := "RopeSwingModel", name := "bestTime", desc := "(I)I" } : Jvm.MethodName) prog_12_method_59_code (7 : Nat) (Option.some Jvm.ClassFile.FieldType.int)) ∈ TB := tb_of 1380 _ (by decide +kernel) rfl
theorem wd_1381 : (Jvm.Cond.methodLink "RopeSwingModel" (336 : Nat) ({ cls := "RopeSwingModel", name := "isGood", desc := "(I)Z" } : Jvm.MethodName)) ∈ TB := tb_of 1381 _ (by decide +kernel) rfl
theorem wd_1383 : (Jvm.Cond.instanceMethod ({ cls := "RopeSwingModel", name := "isGood", desc := "(I)Z" } : Jvm.MethodName)) ∈ TB := tb_of 1383 _ (by decide +kernel) rfl
theorem wd_1384 : (Jvm.Cond.code ({ cls := "RopeSwingModel", name := "isGood", desc := "(I)Z" } : Jvm.MethodName) prog_12_method_58_code (2 : Nat) (Option.some Jvm.ClassFile.FieldType.boolean)) ∈ TB := tb_of 1384 _ (by decide +kernel) rfl
theorem wd_1385 : (Jvm.Cond.methodLink "RopeSwingLaw" (75 : Nat) ({ cls := "RopeSwingModel", name := "wide", desc := "(II)I" } : Jvm.MethodName)) ∈ TB := tb_of 1385 _ (by decide +kernel) rfl
theorem wd_1386 : (Jvm.Cond.instanceMethod ({ cls := "RopeSwingModel", name := "wide", desc := "(II)I" } : Jvm.MethodName)) ∈ TB := tb_of 1386 _ (by decide +kernel) rfl
theorem wd_1387 : (Jvm.Cond.selects "RopeSwingModel" ({ cls := "RopeSwingModel", name := "wide", desc := "(II)I" } : Jvm.MethodName) ({ cls := "RopeSwingModel", name := "wide", desc := "(II)I" } : Jvm.MethodName)) ∈ TB := tb_of 1387 _ (by decide +kernel) rfl
theorem wd_1388 : (Jvm.Cond.code ({ cls := "RopeSwingModel", name := "wide", desc := "(II)I" } : Jvm.MethodName) prog_12_method_62_code (4 : Nat) (Option.some Jvm.ClassFile.FieldType.int)) ∈ TB := tb_of 1388 _ (by decide +kernel) rfl
theorem wd_1389 : (Jvm.Cond.constantLong "RopeSwingModel" (348 : Nat) (2 : Int64)) ∈ TB := tb_of 1389 _ (by decide +kernel) rfl
theorem wd_1390 : (Jvm.Cond.methodLink "RopeSwingModel" (350 : Nat) ({ cls := "RopeSwingModel", name := "wideRow", desc := "()I" } : Jvm.MethodName)) ∈ TB := tb_of 1390 _ (by decide +kernel) rfl
theorem wd_1392 : (Jvm.Cond.instanceMethod ({ cls := "RopeSwingModel", name := "wideRow", desc := "()I" } : Jvm.MethodName)) ∈ TB := tb_of 1392 _ (by decide +kernel) rfl
theorem wd_1393 : (Jvm.Cond.code ({ cls := "RopeSwingModel", name := "wideRow", desc := "()I" } : Jvm.MethodName) prog_12_method_61_code (5 : Nat) (Option.some Jvm.ClassFile.FieldType.int)) ∈ TB := tb_of 1393 _ (by decide +kernel) rfl
theorem wd_1394 : (Jvm.Cond.methodLink "RopeSwingLaw" (79 : Nat) ({ cls := "RopeSwingModel", name := "odds", desc := "(III)I" } : Jvm.MethodName)) ∈ TB := tb_of 1394 _ (by decide +kernel) rfl
theorem wd_1395 : (Jvm.Cond.instanceMethod ({ cls := "RopeSwingModel", name := "odds", desc := "(III)I" } : Jvm.MethodName)) ∈ TB := tb_of 1395 _ (by decide +kernel) rfl
theorem wd_1396 : (Jvm.Cond.selects "RopeSwingModel" ({ cls := "RopeSwingModel", name := "odds", desc := "(III)I" } : Jvm.MethodName) ({ cls := "RopeSwingModel", name := "odds", desc := "(III)I" } : Jvm.MethodName)) ∈ TB := tb_of 1396 _ (by decide +kernel) rfl
theorem wd_1397 : (Jvm.Cond.code ({ cls := "RopeSwingModel", name := "odds", desc := "(III)I" } : Jvm.MethodName) prog_12_method_63_code (6 : Nat) (Option.some Jvm.ClassFile.FieldType.int)) ∈ TB := tb_of 1397 _ (by decide +kernel) rfl
theorem wd_1398 : (Jvm.Cond.constantLong "RopeSwingModel" (353 : Nat) (40 : Int64)) ∈ TB := tb_of 1398 _ (by decide +kernel) rfl
theorem wd_1399 : (Jvm.Cond.constantLong "RopeSwingModel" (355 : Nat) (1000000 : Int64)) ∈ TB := tb_of 1399 _ (by decide +kernel) rfl
theorem wd_1400 : (Jvm.Cond.methodLink "RopeSwingLaw" (83 : Nat) ({ cls := "RopeSwingModel", name := "strong", desc := "(II)I" } : Jvm.MethodName)) ∈ TB := tb_of 1400 _ (by decide +kernel) rfl
theorem wd_1401 : (Jvm.Cond.instanceMethod ({ cls := "RopeSwingModel", name := "strong", desc := "(II)I" } : Jvm.MethodName)) ∈ TB := tb_of 1401 _ (by decide +kernel) rfl
theorem wd_1402 : (Jvm.Cond.selects "RopeSwingModel" ({ cls := "RopeSwingModel", name := "strong", desc := "(II)I" } : Jvm.MethodName) ({ cls := "RopeSwingModel", name := "strong", desc := "(II)I" } : Jvm.MethodName)) ∈ TB := tb_of 1402 _ (by decide +kernel) rfl
theorem wd_1403 : (Jvm.Cond.code ({ cls := "RopeSwingModel", name := "strong", desc := "(II)I" } : Jvm.MethodName) prog_12_method_64_code (6 : Nat) (Option.some Jvm.ClassFile.FieldType.int)) ∈ TB := tb_of 1403 _ (by decide +kernel) rfl
theorem wd_1404 : (Jvm.Cond.methodLink "RopeSwingLaw" (87 : Nat) ({ cls := "RopeSwingModel", name := "heavy", desc := "()I" } : Jvm.MethodName)) ∈ TB := tb_of 1404 _ (by decide +kernel) rfl
theorem wd_1405 : (Jvm.Cond.instanceMethod ({ cls := "RopeSwingModel", name := "heavy", desc := "()I" } : Jvm.MethodName)) ∈ TB := tb_of 1405 _ (by decide +kernel) rfl
theorem wd_1406 : (Jvm.Cond.selects "RopeSwingModel" ({ cls := "RopeSwingModel", name := "heavy", desc := "()I" } : Jvm.MethodName) ({ cls := "RopeSwingModel", name := "heavy", desc := "()I" } : Jvm.MethodName)) ∈ TB := tb_of 1406 _ (by decide +kernel) rfl
theorem wd_1407 : (Jvm.Cond.code ({ cls := "RopeSwingModel", name := "heavy", desc := "()I" } : Jvm.MethodName) prog_12_method_65_code (4 : Nat) (Option.some Jvm.ClassFile.FieldType.int)) ∈ TB := tb_of 1407 _ (by decide +kernel) rfl
theorem wd_1408 : (Jvm.Cond.methodLink "RopeSwingLaw" (91 : Nat) ({ cls := "RopeSwingModel", name := "may", desc := "()I" } : Jvm.MethodName)) ∈ TB := tb_of 1408 _ (by decide +kernel) rfl
theorem wd_1409 : (Jvm.Cond.instanceMethod ({ cls := "RopeSwingModel", name := "may", desc := "()I" } : Jvm.MethodName)) ∈ TB := tb_of 1409 _ (by decide +kernel) rfl
theorem wd_1410 : (Jvm.Cond.selects "RopeSwingModel" ({ cls := "RopeSwingModel", name := "may", desc := "()I" } : Jvm.MethodName) ({ cls := "RopeSwingModel", name := "may", desc := "()I" } : Jvm.MethodName)) ∈ TB := tb_of 1410 _ (by decide +kernel) rfl
theorem wd_1411 : (Jvm.Cond.code ({ cls := "RopeSwingModel", name := "may", desc := "()I" } : Jvm.MethodName) prog_12_method_67_code (3 : Nat) (Option.some Jvm.ClassFile.FieldType.int)) ∈ TB := tb_of 1411 _ (by decide +kernel) rfl
theorem wd_1412 : (Jvm.Cond.methodLink "RopeSwingModel" (357 : Nat) ({ cls := "RopeSwingModel", name := "hasGood", desc := "()Z" } : Jvm.MethodName)) ∈ TB := tb_of 1412 _ (by decide +kernel) rfl
theorem wd_1414 : (Jvm.Cond.instanceMethod ({ cls := "RopeSwingModel", name := "hasGood", desc := "()Z" } : Jvm.MethodName)) ∈ TB := tb_of 1414 _ (by decide +kernel) rfl
theorem wd_1415 : (Jvm.Cond.code ({ cls := "RopeSwingModel", name := "hasGood", desc := "()Z" } : Jvm.MethodName) prog_12_method_66_code (3 : Nat) (Option.some Jvm.ClassFile.FieldType.boolean)) ∈ TB := tb_of 1415 _ (by decide +kernel) rfl
theorem wd_1416 : (Jvm.Cond.methodLink "RopeSwingLaw" (95 : Nat) ({ cls := "RopeSwingModel", name := "months", desc := "(I)I" } : Jvm.MethodName)) ∈ TB := tb_of 1416 _ (by decide +kernel) rfl
theorem wd_1417 : (Jvm.Cond.instanceMethod ({ cls := "RopeSwingModel", name := "months", desc := "(I)I" } : Jvm.MethodName)) ∈ TB := tb_of 1417 _ (by decide +kernel) rfl
theorem wd_1418 : (Jvm.Cond.selects "RopeSwingModel" ({ cls := "RopeSwingModel", name := "months", desc := "(I)I" } : Jvm.MethodName) ({ cls := "RopeSwingModel", name := "months", desc := "(I)I" } : Jvm.MethodName)) ∈ TB := tb_of 1418 _ (by decide +kernel) rfl
theorem wd_1419 : (Jvm.Cond.code ({ cls := "RopeSwingModel", name := "months", desc := "(I)I" } : Jvm.MethodName) prog_12_method_68_code (5 : Nat) (Option.some Jvm.ClassFile.FieldType.int)) ∈ TB := tb_of 1419 _ (by decide +kernel) rfl
theorem wd_1420 : (Jvm.Cond.methodLink "RopeSwingLaw" (99 : Nat) ({ cls := "RopeSwingModel", name := "rope", desc := "(II)I" } : Jvm.MethodName)) ∈ TB := tb_of 1420 _ (by decide +kernel) rfl
theorem wd_1421 : (Jvm.Cond.instanceMethod ({ cls := "RopeSwingModel", name := "rope", desc := "(II)I" } : Jvm.MethodName)) ∈ TB := tb_of 1421 _ (by decide +kernel) rfl
theorem wd_1422 : (Jvm.Cond.selects "RopeSwingModel" ({ cls := "RopeSwingModel", name := "rope", desc := "(II)I" } : Jvm.MethodName) ({ cls := "RopeSwingModel", name := "rope", desc := "(II)I" } : Jvm.MethodName)) ∈ TB := tb_of 1422 _ (by decide +kernel) rfl
theorem wd_1423 : (Jvm.Cond.code ({ cls := "RopeSwingModel", name := "rope", desc := "(II)I" } : Jvm.MethodName) prog_12_method_69_code (8 : Nat) (Option.some Jvm.ClassFile.FieldType.int)) ∈ TB := tb_of 1423 _ (by decide +kernel) rfl
theorem wd_1424 : (Jvm.Cond.methodLink "RopeSwingLaw" (103 : Nat) ({ cls := "RopeSwingModel", name := "turn", desc := "(II)I" } : Jvm.MethodName)) ∈ TB := tb_of 1424 _ (by decide +kernel) rfl
theorem wd_1425 : (Jvm.Cond.instanceMethod ({ cls := "RopeSwingModel", name := "turn", desc := "(II)I" } : Jvm.MethodName)) ∈ TB := tb_of 1425 _ (by decide +kernel) rfl
theorem wd_1426 : (Jvm.Cond.selects "RopeSwingModel" ({ cls := "RopeSwingModel", name := "turn", desc := "(II)I" } : Jvm.MethodName) ({ cls := "RopeSwingModel", name := "turn", desc := "(II)I" } : Jvm.MethodName)) ∈ TB := tb_of 1426 _ (by decide +kernel) rfl
theorem wd_1427 : (Jvm.Cond.code ({ cls := "RopeSwingModel", name := "turn", desc := "(II)I" } : Jvm.MethodName) prog_12_method_70_code (4 : Nat) (Option.some Jvm.ClassFile.FieldType.int)) ∈ TB := tb_of 1427 _ (by decide +kernel) rfl
theorem wd_1428 : (Jvm.Cond.methodLink "RopeSwingLaw" (107 : Nat) ({ cls := "RopeSwingModel", name := "film", desc := "(II)I" } : Jvm.MethodName)) ∈ TB := tb_of 1428 _ (by decide +kernel) rfl
theorem wd_1429 : (Jvm.Cond.instanceMethod ({ cls := "RopeSwingModel", name := "film", desc := "(II)I" } : Jvm.MethodName)) ∈ TB := tb_of 1429 _ (by decide +kernel) rfl
theorem wd_1430 : (Jvm.Cond.selects "RopeSwingModel" ({ cls := "RopeSwingModel", name := "film", desc := "(II)I" } : Jvm.MethodName) ({ cls := "RopeSwingModel", name := "film", desc := "(II)I" } : Jvm.MethodName)) ∈ TB := tb_of 1430 _ (by decide +kernel) rfl
theorem wd_1431 : (Jvm.Cond.code ({ cls := "RopeSwingModel", name := "film", desc := "(II)I" } : Jvm.MethodName) prog_12_method_71_code (8 : Nat) (Option.some Jvm.ClassFile.FieldType.int)) ∈ TB := tb_of 1431 _ (by decide +kernel) rfl
theorem wd_1432 : (Jvm.Cond.constantLong "RopeSwingModel" (360 : Nat) (-180 : Int64)) ∈ TB := tb_of 1432 _ (by decide +kernel) rfl
theorem wd_1433 : (Jvm.Cond.constantLong "RopeSwingModel" (362 : Nat) (180 : Int64)) ∈ TB := tb_of 1433 _ (by decide +kernel) rfl
theorem wd_1434 : (Jvm.Cond.methodLink "RopeSwingLaw" (111 : Nat) ({ cls := "RopeSwingModel", name := "age", desc := "(I)I" } : Jvm.MethodName)) ∈ TB := tb_of 1434 _ (by decide +kernel) rfl
theorem wd_1435 : (Jvm.Cond.instanceMethod ({ cls := "RopeSwingModel", name := "age", desc := "(I)I" } : Jvm.MethodName)) ∈ TB := tb_of 1435 _ (by decide +kernel) rfl
theorem wd_1436 : (Jvm.Cond.selects "RopeSwingModel" ({ cls := "RopeSwingModel", name := "age", desc := "(I)I" } : Jvm.MethodName) ({ cls := "RopeSwingModel", name := "age", desc := "(I)I" } : Jvm.MethodName)) ∈ TB := tb_of 1436 _ (by decide +kernel) rfl
theorem wd_1437 : (Jvm.Cond.code ({ cls := "RopeSwingModel", name := "age", desc := "(I)I" } : Jvm.MethodName) prog_12_method_72_code (3 : Nat) (Option.some Jvm.ClassFile.FieldType.int)) ∈ TB := tb_of 1437 _ (by decide +kernel) rfl
theorem wd_1438 : (Jvm.Cond.methodLink "RopeSwingLaw" (115 : Nat) ({ cls := "RopeSwingModel", name := "harmed", desc := "(I)I" } : Jvm.MethodName)) ∈ TB := tb_of 1438 _ (by decide +kernel) rfl
theorem wd_1439 : (Jvm.Cond.instanceMethod ({ cls := "RopeSwingModel", name := "harmed", desc := "(I)I" } : Jvm.MethodName)) ∈ TB := tb_of 1439 _ (by decide +kernel) rfl
theorem wd_1440 : (Jvm.Cond.selects "RopeSwingModel" ({ cls := "RopeSwingModel", name := "harmed", desc := "(I)I" } : Jvm.MethodName) ({ cls := "RopeSwingModel", name := "harmed", desc := "(I)I" } : Jvm.MethodName)) ∈ TB := tb_of 1440 _ (by decide +kernel) rfl
theorem wd_1441 : (Jvm.Cond.code ({ cls := "RopeSwingModel", name := "harmed", desc := "(I)I" } : Jvm.MethodName) prog_12_method_76_code (2 : Nat) (Option.some Jvm.ClassFile.FieldType.int)) ∈ TB := tb_of 1441 _ (by decide +kernel) rfl
theorem wd_1442 : (Jvm.Cond.constantLong "RopeSwingModel" (368 : Nat) (63 : Int64)) ∈ TB := tb_of 1442 _ (by decide +kernel) rfl
theorem wd_1443 : (Jvm.Cond.methodLink "RopeSwingModel" (370 : Nat) ({ cls := "RopeSwingModel", name := "findFarthest", desc := "()V" } : Jvm.MethodName)) ∈ TB := tb_of 1443 _ (by decide +kernel) rfl
theorem wd_1445 : (Jvm.Cond.instanceMethod ({ cls := "RopeSwingModel", name := "findFarthest", desc := "()V" } : Jvm.MethodName)) ∈ TB := tb_of 1445 _ (by decide +kernel) rfl
theorem wd_1446 : (Jvm.Cond.code ({ cls := "RopeSwingModel", name := "findFarthest", desc := "()V" } : Jvm.MethodName) prog_12_method_74_code (3 : Nat) (Option.none : Option Jvm.ClassFile.FieldType)) ∈ TB := tb_of 1446 _ (by decide +kernel) rfl
theorem wd_1447 : (Jvm.Cond.methodLink "RopeSwingModel" (373 : Nat) ({ cls := "RopeSwingModel", name := "harmedBy", desc := "(I)I" } : Jvm.MethodName)) ∈ TB := tb_of 1447 _ (by decide +kernel) rfl
theorem wd_1449 : (Jvm.Cond.instanceMethod ({ cls := "RopeSwingModel", name := "harmedBy", desc := "(I)I" } : Jvm.MethodName)) ∈ TB := tb_of 1449 _ (by decide +kernel) rfl
theorem wd_1450 : (Jvm.Cond.code ({ cls := "RopeSwingModel", name := "harmedBy", desc := "(I)I" } : Jvm.MethodName) prog_12_method_75_code (4 : Nat) (Option.some Jvm.ClassFile.FieldType.int)) ∈ TB := tb_of 1450 _ (by decide +kernel) rfl
theorem wd_1451 : (Jvm.Cond.methodLink "RopeSwingModel" (364 : Nat) ({ cls := "RopeSwingModel", name := "isOut", desc := "(II)Z" } : Jvm.MethodName)) ∈ TB := tb_of 1451 _ (by decide +kernel) rfl
theorem wd_1453 : (Jvm.Cond.instanceMethod ({ cls := "RopeSwingModel", name := "isOut", desc := "(II)Z" } : Jvm.MethodName)) ∈ TB := tb_of 1453 _ (by decide +kernel) rfl
theorem wd_1454 : (Jvm.Cond.code ({ cls := "RopeSwingModel", name := "isOut", desc := "(II)Z" } : Jvm.MethodName) prog_12_method_73_code (5 : Nat) (Option.some Jvm.ClassFile.FieldType.boolean)) ∈ TB := tb_of 1454 _ (by decide +kernel) rfl
theorem wd_1455 : (Jvm.Cond.methodLink "RopeSwingLaw" (119 : Nat) ({ cls := "RopeSwingModel", name := "enough", desc := "()I" } : Jvm.MethodName)) ∈ TB := tb_of 1455 _ (by decide +kernel) rfl
theorem wd_1456 : (Jvm.Cond.instanceMethod ({ cls := "RopeSwingModel", name := "enough", desc := "()I" } : Jvm.MethodName)) ∈ TB := tb_of 1456 _ (by decide +kernel) rfl
theorem wd_1457 : (Jvm.Cond.selects "RopeSwingModel" ({ cls := "RopeSwingModel", name := "enough", desc := "()I" } : Jvm.MethodName) ({ cls := "RopeSwingModel", name := "enough", desc := "()I" } : Jvm.MethodName)) ∈ TB := tb_of 1457 _ (by decide +kernel) rfl
theorem wd_1458 : (Jvm.Cond.code ({ cls := "RopeSwingModel", name := "enough", desc := "()I" } : Jvm.MethodName) prog_12_method_78_code (4 : Nat) (Option.some Jvm.ClassFile.FieldType.int)) ∈ TB := tb_of 1458 _ (by decide +kernel) rfl
theorem wd_1459 : (Jvm.Cond.methodLink "RopeSwingModel" (376 : Nat) ({ cls := "RopeSwingModel", name := "bits", desc := "(I)I" } : Jvm.MethodName)) ∈ TB := tb_of 1459 _ (by decide +kernel) rfl
theorem wd_1460 : (Jvm.Cond.static ({ cls := "RopeSwingModel", name := "bits", desc := "(I)I" } : Jvm.MethodName)) ∈ TB := tb_of 1460 _ (by decide +kernel) rfl
theorem wd_1461 : (Jvm.Cond.code ({ cls := "RopeSwingModel", name := "bits", desc := "(I)I" } : Jvm.MethodName) prog_12_method_77_code (3 : Nat) (Option.some Jvm.ClassFile.FieldType.int)) ∈ TB := tb_of 1461 _ (by decide +kernel) rfl
theorem wd_1462 : (Jvm.Cond.methodLink "RopeSwingLaw" (123 : Nat) ({ cls := "RopeSwingModel", name := "seed", desc := "(I)I" } : Jvm.MethodName)) ∈ TB := tb_of 1462 _ (by decide +kernel) rfl
theorem wd_1463 : (Jvm.Cond.instanceMethod ({ cls := "RopeSwingModel", name := "seed", desc := "(I)I" } : Jvm.MethodName)) ∈ TB := tb_of 1463 _ (by decide +kernel) rfl
theorem wd_1464 : (Jvm.Cond.selects "RopeSwingModel" ({ cls := "RopeSwingModel", name := "seed", desc := "(I)I" } : Jvm.MethodName) ({ cls := "RopeSwingModel", name := "seed", desc := "(I)I" } : Jvm.MethodName)) ∈ TB := tb_of 1464 _ (by decide +kernel) rfl
theorem wd_1465 : (Jvm.Cond.code ({ cls := "RopeSwingModel", name := "seed", desc := "(I)I" } : Jvm.MethodName) prog_12_method_79_code (3 : Nat) (Option.some Jvm.ClassFile.FieldType.int)) ∈ TB := tb_of 1465 _ (by decide +kernel) rfl
theorem wd_1466 : (Jvm.Cond.methodLink "RopeSwingLaw" (127 : Nat) ({ cls := "RopeSwingModel", name := "afternoon", desc := "(I)I" } : Jvm.MethodName)) ∈ TB := tb_of 1466 _ (by decide +kernel) rfl
theorem wd_1467 : (Jvm.Cond.instanceMethod ({ cls := "RopeSwingModel", name := "afternoon", desc := "(I)I" } : Jvm.MethodName)) ∈ TB := tb_of 1467 _ (by decide +kernel) rfl
theorem wd_1468 : (Jvm.Cond.selects "RopeSwingModel" ({ cls := "RopeSwingModel", name := "afternoon", desc := "(I)I" } : Jvm.MethodName) ({ cls := "RopeSwingModel", name := "afternoon", desc := "(I)I" } : Jvm.MethodName)) ∈ TB := tb_of 1468 _ (by decide +kernel) rfl
theorem wd_1469 : (Jvm.Cond.code ({ cls := "RopeSwingModel", name := "afternoon", desc := "(I)I" } : Jvm.MethodName) prog_12_method_81_code (4 : Nat) (Option.some Jvm.ClassFile.FieldType.int)) ∈ TB := tb_of 1469 _ (by decide +kernel) rfl
theorem wd_1470 : (Jvm.Cond.methodLink "RopeSwingModel" (389 : Nat) ({ cls := "RopeSwingModel", name := "draw", desc := "(I)I" } : Jvm.MethodName)) ∈ TB := tb_of 1470 _ (by decide +kernel) rfl
theorem wd_1472 : (Jvm.Cond.instanceMethod ({ cls := "RopeSwingModel", name := "draw", desc := "(I)I" } : Jvm.MethodName)) ∈ TB := tb_of 1472 _ (by decide +kernel) rfl
theorem wd_1473 : (Jvm.Cond.code ({ cls := "RopeSwingModel", name := "draw", desc := "(I)I" } : Jvm.MethodName) prog_12_method_80_code (2 : Nat) (Option.some Jvm.ClassFile.FieldType.int)) ∈ TB := tb_of 1473 _ (by decide +kernel) rfl
theorem wd_1474 : (Jvm.Cond.constantLong "RopeSwingModel" (382 : Nat) (1103515245 : Int64)) ∈ TB := tb_of 1474 _ (by decide +kernel) rfl
theorem wd_1475 : (Jvm.Cond.constantLong "RopeSwingModel" (384 : Nat) (12345 : Int64)) ∈ TB := tb_of 1475 _ (by decide +kernel) rfl
theorem wd_1476 : (Jvm.Cond.constantLong "RopeSwingModel" (386 : Nat) (2147483648 : Int64)) ∈ TB := tb_of 1476 _ (by decide +kernel) rfl
theorem wd_1477 : (Jvm.Cond.constant "RopeSwingModel" (388 : Nat) (65536 : Int32)) ∈ TB := tb_of 1477 _ (by decide +kernel) rfl
theorem wd_1478 : (Jvm.Cond.methodLink "RopeSwingLaw" (131 : Nat) ({ cls := "RopeSwingModel", name := "ends", desc := "(I)I" } : Jvm.MethodName)) ∈ TB := tb_of 1478 _ (by decide +kernel) rfl
theorem wd_1479 : (Jvm.Cond.instanceMethod ({ cls := "RopeSwingModel", name := "ends", desc := "(I)I" } : Jvm.MethodName)) ∈ TB := tb_of 1479 _ (by decide +kernel) rfl
theorem wd_1480 : (Jvm.Cond.selects "RopeSwingModel" ({ cls := "RopeSwingModel", name := "ends", desc := "(I)I" } : Jvm.MethodName) ({ cls := "RopeSwingModel", name := "ends", desc := "(I)I" } : Jvm.MethodName)) ∈ TB := tb_of 1480 _ (by decide +kernel) rfl
theorem wd_1481 : (Jvm.Cond.code ({ cls := "RopeSwingModel", name := "ends", desc := "(I)I" } : Jvm.MethodName) prog_12_method_82_code (2 : Nat) (Option.some Jvm.ClassFile.FieldType.int)) ∈ TB := tb_of 1481 _ (by decide +kernel) rfl
theorem wd_1482 : (Jvm.Cond.methodLink "RopeSwingLaw" (135 : Nat) ({ cls := "RopeSwingModel", name := "keep", desc := "(I)I" } : Jvm.MethodName)) ∈ TB := tb_of 1482 _ (by decide +kernel) rfl
theorem wd_1483 : (Jvm.Cond.instanceMethod ({ cls := "RopeSwingModel", name := "keep", desc := "(I)I" } : Jvm.MethodName)) ∈ TB := tb_of 1483 _ (by decide +kernel) rfl
theorem wd_1484 : (Jvm.Cond.selects "RopeSwingModel" ({ cls := "RopeSwingModel", name := "keep", desc := "(I)I" } : Jvm.MethodName) ({ cls := "RopeSwingModel", name := "keep", desc := "(I)I" } : Jvm.MethodName)) ∈ TB := tb_of 1484 _ (by decide +kernel) rfl
theorem wd_1485 : (Jvm.Cond.code ({ cls := "RopeSwingModel", name := "keep", desc := "(I)I" } : Jvm.MethodName) prog_12_method_83_code (4 : Nat) (Option.some Jvm.ClassFile.FieldType.int)) ∈ TB := tb_of 1485 _ (by decide +kernel) rfl
theorem wd_1486 : (Jvm.Cond.methodLink "RopeSwingLaw" (139 : Nat) ({ cls := "RopeSwingModel", name := "goBack", desc := "(I)I" } : Jvm.MethodName)) ∈ TB := tb_of 1486 _ (by decide +kernel) rfl
theorem wd_1487 : (Jvm.Cond.instanceMethod ({ cls := "RopeSwingModel", name := "goBack", desc := "(I)I" } : Jvm.MethodName)) ∈ TB := tb_of 1487 _ (by decide +kernel) rfl
theorem wd_1488 : (Jvm.Cond.selects "RopeSwingModel" ({ cls := "RopeSwingModel", name := "goBack", desc := "(I)I" } : Jvm.MethodName) ({ cls := "RopeSwingModel", name := "goBack", desc := "(I)I" } : Jvm.MethodName)) ∈ TB := tb_of 1488 _ (by decide +kernel) rfl
theorem wd_1489 : (Jvm.Cond.code ({ cls := "RopeSwingModel", name := "goBack", desc := "(I)I" } : Jvm.MethodName) prog_12_method_84_code (4 : Nat) (Option.some Jvm.ClassFile.FieldType.int)) ∈ TB := tb_of 1489 _ (by decide +kernel) rfl
theorem wd_1490 : (Jvm.Cond.constantLong "RopeSwingLaw" (13 : Nat) (4294967295 : Int64)) ∈ TB := tb_of 1490 _ (by decide +kernel) rfl
theorem wd_1491 : (Jvm.Cond.fieldLink "java/lang/String" (9 : Nat) "java/lang/String" "value" "[B") ∈ TB := tb_of 1491 _ (by decide +kernel) rfl
theorem wd_1492 : (Jvm.Cond.fieldLink "java/lang/String" (15 : Nat) "java/lang/String" "coder" "B") ∈ TB := tb_of 1492 _ (by decide +kernel) rfl
theorem inT0 : ∀ w ∈ u_ws RX0 TX0 17, w ∈ TB := tb_at [316, 318, 320, 322, 324, 326, 328, 330, 332, 334, 336, 338, 340, 342, 344, 346, 348] (by decide +kernel) (by decide +kernel)
theorem inT1 : ∀ w ∈ u_ws RX1 TX1 13, w ∈ TB := tb_at [253, 255, 257, 259, 261, 263, 265, 267, 269, 271, 273, 275, 277] (by decide +kernel) (by decide +kernel)
theorem inT2 : ∀ w ∈ u_ws RX2 TX2 3, w ∈ TB := tb_at [225, 227, 229] (by decide +kernel) (by decide +kernel)
theorem inT3 : ∀ w ∈ u_ws RX3 TX3 4, w ∈ TB := tb_at [171, 173, 175, 177] (by decide +kernel) (by decide +kernel)
theorem inT4 : ∀ w ∈ u_ws RX4 TX4 8, w ∈ TB := tb_at [125, 127, 129, 131, 133, 135, 137, 139] (by decide +kernel) (by decide +kernel)
theorem inT5 : ∀ w ∈ u_ws RX5 TX5 4, w ∈ TB := tb_at [203, 205, 207, 209] (by decide +kernel) (by decide +kernel)
theorem inT6 : ∀ w ∈ u_ws RX6 TX6 1, w ∈ TB := tb_at [189] (by decide +kernel) (by decide +kernel)
theorem inT7 : ∀ w ∈ u_ws RX7 TX7 2, w ∈ TB := tb_at [105, 107] (by decide +kernel) (by decide +kernel)
theorem inT8 : ∀ w ∈ u_ws RX8 TX8 5, w ∈ TB := tb_at [367, 369, 371, 373, 375] (by decide +kernel) (by decide +kernel)
theorem inT9 : ∀ w ∈ u_ws RX9 TX9 14, w ∈ TB := tb_at [407, 409, 411, 413, 415, 417, 419, 421, 423, 425, 427, 429, 431, 433] (by decide +kernel) (by decide +kernel)
theorem inT10 : ∀ w ∈ u_ws RX10 TX10 46, w ∈ TB := tb_at [1052, 1054, 1056, 1058, 1060, 1062, 1064, 1066, 1068, 1070, 1072, 1074, 1076, 1078, 1080, 1082, 1084, 1086, 1088, 1090, 1092, 1094, 1096, 1098, 1100, 1102, 1104, 1106, 1108, 1110, 1112, 1114, 1116, 1118, 1120, 1122, 1124, 1126, 1128, 1130, 1132, 1134, 1136, 1138, 1140, 1142] (by decide +kernel) (by decide +kernel)
end
section
theorem dX0_init_0 : decode cX0_init 0 = .ok (.aload_n 0, 1) := by decide +kernel
theorem dX0_init_1 : decode cX0_init 1 = .ok (.invokespecial 3, 3) := by decide +kernel
theorem dX0_init_4 : decode cX0_init 4 = .ok (.aload_n 0, 1) := by decide +kernel
theorem dX0_init_5 : decode cX0_init 5 = .ok (.aload_n 1, 1) := by decide +kernel
theorem dX0_init_6 : decode cX0_init 6 = .ok (.putfield 9, 3) := by decide +kernel
theorem dX0_init_9 : decode cX0_init 9 = .ok (.aload_n 0, 1) := by decide +kernel
theorem dX0_init_10 : decode cX0_init 10 = .ok (.aload_n 2, 1) := by decide +kernel
theorem dX0_init_11 : decode cX0_init 11 = .ok (.putfield 15, 3) := by decide +kernel
theorem dX0_init_14 : decode cX0_init 14 = .ok (.return_, 1) := by decide +kernel
theorem dX0_suit_0 : decode cX0_suit 0 = .ok (.aload_n 0, 1) := by decide +kernel
theorem dX0_suit_1 : decode cX0_suit 1 = .ok (.aload_n 1, 1) := by decide +kernel
theorem dX0_suit_2 : decode cX0_suit 2 = .ok (.iconst 0, 1) := by decide +kernel
theorem dX0_suit_3 : decode cX0_suit 3 = .ok (.invokevirtual 19, 3) := by decide +kernel
theorem dX0_suit_6 : decode cX0_suit 6 = .ok (.putfield 25, 3) := by decide +kernel
theorem dX0_suit_9 : decode cX0_suit 9 = .ok (.aload_n 0, 1) := by decide +kernel
theorem dX0_suit_10 : decode cX0_suit 10 = .ok (.aload_n 1, 1) := by decide +kernel
theorem dX0_suit_11 : decode cX0_suit 11 = .ok (.iconst 1, 1) := by decide +kernel
theorem dX0_suit_12 : decode cX0_suit 12 = .ok (.invokevirtual 19, 3) := by decide +kernel
theorem dX0_suit_15 : decode cX0_suit 15 = .ok (.putfield 29, 3) := by decide +kernel
theorem dX0_suit_18 : decode cX0_suit 18 = .ok (.aload_n 0, 1) := by decide +kernel
theorem dX0_suit_19 : decode cX0_suit 19 = .ok (.aload_n 1, 1) := by decide +kernel
theorem dX0_suit_20 : decode cX0_suit 20 = .ok (.iconst 2, 1) := by decide +kernel
theorem dX0_suit_21 : decode cX0_suit 21 = .ok (.invokevirtual 19, 3) := by decide +kernel
theorem dX0_suit_24 : decode cX0_suit 24 = .ok (.putfield 32, 3) := by decide +kernel
theorem dX0_suit_27 : decode cX0_suit 27 = .ok (.aload_n 0, 1) := by decide +kernel
theorem dX0_suit_28 : decode cX0_suit 28 = .ok (.aload_n 1, 1) := by decide +kernel
theorem dX0_suit_29 : decode cX0_suit 29 = .ok (.iconst 3, 1) := by decide +kernel
theorem dX0_suit_30 : decode cX0_suit 30 = .ok (.invokevirtual 19, 3) := by decide +kernel
theorem dX0_suit_33 : decode cX0_suit 33 = .ok (.putfield 35, 3) := by decide +kernel
theorem dX0_suit_36 : decode cX0_suit 36 = .ok (.aload_n 0, 1) := by decide +kernel
theorem dX0_suit_37 : decode cX0_suit 37 = .ok (.aload_n 1, 1) := by decide +kernel
theorem dX0_suit_38 : decode cX0_suit 38 = .ok (.iconst 4, 1) := by decide +kernel
theorem dX0_suit_39 : decode cX0_suit 39 = .ok (.invokevirtual 19, 3) := by decide +kernel
theorem dX0_suit_42 : decode cX0_suit 42 = .ok (.putfield 38, 3) := by decide +kernel
theorem dX0_suit_45 : decode cX0_suit 45 = .ok (.return_, 1) := by decide +kernel
theorem dX0_hold_0 : decode cX0_hold 0 = .ok (.sipush 1000, 3) := by decide +kernel
theorem dX0_hold_3 : decode cX0_hold 3 = .ok (.istore_n 1, 1) := by decide +kernel
theorem dX0_hold_4 : decode cX0_hold 4 = .ok (.aload_n 0, 1) := by decide +kernel
theorem dX0_hold_5 : decode cX0_hold 5 = .ok (.sipush 200, 3) := by decide +kernel
theorem dX0_hold_8 : decode cX0_hold 8 = .ok (.putfield 41, 3) := by decide +kernel
theorem dX0_hold_11 : decode cX0_hold 11 = .ok (.aload_n 0, 1) := by decide +kernel
theorem dX0_hold_12 : decode cX0_hold 12 = .ok (.iconst 0, 1) := by decide +kernel
theorem dX0_hold_13 : decode cX0_hold 13 = .ok (.putfield 44, 3) := by decide +kernel
theorem dX0_hold_16 : decode cX0_hold 16 = .ok (.iconst 1, 1) := by decide +kernel
theorem dX0_hold_17 : decode cX0_hold 17 = .ok (.istore_n 2, 1) := by decide +kernel
theorem dX0_hold_18 : decode cX0_hold 18 = .ok (.iload_n 2, 1) := by decide +kernel
theorem dX0_hold_19 : decode cX0_hold 19 = .ok (.sipush 200, 3) := by decide +kernel
theorem dX0_hold_22 : decode cX0_hold 22 = .ok (.if_icmp .gt 62, 3) := by decide +kernel
theorem dX0_hold_25 : decode cX0_hold 25 = .ok (.aload_n 0, 1) := by decide +kernel
theorem dX0_hold_26 : decode cX0_hold 26 = .ok (.getfield 15, 3) := by decide +kernel
theorem dX0_hold_29 : decode cX0_hold 29 = .ok (.iload_n 2, 1) := by decide +kernel
theorem dX0_hold_30 : decode cX0_hold 30 = .ok (.aload_n 0, 1) := by decide +kernel
theorem dX0_hold_31 : decode cX0_hold 31 = .ok (.getfield 25, 3) := by decide +kernel
theorem dX0_hold_34 : decode cX0_hold 34 = .ok (.invokevirtual 47, 3) := by decide +kernel
theorem dX0_hold_37 : decode cX0_hold 37 = .ok (.istore_n 3, 1) := by decide +kernel
theorem dX0_hold_38 : decode cX0_hold 38 = .ok (.iload_n 1, 1) := by decide +kernel
theorem dX0_hold_39 : decode cX0_hold 39 = .ok (.bipush 20, 2) := by decide +kernel
theorem dX0_hold_41 : decode cX0_hold 41 = .ok (.iload_n 3, 1) := by decide +kernel
theorem dX0_hold_42 : decode cX0_hold 42 = .ok (.imul, 1) := by decide +kernel
theorem dX0_hold_43 : decode cX0_hold 43 = .ok (.aload_n 0, 1) := by decide +kernel
theorem dX0_hold_44 : decode cX0_hold 44 = .ok (.getfield 32, 3) := by decide +kernel
theorem dX0_hold_47 : decode cX0_hold 47 = .ok (.invokestatic 53, 3) := by decide +kernel
theorem dX0_hold_50 : decode cX0_hold 50 = .ok (.isub, 1) := by decide +kernel
theorem dX0_hold_51 : decode cX0_hold 51 = .ok (.istore_n 1, 1) := by decide +kernel
theorem dX0_hold_52 : decode cX0_hold 52 = .ok (.aload_n 0, 1) := by decide +kernel
theorem dX0_hold_53 : decode cX0_hold 53 = .ok (.iload_n 2, 1) := by decide +kernel
theorem dX0_hold_54 : decode cX0_hold 54 = .ok (.iload_n 3, 1) := by decide +kernel
theorem dX0_hold_55 : decode cX0_hold 55 = .ok (.iload_n 1, 1) := by decide +kernel
theorem dX0_hold_56 : decode cX0_hold 56 = .ok (.invokevirtual 56, 3) := by decide +kernel
theorem dX0_hold_59 : decode cX0_hold 59 = .ok (.istore 4, 2) := by decide +kernel
theorem dX0_hold_61 : decode cX0_hold 61 = .ok (.iload 4, 2) := by decide +kernel
theorem dX0_hold_63 : decode cX0_hold 63 = .ok (.ifCond .eq 15, 3) := by decide +kernel
theorem dX0_hold_66 : decode cX0_hold 66 = .ok (.aload_n 0, 1) := by decide +kernel
theorem dX0_hold_67 : decode cX0_hold 67 = .ok (.iload_n 2, 1) := by decide +kernel
theorem dX0_hold_68 : decode cX0_hold 68 = .ok (.putfield 41, 3) := by decide +kernel
theorem dX0_hold_71 : decode cX0_hold 71 = .ok (.aload_n 0, 1) := by decide +kernel
theorem dX0_hold_72 : decode cX0_hold 72 = .ok (.iload 4, 2) := by decide +kernel
theorem dX0_hold_74 : decode cX0_hold 74 = .ok (.putfield 44, 3) := by decide +kernel
theorem dX0_hold_77 : decode cX0_hold 77 = .ok (.return_, 1) := by decide +kernel
theorem dX0_hold_78 : decode cX0_hold 78 = .ok (.iinc 2 1, 3) := by decide +kernel
theorem dX0_hold_81 : decode cX0_hold 81 = .ok (.goto (-63), 3) := by decide +kernel
theorem dX0_hold_84 : decode cX0_hold 84 = .ok (.return_, 1) := by decide +kernel
theorem dX0_stopsBehind_0 : decode cX0_stopsBehind 0 = .ok (.iload_n 2, 1) := by decide +kernel
theorem dX0_stopsBehind_1 : decode cX0_stopsBehind 1 = .ok (.aload_n 0, 1) := by decide +kernel
theorem dX0_stopsBehind_2 : decode cX0_stopsBehind 2 = .ok (.getfield 60, 3) := by decide +kernel
theorem dX0_stopsBehind_5 : decode cX0_stopsBehind 5 = .ok (.if_icmp .le 6, 3) := by decide +kernel
theorem dX0_stopsBehind_8 : decode cX0_stopsBehind 8 = .ok (.bipush 7, 2) := by decide +kernel
theorem dX0_stopsBehind_10 : decode cX0_stopsBehind 10 = .ok (.ireturn, 1) := by decide +kernel
theorem dX0_stopsBehind_11 : decode cX0_stopsBehind 11 = .ok (.iload_n 3, 1) := by decide +kernel
theorem dX0_stopsBehind_12 : decode cX0_stopsBehind 12 = .ok (.ifCond .ge 5, 3) := by decide +kernel
theorem dX0_stopsBehind_15 : decode cX0_stopsBehind 15 = .ok (.iconst 5, 1) := by decide +kernel
theorem dX0_stopsBehind_16 : decode cX0_stopsBehind 16 = .ok (.ireturn, 1) := by decide +kernel
theorem dX0_stopsBehind_17 : decode cX0_stopsBehind 17 = .ok (.aload_n 0, 1) := by decide +kernel
theorem dX0_stopsBehind_18 : decode cX0_stopsBehind 18 = .ok (.getfield 15, 3) := by decide +kernel
theorem dX0_stopsBehind_21 : decode cX0_stopsBehind 21 = .ok (.iload_n 1, 1) := by decide +kernel
theorem dX0_stopsBehind_22 : decode cX0_stopsBehind 22 = .ok (.invokevirtual 63, 3) := by decide +kernel
theorem dX0_stopsBehind_25 : decode cX0_stopsBehind 25 = .ok (.istore 4, 2) := by decide +kernel
theorem dX0_stopsBehind_27 : decode cX0_stopsBehind 27 = .ok (.aload_n 0, 1) := by decide +kernel
theorem dX0_stopsBehind_28 : decode cX0_stopsBehind 28 = .ok (.getfield 15, 3) := by decide +kernel
theorem dX0_stopsBehind_31 : decode cX0_stopsBehind 31 = .ok (.iload_n 1, 1) := by decide +kernel
theorem dX0_stopsBehind_32 : decode cX0_stopsBehind 32 = .ok (.invokevirtual 66, 3) := by decide +kernel
theorem dX0_stopsBehind_35 : decode cX0_stopsBehind 35 = .ok (.ifCond .ge 21, 3) := by decide +kernel
theorem dX0_stopsBehind_38 : decode cX0_stopsBehind 38 = .ok (.iload 4, 2) := by decide +kernel
theorem dX0_stopsBehind_40 : decode cX0_stopsBehind 40 = .ok (.aload_n 0, 1) := by decide +kernel
theorem dX0_stopsBehind_41 : decode cX0_stopsBehind 41 = .ok (.getfield 9, 3) := by decide +kernel
theorem dX0_stopsBehind_44 : decode cX0_stopsBehind 44 = .ok (.bipush 6, 2) := by decide +kernel
theorem dX0_stopsBehind_46 : decode cX0_stopsBehind 46 = .ok (.invokevirtual 69, 3) := by decide +kernel
theorem dX0_stopsBehind_49 : decode cX0_stopsBehind 49 = .ok (.ineg, 1) := by decide +kernel
theorem dX0_stopsBehind_50 : decode cX0_stopsBehind 50 = .ok (.if_icmp .ge 6, 3) := by decide +kernel
theorem dX0_stopsBehind_53 : decode cX0_stopsBehind 53 = .ok (.bipush 6, 2) := by decide +kernel
theorem dX0_stopsBehind_55 : decode cX0_stopsBehind 55 = .ok (.ireturn, 1) := by decide +kernel
theorem dX0_stopsBehind_56 : decode cX0_stopsBehind 56 = .ok (.aload_n 0, 1) := by decide +kernel
theorem dX0_stopsBehind_57 : decode cX0_stopsBehind 57 = .ok (.getfield 15, 3) := by decide +kernel
theorem dX0_stopsBehind_60 : decode cX0_stopsBehind 60 = .ok (.iload_n 1, 1) := by decide +kernel
theorem dX0_stopsBehind_61 : decode cX0_stopsBehind 61 = .ok (.invokevirtual 72, 3) := by decide +kernel
theorem dX0_stopsBehind_64 : decode cX0_stopsBehind 64 = .ok (.aload_n 0, 1) := by decide +kernel
theorem dX0_stopsBehind_65 : decode cX0_stopsBehind 65 = .ok (.getfield 29, 3) := by decide +kernel
theorem dX0_stopsBehind_68 : decode cX0_stopsBehind 68 = .ok (.isub, 1) := by decide +kernel
theorem dX0_stopsBehind_69 : decode cX0_stopsBehind 69 = .ok (.aload_n 0, 1) := by decide +kernel
theorem dX0_stopsBehind_70 : decode cX0_stopsBehind 70 = .ok (.getfield 75, 3) := by decide +kernel
theorem dX0_stopsBehind_73 : decode cX0_stopsBehind 73 = .ok (.ineg, 1) := by decide +kernel
theorem dX0_stopsBehind_74 : decode cX0_stopsBehind 74 = .ok (.if_icmp .ge 7, 3) := by decide +kernel
theorem dX0_stopsBehind_77 : decode cX0_stopsBehind 77 = .ok (.iconst 1, 1) := by decide +kernel
theorem dX0_stopsBehind_78 : decode cX0_stopsBehind 78 = .ok (.goto 4, 3) := by decide +kernel
theorem dX0_stopsBehind_81 : decode cX0_stopsBehind 81 = .ok (.iconst 0, 1) := by decide +kernel
theorem dX0_stopsBehind_82 : decode cX0_stopsBehind 82 = .ok (.istore 5, 2) := by decide +kernel
theorem dX0_stopsBehind_84 : decode cX0_stopsBehind 84 = .ok (.iload 5, 2) := by decide +kernel
theorem dX0_stopsBehind_86 : decode cX0_stopsBehind 86 = .ok (.ifCond .eq 23, 3) := by decide +kernel
theorem dX0_stopsBehind_89 : decode cX0_stopsBehind 89 = .ok (.aload_n 0, 1) := by decide +kernel
theorem dX0_stopsBehind_90 : decode cX0_stopsBehind 90 = .ok (.getfield 9, 3) := by decide +kernel
theorem dX0_stopsBehind_93 : decode cX0_stopsBehind 93 = .ok (.iload 4, 2) := by decide +kernel
theorem dX0_stopsBehind_95 : decode cX0_stopsBehind 95 = .ok (.invokestatic 78, 3) := by decide +kernel
theorem dX0_stopsBehind_98 : decode cX0_stopsBehind 98 = .ok (.invokevirtual 81, 3) := by decide +kernel
theorem dX0_stopsBehind_101 : decode cX0_stopsBehind 101 = .ok (.ifCond .ne 8, 3) := by decide +kernel
theorem dX0_stopsBehind_104 : decode cX0_stopsBehind 104 = .ok (.bipush 8, 2) := by decide +kernel
theorem dX0_stopsBehind_106 : decode cX0_stopsBehind 106 = .ok (.goto 4, 3) := by decide +kernel
theorem dX0_stopsBehind_109 : decode cX0_stopsBehind 109 = .ok (.iconst 0, 1) := by decide +kernel
theorem dX0_stopsBehind_110 : decode cX0_stopsBehind 110 = .ok (.ireturn, 1) := by decide +kernel
theorem dX0_canLetGo_0 : decode cX0_canLetGo 0 = .ok (.iload_n 1, 1) := by decide +kernel
theorem dX0_canLetGo_1 : decode cX0_canLetGo 1 = .ok (.aload_n 0, 1) := by decide +kernel
theorem dX0_canLetGo_2 : decode cX0_canLetGo 2 = .ok (.getfield 41, 3) := by decide +kernel
theorem dX0_canLetGo_5 : decode cX0_canLetGo 5 = .ok (.if_icmp .lt 28, 3) := by decide +kernel
theorem dX0_canLetGo_8 : decode cX0_canLetGo 8 = .ok (.iload_n 1, 1) := by decide +kernel
theorem dX0_canLetGo_9 : decode cX0_canLetGo 9 = .ok (.aload_n 0, 1) := by decide +kernel
theorem dX0_canLetGo_10 : decode cX0_canLetGo 10 = .ok (.getfield 41, 3) := by decide +kernel
theorem dX0_canLetGo_13 : decode cX0_canLetGo 13 = .ok (.if_icmp .ne 24, 3) := by decide +kernel
theorem dX0_canLetGo_16 : decode cX0_canLetGo 16 = .ok (.aload_n 0, 1) := by decide +kernel
theorem dX0_canLetGo_17 : decode cX0_canLetGo 17 = .ok (.getfield 44, 3) := by decide +kernel
theorem dX0_canLetGo_20 : decode cX0_canLetGo 20 = .ok (.bipush 7, 2) := by decide +kernel
theorem dX0_canLetGo_22 : decode cX0_canLetGo 22 = .ok (.if_icmp .eq 15, 3) := by decide +kernel
theorem dX0_canLetGo_25 : decode cX0_canLetGo 25 = .ok (.aload_n 0, 1) := by decide +kernel
theorem dX0_canLetGo_26 : decode cX0_canLetGo 26 = .ok (.getfield 44, 3) := by decide +kernel
theorem dX0_canLetGo_29 : decode cX0_canLetGo 29 = .ok (.iconst 5, 1) := by decide +kernel
theorem dX0_canLetGo_30 : decode cX0_canLetGo 30 = .ok (.if_icmp .eq 7, 3) := by decide +kernel
theorem dX0_canLetGo_33 : decode cX0_canLetGo 33 = .ok (.iconst 1, 1) := by decide +kernel
theorem dX0_canLetGo_34 : decode cX0_canLetGo 34 = .ok (.goto 4, 3) := by decide +kernel
theorem dX0_canLetGo_37 : decode cX0_canLetGo 37 = .ok (.iconst 0, 1) := by decide +kernel
theorem dX0_canLetGo_38 : decode cX0_canLetGo 38 = .ok (.ireturn, 1) := by decide +kernel
theorem dX0_letGo_0 : decode cX0_letGo 0 = .ok (.aload_n 0, 1) := by decide +kernel
theorem dX0_letGo_1 : decode cX0_letGo 1 = .ok (.iload_n 1, 1) := by decide +kernel
theorem dX0_letGo_2 : decode cX0_letGo 2 = .ok (.invokevirtual 84, 3) := by decide +kernel
theorem dX0_letGo_5 : decode cX0_letGo 5 = .ok (.ifCond .eq 11, 3) := by decide +kernel
theorem dX0_letGo_8 : decode cX0_letGo 8 = .ok (.aload_n 0, 1) := by decide +kernel
theorem dX0_letGo_9 : decode cX0_letGo 9 = .ok (.iload_n 1, 1) := by decide +kernel
theorem dX0_letGo_10 : decode cX0_letGo 10 = .ok (.invokevirtual 88, 3) := by decide +kernel
theorem dX0_letGo_13 : decode cX0_letGo 13 = .ok (.goto 84, 3) := by decide +kernel
theorem dX0_letGo_16 : decode cX0_letGo 16 = .ok (.aload_n 0, 1) := by decide +kernel
theorem dX0_letGo_17 : decode cX0_letGo 17 = .ok (.getfield 44, 3) := by decide +kernel
theorem dX0_letGo_20 : decode cX0_letGo 20 = .ok (.iconst 5, 1) := by decide +kernel
theorem dX0_letGo_21 : decode cX0_letGo 21 = .ok (.if_icmp .ne 30, 3) := by decide +kernel
theorem dX0_letGo_24 : decode cX0_letGo 24 = .ok (.aload_n 0, 1) := by decide +kernel
theorem dX0_letGo_25 : decode cX0_letGo 25 = .ok (.aload_n 0, 1) := by decide +kernel
theorem dX0_letGo_26 : decode cX0_letGo 26 = .ok (.getfield 41, 3) := by decide +kernel
theorem dX0_letGo_29 : decode cX0_letGo 29 = .ok (.invokevirtual 88, 3) := by decide +kernel
theorem dX0_letGo_32 : decode cX0_letGo 32 = .ok (.aload_n 0, 1) := by decide +kernel
theorem dX0_letGo_33 : decode cX0_letGo 33 = .ok (.aload_n 0, 1) := by decide +kernel
theorem dX0_letGo_34 : decode cX0_letGo 34 = .ok (.getfield 92, 3) := by decide +kernel
theorem dX0_letGo_37 : decode cX0_letGo 37 = .ok (.ifCond .ne 7, 3) := by decide +kernel
theorem dX0_letGo_40 : decode cX0_letGo 40 = .ok (.iconst 0, 1) := by decide +kernel
theorem dX0_letGo_41 : decode cX0_letGo 41 = .ok (.goto 4, 3) := by decide +kernel
theorem dX0_letGo_44 : decode cX0_letGo 44 = .ok (.iconst 5, 1) := by decide +kernel
theorem dX0_letGo_45 : decode cX0_letGo 45 = .ok (.putfield 92, 3) := by decide +kernel
theorem dX0_letGo_48 : decode cX0_letGo 48 = .ok (.goto 49, 3) := by decide +kernel
theorem dX0_letGo_51 : decode cX0_letGo 51 = .ok (.aload_n 0, 1) := by decide +kernel
theorem dX0_letGo_52 : decode cX0_letGo 52 = .ok (.aload_n 0, 1) := by decide +kernel
theorem dX0_letGo_53 : decode cX0_letGo 53 = .ok (.getfield 41, 3) := by decide +kernel
theorem dX0_letGo_56 : decode cX0_letGo 56 = .ok (.putfield 95, 3) := by decide +kernel
theorem dX0_letGo_59 : decode cX0_letGo 59 = .ok (.aload_n 0, 1) := by decide +kernel
theorem dX0_letGo_60 : decode cX0_letGo 60 = .ok (.aload_n 0, 1) := by decide +kernel
theorem dX0_letGo_61 : decode cX0_letGo 61 = .ok (.getfield 15, 3) := by decide +kernel
theorem dX0_letGo_64 : decode cX0_letGo 64 = .ok (.aload_n 0, 1) := by decide +kernel
theorem dX0_letGo_65 : decode cX0_letGo 65 = .ok (.getfield 41, 3) := by decide +kernel
theorem dX0_letGo_68 : decode cX0_letGo 68 = .ok (.invokevirtual 63, 3) := by decide +kernel
theorem dX0_letGo_71 : decode cX0_letGo 71 = .ok (.putfield 98, 3) := by decide +kernel
theorem dX0_letGo_74 : decode cX0_letGo 74 = .ok (.aload_n 0, 1) := by decide +kernel
theorem dX0_letGo_75 : decode cX0_letGo 75 = .ok (.iconst 0, 1) := by decide +kernel
theorem dX0_letGo_76 : decode cX0_letGo 76 = .ok (.putfield 101, 3) := by decide +kernel
theorem dX0_letGo_79 : decode cX0_letGo 79 = .ok (.aload_n 0, 1) := by decide +kernel
theorem dX0_letGo_80 : decode cX0_letGo 80 = .ok (.iconst 0, 1) := by decide +kernel
theorem dX0_letGo_81 : decode cX0_letGo 81 = .ok (.putfield 104, 3) := by decide +kernel
theorem dX0_letGo_84 : decode cX0_letGo 84 = .ok (.aload_n 0, 1) := by decide +kernel
theorem dX0_letGo_85 : decode cX0_letGo 85 = .ok (.iconst 0, 1) := by decide +kernel
theorem dX0_letGo_86 : decode cX0_letGo 86 = .ok (.putfield 107, 3) := by decide +kernel
theorem dX0_letGo_89 : decode cX0_letGo 89 = .ok (.aload_n 0, 1) := by decide +kernel
theorem dX0_letGo_90 : decode cX0_letGo 90 = .ok (.aload_n 0, 1) := by decide +kernel
theorem dX0_letGo_91 : decode cX0_letGo 91 = .ok (.getfield 44, 3) := by decide +kernel
theorem dX0_letGo_94 : decode cX0_letGo 94 = .ok (.putfield 92, 3) := by decide +kernel
theorem dX0_letGo_97 : decode cX0_letGo 97 = .ok (.return_, 1) := by decide +kernel
theorem dX0_fly_0 : decode cX0_fly 0 = .ok (.aload_n 0, 1) := by decide +kernel
theorem dX0_fly_1 : decode cX0_fly 1 = .ok (.iload_n 1, 1) := by decide +kernel
theorem dX0_fly_2 : decode cX0_fly 2 = .ok (.putfield 95, 3) := by decide +kernel
theorem dX0_fly_5 : decode cX0_fly 5 = .ok (.bipush 100, 2) := by decide +kernel
theorem dX0_fly_7 : decode cX0_fly 7 = .ok (.aload_n 0, 1) := by decide +kernel
theorem dX0_fly_8 : decode cX0_fly 8 = .ok (.getfield 15, 3) := by decide +kernel
theorem dX0_fly_11 : decode cX0_fly 11 = .ok (.iload_n 1, 1) := by decide +kernel
theorem dX0_fly_12 : decode cX0_fly 12 = .ok (.invokevirtual 63, 3) := by decide +kernel
theorem dX0_fly_15 : decode cX0_fly 15 = .ok (.imul, 1) := by decide +kernel
theorem dX0_fly_16 : decode cX0_fly 16 = .ok (.istore_n 2, 1) := by decide +kernel
theorem dX0_fly_17 : decode cX0_fly 17 = .ok (.bipush 100, 2) := by decide +kernel
theorem dX0_fly_19 : decode cX0_fly 19 = .ok (.aload_n 0, 1) := by decide +kernel
theorem dX0_fly_20 : decode cX0_fly 20 = .ok (.getfield 15, 3) := by decide +kernel
theorem dX0_fly_23 : decode cX0_fly 23 = .ok (.iload_n 1, 1) := by decide +kernel
theorem dX0_fly_24 : decode cX0_fly 24 = .ok (.invokevirtual 72, 3) := by decide +kernel
theorem dX0_fly_27 : decode cX0_fly 27 = .ok (.aload_n 0, 1) := by decide +kernel
theorem dX0_fly_28 : decode cX0_fly 28 = .ok (.getfield 29, 3) := by decide +kernel
theorem dX0_fly_31 : decode cX0_fly 31 = .ok (.isub, 1) := by decide +kernel
theorem dX0_fly_32 : decode cX0_fly 32 = .ok (.imul, 1) := by decide +kernel
theorem dX0_fly_33 : decode cX0_fly 33 = .ok (.istore_n 3, 1) := by decide +kernel
theorem dX0_fly_34 : decode cX0_fly 34 = .ok (.aload_n 0, 1) := by decide +kernel
theorem dX0_fly_35 : decode cX0_fly 35 = .ok (.getfield 15, 3) := by decide +kernel
theorem dX0_fly_38 : decode cX0_fly 38 = .ok (.iload_n 1, 1) := by decide +kernel
theorem dX0_fly_39 : decode cX0_fly 39 = .ok (.invokevirtual 110, 3) := by decide +kernel
theorem dX0_fly_42 : decode cX0_fly 42 = .ok (.istore 4, 2) := by decide +kernel
theorem dX0_fly_44 : decode cX0_fly 44 = .ok (.aload_n 0, 1) := by decide +kernel
theorem dX0_fly_45 : decode cX0_fly 45 = .ok (.getfield 15, 3) := by decide +kernel
theorem dX0_fly_48 : decode cX0_fly 48 = .ok (.iload_n 1, 1) := by decide +kernel
theorem dX0_fly_49 : decode cX0_fly 49 = .ok (.invokevirtual 113, 3) := by decide +kernel
theorem dX0_fly_52 : decode cX0_fly 52 = .ok (.istore 5, 2) := by decide +kernel
theorem dX0_fly_54 : decode cX0_fly 54 = .ok (.iload_n 3, 1) := by decide +kernel
theorem dX0_fly_55 : decode cX0_fly 55 = .ok (.istore 6, 2) := by decide +kernel
theorem dX0_fly_57 : decode cX0_fly 57 = .ok (.iconst 0, 1) := by decide +kernel
theorem dX0_fly_58 : decode cX0_fly 58 = .ok (.istore 7, 2) := by decide +kernel
theorem dX0_fly_60 : decode cX0_fly 60 = .ok (.iconst 0, 1) := by decide +kernel
theorem dX0_fly_61 : decode cX0_fly 61 = .ok (.istore 8, 2) := by decide +kernel
theorem dX0_fly_63 : decode cX0_fly 63 = .ok (.iload 7, 2) := by decide +kernel
theorem dX0_fly_65 : decode cX0_fly 65 = .ok (.sipush 400, 3) := by decide +kernel
theorem dX0_fly_68 : decode cX0_fly 68 = .ok (.if_icmp .ge 84, 3) := by decide +kernel
theorem dX0_fly_71 : decode cX0_fly 71 = .ok (.iload 8, 2) := by decide +kernel
theorem dX0_fly_73 : decode cX0_fly 73 = .ok (.ifCond .ne 79, 3) := by decide +kernel
theorem dX0_fly_76 : decode cX0_fly 76 = .ok (.iinc 7 1, 3) := by decide +kernel
theorem dX0_fly_79 : decode cX0_fly 79 = .ok (.iload_n 2, 1) := by decide +kernel
theorem dX0_fly_80 : decode cX0_fly 80 = .ok (.iload 4, 2) := by decide +kernel
theorem dX0_fly_82 : decode cX0_fly 82 = .ok (.iadd, 1) := by decide +kernel
theorem dX0_fly_83 : decode cX0_fly 83 = .ok (.istore_n 2, 1) := by decide +kernel
theorem dX0_fly_84 : decode cX0_fly 84 = .ok (.iload_n 3, 1) := by decide +kernel
theorem dX0_fly_85 : decode cX0_fly 85 = .ok (.iload 5, 2) := by decide +kernel
theorem dX0_fly_87 : decode cX0_fly 87 = .ok (.iadd, 1) := by decide +kernel
theorem dX0_fly_88 : decode cX0_fly 88 = .ok (.istore_n 3, 1) := by decide +kernel
theorem dX0_fly_89 : decode cX0_fly 89 = .ok (.iinc 5 (-245), 6) := by decide +kernel
theorem dX0_fly_95 : decode cX0_fly 95 = .ok (.iload_n 3, 1) := by decide +kernel
theorem dX0_fly_96 : decode cX0_fly 96 = .ok (.iload 6, 2) := by decide +kernel
theorem dX0_fly_98 : decode cX0_fly 98 = .ok (.if_icmp .le 7, 3) := by decide +kernel
theorem dX0_fly_101 : decode cX0_fly 101 = .ok (.iload_n 3, 1) := by decide +kernel
theorem dX0_fly_102 : decode cX0_fly 102 = .ok (.goto 5, 3) := by decide +kernel
theorem dX0_fly_105 : decode cX0_fly 105 = .ok (.iload 6, 2) := by decide +kernel
theorem dX0_fly_107 : decode cX0_fly 107 = .ok (.istore 6, 2) := by decide +kernel
theorem dX0_fly_109 : decode cX0_fly 109 = .ok (.iload_n 3, 1) := by decide +kernel
theorem dX0_fly_110 : decode cX0_fly 110 = .ok (.ifCond .gt 36, 3) := by decide +kernel
theorem dX0_fly_113 : decode cX0_fly 113 = .ok (.iload_n 3, 1) := by decide +kernel
theorem dX0_fly_114 : decode cX0_fly 114 = .ok (.bipush (-100), 2) := by decide +kernel
theorem dX0_fly_116 : decode cX0_fly 116 = .ok (.aload_n 0, 1) := by decide +kernel
theorem dX0_fly_117 : decode cX0_fly 117 = .ok (.getfield 75, 3) := by decide +kernel
theorem dX0_fly_120 : decode cX0_fly 120 = .ok (.imul, 1) := by decide +kernel
theorem dX0_fly_121 : decode cX0_fly 121 = .ok (.if_icmp .le 21, 3) := by decide +kernel
theorem dX0_fly_124 : decode cX0_fly 124 = .ok (.aload_n 0, 1) := by decide +kernel
theorem dX0_fly_125 : decode cX0_fly 125 = .ok (.getfield 9, 3) := by decide +kernel
theorem dX0_fly_128 : decode cX0_fly 128 = .ok (.iload_n 2, 1) := by decide +kernel
theorem dX0_fly_129 : decode cX0_fly 129 = .ok (.bipush 100, 2) := by decide +kernel
theorem dX0_fly_131 : decode cX0_fly 131 = .ok (.idiv, 1) := by decide +kernel
theorem dX0_fly_132 : decode cX0_fly 132 = .ok (.invokestatic 78, 3) := by decide +kernel
theorem dX0_fly_135 : decode cX0_fly 135 = .ok (.invokevirtual 81, 3) := by decide +kernel
theorem dX0_fly_138 : decode cX0_fly 138 = .ok (.iconst 2, 1) := by decide +kernel
theorem dX0_fly_139 : decode cX0_fly 139 = .ok (.if_icmp .ne 7, 3) := by decide +kernel
theorem dX0_fly_142 : decode cX0_fly 142 = .ok (.iconst 1, 1) := by decide +kernel
theorem dX0_fly_143 : decode cX0_fly 143 = .ok (.goto 4, 3) := by decide +kernel
theorem dX0_fly_146 : decode cX0_fly 146 = .ok (.iconst 0, 1) := by decide +kernel
theorem dX0_fly_147 : decode cX0_fly 147 = .ok (.istore 8, 2) := by decide +kernel
theorem dX0_fly_149 : decode cX0_fly 149 = .ok (.goto (-86), 3) := by decide +kernel
theorem dX0_fly_152 : decode cX0_fly 152 = .ok (.aload_n 0, 1) := by decide +kernel
theorem dX0_fly_153 : decode cX0_fly 153 = .ok (.iload 7, 2) := by decide +kernel
theorem dX0_fly_155 : decode cX0_fly 155 = .ok (.putfield 101, 3) := by decide +kernel
theorem dX0_fly_158 : decode cX0_fly 158 = .ok (.aload_n 0, 1) := by decide +kernel
theorem dX0_fly_159 : decode cX0_fly 159 = .ok (.iload 8, 2) := by decide +kernel
theorem dX0_fly_161 : decode cX0_fly 161 = .ok (.ifCond .eq 10, 3) := by decide +kernel
theorem dX0_fly_164 : decode cX0_fly 164 = .ok (.iload_n 2, 1) := by decide +kernel
theorem dX0_fly_165 : decode cX0_fly 165 = .ok (.bipush 100, 2) := by decide +kernel
theorem dX0_fly_167 : decode cX0_fly 167 = .ok (.idiv, 1) := by decide +kernel
theorem dX0_fly_168 : decode cX0_fly 168 = .ok (.goto 11, 3) := by decide +kernel
theorem dX0_fly_171 : decode cX0_fly 171 = .ok (.aload_n 0, 1) := by decide +kernel
theorem dX0_fly_172 : decode cX0_fly 172 = .ok (.getfield 15, 3) := by decide +kernel
theorem dX0_fly_175 : decode cX0_fly 175 = .ok (.iload_n 1, 1) := by decide +kernel
theorem dX0_fly_176 : decode cX0_fly 176 = .ok (.invokevirtual 63, 3) := by decide +kernel
theorem dX0_fly_179 : decode cX0_fly 179 = .ok (.putfield 98, 3) := by decide +kernel
theorem dX0_fly_182 : decode cX0_fly 182 = .ok (.aload_n 0, 1) := by decide +kernel
theorem dX0_fly_183 : decode cX0_fly 183 = .ok (.iload 6, 2) := by decide +kernel
theorem dX0_fly_185 : decode cX0_fly 185 = .ok (.bipush 100, 2) := by decide +kernel
theorem dX0_fly_187 : decode cX0_fly 187 = .ok (.idiv, 1) := by decide +kernel
theorem dX0_fly_188 : decode cX0_fly 188 = .ok (.putfield 104, 3) := by decide +kernel
theorem dX0_fly_191 : decode cX0_fly 191 = .ok (.aload_n 0, 1) := by decide +kernel
theorem dX0_fly_192 : decode cX0_fly 192 = .ok (.aload_n 0, 1) := by decide +kernel
theorem dX0_fly_193 : decode cX0_fly 193 = .ok (.getfield 38, 3) := by decide +kernel
theorem dX0_fly_196 : decode cX0_fly 196 = .ok (.aload_n 0, 1) := by decide +kernel
theorem dX0_fly_197 : decode cX0_fly 197 = .ok (.getfield 101, 3) := by decide +kernel
theorem dX0_fly_200 : decode cX0_fly 200 = .ok (.imul, 1) := by decide +kernel
theorem dX0_fly_201 : decode cX0_fly 201 = .ok (.sipush 360, 3) := by decide +kernel
theorem dX0_fly_204 : decode cX0_fly 204 = .ok (.irem, 1) := by decide +kernel
theorem dX0_fly_205 : decode cX0_fly 205 = .ok (.putfield 107, 3) := by decide +kernel
theorem dX0_fly_208 : decode cX0_fly 208 = .ok (.aload_n 0, 1) := by decide +kernel
theorem dX0_fly_209 : decode cX0_fly 209 = .ok (.iload 8, 2) := by decide +kernel
theorem dX0_fly_211 : decode cX0_fly 211 = .ok (.ifCond .eq 17, 3) := by decide +kernel
theorem dX0_fly_214 : decode cX0_fly 214 = .ok (.aload_n 0, 1) := by decide +kernel
theorem dX0_fly_215 : decode cX0_fly 215 = .ok (.aload_n 0, 1) := by decide +kernel
theorem dX0_fly_216 : decode cX0_fly 216 = .ok (.getfield 98, 3) := by decide +kernel
theorem dX0_fly_219 : decode cX0_fly 219 = .ok (.invokestatic 78, 3) := by decide +kernel
theorem dX0_fly_222 : decode cX0_fly 222 = .ok (.invokevirtual 116, 3) := by decide +kernel
theorem dX0_fly_225 : decode cX0_fly 225 = .ok (.goto 4, 3) := by decide +kernel
theorem dX0_fly_228 : decode cX0_fly 228 = .ok (.iconst 0, 1) := by decide +kernel
theorem dX0_fly_229 : decode cX0_fly 229 = .ok (.putfield 92, 3) := by decide +kernel
theorem dX0_fly_232 : decode cX0_fly 232 = .ok (.return_, 1) := by decide +kernel
theorem dX0_landing_0 : decode cX0_landing 0 = .ok (.aload_n 0, 1) := by decide +kernel
theorem dX0_landing_1 : decode cX0_landing 1 = .ok (.getfield 9, 3) := by decide +kernel
theorem dX0_landing_4 : decode cX0_landing 4 = .ok (.iload_n 1, 1) := by decide +kernel
theorem dX0_landing_5 : decode cX0_landing 5 = .ok (.invokevirtual 81, 3) := by decide +kernel
theorem dX0_landing_8 : decode cX0_landing 8 = .ok (.istore_n 2, 1) := by decide +kernel
theorem dX0_landing_9 : decode cX0_landing 9 = .ok (.iload_n 2, 1) := by decide +kernel
theorem dX0_landing_10 : decode cX0_landing 10 = .ok (.iconst 2, 1) := by decide +kernel
theorem dX0_landing_11 : decode cX0_landing 11 = .ok (.if_icmp .ne 5, 3) := by decide +kernel
theorem dX0_landing_14 : decode cX0_landing 14 = .ok (.iconst 1, 1) := by decide +kernel
theorem dX0_landing_15 : decode cX0_landing 15 = .ok (.ireturn, 1) := by decide +kernel
theorem dX0_landing_16 : decode cX0_landing 16 = .ok (.iload_n 2, 1) := by decide +kernel
theorem dX0_landing_17 : decode cX0_landing 17 = .ok (.iconst 1, 1) := by decide +kernel
theorem dX0_landing_18 : decode cX0_landing 18 = .ok (.if_icmp .eq 27, 3) := by decide +kernel
theorem dX0_landing_21 : decode cX0_landing 21 = .ok (.aload_n 0, 1) := by decide +kernel
theorem dX0_landing_22 : decode cX0_landing 22 = .ok (.getfield 9, 3) := by decide +kernel
theorem dX0_landing_25 : decode cX0_landing 25 = .ok (.iload_n 1, 1) := by decide +kernel
theorem dX0_landing_26 : decode cX0_landing 26 = .ok (.aload_n 0, 1) := by decide +kernel
theorem dX0_landing_27 : decode cX0_landing 27 = .ok (.getfield 75, 3) := by decide +kernel
theorem dX0_landing_30 : decode cX0_landing 30 = .ok (.invokevirtual 119, 3) := by decide +kernel
theorem dX0_landing_33 : decode cX0_landing 33 = .ok (.aload_n 0, 1) := by decide +kernel
theorem dX0_landing_34 : decode cX0_landing 34 = .ok (.getfield 9, 3) := by decide +kernel
theorem dX0_landing_37 : decode cX0_landing 37 = .ok (.bipush 7, 2) := by decide +kernel
theorem dX0_landing_39 : decode cX0_landing 39 = .ok (.invokevirtual 69, 3) := by decide +kernel
theorem dX0_landing_42 : decode cX0_landing 42 = .ok (.if_icmp .ge 5, 3) := by decide +kernel
theorem dX0_landing_45 : decode cX0_landing 45 = .ok (.iconst 3, 1) := by decide +kernel
theorem dX0_landing_46 : decode cX0_landing 46 = .ok (.ireturn, 1) := by decide +kernel
theorem dX0_landing_47 : decode cX0_landing 47 = .ok (.aload_n 0, 1) := by decide +kernel
theorem dX0_landing_48 : decode cX0_landing 48 = .ok (.getfield 107, 3) := by decide +kernel
theorem dX0_landing_51 : decode cX0_landing 51 = .ok (.bipush 30, 2) := by decide +kernel
theorem dX0_landing_53 : decode cX0_landing 53 = .ok (.if_icmp .le 13, 3) := by decide +kernel
theorem dX0_landing_56 : decode cX0_landing 56 = .ok (.aload_n 0, 1) := by decide +kernel
theorem dX0_landing_57 : decode cX0_landing 57 = .ok (.getfield 107, 3) := by decide +kernel
theorem dX0_landing_60 : decode cX0_landing 60 = .ok (.sipush 330, 3) := by decide +kernel
theorem dX0_landing_63 : decode cX0_landing 63 = .ok (.if_icmp .lt 7, 3) := by decide +kernel
theorem dX0_landing_66 : decode cX0_landing 66 = .ok (.iconst 2, 1) := by decide +kernel
theorem dX0_landing_67 : decode cX0_landing 67 = .ok (.goto 4, 3) := by decide +kernel
theorem dX0_landing_70 : decode cX0_landing 70 = .ok (.iconst 4, 1) := by decide +kernel
theorem dX0_landing_71 : decode cX0_landing 71 = .ok (.ireturn, 1) := by decide +kernel
theorem dX0_endsGood_0 : decode cX0_endsGood 0 = .ok (.aload_n 0, 1) := by decide +kernel
theorem dX0_endsGood_1 : decode cX0_endsGood 1 = .ok (.iload_n 1, 1) := by decide +kernel
theorem dX0_endsGood_2 : decode cX0_endsGood 2 = .ok (.invokevirtual 84, 3) := by decide +kernel
theorem dX0_endsGood_5 : decode cX0_endsGood 5 = .ok (.ifCond .ne 5, 3) := by decide +kernel
theorem dX0_endsGood_8 : decode cX0_endsGood 8 = .ok (.iconst 0, 1) := by decide +kernel
theorem dX0_endsGood_9 : decode cX0_endsGood 9 = .ok (.ireturn, 1) := by decide +kernel
theorem dX0_endsGood_10 : decode cX0_endsGood 10 = .ok (.aload_n 0, 1) := by decide +kernel
theorem dX0_endsGood_11 : decode cX0_endsGood 11 = .ok (.iload_n 1, 1) := by decide +kernel
theorem dX0_endsGood_12 : decode cX0_endsGood 12 = .ok (.invokevirtual 88, 3) := by decide +kernel
theorem dX0_endsGood_15 : decode cX0_endsGood 15 = .ok (.aload_n 0, 1) := by decide +kernel
theorem dX0_endsGood_16 : decode cX0_endsGood 16 = .ok (.getfield 92, 3) := by decide +kernel
theorem dX0_endsGood_19 : decode cX0_endsGood 19 = .ok (.invokestatic 122, 3) := by decide +kernel
theorem dX0_endsGood_22 : decode cX0_endsGood 22 = .ok (.ireturn, 1) := by decide +kernel
theorem dX0_hasGoodTime_0 : decode cX0_hasGoodTime 0 = .ok (.iconst 1, 1) := by decide +kernel
theorem dX0_hasGoodTime_1 : decode cX0_hasGoodTime 1 = .ok (.istore_n 1, 1) := by decide +kernel
theorem dX0_hasGoodTime_2 : decode cX0_hasGoodTime 2 = .ok (.iload_n 1, 1) := by decide +kernel
theorem dX0_hasGoodTime_3 : decode cX0_hasGoodTime 3 = .ok (.sipush 200, 3) := by decide +kernel
theorem dX0_hasGoodTime_6 : decode cX0_hasGoodTime 6 = .ok (.if_icmp .gt 24, 3) := by decide +kernel
theorem dX0_hasGoodTime_9 : decode cX0_hasGoodTime 9 = .ok (.aload_n 0, 1) := by decide +kernel
theorem dX0_hasGoodTime_10 : decode cX0_hasGoodTime 10 = .ok (.iload_n 1, 1) := by decide +kernel
theorem dX0_hasGoodTime_11 : decode cX0_hasGoodTime 11 = .ok (.aload_n 0, 1) := by decide +kernel
theorem dX0_hasGoodTime_12 : decode cX0_hasGoodTime 12 = .ok (.getfield 35, 3) := by decide +kernel
theorem dX0_hasGoodTime_15 : decode cX0_hasGoodTime 15 = .ok (.iadd, 1) := by decide +kernel
theorem dX0_hasGoodTime_16 : decode cX0_hasGoodTime 16 = .ok (.invokevirtual 125, 3) := by decide +kernel
theorem dX0_hasGoodTime_19 : decode cX0_hasGoodTime 19 = .ok (.ifCond .eq 5, 3) := by decide +kernel
theorem dX0_hasGoodTime_22 : decode cX0_hasGoodTime 22 = .ok (.iconst 1, 1) := by decide +kernel
theorem dX0_hasGoodTime_23 : decode cX0_hasGoodTime 23 = .ok (.ireturn, 1) := by decide +kernel
theorem dX0_hasGoodTime_24 : decode cX0_hasGoodTime 24 = .ok (.iinc 1 1, 3) := by decide +kernel
theorem dX0_hasGoodTime_27 : decode cX0_hasGoodTime 27 = .ok (.goto (-25), 3) := by decide +kernel
theorem dX0_hasGoodTime_30 : decode cX0_hasGoodTime 30 = .ok (.iconst 0, 1) := by decide +kernel
theorem dX0_hasGoodTime_31 : decode cX0_hasGoodTime 31 = .ok (.ireturn, 1) := by decide +kernel
theorem dX1_init_0 : decode cX1_init 0 = .ok (.aload_n 0, 1) := by decide +kernel
theorem dX1_init_1 : decode cX1_init 1 = .ok (.invokespecial 3, 3) := by decide +kernel
theorem dX1_init_4 : decode cX1_init 4 = .ok (.aload_n 0, 1) := by decide +kernel
theorem dX1_init_5 : decode cX1_init 5 = .ok (.new 9, 3) := by decide +kernel
theorem dX1_init_8 : decode cX1_init 8 = .ok (.dup, 1) := by decide +kernel
theorem dX1_init_9 : decode cX1_init 9 = .ok (.invokespecial 11, 3) := by decide +kernel
theorem dX1_init_12 : decode cX1_init 12 = .ok (.putfield 12, 3) := by decide +kernel
theorem dX1_init_15 : decode cX1_init 15 = .ok (.aload_n 0, 1) := by decide +kernel
theorem dX1_init_16 : decode cX1_init 16 = .ok (.sipush 201, 3) := by decide +kernel
theorem dX1_init_19 : decode cX1_init 19 = .ok (.newarray .int, 2) := by decide +kernel
theorem dX1_init_21 : decode cX1_init 21 = .ok (.putfield 18, 3) := by decide +kernel
theorem dX1_init_24 : decode cX1_init 24 = .ok (.aload_n 0, 1) := by decide +kernel
theorem dX1_init_25 : decode cX1_init 25 = .ok (.sipush 201, 3) := by decide +kernel
theorem dX1_init_28 : decode cX1_init 28 = .ok (.newarray .int, 2) := by decide +kernel
theorem dX1_init_30 : decode cX1_init 30 = .ok (.putfield 22, 3) := by decide +kernel
theorem dX1_init_33 : decode cX1_init 33 = .ok (.aload_n 0, 1) := by decide +kernel
theorem dX1_init_34 : decode cX1_init 34 = .ok (.sipush 201, 3) := by decide +kernel
theorem dX1_init_37 : decode cX1_init 37 = .ok (.newarray .int, 2) := by decide +kernel
theorem dX1_init_39 : decode cX1_init 39 = .ok (.putfield 25, 3) := by decide +kernel
theorem dX1_init_42 : decode cX1_init 42 = .ok (.aload_n 0, 1) := by decide +kernel
theorem dX1_init_43 : decode cX1_init 43 = .ok (.sipush 201, 3) := by decide +kernel
theorem dX1_init_46 : decode cX1_init 46 = .ok (.newarray .int, 2) := by decide +kernel
theorem dX1_init_48 : decode cX1_init 48 = .ok (.putfield 28, 3) := by decide +kernel
theorem dX1_init_51 : decode cX1_init 51 = .ok (.aload_n 0, 1) := by decide +kernel
theorem dX1_init_52 : decode cX1_init 52 = .ok (.sipush 201, 3) := by decide +kernel
theorem dX1_init_55 : decode cX1_init 55 = .ok (.newarray .int, 2) := by decide +kernel
theorem dX1_init_57 : decode cX1_init 57 = .ok (.putfield 31, 3) := by decide +kernel
theorem dX1_init_60 : decode cX1_init 60 = .ok (.aload_n 0, 1) := by decide +kernel
theorem dX1_init_61 : decode cX1_init 61 = .ok (.sipush 201, 3) := by decide +kernel
theorem dX1_init_64 : decode cX1_init 64 = .ok (.newarray .int, 2) := by decide +kernel
theorem dX1_init_66 : decode cX1_init 66 = .ok (.putfield 34, 3) := by decide +kernel
theorem dX1_init_69 : decode cX1_init 69 = .ok (.aload_n 0, 1) := by decide +kernel
theorem dX1_init_70 : decode cX1_init 70 = .ok (.sipush 201, 3) := by decide +kernel
theorem dX1_init_73 : decode cX1_init 73 = .ok (.newarray .int, 2) := by decide +kernel
theorem dX1_init_75 : decode cX1_init 75 = .ok (.putfield 37, 3) := by decide +kernel
theorem dX1_init_78 : decode cX1_init 78 = .ok (.return_, 1) := by decide +kernel
theorem dX1_trace_0 : decode cX1_trace 0 = .ok (.aload_n 0, 1) := by decide +kernel
theorem dX1_trace_1 : decode cX1_trace 1 = .ok (.getfield 40, 3) := by decide +kernel
theorem dX1_trace_4 : decode cX1_trace 4 = .ok (.ifCond .eq 37, 3) := by decide +kernel
theorem dX1_trace_7 : decode cX1_trace 7 = .ok (.aload_n 0, 1) := by decide +kernel
theorem dX1_trace_8 : decode cX1_trace 8 = .ok (.getfield 44, 3) := by decide +kernel
theorem dX1_trace_11 : decode cX1_trace 11 = .ok (.iload_n 1, 1) := by decide +kernel
theorem dX1_trace_12 : decode cX1_trace 12 = .ok (.if_icmp .ne 29, 3) := by decide +kernel
theorem dX1_trace_15 : decode cX1_trace 15 = .ok (.aload_n 0, 1) := by decide +kernel
theorem dX1_trace_16 : decode cX1_trace 16 = .ok (.getfield 48, 3) := by decide +kernel
theorem dX1_trace_19 : decode cX1_trace 19 = .ok (.iload_n 2, 1) := by decide +kernel
theorem dX1_trace_20 : decode cX1_trace 20 = .ok (.if_icmp .ne 21, 3) := by decide +kernel
theorem dX1_trace_23 : decode cX1_trace 23 = .ok (.aload_n 0, 1) := by decide +kernel
theorem dX1_trace_24 : decode cX1_trace 24 = .ok (.getfield 51, 3) := by decide +kernel
theorem dX1_trace_27 : decode cX1_trace 27 = .ok (.iload_n 3, 1) := by decide +kernel
theorem dX1_trace_28 : decode cX1_trace 28 = .ok (.if_icmp .ne 13, 3) := by decide +kernel
theorem dX1_trace_31 : decode cX1_trace 31 = .ok (.aload_n 0, 1) := by decide +kernel
theorem dX1_trace_32 : decode cX1_trace 32 = .ok (.getfield 54, 3) := by decide +kernel
theorem dX1_trace_35 : decode cX1_trace 35 = .ok (.iload 4, 2) := by decide +kernel
theorem dX1_trace_37 : decode cX1_trace 37 = .ok (.if_icmp .ne 4, 3) := by decide +kernel
theorem dX1_trace_40 : decode cX1_trace 40 = .ok (.return_, 1) := by decide +kernel
theorem dX1_trace_41 : decode cX1_trace 41 = .ok (.aload_n 0, 1) := by decide +kernel
theorem dX1_trace_42 : decode cX1_trace 42 = .ok (.iconst 1, 1) := by decide +kernel
theorem dX1_trace_43 : decode cX1_trace 43 = .ok (.putfield 40, 3) := by decide +kernel
theorem dX1_trace_46 : decode cX1_trace 46 = .ok (.aload_n 0, 1) := by decide +kernel
theorem dX1_trace_47 : decode cX1_trace 47 = .ok (.iload_n 1, 1) := by decide +kernel
theorem dX1_trace_48 : decode cX1_trace 48 = .ok (.putfield 44, 3) := by decide +kernel
theorem dX1_trace_51 : decode cX1_trace 51 = .ok (.aload_n 0, 1) := by decide +kernel
theorem dX1_trace_52 : decode cX1_trace 52 = .ok (.iload_n 2, 1) := by decide +kernel
theorem dX1_trace_53 : decode cX1_trace 53 = .ok (.putfield 48, 3) := by decide +kernel
theorem dX1_trace_56 : decode cX1_trace 56 = .ok (.aload_n 0, 1) := by decide +kernel
theorem dX1_trace_57 : decode cX1_trace 57 = .ok (.iload_n 3, 1) := by decide +kernel
theorem dX1_trace_58 : decode cX1_trace 58 = .ok (.putfield 51, 3) := by decide +kernel
theorem dX1_trace_61 : decode cX1_trace 61 = .ok (.aload_n 0, 1) := by decide +kernel
theorem dX1_trace_62 : decode cX1_trace 62 = .ok (.iload 4, 2) := by decide +kernel
theorem dX1_trace_64 : decode cX1_trace 64 = .ok (.putfield 54, 3) := by decide +kernel
theorem dX1_trace_67 : decode cX1_trace 67 = .ok (.aload_n 0, 1) := by decide +kernel
theorem dX1_trace_68 : decode cX1_trace 68 = .ok (.getfield 12, 3) := by decide +kernel
theorem dX1_trace_71 : decode cX1_trace 71 = .ok (.aload_n 0, 1) := by decide +kernel
theorem dX1_trace_72 : decode cX1_trace 72 = .ok (.getfield 48, 3) := by decide +kernel
theorem dX1_trace_75 : decode cX1_trace 75 = .ok (.aload_n 0, 1) := by decide +kernel
theorem dX1_trace_76 : decode cX1_trace 76 = .ok (.getfield 51, 3) := by decide +kernel
theorem dX1_trace_79 : decode cX1_trace 79 = .ok (.aload_n 0, 1) := by decide +kernel
theorem dX1_trace_80 : decode cX1_trace 80 = .ok (.getfield 54, 3) := by decide +kernel
theorem dX1_trace_83 : decode cX1_trace 83 = .ok (.invokevirtual 57, 3) := by decide +kernel
theorem dX1_trace_86 : decode cX1_trace 86 = .ok (.aload_n 0, 1) := by decide +kernel
theorem dX1_trace_87 : decode cX1_trace 87 = .ok (.iconst 0, 1) := by decide +kernel
theorem dX1_trace_88 : decode cX1_trace 88 = .ok (.invokevirtual 61, 3) := by decide +kernel
theorem dX1_trace_91 : decode cX1_trace 91 = .ok (.iconst 1, 1) := by decide +kernel
theorem dX1_trace_92 : decode cX1_trace 92 = .ok (.istore 5, 2) := by decide +kernel
theorem dX1_trace_94 : decode cX1_trace 94 = .ok (.iload 5, 2) := by decide +kernel
theorem dX1_trace_96 : decode cX1_trace 96 = .ok (.sipush 200, 3) := by decide +kernel
theorem dX1_trace_99 : decode cX1_trace 99 = .ok (.if_icmp .gt 22, 3) := by decide +kernel
theorem dX1_trace_102 : decode cX1_trace 102 = .ok (.aload_n 0, 1) := by decide +kernel
theorem dX1_trace_103 : decode cX1_trace 103 = .ok (.getfield 12, 3) := by decide +kernel
theorem dX1_trace_106 : decode cX1_trace 106 = .ok (.invokevirtual 65, 3) := by decide +kernel
theorem dX1_trace_109 : decode cX1_trace 109 = .ok (.aload_n 0, 1) := by decide +kernel
theorem dX1_trace_110 : decode cX1_trace 110 = .ok (.iload 5, 2) := by decide +kernel
theorem dX1_trace_112 : decode cX1_trace 112 = .ok (.invokevirtual 61, 3) := by decide +kernel
theorem dX1_trace_115 : decode cX1_trace 115 = .ok (.iinc 5 1, 3) := by decide +kernel
theorem dX1_trace_118 : decode cX1_trace 118 = .ok (.goto (-24), 3) := by decide +kernel
theorem dX1_trace_121 : decode cX1_trace 121 = .ok (.return_, 1) := by decide +kernel
theorem dX1_note_0 : decode cX1_note 0 = .ok (.aload_n 0, 1) := by decide +kernel
theorem dX1_note_1 : decode cX1_note 1 = .ok (.getfield 12, 3) := by decide +kernel
theorem dX1_note_4 : decode cX1_note 4 = .ok (.getfield 68, 3) := by decide +kernel
theorem dX1_note_7 : decode cX1_note 7 = .ok (.bipush 100, 2) := by decide +kernel
theorem dX1_note_9 : decode cX1_note 9 = .ok (.idiv, 1) := by decide +kernel
theorem dX1_note_10 : decode cX1_note 10 = .ok (.invokestatic 70, 3) := by decide +kernel
theorem dX1_note_13 : decode cX1_note 13 = .ok (.istore_n 2, 1) := by decide +kernel
theorem dX1_note_14 : decode cX1_note 14 = .ok (.sipush 900, 3) := by decide +kernel
theorem dX1_note_17 : decode cX1_note 17 = .ok (.aload_n 0, 1) := by decide +kernel
theorem dX1_note_18 : decode cX1_note 18 = .ok (.getfield 12, 3) := by decide +kernel
theorem dX1_note_21 : decode cX1_note 21 = .ok (.getfield 68, 3) := by decide +kernel
theorem dX1_note_24 : decode cX1_note 24 = .ok (.bipush 100, 2) := by decide +kernel
theorem dX1_note_26 : decode cX1_note 26 = .ok (.idiv, 1) := by decide +kernel
theorem dX1_note_27 : decode cX1_note 27 = .ok (.invokestatic 74, 3) := by decide +kernel
theorem dX1_note_30 : decode cX1_note 30 = .ok (.isub, 1) := by decide +kernel
theorem dX1_note_31 : decode cX1_note 31 = .ok (.invokestatic 70, 3) := by decide +kernel
theorem dX1_note_34 : decode cX1_note 34 = .ok (.istore_n 3, 1) := by decide +kernel
theorem dX1_note_35 : decode cX1_note 35 = .ok (.aload_n 0, 1) := by decide +kernel
theorem dX1_note_36 : decode cX1_note 36 = .ok (.getfield 12, 3) := by decide +kernel
theorem dX1_note_39 : decode cX1_note 39 = .ok (.getfield 77, 3) := by decide +kernel
theorem dX1_note_42 : decode cX1_note 42 = .ok (.aload_n 0, 1) := by decide +kernel
theorem dX1_note_43 : decode cX1_note 43 = .ok (.getfield 48, 3) := by decide +kernel
theorem dX1_note_46 : decode cX1_note 46 = .ok (.imul, 1) := by decide +kernel
theorem dX1_note_47 : decode cX1_note 47 = .ok (.sipush 573, 3) := by decide +kernel
theorem dX1_note_50 : decode cX1_note 50 = .ok (.idiv, 1) := by decide +kernel
theorem dX1_note_51 : decode cX1_note 51 = .ok (.istore 4, 2) := by decide +kernel
theorem dX1_note_53 : decode cX1_note 53 = .ok (.aload_n 0, 1) := by decide +kernel
theorem dX1_note_54 : decode cX1_note 54 = .ok (.getfield 12, 3) := by decide +kernel
theorem dX1_note_57 : decode cX1_note 57 = .ok (.getfield 77, 3) := by decide +kernel
theorem dX1_note_60 : decode cX1_note 60 = .ok (.i2l, 1) := by decide +kernel
theorem dX1_note_61 : decode cX1_note 61 = .ok (.aload_n 0, 1) := by decide +kernel
theorem dX1_note_62 : decode cX1_note 62 = .ok (.getfield 12, 3) := by decide +kernel
theorem dX1_note_65 : decode cX1_note 65 = .ok (.getfield 77, 3) := by decide +kernel
theorem dX1_note_68 : decode cX1_note 68 = .ok (.i2l, 1) := by decide +kernel
theorem dX1_note_69 : decode cX1_note 69 = .ok (.lmul, 1) := by decide +kernel
theorem dX1_note_70 : decode cX1_note 70 = .ok (.aload_n 0, 1) := by decide +kernel
theorem dX1_note_71 : decode cX1_note 71 = .ok (.getfield 48, 3) := by decide +kernel
theorem dX1_note_74 : decode cX1_note 74 = .ok (.i2l, 1) := by decide +kernel
theorem dX1_note_75 : decode cX1_note 75 = .ok (.lmul, 1) := by decide +kernel
theorem dX1_note_76 : decode cX1_note 76 = .ok (.ldc2_w 79, 3) := by decide +kernel
theorem dX1_note_79 : decode cX1_note 79 = .ok (.ldiv, 1) := by decide +kernel
theorem dX1_note_80 : decode cX1_note 80 = .ok (.lstore 5, 2) := by decide +kernel
theorem dX1_note_82 : decode cX1_note 82 = .ok (.aload_n 0, 1) := by decide +kernel
theorem dX1_note_83 : decode cX1_note 83 = .ok (.getfield 18, 3) := by decide +kernel
theorem dX1_note_86 : decode cX1_note 86 = .ok (.iload_n 1, 1) := by decide +kernel
theorem dX1_note_87 : decode cX1_note 87 = .ok (.aload_n 0, 1) := by decide +kernel
theorem dX1_note_88 : decode cX1_note 88 = .ok (.getfield 12, 3) := by decide +kernel
theorem dX1_note_91 : decode cX1_note 91 = .ok (.getfield 68, 3) := by decide +kernel
theorem dX1_note_94 : decode cX1_note 94 = .ok (.invokestatic 81, 3) := by decide +kernel
theorem dX1_note_97 : decode cX1_note 97 = .ok (.aload_n 0, 1) := by decide +kernel
theorem dX1_note_98 : decode cX1_note 98 = .ok (.getfield 22, 3) := by decide +kernel
theorem dX1_note_101 : decode cX1_note 101 = .ok (.iload_n 1, 1) := by decide +kernel
theorem dX1_note_102 : decode cX1_note 102 = .ok (.aload_n 0, 1) := by decide +kernel
theorem dX1_note_103 : decode cX1_note 103 = .ok (.getfield 12, 3) := by decide +kernel
theorem dX1_note_106 : decode cX1_note 106 = .ok (.getfield 77, 3) := by decide +kernel
theorem dX1_note_109 : decode cX1_note 109 = .ok (.invokestatic 81, 3) := by decide +kernel
theorem dX1_note_112 : decode cX1_note 112 = .ok (.aload_n 0, 1) := by decide +kernel
theorem dX1_note_113 : decode cX1_note 113 = .ok (.getfield 25, 3) := by decide +kernel
theorem dX1_note_116 : decode cX1_note 116 = .ok (.iload_n 1, 1) := by decide +kernel
theorem dX1_note_117 : decode cX1_note 117 = .ok (.aload_n 0, 1) := by decide +kernel
theorem dX1_note_118 : decode cX1_note 118 = .ok (.getfield 48, 3) := by decide +kernel
theorem dX1_note_121 : decode cX1_note 121 = .ok (.iload_n 2, 1) := by decide +kernel
theorem dX1_note_122 : decode cX1_note 122 = .ok (.imul, 1) := by decide +kernel
theorem dX1_note_123 : decode cX1_note 123 = .ok (.sipush 1000, 3) := by decide +kernel
theorem dX1_note_126 : decode cX1_note 126 = .ok (.idiv, 1) := by decide +kernel
theorem dX1_note_127 : decode cX1_note 127 = .ok (.invokestatic 81, 3) := by decide +kernel
theorem dX1_note_130 : decode cX1_note 130 = .ok (.aload_n 0, 1) := by decide +kernel
theorem dX1_note_131 : decode cX1_note 131 = .ok (.getfield 28, 3) := by decide +kernel
theorem dX1_note_134 : decode cX1_note 134 = .ok (.iload_n 1, 1) := by decide +kernel
theorem dX1_note_135 : decode cX1_note 135 = .ok (.aload_n 0, 1) := by decide +kernel
theorem dX1_note_136 : decode cX1_note 136 = .ok (.getfield 44, 3) := by decide +kernel
theorem dX1_note_139 : decode cX1_note 139 = .ok (.aload_n 0, 1) := by decide +kernel
theorem dX1_note_140 : decode cX1_note 140 = .ok (.getfield 48, 3) := by decide +kernel
theorem dX1_note_143 : decode cX1_note 143 = .ok (.iload_n 3, 1) := by decide +kernel
theorem dX1_note_144 : decode cX1_note 144 = .ok (.imul, 1) := by decide +kernel
theorem dX1_note_145 : decode cX1_note 145 = .ok (.sipush 1000, 3) := by decide +kernel
theorem dX1_note_148 : decode cX1_note 148 = .ok (.idiv, 1) := by decide +kernel
theorem dX1_note_149 : decode cX1_note 149 = .ok (.isub, 1) := by decide +kernel
theorem dX1_note_150 : decode cX1_note 150 = .ok (.invokestatic 81, 3) := by decide +kernel
theorem dX1_note_153 : decode cX1_note 153 = .ok (.aload_n 0, 1) := by decide +kernel
theorem dX1_note_154 : decode cX1_note 154 = .ok (.getfield 31, 3) := by decide +kernel
theorem dX1_note_157 : decode cX1_note 157 = .ok (.iload_n 1, 1) := by decide +kernel
theorem dX1_note_158 : decode cX1_note 158 = .ok (.iload_n 3, 1) := by decide +kernel
theorem dX1_note_159 : decode cX1_note 159 = .ok (.bipush 10, 2) := by decide +kernel
theorem dX1_note_161 : decode cX1_note 161 = .ok (.idiv, 1) := by decide +kernel
theorem dX1_note_162 : decode cX1_note 162 = .ok (.lload 5, 2) := by decide +kernel
theorem dX1_note_164 : decode cX1_note 164 = .ok (.l2i, 1) := by decide +kernel
theorem dX1_note_165 : decode cX1_note 165 = .ok (.iadd, 1) := by decide +kernel
theorem dX1_note_166 : decode cX1_note 166 = .ok (.invokestatic 81, 3) := by decide +kernel
theorem dX1_note_169 : decode cX1_note 169 = .ok (.aload_n 0, 1) := by decide +kernel
theorem dX1_note_170 : decode cX1_note 170 = .ok (.getfield 34, 3) := by decide +kernel
theorem dX1_note_173 : decode cX1_note 173 = .ok (.iload_n 1, 1) := by decide +kernel
theorem dX1_note_174 : decode cX1_note 174 = .ok (.iload 4, 2) := by decide +kernel
theorem dX1_note_176 : decode cX1_note 176 = .ok (.iload_n 3, 1) := by decide +kernel
theorem dX1_note_177 : decode cX1_note 177 = .ok (.imul, 1) := by decide +kernel
theorem dX1_note_178 : decode cX1_note 178 = .ok (.sipush 1000, 3) := by decide +kernel
theorem dX1_note_181 : decode cX1_note 181 = .ok (.idiv, 1) := by decide +kernel
theorem dX1_note_182 : decode cX1_note 182 = .ok (.invokestatic 81, 3) := by decide +kernel
theorem dX1_note_185 : decode cX1_note 185 = .ok (.aload_n 0, 1) := by decide +kernel
theorem dX1_note_186 : decode cX1_note 186 = .ok (.getfield 37, 3) := by decide +kernel
theorem dX1_note_189 : decode cX1_note 189 = .ok (.iload_n 1, 1) := by decide +kernel
theorem dX1_note_190 : decode cX1_note 190 = .ok (.iload 4, 2) := by decide +kernel
theorem dX1_note_192 : decode cX1_note 192 = .ok (.iload_n 2, 1) := by decide +kernel
theorem dX1_note_193 : decode cX1_note 193 = .ok (.imul, 1) := by decide +kernel
theorem dX1_note_194 : decode cX1_note 194 = .ok (.sipush 1000, 3) := by decide +kernel
theorem dX1_note_197 : decode cX1_note 197 = .ok (.idiv, 1) := by decide +kernel
theorem dX1_note_198 : decode cX1_note 198 = .ok (.invokestatic 81, 3) := by decide +kernel
theorem dX1_note_201 : decode cX1_note 201 = .ok (.return_, 1) := by decide +kernel
theorem dX1_angle_0 : decode cX1_angle 0 = .ok (.aload_n 0, 1) := by decide +kernel
theorem dX1_angle_1 : decode cX1_angle 1 = .ok (.getfield 18, 3) := by decide +kernel
theorem dX1_angle_4 : decode cX1_angle 4 = .ok (.iload_n 1, 1) := by decide +kernel
theorem dX1_angle_5 : decode cX1_angle 5 = .ok (.invokestatic 85, 3) := by decide +kernel
theorem dX1_angle_8 : decode cX1_angle 8 = .ok (.ireturn, 1) := by decide +kernel
theorem dX1_pace_0 : decode cX1_pace 0 = .ok (.aload_n 0, 1) := by decide +kernel
theorem dX1_pace_1 : decode cX1_pace 1 = .ok (.getfield 22, 3) := by decide +kernel
theorem dX1_pace_4 : decode cX1_pace 4 = .ok (.iload_n 1, 1) := by decide +kernel
theorem dX1_pace_5 : decode cX1_pace 5 = .ok (.invokestatic 85, 3) := by decide +kernel
theorem dX1_pace_8 : decode cX1_pace 8 = .ok (.ireturn, 1) := by decide +kernel
theorem dX1_x_0 : decode cX1_x 0 = .ok (.aload_n 0, 1) := by decide +kernel
theorem dX1_x_1 : decode cX1_x 1 = .ok (.getfield 25, 3) := by decide +kernel
theorem dX1_x_4 : decode cX1_x 4 = .ok (.iload_n 1, 1) := by decide +kernel
theorem dX1_x_5 : decode cX1_x 5 = .ok (.invokestatic 85, 3) := by decide +kernel
theorem dX1_x_8 : decode cX1_x 8 = .ok (.ireturn, 1) := by decide +kernel
theorem dX1_height_0 : decode cX1_height 0 = .ok (.aload_n 0, 1) := by decide +kernel
theorem dX1_height_1 : decode cX1_height 1 = .ok (.getfield 28, 3) := by decide +kernel
theorem dX1_height_4 : decode cX1_height 4 = .ok (.iload_n 1, 1) := by decide +kernel
theorem dX1_height_5 : decode cX1_height 5 = .ok (.invokestatic 85, 3) := by decide +kernel
theorem dX1_height_8 : decode cX1_height 8 = .ok (.ireturn, 1) := by decide +kernel
theorem dX1_across_0 : decode cX1_across 0 = .ok (.aload_n 0, 1) := by decide +kernel
theorem dX1_across_1 : decode cX1_across 1 = .ok (.getfield 34, 3) := by decide +kernel
theorem dX1_across_4 : decode cX1_across 4 = .ok (.iload_n 1, 1) := by decide +kernel
theorem dX1_across_5 : decode cX1_across 5 = .ok (.invokestatic 85, 3) := by decide +kernel
theorem dX1_across_8 : decode cX1_across 8 = .ok (.ireturn, 1) := by decide +kernel
theorem dX1_up_0 : decode cX1_up 0 = .ok (.aload_n 0, 1) := by decide +kernel
theorem dX1_up_1 : decode cX1_up 1 = .ok (.getfield 37, 3) := by decide +kernel
theorem dX1_up_4 : decode cX1_up 4 = .ok (.iload_n 1, 1) := by decide +kernel
theorem dX1_up_5 : decode cX1_up 5 = .ok (.invokestatic 85, 3) := by decide +kernel
theorem dX1_up_8 : decode cX1_up 8 = .ok (.ireturn, 1) := by decide +kernel
theorem dX1_pull_0 : decode cX1_pull 0 = .ok (.iconst 0, 1) := by decide +kernel
theorem dX1_pull_1 : decode cX1_pull 1 = .ok (.iload_n 2, 1) := by decide +kernel
theorem dX1_pull_2 : decode cX1_pull 2 = .ok (.aload_n 0, 1) := by decide +kernel
theorem dX1_pull_3 : decode cX1_pull 3 = .ok (.getfield 31, 3) := by decide +kernel
theorem dX1_pull_6 : decode cX1_pull 6 = .ok (.iload_n 1, 1) := by decide +kernel
theorem dX1_pull_7 : decode cX1_pull 7 = .ok (.invokestatic 85, 3) := by decide +kernel
theorem dX1_pull_10 : decode cX1_pull 10 = .ok (.imul, 1) := by decide +kernel
theorem dX1_pull_11 : decode cX1_pull 11 = .ok (.bipush 100, 2) := by decide +kernel
theorem dX1_pull_13 : decode cX1_pull 13 = .ok (.idiv, 1) := by decide +kernel
theorem dX1_pull_14 : decode cX1_pull 14 = .ok (.invokestatic 89, 3) := by decide +kernel
theorem dX1_pull_17 : decode cX1_pull 17 = .ok (.ireturn, 1) := by decide +kernel
theorem dX1_left_0 : decode cX1_left 0 = .ok (.sipush 1000, 3) := by decide +kernel
theorem dX1_left_3 : decode cX1_left 3 = .ok (.istore 4, 2) := by decide +kernel
theorem dX1_left_5 : decode cX1_left 5 = .ok (.iconst 1, 1) := by decide +kernel
theorem dX1_left_6 : decode cX1_left 6 = .ok (.istore 5, 2) := by decide +kernel
theorem dX1_left_8 : decode cX1_left 8 = .ok (.iload 5, 2) := by decide +kernel
theorem dX1_left_10 : decode cX1_left 10 = .ok (.iload_n 1, 1) := by decide +kernel
theorem dX1_left_11 : decode cX1_left 11 = .ok (.if_icmp .gt 28, 3) := by decide +kernel
theorem dX1_left_14 : decode cX1_left 14 = .ok (.iload 4, 2) := by decide +kernel
theorem dX1_left_16 : decode cX1_left 16 = .ok (.bipush 20, 2) := by decide +kernel
theorem dX1_left_18 : decode cX1_left 18 = .ok (.aload_n 0, 1) := by decide +kernel
theorem dX1_left_19 : decode cX1_left 19 = .ok (.iload 5, 2) := by decide +kernel
theorem dX1_left_21 : decode cX1_left 21 = .ok (.iload_n 2, 1) := by decide +kernel
theorem dX1_left_22 : decode cX1_left 22 = .ok (.invokevirtual 95, 3) := by decide +kernel
theorem dX1_left_25 : decode cX1_left 25 = .ok (.imul, 1) := by decide +kernel
theorem dX1_left_26 : decode cX1_left 26 = .ok (.iload_n 3, 1) := by decide +kernel
theorem dX1_left_27 : decode cX1_left 27 = .ok (.invokestatic 98, 3) := by decide +kernel
theorem dX1_left_30 : decode cX1_left 30 = .ok (.isub, 1) := by decide +kernel
theorem dX1_left_31 : decode cX1_left 31 = .ok (.istore 4, 2) := by decide +kernel
theorem dX1_left_33 : decode cX1_left 33 = .ok (.iinc 5 1, 3) := by decide +kernel
theorem dX1_left_36 : decode cX1_left 36 = .ok (.goto (-28), 3) := by decide +kernel
theorem dX1_left_39 : decode cX1_left 39 = .ok (.iload 4, 2) := by decide +kernel
theorem dX1_left_41 : decode cX1_left 41 = .ok (.ireturn, 1) := by decide +kernel
theorem dX1_hardestPull_0 : decode cX1_hardestPull 0 = .ok (.iconst 0, 1) := by decide +kernel
theorem dX1_hardestPull_1 : decode cX1_hardestPull 1 = .ok (.istore_n 2, 1) := by decide +kernel
theorem dX1_hardestPull_2 : decode cX1_hardestPull 2 = .ok (.iconst 1, 1) := by decide +kernel
theorem dX1_hardestPull_3 : decode cX1_hardestPull 3 = .ok (.istore_n 3, 1) := by decide +kernel
theorem dX1_hardestPull_4 : decode cX1_hardestPull 4 = .ok (.iload_n 3, 1) := by decide +kernel
theorem dX1_hardestPull_5 : decode cX1_hardestPull 5 = .ok (.sipush 200, 3) := by decide +kernel
theorem dX1_hardestPull_8 : decode cX1_hardestPull 8 = .ok (.if_icmp .gt 20, 3) := by decide +kernel
theorem dX1_hardestPull_11 : decode cX1_hardestPull 11 = .ok (.iload_n 2, 1) := by decide +kernel
theorem dX1_hardestPull_12 : decode cX1_hardestPull 12 = .ok (.aload_n 0, 1) := by decide +kernel
theorem dX1_hardestPull_13 : decode cX1_hardestPull 13 = .ok (.iload_n 3, 1) := by decide +kernel
theorem dX1_hardestPull_14 : decode cX1_hardestPull 14 = .ok (.iload_n 1, 1) := by decide +kernel
theorem dX1_hardestPull_15 : decode cX1_hardestPull 15 = .ok (.invokevirtual 95, 3) := by decide +kernel
theorem dX1_hardestPull_18 : decode cX1_hardestPull 18 = .ok (.invokestatic 89, 3) := by decide +kernel
theorem dX1_hardestPull_21 : decode cX1_hardestPull 21 = .ok (.istore_n 2, 1) := by decide +kernel
theorem dX1_hardestPull_22 : decode cX1_hardestPull 22 = .ok (.iinc 3 1, 3) := by decide +kernel
theorem dX1_hardestPull_25 : decode cX1_hardestPull 25 = .ok (.goto (-21), 3) := by decide +kernel
theorem dX1_hardestPull_28 : decode cX1_hardestPull 28 = .ok (.iload_n 2, 1) := by decide +kernel
theorem dX1_hardestPull_29 : decode cX1_hardestPull 29 = .ok (.ireturn, 1) := by decide +kernel
theorem dX2_init_0 : decode cX2_init 0 = .ok (.aload_n 0, 1) := by decide +kernel
theorem dX2_init_1 : decode cX2_init 1 = .ok (.invokespecial 1, 3) := by decide +kernel
theorem dX2_init_4 : decode cX2_init 4 = .ok (.return_, 1) := by decide +kernel
theorem dX2_begin_0 : decode cX2_begin 0 = .ok (.aload_n 0, 1) := by decide +kernel
theorem dX2_begin_1 : decode cX2_begin 1 = .ok (.iload_n 1, 1) := by decide +kernel
theorem dX2_begin_2 : decode cX2_begin 2 = .ok (.putfield 7, 3) := by decide +kernel
theorem dX2_begin_5 : decode cX2_begin 5 = .ok (.aload_n 0, 1) := by decide +kernel
theorem dX2_begin_6 : decode cX2_begin 6 = .ok (.sipush (-1000), 3) := by decide +kernel
theorem dX2_begin_9 : decode cX2_begin 9 = .ok (.iload_n 2, 1) := by decide +kernel
theorem dX2_begin_10 : decode cX2_begin 10 = .ok (.imul, 1) := by decide +kernel
theorem dX2_begin_11 : decode cX2_begin 11 = .ok (.putfield 13, 3) := by decide +kernel
theorem dX2_begin_14 : decode cX2_begin 14 = .ok (.aload_n 0, 1) := by decide +kernel
theorem dX2_begin_15 : decode cX2_begin 15 = .ok (.sipush 2865, 3) := by decide +kernel
theorem dX2_begin_18 : decode cX2_begin 18 = .ok (.iload_n 3, 1) := by decide +kernel
theorem dX2_begin_19 : decode cX2_begin 19 = .ok (.imul, 1) := by decide +kernel
theorem dX2_begin_20 : decode cX2_begin 20 = .ok (.aload_n 0, 1) := by decide +kernel
theorem dX2_begin_21 : decode cX2_begin 21 = .ok (.getfield 7, 3) := by decide +kernel
theorem dX2_begin_24 : decode cX2_begin 24 = .ok (.invokestatic 16, 3) := by decide +kernel
theorem dX2_begin_27 : decode cX2_begin 27 = .ok (.putfield 22, 3) := by decide +kernel
theorem dX2_begin_30 : decode cX2_begin 30 = .ok (.return_, 1) := by decide +kernel
theorem dX2_swing_0 : decode cX2_swing 0 = .ok (.aload_n 0, 1) := by decide +kernel
theorem dX2_swing_1 : decode cX2_swing 1 = .ok (.dup, 1) := by decide +kernel
theorem dX2_swing_2 : decode cX2_swing 2 = .ok (.getfield 22, 3) := by decide +kernel
theorem dX2_swing_5 : decode cX2_swing 5 = .ok (.sipush 140, 3) := by decide +kernel
theorem dX2_swing_8 : decode cX2_swing 8 = .ok (.aload_n 0, 1) := by decide +kernel
theorem dX2_swing_9 : decode cX2_swing 9 = .ok (.getfield 13, 3) := by decide +kernel
theorem dX2_swing_12 : decode cX2_swing 12 = .ok (.bipush 100, 2) := by decide +kernel
theorem dX2_swing_14 : decode cX2_swing 14 = .ok (.idiv, 1) := by decide +kernel
theorem dX2_swing_15 : decode cX2_swing 15 = .ok (.invokestatic 25, 3) := by decide +kernel
theorem dX2_swing_18 : decode cX2_swing 18 = .ok (.imul, 1) := by decide +kernel
theorem dX2_swing_19 : decode cX2_swing 19 = .ok (.aload_n 0, 1) := by decide +kernel
theorem dX2_swing_20 : decode cX2_swing 20 = .ok (.getfield 7, 3) := by decide +kernel
theorem dX2_swing_23 : decode cX2_swing 23 = .ok (.invokestatic 16, 3) := by decide +kernel
theorem dX2_swing_26 : decode cX2_swing 26 = .ok (.isub, 1) := by decide +kernel
theorem dX2_swing_27 : decode cX2_swing 27 = .ok (.putfield 22, 3) := by decide +kernel
theorem dX2_swing_30 : decode cX2_swing 30 = .ok (.aload_n 0, 1) := by decide +kernel
theorem dX2_swing_31 : decode cX2_swing 31 = .ok (.dup, 1) := by decide +kernel
theorem dX2_swing_32 : decode cX2_swing 32 = .ok (.getfield 13, 3) := by decide +kernel
theorem dX2_swing_35 : decode cX2_swing 35 = .ok (.aload_n 0, 1) := by decide +kernel
theorem dX2_swing_36 : decode cX2_swing 36 = .ok (.getfield 22, 3) := by decide +kernel
theorem dX2_swing_39 : decode cX2_swing 39 = .ok (.iadd, 1) := by decide +kernel
theorem dX2_swing_40 : decode cX2_swing 40 = .ok (.putfield 13, 3) := by decide +kernel
theorem dX2_swing_43 : decode cX2_swing 43 = .ok (.return_, 1) := by decide +kernel
theorem dX3_init_0 : decode cX3_init 0 = .ok (.aload_n 0, 1) := by decide +kernel
theorem dX3_init_1 : decode cX3_init 1 = .ok (.invokespecial 3, 3) := by decide +kernel
theorem dX3_init_4 : decode cX3_init 4 = .ok (.aload_n 0, 1) := by decide +kernel
theorem dX3_init_5 : decode cX3_init 5 = .ok (.bipush 9, 2) := by decide +kernel
theorem dX3_init_7 : decode cX3_init 7 = .ok (.newarray .int, 2) := by decide +kernel
theorem dX3_init_9 : decode cX3_init 9 = .ok (.putfield 9, 3) := by decide +kernel
theorem dX3_init_12 : decode cX3_init 12 = .ok (.aload_n 0, 1) := by decide +kernel
theorem dX3_init_13 : decode cX3_init 13 = .ok (.bipush 24, 2) := by decide +kernel
theorem dX3_init_15 : decode cX3_init 15 = .ok (.newarray .int, 2) := by decide +kernel
theorem dX3_init_17 : decode cX3_init 17 = .ok (.putfield 15, 3) := by decide +kernel
theorem dX3_init_20 : decode cX3_init 20 = .ok (.aload_n 0, 1) := by decide +kernel
theorem dX3_init_21 : decode cX3_init 21 = .ok (.bipush 24, 2) := by decide +kernel
theorem dX3_init_23 : decode cX3_init 23 = .ok (.newarray .int, 2) := by decide +kernel
theorem dX3_init_25 : decode cX3_init 25 = .ok (.putfield 18, 3) := by decide +kernel
theorem dX3_init_28 : decode cX3_init 28 = .ok (.aload_n 0, 1) := by decide +kernel
theorem dX3_init_29 : decode cX3_init 29 = .ok (.bipush 12, 2) := by decide +kernel
theorem dX3_init_31 : decode cX3_init 31 = .ok (.newarray .int, 2) := by decide +kernel
theorem dX3_init_33 : decode cX3_init 33 = .ok (.putfield 21, 3) := by decide +kernel
theorem dX3_init_36 : decode cX3_init 36 = .ok (.aload_n 0, 1) := by decide +kernel
theorem dX3_init_37 : decode cX3_init 37 = .ok (.invokevirtual 24, 3) := by decide +kernel
theorem dX3_init_40 : decode cX3_init 40 = .ok (.return_, 1) := by decide +kernel
theorem dX3_clear_0 : decode cX3_clear 0 = .ok (.getstatic 27, 3) := by decide +kernel
theorem dX3_clear_3 : decode cX3_clear 3 = .ok (.iconst 0, 1) := by decide +kernel
theorem dX3_clear_4 : decode cX3_clear 4 = .ok (.aload_n 0, 1) := by decide +kernel
theorem dX3_clear_5 : decode cX3_clear 5 = .ok (.getfield 9, 3) := by decide +kernel
theorem dX3_clear_8 : decode cX3_clear 8 = .ok (.iconst 0, 1) := by decide +kernel
theorem dX3_clear_9 : decode cX3_clear 9 = .ok (.getstatic 27, 3) := by decide +kernel
theorem dX3_clear_12 : decode cX3_clear 12 = .ok (.arraylength, 1) := by decide +kernel
theorem dX3_clear_13 : decode cX3_clear 13 = .ok (.aload_n 0, 1) := by decide +kernel
theorem dX3_clear_14 : decode cX3_clear 14 = .ok (.getfield 9, 3) := by decide +kernel
theorem dX3_clear_17 : decode cX3_clear 17 = .ok (.arraylength, 1) := by decide +kernel
theorem dX3_clear_18 : decode cX3_clear 18 = .ok (.invokestatic 30, 3) := by decide +kernel
theorem dX3_clear_21 : decode cX3_clear 21 = .ok (.invokestatic 36, 3) := by decide +kernel
theorem dX3_clear_24 : decode cX3_clear 24 = .ok (.aload_n 0, 1) := by decide +kernel
theorem dX3_clear_25 : decode cX3_clear 25 = .ok (.getfield 15, 3) := by decide +kernel
theorem dX3_clear_28 : decode cX3_clear 28 = .ok (.sipush 200, 3) := by decide +kernel
theorem dX3_clear_31 : decode cX3_clear 31 = .ok (.invokestatic 42, 3) := by decide +kernel
theorem dX3_clear_34 : decode cX3_clear 34 = .ok (.aload_n 0, 1) := by decide +kernel
theorem dX3_clear_35 : decode cX3_clear 35 = .ok (.getfield 18, 3) := by decide +kernel
theorem dX3_clear_38 : decode cX3_clear 38 = .ok (.iconst 0, 1) := by decide +kernel
theorem dX3_clear_39 : decode cX3_clear 39 = .ok (.invokestatic 42, 3) := by decide +kernel
theorem dX3_clear_42 : decode cX3_clear 42 = .ok (.aload_n 0, 1) := by decide +kernel
theorem dX3_clear_43 : decode cX3_clear 43 = .ok (.getfield 21, 3) := by decide +kernel
theorem dX3_clear_46 : decode cX3_clear 46 = .ok (.iconst 0, 1) := by decide +kernel
theorem dX3_clear_47 : decode cX3_clear 47 = .ok (.invokestatic 42, 3) := by decide +kernel
theorem dX3_clear_50 : decode cX3_clear 50 = .ok (.return_, 1) := by decide +kernel
theorem dX3_copy_0 : decode cX3_copy 0 = .ok (.aload_n 1, 1) := by decide +kernel
theorem dX3_copy_1 : decode cX3_copy 1 = .ok (.getfield 9, 3) := by decide +kernel
theorem dX3_copy_4 : decode cX3_copy 4 = .ok (.iconst 0, 1) := by decide +kernel
theorem dX3_copy_5 : decode cX3_copy 5 = .ok (.aload_n 0, 1) := by decide +kernel
theorem dX3_copy_6 : decode cX3_copy 6 = .ok (.getfield 9, 3) := by decide +kernel
theorem dX3_copy_9 : decode cX3_copy 9 = .ok (.iconst 0, 1) := by decide +kernel
theorem dX3_copy_10 : decode cX3_copy 10 = .ok (.aload_n 1, 1) := by decide +kernel
theorem dX3_copy_11 : decode cX3_copy 11 = .ok (.getfield 9, 3) := by decide +kernel
theorem dX3_copy_14 : decode cX3_copy 14 = .ok (.arraylength, 1) := by decide +kernel
theorem dX3_copy_15 : decode cX3_copy 15 = .ok (.aload_n 0, 1) := by decide +kernel
theorem dX3_copy_16 : decode cX3_copy 16 = .ok (.getfield 9, 3) := by decide +kernel
theorem dX3_copy_19 : decode cX3_copy 19 = .ok (.arraylength, 1) := by decide +kernel
theorem dX3_copy_20 : decode cX3_copy 20 = .ok (.invokestatic 30, 3) := by decide +kernel
theorem dX3_copy_23 : decode cX3_copy 23 = .ok (.invokestatic 36, 3) := by decide +kernel
theorem dX3_copy_26 : decode cX3_copy 26 = .ok (.aload_n 1, 1) := by decide +kernel
theorem dX3_copy_27 : decode cX3_copy 27 = .ok (.getfield 15, 3) := by decide +kernel
theorem dX3_copy_30 : decode cX3_copy 30 = .ok (.iconst 0, 1) := by decide +kernel
theorem dX3_copy_31 : decode cX3_copy 31 = .ok (.aload_n 0, 1) := by decide +kernel
theorem dX3_copy_32 : decode cX3_copy 32 = .ok (.getfield 15, 3) := by decide +kernel
theorem dX3_copy_35 : decode cX3_copy 35 = .ok (.iconst 0, 1) := by decide +kernel
theorem dX3_copy_36 : decode cX3_copy 36 = .ok (.aload_n 1, 1) := by decide +kernel
theorem dX3_copy_37 : decode cX3_copy 37 = .ok (.getfield 15, 3) := by decide +kernel
theorem dX3_copy_40 : decode cX3_copy 40 = .ok (.arraylength, 1) := by decide +kernel
theorem dX3_copy_41 : decode cX3_copy 41 = .ok (.aload_n 0, 1) := by decide +kernel
theorem dX3_copy_42 : decode cX3_copy 42 = .ok (.getfield 15, 3) := by decide +kernel
theorem dX3_copy_45 : decode cX3_copy 45 = .ok (.arraylength, 1) := by decide +kernel
theorem dX3_copy_46 : decode cX3_copy 46 = .ok (.invokestatic 30, 3) := by decide +kernel
theorem dX3_copy_49 : decode cX3_copy 49 = .ok (.invokestatic 36, 3) := by decide +kernel
theorem dX3_copy_52 : decode cX3_copy 52 = .ok (.aload_n 1, 1) := by decide +kernel
theorem dX3_copy_53 : decode cX3_copy 53 = .ok (.getfield 18, 3) := by decide +kernel
theorem dX3_copy_56 : decode cX3_copy 56 = .ok (.iconst 0, 1) := by decide +kernel
theorem dX3_copy_57 : decode cX3_copy 57 = .ok (.aload_n 0, 1) := by decide +kernel
theorem dX3_copy_58 : decode cX3_copy 58 = .ok (.getfield 18, 3) := by decide +kernel
theorem dX3_copy_61 : decode cX3_copy 61 = .ok (.iconst 0, 1) := by decide +kernel
theorem dX3_copy_62 : decode cX3_copy 62 = .ok (.aload_n 1, 1) := by decide +kernel
theorem dX3_copy_63 : decode cX3_copy 63 = .ok (.getfield 18, 3) := by decide +kernel
theorem dX3_copy_66 : decode cX3_copy 66 = .ok (.arraylength, 1) := by decide +kernel
theorem dX3_copy_67 : decode cX3_copy 67 = .ok (.aload_n 0, 1) := by decide +kernel
theorem dX3_copy_68 : decode cX3_copy 68 = .ok (.getfield 18, 3) := by decide +kernel
theorem dX3_copy_71 : decode cX3_copy 71 = .ok (.arraylength, 1) := by decide +kernel
theorem dX3_copy_72 : decode cX3_copy 72 = .ok (.invokestatic 30, 3) := by decide +kernel
theorem dX3_copy_75 : decode cX3_copy 75 = .ok (.invokestatic 36, 3) := by decide +kernel
theorem dX3_copy_78 : decode cX3_copy 78 = .ok (.aload_n 1, 1) := by decide +kernel
theorem dX3_copy_79 : decode cX3_copy 79 = .ok (.getfield 21, 3) := by decide +kernel
theorem dX3_copy_82 : decode cX3_copy 82 = .ok (.iconst 0, 1) := by decide +kernel
theorem dX3_copy_83 : decode cX3_copy 83 = .ok (.aload_n 0, 1) := by decide +kernel
theorem dX3_copy_84 : decode cX3_copy 84 = .ok (.getfield 21, 3) := by decide +kernel
theorem dX3_copy_87 : decode cX3_copy 87 = .ok (.iconst 0, 1) := by decide +kernel
theorem dX3_copy_88 : decode cX3_copy 88 = .ok (.aload_n 1, 1) := by decide +kernel
theorem dX3_copy_89 : decode cX3_copy 89 = .ok (.getfield 21, 3) := by decide +kernel
theorem dX3_copy_92 : decode cX3_copy 92 = .ok (.arraylength, 1) := by decide +kernel
theorem dX3_copy_93 : decode cX3_copy 93 = .ok (.aload_n 0, 1) := by decide +kernel
theorem dX3_copy_94 : decode cX3_copy 94 = .ok (.getfield 21, 3) := by decide +kernel
theorem dX3_copy_97 : decode cX3_copy 97 = .ok (.arraylength, 1) := by decide +kernel
theorem dX3_copy_98 : decode cX3_copy 98 = .ok (.invokestatic 30, 3) := by decide +kernel
theorem dX3_copy_101 : decode cX3_copy 101 = .ok (.invokestatic 36, 3) := by decide +kernel
theorem dX3_copy_104 : decode cX3_copy 104 = .ok (.return_, 1) := by decide +kernel
theorem dX3_number_0 : decode cX3_number 0 = .ok (.iload_n 1, 1) := by decide +kernel
theorem dX3_number_1 : decode cX3_number 1 = .ok (.ifCond .lt 21, 3) := by decide +kernel
theorem dX3_number_4 : decode cX3_number 4 = .ok (.iload_n 1, 1) := by decide +kernel
theorem dX3_number_5 : decode cX3_number 5 = .ok (.aload_n 0, 1) := by decide +kernel
theorem dX3_number_6 : decode cX3_number 6 = .ok (.getfield 9, 3) := by decide +kernel
theorem dX3_number_9 : decode cX3_number 9 = .ok (.arraylength, 1) := by decide +kernel
theorem dX3_number_10 : decode cX3_number 10 = .ok (.if_icmp .ge 12, 3) := by decide +kernel
theorem dX3_number_13 : decode cX3_number 13 = .ok (.aload_n 0, 1) := by decide +kernel
theorem dX3_number_14 : decode cX3_number 14 = .ok (.getfield 9, 3) := by decide +kernel
theorem dX3_number_17 : decode cX3_number 17 = .ok (.iload_n 1, 1) := by decide +kernel
theorem dX3_number_18 : decode cX3_number 18 = .ok (.iaload, 1) := by decide +kernel
theorem dX3_number_19 : decode cX3_number 19 = .ok (.goto 4, 3) := by decide +kernel
theorem dX3_number_22 : decode cX3_number 22 = .ok (.iconst 0, 1) := by decide +kernel
theorem dX3_number_23 : decode cX3_number 23 = .ok (.ireturn, 1) := by decide +kernel
theorem dX3_lower_0 : decode cX3_lower 0 = .ok (.aload_n 0, 1) := by decide +kernel
theorem dX3_lower_1 : decode cX3_lower 1 = .ok (.getfield 21, 3) := by decide +kernel
theorem dX3_lower_4 : decode cX3_lower 4 = .ok (.iload_n 1, 1) := by decide +kernel
theorem dX3_lower_5 : decode cX3_lower 5 = .ok (.invokestatic 48, 3) := by decide +kernel
theorem dX3_lower_8 : decode cX3_lower 8 = .ok (.ireturn, 1) := by decide +kernel
theorem dX3_depth_0 : decode cX3_depth 0 = .ok (.iload_n 1, 1) := by decide +kernel
theorem dX3_depth_1 : decode cX3_depth 1 = .ok (.ifCond .lt 23, 3) := by decide +kernel
theorem dX3_depth_4 : decode cX3_depth 4 = .ok (.iload_n 1, 1) := by decide +kernel
theorem dX3_depth_5 : decode cX3_depth 5 = .ok (.aload_n 0, 1) := by decide +kernel
theorem dX3_depth_6 : decode cX3_depth 6 = .ok (.getfield 15, 3) := by decide +kernel
theorem dX3_depth_9 : decode cX3_depth 9 = .ok (.arraylength, 1) := by decide +kernel
theorem dX3_depth_10 : decode cX3_depth 10 = .ok (.if_icmp .ge 14, 3) := by decide +kernel
theorem dX3_depth_13 : decode cX3_depth 13 = .ok (.aload_n 0, 1) := by decide +kernel
theorem dX3_depth_14 : decode cX3_depth 14 = .ok (.getfield 15, 3) := by decide +kernel
theorem dX3_depth_17 : decode cX3_depth 17 = .ok (.iload_n 1, 1) := by decide +kernel
theorem dX3_depth_18 : decode cX3_depth 18 = .ok (.iaload, 1) := by decide +kernel
theorem dX3_depth_19 : decode cX3_depth 19 = .ok (.iload_n 2, 1) := by decide +kernel
theorem dX3_depth_20 : decode cX3_depth 20 = .ok (.isub, 1) := by decide +kernel
theorem dX3_depth_21 : decode cX3_depth 21 = .ok (.goto 4, 3) := by decide +kernel
theorem dX3_depth_24 : decode cX3_depth 24 = .ok (.iconst 0, 1) := by decide +kernel
theorem dX3_depth_25 : decode cX3_depth 25 = .ok (.istore_n 3, 1) := by decide +kernel
theorem dX3_depth_26 : decode cX3_depth 26 = .ok (.iload_n 3, 1) := by decide +kernel
theorem dX3_depth_27 : decode cX3_depth 27 = .ok (.ifCond .ge 7, 3) := by decide +kernel
theorem dX3_depth_30 : decode cX3_depth 30 = .ok (.iconst 0, 1) := by decide +kernel
theorem dX3_depth_31 : decode cX3_depth 31 = .ok (.goto 4, 3) := by decide +kernel
theorem dX3_depth_34 : decode cX3_depth 34 = .ok (.iload_n 3, 1) := by decide +kernel
theorem dX3_depth_35 : decode cX3_depth 35 = .ok (.ireturn, 1) := by decide +kernel
theorem dX3_kind_0 : decode cX3_kind 0 = .ok (.bipush 8, 2) := by decide +kernel
theorem dX3_kind_2 : decode cX3_kind 2 = .ok (.aload_n 0, 1) := by decide +kernel
theorem dX3_kind_3 : decode cX3_kind 3 = .ok (.getfield 9, 3) := by decide +kernel
theorem dX3_kind_6 : decode cX3_kind 6 = .ok (.arraylength, 1) := by decide +kernel
theorem dX3_kind_7 : decode cX3_kind 7 = .ok (.if_icmp .ge 16, 3) := by decide +kernel
theorem dX3_kind_10 : decode cX3_kind 10 = .ok (.iload_n 1, 1) := by decide +kernel
theorem dX3_kind_11 : decode cX3_kind 11 = .ok (.aload_n 0, 1) := by decide +kernel
theorem dX3_kind_12 : decode cX3_kind 12 = .ok (.getfield 9, 3) := by decide +kernel
theorem dX3_kind_15 : decode cX3_kind 15 = .ok (.bipush 8, 2) := by decide +kernel
theorem dX3_kind_17 : decode cX3_kind 17 = .ok (.iaload, 1) := by decide +kernel
theorem dX3_kind_18 : decode cX3_kind 18 = .ok (.if_icmp .lt 5, 3) := by decide +kernel
theorem dX3_kind_21 : decode cX3_kind 21 = .ok (.iconst 2, 1) := by decide +kernel
theorem dX3_kind_22 : decode cX3_kind 22 = .ok (.ireturn, 1) := by decide +kernel
theorem dX3_kind_23 : decode cX3_kind 23 = .ok (.iload_n 1, 1) := by decide +kernel
theorem dX3_kind_24 : decode cX3_kind 24 = .ok (.ifCond .lt 25, 3) := by decide +kernel
theorem dX3_kind_27 : decode cX3_kind 27 = .ok (.iload_n 1, 1) := by decide +kernel
theorem dX3_kind_28 : decode cX3_kind 28 = .ok (.aload_n 0, 1) := by decide +kernel
theorem dX3_kind_29 : decode cX3_kind 29 = .ok (.getfield 18, 3) := by decide +kernel
theorem dX3_kind_32 : decode cX3_kind 32 = .ok (.arraylength, 1) := by decide +kernel
theorem dX3_kind_33 : decode cX3_kind 33 = .ok (.if_icmp .ge 16, 3) := by decide +kernel
theorem dX3_kind_36 : decode cX3_kind 36 = .ok (.aload_n 0, 1) := by decide +kernel
theorem dX3_kind_37 : decode cX3_kind 37 = .ok (.getfield 18, 3) := by decide +kernel
theorem dX3_kind_40 : decode cX3_kind 40 = .ok (.iload_n 1, 1) := by decide +kernel
theorem dX3_kind_41 : decode cX3_kind 41 = .ok (.iaload, 1) := by decide +kernel
theorem dX3_kind_42 : decode cX3_kind 42 = .ok (.ifCond .eq 7, 3) := by decide +kernel
theorem dX3_kind_45 : decode cX3_kind 45 = .ok (.iconst 1, 1) := by decide +kernel
theorem dX3_kind_46 : decode cX3_kind 46 = .ok (.goto 4, 3) := by decide +kernel
theorem dX3_kind_49 : decode cX3_kind 49 = .ok (.iconst 0, 1) := by decide +kernel
theorem dX3_kind_50 : decode cX3_kind 50 = .ok (.ireturn, 1) := by decide +kernel
theorem dX3_cellAt_0 : decode cX3_cellAt 0 = .ok (.iload_n 0, 1) := by decide +kernel
theorem dX3_cellAt_1 : decode cX3_cellAt 1 = .ok (.sipush (-300), 3) := by decide +kernel
theorem dX3_cellAt_4 : decode cX3_cellAt 4 = .ok (.if_icmp .ge 7, 3) := by decide +kernel
theorem dX3_cellAt_7 : decode cX3_cellAt 7 = .ok (.iconst 0, 1) := by decide +kernel
theorem dX3_cellAt_8 : decode cX3_cellAt 8 = .ok (.goto 16, 3) := by decide +kernel
theorem dX3_cellAt_11 : decode cX3_cellAt 11 = .ok (.iload_n 0, 1) := by decide +kernel
theorem dX3_cellAt_12 : decode cX3_cellAt 12 = .ok (.sipush 300, 3) := by decide +kernel
theorem dX3_cellAt_15 : decode cX3_cellAt 15 = .ok (.iadd, 1) := by decide +kernel
theorem dX3_cellAt_16 : decode cX3_cellAt 16 = .ok (.bipush 50, 2) := by decide +kernel
theorem dX3_cellAt_18 : decode cX3_cellAt 18 = .ok (.idiv, 1) := by decide +kernel
theorem dX3_cellAt_19 : decode cX3_cellAt 19 = .ok (.bipush 23, 2) := by decide +kernel
theorem dX3_cellAt_21 : decode cX3_cellAt 21 = .ok (.invokestatic 30, 3) := by decide +kernel
theorem dX3_cellAt_24 : decode cX3_cellAt 24 = .ok (.ireturn, 1) := by decide +kernel
theorem dX4_init_0 : decode cX4_init 0 = .ok (.aload_n 0, 1) := by decide +kernel
theorem dX4_init_1 : decode cX4_init 1 = .ok (.invokespecial 3, 3) := by decide +kernel
theorem dX4_init_4 : decode cX4_init 4 = .ok (.aload_n 0, 1) := by decide +kernel
theorem dX4_init_5 : decode cX4_init 5 = .ok (.aload_n 1, 1) := by decide +kernel
theorem dX4_init_6 : decode cX4_init 6 = .ok (.putfield 9, 3) := by decide +kernel
theorem dX4_init_9 : decode cX4_init 9 = .ok (.return_, 1) := by decide +kernel
theorem dX4_faultNumber_0 : decode cX4_faultNumber 0 = .ok (.aload_n 0, 1) := by decide +kernel
theorem dX4_faultNumber_1 : decode cX4_faultNumber 1 = .ok (.getfield 15, 3) := by decide +kernel
theorem dX4_faultNumber_4 : decode cX4_faultNumber 4 = .ok (.ireturn, 1) := by decide +kernel
theorem dX4_faultAt_0 : decode cX4_faultAt 0 = .ok (.aload_n 0, 1) := by decide +kernel
theorem dX4_faultAt_1 : decode cX4_faultAt 1 = .ok (.getfield 19, 3) := by decide +kernel
theorem dX4_faultAt_4 : decode cX4_faultAt 4 = .ok (.ireturn, 1) := by decide +kernel
theorem dX4_clauses_0 : decode cX4_clauses 0 = .ok (.aload_n 0, 1) := by decide +kernel
theorem dX4_clauses_1 : decode cX4_clauses 1 = .ok (.getfield 22, 3) := by decide +kernel
theorem dX4_clauses_4 : decode cX4_clauses 4 = .ok (.ireturn, 1) := by decide +kernel
theorem dX4_readPlace_0 : decode cX4_readPlace 0 = .ok (.aload_n 0, 1) := by decide +kernel
theorem dX4_readPlace_1 : decode cX4_readPlace 1 = .ok (.invokevirtual 25, 3) := by decide +kernel
theorem dX4_readPlace_4 : decode cX4_readPlace 4 = .ok (.iconst 0, 1) := by decide +kernel
theorem dX4_readPlace_5 : decode cX4_readPlace 5 = .ok (.istore_n 2, 1) := by decide +kernel
theorem dX4_readPlace_6 : decode cX4_readPlace 6 = .ok (.iconst 0, 1) := by decide +kernel
theorem dX4_readPlace_7 : decode cX4_readPlace 7 = .ok (.istore_n 3, 1) := by decide +kernel
theorem dX4_readPlace_8 : decode cX4_readPlace 8 = .ok (.iload_n 3, 1) := by decide +kernel
theorem dX4_readPlace_9 : decode cX4_readPlace 9 = .ok (.bipush 9, 2) := by decide +kernel
theorem dX4_readPlace_11 : decode cX4_readPlace 11 = .ok (.if_icmp .gt 80, 3) := by decide +kernel
theorem dX4_readPlace_14 : decode cX4_readPlace 14 = .ok (.aload_n 0, 1) := by decide +kernel
theorem dX4_readPlace_15 : decode cX4_readPlace 15 = .ok (.invokevirtual 28, 3) := by decide +kernel
theorem dX4_readPlace_18 : decode cX4_readPlace 18 = .ok (.aload_n 0, 1) := by decide +kernel
theorem dX4_readPlace_19 : decode cX4_readPlace 19 = .ok (.getfield 31, 3) := by decide +kernel
theorem dX4_readPlace_22 : decode cX4_readPlace 22 = .ok (.ifCond .ne 10, 3) := by decide +kernel
theorem dX4_readPlace_25 : decode cX4_readPlace 25 = .ok (.aload_n 0, 1) := by decide +kernel
theorem dX4_readPlace_26 : decode cX4_readPlace 26 = .ok (.iload_n 3, 1) := by decide +kernel
theorem dX4_readPlace_27 : decode cX4_readPlace 27 = .ok (.putfield 22, 3) := by decide +kernel
theorem dX4_readPlace_30 : decode cX4_readPlace 30 = .ok (.iconst 1, 1) := by decide +kernel
theorem dX4_readPlace_31 : decode cX4_readPlace 31 = .ok (.ireturn, 1) := by decide +kernel
theorem dX4_readPlace_32 : decode cX4_readPlace 32 = .ok (.aload_n 0, 1) := by decide +kernel
theorem dX4_readPlace_33 : decode cX4_readPlace 33 = .ok (.invokevirtual 34, 3) := by decide +kernel
theorem dX4_readPlace_36 : decode cX4_readPlace 36 = .ok (.istore 4, 2) := by decide +kernel
theorem dX4_readPlace_38 : decode cX4_readPlace 38 = .ok (.iload 4, 2) := by decide +kernel
theorem dX4_readPlace_40 : decode cX4_readPlace 40 = .ok (.iconst (-1), 1) := by decide +kernel
theorem dX4_readPlace_41 : decode cX4_readPlace 41 = .ok (.if_icmp .ne 9, 3) := by decide +kernel
theorem dX4_readPlace_44 : decode cX4_readPlace 44 = .ok (.aload_n 0, 1) := by decide +kernel
theorem dX4_readPlace_45 : decode cX4_readPlace 45 = .ok (.iconst 1, 1) := by decide +kernel
theorem dX4_readPlace_46 : decode cX4_readPlace 46 = .ok (.invokevirtual 38, 3) := by decide +kernel
theorem dX4_readPlace_49 : decode cX4_readPlace 49 = .ok (.ireturn, 1) := by decide +kernel
theorem dX4_readPlace_50 : decode cX4_readPlace 50 = .ok (.iload_n 2, 1) := by decide +kernel
theorem dX4_readPlace_51 : decode cX4_readPlace 51 = .ok (.iload 4, 2) := by decide +kernel
theorem dX4_readPlace_53 : decode cX4_readPlace 53 = .ok (.ishr, 1) := by decide +kernel
theorem dX4_readPlace_54 : decode cX4_readPlace 54 = .ok (.iconst 1, 1) := by decide +kernel
theorem dX4_readPlace_55 : decode cX4_readPlace 55 = .ok (.iand, 1) := by decide +kernel
theorem dX4_readPlace_56 : decode cX4_readPlace 56 = .ok (.iconst 1, 1) := by decide +kernel
theorem dX4_readPlace_57 : decode cX4_readPlace 57 = .ok (.if_icmp .ne 9, 3) := by decide +kernel
theorem dX4_readPlace_60 : decode cX4_readPlace 60 = .ok (.aload_n 0, 1) := by decide +kernel
theorem dX4_readPlace_61 : decode cX4_readPlace 61 = .ok (.iconst 3, 1) := by decide +kernel
theorem dX4_readPlace_62 : decode cX4_readPlace 62 = .ok (.invokevirtual 38, 3) := by decide +kernel
theorem dX4_readPlace_65 : decode cX4_readPlace 65 = .ok (.ireturn, 1) := by decide +kernel
theorem dX4_readPlace_66 : decode cX4_readPlace 66 = .ok (.iload_n 2, 1) := by decide +kernel
theorem dX4_readPlace_67 : decode cX4_readPlace 67 = .ok (.iconst 1, 1) := by decide +kernel
theorem dX4_readPlace_68 : decode cX4_readPlace 68 = .ok (.iload 4, 2) := by decide +kernel
theorem dX4_readPlace_70 : decode cX4_readPlace 70 = .ok (.ishl, 1) := by decide +kernel
theorem dX4_readPlace_71 : decode cX4_readPlace 71 = .ok (.ior, 1) := by decide +kernel
theorem dX4_readPlace_72 : decode cX4_readPlace 72 = .ok (.istore_n 2, 1) := by decide +kernel
theorem dX4_readPlace_73 : decode cX4_readPlace 73 = .ok (.aload_n 0, 1) := by decide +kernel
theorem dX4_readPlace_74 : decode cX4_readPlace 74 = .ok (.iload 4, 2) := by decide +kernel
theorem dX4_readPlace_76 : decode cX4_readPlace 76 = .ok (.aload_n 1, 1) := by decide +kernel
theorem dX4_readPlace_77 : decode cX4_readPlace 77 = .ok (.invokevirtual 42, 3) := by decide +kernel
theorem dX4_readPlace_80 : decode cX4_readPlace 80 = .ok (.ifCond .ne 5, 3) := by decide +kernel
theorem dX4_readPlace_83 : decode cX4_readPlace 83 = .ok (.iconst 0, 1) := by decide +kernel
theorem dX4_readPlace_84 : decode cX4_readPlace 84 = .ok (.ireturn, 1) := by decide +kernel
theorem dX4_readPlace_85 : decode cX4_readPlace 85 = .ok (.iinc 3 1, 3) := by decide +kernel
theorem dX4_readPlace_88 : decode cX4_readPlace 88 = .ok (.goto (-80), 3) := by decide +kernel
theorem dX4_readPlace_91 : decode cX4_readPlace 91 = .ok (.aload_n 0, 1) := by decide +kernel
theorem dX4_readPlace_92 : decode cX4_readPlace 92 = .ok (.iconst 3, 1) := by decide +kernel
theorem dX4_readPlace_93 : decode cX4_readPlace 93 = .ok (.invokevirtual 38, 3) := by decide +kernel
theorem dX4_readPlace_96 : decode cX4_readPlace 96 = .ok (.ireturn, 1) := by decide +kernel
theorem dX4_readSwinger_0 : decode cX4_readSwinger 0 = .ok (.aload_n 0, 1) := by decide +kernel
theorem dX4_readSwinger_1 : decode cX4_readSwinger 1 = .ok (.invokevirtual 25, 3) := by decide +kernel
theorem dX4_readSwinger_4 : decode cX4_readSwinger 4 = .ok (.iconst 0, 1) := by decide +kernel
theorem dX4_readSwinger_5 : decode cX4_readSwinger 5 = .ok (.istore_n 2, 1) := by decide +kernel
theorem dX4_readSwinger_6 : decode cX4_readSwinger 6 = .ok (.iload_n 2, 1) := by decide +kernel
theorem dX4_readSwinger_7 : decode cX4_readSwinger 7 = .ok (.iconst 5, 1) := by decide +kernel
theorem dX4_readSwinger_8 : decode cX4_readSwinger 8 = .ok (.if_icmp .ge 38, 3) := by decide +kernel
theorem dX4_readSwinger_11 : decode cX4_readSwinger 11 = .ok (.aload_n 0, 1) := by decide +kernel
theorem dX4_readSwinger_12 : decode cX4_readSwinger 12 = .ok (.iload_n 2, 1) := by decide +kernel
theorem dX4_readSwinger_13 : decode cX4_readSwinger 13 = .ok (.invokestatic 48, 3) := by decide +kernel
theorem dX4_readSwinger_16 : decode cX4_readSwinger 16 = .ok (.iload_n 2, 1) := by decide +kernel
theorem dX4_readSwinger_17 : decode cX4_readSwinger 17 = .ok (.invokestatic 52, 3) := by decide +kernel
theorem dX4_readSwinger_20 : decode cX4_readSwinger 20 = .ok (.invokevirtual 55, 3) := by decide +kernel
theorem dX4_readSwinger_23 : decode cX4_readSwinger 23 = .ok (.ifCond .ne 5, 3) := by decide +kernel
theorem dX4_readSwinger_26 : decode cX4_readSwinger 26 = .ok (.iconst 0, 1) := by decide +kernel
theorem dX4_readSwinger_27 : decode cX4_readSwinger 27 = .ok (.ireturn, 1) := by decide +kernel
theorem dX4_readSwinger_28 : decode cX4_readSwinger 28 = .ok (.aload_n 1, 1) := by decide +kernel
theorem dX4_readSwinger_29 : decode cX4_readSwinger 29 = .ok (.getfield 59, 3) := by decide +kernel
theorem dX4_readSwinger_32 : decode cX4_readSwinger 32 = .ok (.iload_n 2, 1) := by decide +kernel
theorem dX4_readSwinger_33 : decode cX4_readSwinger 33 = .ok (.aload_n 0, 1) := by decide +kernel
theorem dX4_readSwinger_34 : decode cX4_readSwinger 34 = .ok (.getfield 63, 3) := by decide +kernel
theorem dX4_readSwinger_37 : decode cX4_readSwinger 37 = .ok (.invokestatic 66, 3) := by decide +kernel
theorem dX4_readSwinger_40 : decode cX4_readSwinger 40 = .ok (.iinc 2 1, 3) := by decide +kernel
theorem dX4_readSwinger_43 : decode cX4_readSwinger 43 = .ok (.goto (-37), 3) := by decide +kernel
theorem dX4_readSwinger_46 : decode cX4_readSwinger 46 = .ok (.aload_n 0, 1) := by decide +kernel
theorem dX4_readSwinger_47 : decode cX4_readSwinger 47 = .ok (.invokevirtual 28, 3) := by decide +kernel
theorem dX4_readSwinger_50 : decode cX4_readSwinger 50 = .ok (.aload_n 0, 1) := by decide +kernel
theorem dX4_readSwinger_51 : decode cX4_readSwinger 51 = .ok (.getfield 31, 3) := by decide +kernel
theorem dX4_readSwinger_54 : decode cX4_readSwinger 54 = .ok (.ifCond .eq 11, 3) := by decide +kernel
theorem dX4_readSwinger_57 : decode cX4_readSwinger 57 = .ok (.aload_n 0, 1) := by decide +kernel
theorem dX4_readSwinger_58 : decode cX4_readSwinger 58 = .ok (.iconst 1, 1) := by decide +kernel
theorem dX4_readSwinger_59 : decode cX4_readSwinger 59 = .ok (.invokevirtual 38, 3) := by decide +kernel
theorem dX4_readSwinger_62 : decode cX4_readSwinger 62 = .ok (.ifCond .eq 7, 3) := by decide +kernel
theorem dX4_readSwinger_65 : decode cX4_readSwinger 65 = .ok (.iconst 1, 1) := by decide +kernel
theorem dX4_readSwinger_66 : decode cX4_readSwinger 66 = .ok (.goto 4, 3) := by decide +kernel
theorem dX4_readSwinger_69 : decode cX4_readSwinger 69 = .ok (.iconst 0, 1) := by decide +kernel
theorem dX4_readSwinger_70 : decode cX4_readSwinger 70 = .ok (.ireturn, 1) := by decide +kernel
theorem dX4_readClause_0 : decode cX4_readClause 0 = .ok (.iload_n 1, 1) := by decide +kernel
theorem dX4_readClause_1 : decode cX4_readClause 1 = .ok (.tableswitch 60 6 8 #[27, 39, 48], 27) := by decide +kernel
theorem dX4_readClause_28 : decode cX4_readClause 28 = .ok (.aload_n 0, 1) := by decide +kernel
theorem dX4_readClause_29 : decode cX4_readClause 29 = .ok (.aload_n 2, 1) := by decide +kernel
theorem dX4_readClause_30 : decode cX4_readClause 30 = .ok (.getfield 70, 3) := by decide +kernel
theorem dX4_readClause_33 : decode cX4_readClause 33 = .ok (.sipush 600, 3) := by decide +kernel
theorem dX4_readClause_36 : decode cX4_readClause 36 = .ok (.invokevirtual 75, 3) := by decide +kernel
theorem dX4_readClause_39 : decode cX4_readClause 39 = .ok (.ireturn, 1) := by decide +kernel
theorem dX4_readClause_40 : decode cX4_readClause 40 = .ok (.aload_n 0, 1) := by decide +kernel
theorem dX4_readClause_41 : decode cX4_readClause 41 = .ok (.aload_n 2, 1) := by decide +kernel
theorem dX4_readClause_42 : decode cX4_readClause 42 = .ok (.getfield 79, 3) := by decide +kernel
theorem dX4_readClause_45 : decode cX4_readClause 45 = .ok (.invokevirtual 82, 3) := by decide +kernel
theorem dX4_readClause_48 : decode cX4_readClause 48 = .ok (.ireturn, 1) := by decide +kernel
theorem dX4_readClause_49 : decode cX4_readClause 49 = .ok (.aload_n 0, 1) := by decide +kernel
theorem dX4_readClause_50 : decode cX4_readClause 50 = .ok (.aload_n 2, 1) := by decide +kernel
theorem dX4_readClause_51 : decode cX4_readClause 51 = .ok (.getfield 86, 3) := by decide +kernel
theorem dX4_readClause_54 : decode cX4_readClause 54 = .ok (.sipush 300, 3) := by decide +kernel
theorem dX4_readClause_57 : decode cX4_readClause 57 = .ok (.invokevirtual 75, 3) := by decide +kernel
theorem dX4_readClause_60 : decode cX4_readClause 60 = .ok (.ireturn, 1) := by decide +kernel
theorem dX4_readClause_61 : decode cX4_readClause 61 = .ok (.aload_n 0, 1) := by decide +kernel
theorem dX4_readClause_62 : decode cX4_readClause 62 = .ok (.getstatic 89, 3) := by decide +kernel
theorem dX4_readClause_65 : decode cX4_readClause 65 = .ok (.iload_n 1, 1) := by decide +kernel
theorem dX4_readClause_66 : decode cX4_readClause 66 = .ok (.invokestatic 92, 3) := by decide +kernel
theorem dX4_readClause_69 : decode cX4_readClause 69 = .ok (.getstatic 96, 3) := by decide +kernel
theorem dX4_readClause_72 : decode cX4_readClause 72 = .ok (.iload_n 1, 1) := by decide +kernel
theorem dX4_readClause_73 : decode cX4_readClause 73 = .ok (.invokestatic 92, 3) := by decide +kernel
theorem dX4_readClause_76 : decode cX4_readClause 76 = .ok (.aload_n 2, 1) := by decide +kernel
theorem dX4_readClause_77 : decode cX4_readClause 77 = .ok (.getfield 99, 3) := by decide +kernel
theorem dX4_readClause_80 : decode cX4_readClause 80 = .ok (.invokevirtual 100, 3) := by decide +kernel
theorem dX4_readClause_83 : decode cX4_readClause 83 = .ok (.ireturn, 1) := by decide +kernel
theorem dX4_readNumbers_0 : decode cX4_readNumbers 0 = .ok (.iload_n 1, 1) := by decide +kernel
theorem dX4_readNumbers_1 : decode cX4_readNumbers 1 = .ok (.istore 4, 2) := by decide +kernel
theorem dX4_readNumbers_3 : decode cX4_readNumbers 3 = .ok (.iload 4, 2) := by decide +kernel
theorem dX4_readNumbers_5 : decode cX4_readNumbers 5 = .ok (.iload_n 1, 1) := by decide +kernel
theorem dX4_readNumbers_6 : decode cX4_readNumbers 6 = .ok (.iload_n 2, 1) := by decide +kernel
theorem dX4_readNumbers_7 : decode cX4_readNumbers 7 = .ok (.iadd, 1) := by decide +kernel
theorem dX4_readNumbers_8 : decode cX4_readNumbers 8 = .ok (.if_icmp .ge 44, 3) := by decide +kernel
theorem dX4_readNumbers_11 : decode cX4_readNumbers 11 = .ok (.aload_n 0, 1) := by decide +kernel
theorem dX4_readNumbers_12 : decode cX4_readNumbers 12 = .ok (.getstatic 104, 3) := by decide +kernel
theorem dX4_readNumbers_15 : decode cX4_readNumbers 15 = .ok (.iload 4, 2) := by decide +kernel
theorem dX4_readNumbers_17 : decode cX4_readNumbers 17 = .ok (.invokestatic 92, 3) := by decide +kernel
theorem dX4_readNumbers_20 : decode cX4_readNumbers 20 = .ok (.getstatic 107, 3) := by decide +kernel
theorem dX4_readNumbers_23 : decode cX4_readNumbers 23 = .ok (.iload 4, 2) := by decide +kernel
theorem dX4_readNumbers_25 : decode cX4_readNumbers 25 = .ok (.invokestatic 92, 3) := by decide +kernel
theorem dX4_readNumbers_28 : decode cX4_readNumbers 28 = .ok (.invokevirtual 55, 3) := by decide +kernel
theorem dX4_readNumbers_31 : decode cX4_readNumbers 31 = .ok (.ifCond .ne 5, 3) := by decide +kernel
theorem dX4_readNumbers_34 : decode cX4_readNumbers 34 = .ok (.iconst 0, 1) := by decide +kernel
theorem dX4_readNumbers_35 : decode cX4_readNumbers 35 = .ok (.ireturn, 1) := by decide +kernel
theorem dX4_readNumbers_36 : decode cX4_readNumbers 36 = .ok (.aload_n 3, 1) := by decide +kernel
theorem dX4_readNumbers_37 : decode cX4_readNumbers 37 = .ok (.iload 4, 2) := by decide +kernel
theorem dX4_readNumbers_39 : decode cX4_readNumbers 39 = .ok (.aload_n 0, 1) := by decide +kernel
theorem dX4_readNumbers_40 : decode cX4_readNumbers 40 = .ok (.getfield 63, 3) := by decide +kernel
theorem dX4_readNumbers_43 : decode cX4_readNumbers 43 = .ok (.invokestatic 66, 3) := by decide +kernel
theorem dX4_readNumbers_46 : decode cX4_readNumbers 46 = .ok (.iinc 4 1, 3) := by decide +kernel
theorem dX4_readNumbers_49 : decode cX4_readNumbers 49 = .ok (.goto (-46), 3) := by decide +kernel
theorem dX4_readNumbers_52 : decode cX4_readNumbers 52 = .ok (.aload_n 0, 1) := by decide +kernel
theorem dX4_readNumbers_53 : decode cX4_readNumbers 53 = .ok (.invokevirtual 28, 3) := by decide +kernel
theorem dX4_readNumbers_56 : decode cX4_readNumbers 56 = .ok (.aload_n 0, 1) := by decide +kernel
theorem dX4_readNumbers_57 : decode cX4_readNumbers 57 = .ok (.bipush 59, 2) := by decide +kernel
theorem dX4_readNumbers_59 : decode cX4_readNumbers 59 = .ok (.invokevirtual 110, 3) := by decide +kernel
theorem dX4_readNumbers_62 : decode cX4_readNumbers 62 = .ok (.ifCond .ne 11, 3) := by decide +kernel
theorem dX4_readNumbers_65 : decode cX4_readNumbers 65 = .ok (.aload_n 0, 1) := by decide +kernel
theorem dX4_readNumbers_66 : decode cX4_readNumbers 66 = .ok (.iconst 1, 1) := by decide +kernel
theorem dX4_readNumbers_67 : decode cX4_readNumbers 67 = .ok (.invokevirtual 38, 3) := by decide +kernel
theorem dX4_readNumbers_70 : decode cX4_readNumbers 70 = .ok (.ifCond .eq 7, 3) := by decide +kernel
theorem dX4_readNumbers_73 : decode cX4_readNumbers 73 = .ok (.iconst 1, 1) := by decide +kernel
theorem dX4_readNumbers_74 : decode cX4_readNumbers 74 = .ok (.goto 4, 3) := by decide +kernel
theorem dX4_readNumbers_77 : decode cX4_readNumbers 77 = .ok (.iconst 0, 1) := by decide +kernel
theorem dX4_readNumbers_78 : decode cX4_readNumbers 78 = .ok (.ireturn, 1) := by decide +kernel
theorem dX4_readList_0 : decode cX4_readList 0 = .ok (.iconst 0, 1) := by decide +kernel
theorem dX4_readList_1 : decode cX4_readList 1 = .ok (.istore_n 3, 1) := by decide +kernel
theorem dX4_readList_2 : decode cX4_readList 2 = .ok (.iload_n 3, 1) := by decide +kernel
theorem dX4_readList_3 : decode cX4_readList 3 = .ok (.aload_n 1, 1) := by decide +kernel
theorem dX4_readList_4 : decode cX4_readList 4 = .ok (.arraylength, 1) := by decide +kernel
theorem dX4_readList_5 : decode cX4_readList 5 = .ok (.if_icmp .gt 57, 3) := by decide +kernel
theorem dX4_readList_8 : decode cX4_readList 8 = .ok (.aload_n 0, 1) := by decide +kernel
theorem dX4_readList_9 : decode cX4_readList 9 = .ok (.iconst 0, 1) := by decide +kernel
theorem dX4_readList_10 : decode cX4_readList 10 = .ok (.iload_n 2, 1) := by decide +kernel
theorem dX4_readList_11 : decode cX4_readList 11 = .ok (.invokevirtual 55, 3) := by decide +kernel
theorem dX4_readList_14 : decode cX4_readList 14 = .ok (.ifCond .ne 5, 3) := by decide +kernel
theorem dX4_readList_17 : decode cX4_readList 17 = .ok (.iconst 0, 1) := by decide +kernel
theorem dX4_readList_18 : decode cX4_readList 18 = .ok (.ireturn, 1) := by decide +kernel
theorem dX4_readList_19 : decode cX4_readList 19 = .ok (.iload_n 3, 1) := by decide +kernel
theorem dX4_readList_20 : decode cX4_readList 20 = .ok (.aload_n 1, 1) := by decide +kernel
theorem dX4_readList_21 : decode cX4_readList 21 = .ok (.arraylength, 1) := by decide +kernel
theorem dX4_readList_22 : decode cX4_readList 22 = .ok (.if_icmp .ne 9, 3) := by decide +kernel
theorem dX4_readList_25 : decode cX4_readList 25 = .ok (.aload_n 0, 1) := by decide +kernel
theorem dX4_readList_26 : decode cX4_readList 26 = .ok (.iconst 4, 1) := by decide +kernel
theorem dX4_readList_27 : decode cX4_readList 27 = .ok (.invokevirtual 38, 3) := by decide +kernel
theorem dX4_readList_30 : decode cX4_readList 30 = .ok (.ireturn, 1) := by decide +kernel
theorem dX4_readList_31 : decode cX4_readList 31 = .ok (.aload_n 1, 1) := by decide +kernel
theorem dX4_readList_32 : decode cX4_readList 32 = .ok (.iload_n 3, 1) := by decide +kernel
theorem dX4_readList_33 : decode cX4_readList 33 = .ok (.aload_n 0, 1) := by decide +kernel
theorem dX4_readList_34 : decode cX4_readList 34 = .ok (.getfield 63, 3) := by decide +kernel
theorem dX4_readList_37 : decode cX4_readList 37 = .ok (.invokestatic 66, 3) := by decide +kernel
theorem dX4_readList_40 : decode cX4_readList 40 = .ok (.aload_n 0, 1) := by decide +kernel
theorem dX4_readList_41 : decode cX4_readList 41 = .ok (.invokevirtual 28, 3) := by decide +kernel
theorem dX4_readList_44 : decode cX4_readList 44 = .ok (.aload_n 0, 1) := by decide +kernel
theorem dX4_readList_45 : decode cX4_readList 45 = .ok (.bipush 44, 2) := by decide +kernel
theorem dX4_readList_47 : decode cX4_readList 47 = .ok (.invokevirtual 110, 3) := by decide +kernel
theorem dX4_readList_50 : decode cX4_readList 50 = .ok (.ifCond .ne 6, 3) := by decide +kernel
theorem dX4_readList_53 : decode cX4_readList 53 = .ok (.goto 9, 3) := by decide +kernel
theorem dX4_readList_56 : decode cX4_readList 56 = .ok (.iinc 3 1, 3) := by decide +kernel
theorem dX4_readList_59 : decode cX4_readList 59 = .ok (.goto (-57), 3) := by decide +kernel
theorem dX4_readList_62 : decode cX4_readList 62 = .ok (.aload_n 0, 1) := by decide +kernel
theorem dX4_readList_63 : decode cX4_readList 63 = .ok (.bipush 59, 2) := by decide +kernel
theorem dX4_readList_65 : decode cX4_readList 65 = .ok (.invokevirtual 110, 3) := by decide +kernel
theorem dX4_readList_68 : decode cX4_readList 68 = .ok (.ifCond .ne 11, 3) := by decide +kernel
theorem dX4_readList_71 : decode cX4_readList 71 = .ok (.aload_n 0, 1) := by decide +kernel
theorem dX4_readList_72 : decode cX4_readList 72 = .ok (.iconst 1, 1) := by decide +kernel
theorem dX4_readList_73 : decode cX4_readList 73 = .ok (.invokevirtual 38, 3) := by decide +kernel
theorem dX4_readList_76 : decode cX4_readList 76 = .ok (.ifCond .eq 7, 3) := by decide +kernel
theorem dX4_readList_79 : decode cX4_readList 79 = .ok (.iconst 1, 1) := by decide +kernel
theorem dX4_readList_80 : decode cX4_readList 80 = .ok (.goto 4, 3) := by decide +kernel
theorem dX4_readList_83 : decode cX4_readList 83 = .ok (.iconst 0, 1) := by decide +kernel
theorem dX4_readList_84 : decode cX4_readList 84 = .ok (.ireturn, 1) := by decide +kernel
theorem dX4_readStones_0 : decode cX4_readStones 0 = .ok (.iconst 0, 1) := by decide +kernel
theorem dX4_readStones_1 : decode cX4_readStones 1 = .ok (.istore_n 2, 1) := by decide +kernel
theorem dX4_readStones_2 : decode cX4_readStones 2 = .ok (.iload_n 2, 1) := by decide +kernel
theorem dX4_readStones_3 : decode cX4_readStones 3 = .ok (.aload_n 1, 1) := by decide +kernel
theorem dX4_readStones_4 : decode cX4_readStones 4 = .ok (.arraylength, 1) := by decide +kernel
theorem dX4_readStones_5 : decode cX4_readStones 5 = .ok (.if_icmp .gt 65, 3) := by decide +kernel
theorem dX4_readStones_8 : decode cX4_readStones 8 = .ok (.aload_n 0, 1) := by decide +kernel
theorem dX4_readStones_9 : decode cX4_readStones 9 = .ok (.iconst 0, 1) := by decide +kernel
theorem dX4_readStones_10 : decode cX4_readStones 10 = .ok (.aload_n 1, 1) := by decide +kernel
theorem dX4_readStones_11 : decode cX4_readStones 11 = .ok (.arraylength, 1) := by decide +kernel
theorem dX4_readStones_12 : decode cX4_readStones 12 = .ok (.iconst 1, 1) := by decide +kernel
theorem dX4_readStones_13 : decode cX4_readStones 13 = .ok (.isub, 1) := by decide +kernel
theorem dX4_readStones_14 : decode cX4_readStones 14 = .ok (.invokevirtual 55, 3) := by decide +kernel
theorem dX4_readStones_17 : decode cX4_readStones 17 = .ok (.ifCond .ne 5, 3) := by decide +kernel
theorem dX4_readStones_20 : decode cX4_readStones 20 = .ok (.iconst 0, 1) := by decide +kernel
theorem dX4_readStones_21 : decode cX4_readStones 21 = .ok (.ireturn, 1) := by decide +kernel
theorem dX4_readStones_22 : decode cX4_readStones 22 = .ok (.aload_n 1, 1) := by decide +kernel
theorem dX4_readStones_23 : decode cX4_readStones 23 = .ok (.aload_n 0, 1) := by decide +kernel
theorem dX4_readStones_24 : decode cX4_readStones 24 = .ok (.getfield 63, 3) := by decide +kernel
theorem dX4_readStones_27 : decode cX4_readStones 27 = .ok (.invokestatic 92, 3) := by decide +kernel
theorem dX4_readStones_30 : decode cX4_readStones 30 = .ok (.ifCond .eq 9, 3) := by decide +kernel
theorem dX4_readStones_33 : decode cX4_readStones 33 = .ok (.aload_n 0, 1) := by decide +kernel
theorem dX4_readStones_34 : decode cX4_readStones 34 = .ok (.iconst 3, 1) := by decide +kernel
theorem dX4_readStones_35 : decode cX4_readStones 35 = .ok (.invokevirtual 38, 3) := by decide +kernel
theorem dX4_readStones_38 : decode cX4_readStones 38 = .ok (.ireturn, 1) := by decide +kernel
theorem dX4_readStones_39 : decode cX4_readStones 39 = .ok (.aload_n 1, 1) := by decide +kernel
theorem dX4_readStones_40 : decode cX4_readStones 40 = .ok (.aload_n 0, 1) := by decide +kernel
theorem dX4_readStones_41 : decode cX4_readStones 41 = .ok (.getfield 63, 3) := by decide +kernel
theorem dX4_readStones_44 : decode cX4_readStones 44 = .ok (.iconst 1, 1) := by decide +kernel
theorem dX4_readStones_45 : decode cX4_readStones 45 = .ok (.invokestatic 66, 3) := by decide +kernel
theorem dX4_readStones_48 : decode cX4_readStones 48 = .ok (.aload_n 0, 1) := by decide +kernel
theorem dX4_readStones_49 : decode cX4_readStones 49 = .ok (.invokevirtual 28, 3) := by decide +kernel
theorem dX4_readStones_52 : decode cX4_readStones 52 = .ok (.aload_n 0, 1) := by decide +kernel
theorem dX4_readStones_53 : decode cX4_readStones 53 = .ok (.bipush 44, 2) := by decide +kernel
theorem dX4_readStones_55 : decode cX4_readStones 55 = .ok (.invokevirtual 110, 3) := by decide +kernel
theorem dX4_readStones_58 : decode cX4_readStones 58 = .ok (.ifCond .ne 6, 3) := by decide +kernel
theorem dX4_readStones_61 : decode cX4_readStones 61 = .ok (.goto 9, 3) := by decide +kernel
theorem dX4_readStones_64 : decode cX4_readStones 64 = .ok (.iinc 2 1, 3) := by decide +kernel
theorem dX4_readStones_67 : decode cX4_readStones 67 = .ok (.goto (-65), 3) := by decide +kernel
theorem dX4_readStones_70 : decode cX4_readStones 70 = .ok (.aload_n 0, 1) := by decide +kernel
theorem dX4_readStones_71 : decode cX4_readStones 71 = .ok (.bipush 59, 2) := by decide +kernel
theorem dX4_readStones_73 : decode cX4_readStones 73 = .ok (.invokevirtual 110, 3) := by decide +kernel
theorem dX4_readStones_76 : decode cX4_readStones 76 = .ok (.ifCond .ne 11, 3) := by decide +kernel
theorem dX4_readStones_79 : decode cX4_readStones 79 = .ok (.aload_n 0, 1) := by decide +kernel
theorem dX4_readStones_80 : decode cX4_readStones 80 = .ok (.iconst 1, 1) := by decide +kernel
theorem dX4_readStones_81 : decode cX4_readStones 81 = .ok (.invokevirtual 38, 3) := by decide +kernel
theorem dX4_readStones_84 : decode cX4_readStones 84 = .ok (.ifCond .eq 7, 3) := by decide +kernel
theorem dX4_readStones_87 : decode cX4_readStones 87 = .ok (.iconst 1, 1) := by decide +kernel
theorem dX4_readStones_88 : decode cX4_readStones 88 = .ok (.goto 4, 3) := by decide +kernel
theorem dX4_readStones_91 : decode cX4_readStones 91 = .ok (.iconst 0, 1) := by decide +kernel
theorem dX4_readStones_92 : decode cX4_readStones 92 = .ok (.ireturn, 1) := by decide +kernel
theorem dX4_begin_0 : decode cX4_begin 0 = .ok (.aload_n 0, 1) := by decide +kernel
theorem dX4_begin_1 : decode cX4_begin 1 = .ok (.iconst 0, 1) := by decide +kernel
theorem dX4_begin_2 : decode cX4_begin 2 = .ok (.putfield 113, 3) := by decide +kernel
theorem dX4_begin_5 : decode cX4_begin 5 = .ok (.aload_n 0, 1) := by decide +kernel
theorem dX4_begin_6 : decode cX4_begin 6 = .ok (.iconst 0, 1) := by decide +kernel
theorem dX4_begin_7 : decode cX4_begin 7 = .ok (.putfield 15, 3) := by decide +kernel
theorem dX4_begin_10 : decode cX4_begin 10 = .ok (.aload_n 0, 1) := by decide +kernel
theorem dX4_begin_11 : decode cX4_begin 11 = .ok (.iconst (-1), 1) := by decide +kernel
theorem dX4_begin_12 : decode cX4_begin 12 = .ok (.putfield 19, 3) := by decide +kernel
theorem dX4_begin_15 : decode cX4_begin 15 = .ok (.return_, 1) := by decide +kernel
theorem dX4_fail_0 : decode cX4_fail 0 = .ok (.aload_n 0, 1) := by decide +kernel
theorem dX4_fail_1 : decode cX4_fail 1 = .ok (.iload_n 1, 1) := by decide +kernel
theorem dX4_fail_2 : decode cX4_fail 2 = .ok (.putfield 15, 3) := by decide +kernel
theorem dX4_fail_5 : decode cX4_fail 5 = .ok (.aload_n 0, 1) := by decide +kernel
theorem dX4_fail_6 : decode cX4_fail 6 = .ok (.aload_n 0, 1) := by decide +kernel
theorem dX4_fail_7 : decode cX4_fail 7 = .ok (.getfield 116, 3) := by decide +kernel
theorem dX4_fail_10 : decode cX4_fail 10 = .ok (.putfield 19, 3) := by decide +kernel
theorem dX4_fail_13 : decode cX4_fail 13 = .ok (.iconst 0, 1) := by decide +kernel
theorem dX4_fail_14 : decode cX4_fail 14 = .ok (.ireturn, 1) := by decide +kernel
theorem dX4_takeNumber_0 : decode cX4_takeNumber 0 = .ok (.aload_n 0, 1) := by decide +kernel
theorem dX4_takeNumber_1 : decode cX4_takeNumber 1 = .ok (.invokevirtual 28, 3) := by decide +kernel
theorem dX4_takeNumber_4 : decode cX4_takeNumber 4 = .ok (.aload_n 0, 1) := by decide +kernel
theorem dX4_takeNumber_5 : decode cX4_takeNumber 5 = .ok (.getfield 31, 3) := by decide +kernel
theorem dX4_takeNumber_8 : decode cX4_takeNumber 8 = .ok (.iconst 2, 1) := by decide +kernel
theorem dX4_takeNumber_9 : decode cX4_takeNumber 9 = .ok (.if_icmp .eq 9, 3) := by decide +kernel
theorem dX4_takeNumber_12 : decode cX4_takeNumber 12 = .ok (.aload_n 0, 1) := by decide +kernel
theorem dX4_takeNumber_13 : decode cX4_takeNumber 13 = .ok (.iconst 1, 1) := by decide +kernel
theorem dX4_takeNumber_14 : decode cX4_takeNumber 14 = .ok (.invokevirtual 38, 3) := by decide +kernel
theorem dX4_takeNumber_17 : decode cX4_takeNumber 17 = .ok (.ireturn, 1) := by decide +kernel
theorem dX4_takeNumber_18 : decode cX4_takeNumber 18 = .ok (.aload_n 0, 1) := by decide +kernel
theorem dX4_takeNumber_19 : decode cX4_takeNumber 19 = .ok (.getfield 113, 3) := by decide +kernel
theorem dX4_takeNumber_22 : decode cX4_takeNumber 22 = .ok (.aload_n 0, 1) := by decide +kernel
theorem dX4_takeNumber_23 : decode cX4_takeNumber 23 = .ok (.getfield 116, 3) := by decide +kernel
theorem dX4_takeNumber_26 : decode cX4_takeNumber 26 = .ok (.isub, 1) := by decide +kernel
theorem dX4_takeNumber_27 : decode cX4_takeNumber 27 = .ok (.iconst 3, 1) := by decide +kernel
theorem dX4_takeNumber_28 : decode cX4_takeNumber 28 = .ok (.if_icmp .gt 15, 3) := by decide +kernel
theorem dX4_takeNumber_31 : decode cX4_takeNumber 31 = .ok (.aload_n 0, 1) := by decide +kernel
theorem dX4_takeNumber_32 : decode cX4_takeNumber 32 = .ok (.getfield 63, 3) := by decide +kernel
theorem dX4_takeNumber_35 : decode cX4_takeNumber 35 = .ok (.iload_n 1, 1) := by decide +kernel
theorem dX4_takeNumber_36 : decode cX4_takeNumber 36 = .ok (.iload_n 2, 1) := by decide +kernel
theorem dX4_takeNumber_37 : decode cX4_takeNumber 37 = .ok (.invokestatic 119, 3) := by decide +kernel
theorem dX4_takeNumber_40 : decode cX4_takeNumber 40 = .ok (.ifCond .ne 11, 3) := by decide +kernel
theorem dX4_takeNumber_43 : decode cX4_takeNumber 43 = .ok (.aload_n 0, 1) := by decide +kernel
theorem dX4_takeNumber_44 : decode cX4_takeNumber 44 = .ok (.iconst 2, 1) := by decide +kernel
theorem dX4_takeNumber_45 : decode cX4_takeNumber 45 = .ok (.invokevirtual 38, 3) := by decide +kernel
theorem dX4_takeNumber_48 : decode cX4_takeNumber 48 = .ok (.ifCond .eq 7, 3) := by decide +kernel
theorem dX4_takeNumber_51 : decode cX4_takeNumber 51 = .ok (.iconst 1, 1) := by decide +kernel
theorem dX4_takeNumber_52 : decode cX4_takeNumber 52 = .ok (.goto 4, 3) := by decide +kernel
theorem dX4_takeNumber_55 : decode cX4_takeNumber 55 = .ok (.iconst 0, 1) := by decide +kernel
theorem dX4_takeNumber_56 : decode cX4_takeNumber 56 = .ok (.ireturn, 1) := by decide +kernel
theorem dX4_isSign_0 : decode cX4_isSign 0 = .ok (.aload_n 0, 1) := by decide +kernel
theorem dX4_isSign_1 : decode cX4_isSign 1 = .ok (.getfield 31, 3) := by decide +kernel
theorem dX4_isSign_4 : decode cX4_isSign 4 = .ok (.iconst 3, 1) := by decide +kernel
theorem dX4_isSign_5 : decode cX4_isSign 5 = .ok (.if_icmp .ne 15, 3) := by decide +kernel
theorem dX4_isSign_8 : decode cX4_isSign 8 = .ok (.aload_n 0, 1) := by decide +kernel
theorem dX4_isSign_9 : decode cX4_isSign 9 = .ok (.getfield 63, 3) := by decide +kernel
theorem dX4_isSign_12 : decode cX4_isSign 12 = .ok (.iload_n 1, 1) := by decide +kernel
theorem dX4_isSign_13 : decode cX4_isSign 13 = .ok (.if_icmp .ne 7, 3) := by decide +kernel
theorem dX4_isSign_16 : decode cX4_isSign 16 = .ok (.iconst 1, 1) := by decide +kernel
theorem dX4_isSign_17 : decode cX4_isSign 17 = .ok (.goto 4, 3) := by decide +kernel
theorem dX4_isSign_20 : decode cX4_isSign 20 = .ok (.iconst 0, 1) := by decide +kernel
theorem dX4_isSign_21 : decode cX4_isSign 21 = .ok (.ireturn, 1) := by decide +kernel
theorem dX4_take_0 : decode cX4_take 0 = .ok (.aload_n 0, 1) := by decide +kernel
theorem dX4_take_1 : decode cX4_take 1 = .ok (.getfield 9, 3) := by decide +kernel
theorem dX4_take_4 : decode cX4_take 4 = .ok (.invokevirtual 123, 3) := by decide +kernel
theorem dX4_take_7 : decode cX4_take 7 = .ok (.istore_n 1, 1) := by decide +kernel
theorem dX4_take_8 : decode cX4_take 8 = .ok (.aload_n 0, 1) := by decide +kernel
theorem dX4_take_9 : decode cX4_take 9 = .ok (.getfield 113, 3) := by decide +kernel
theorem dX4_take_12 : decode cX4_take 12 = .ok (.iload_n 1, 1) := by decide +kernel
theorem dX4_take_13 : decode cX4_take 13 = .ok (.if_icmp .ge 32, 3) := by decide +kernel
theorem dX4_take_16 : decode cX4_take 16 = .ok (.aload_n 0, 1) := by decide +kernel
theorem dX4_take_17 : decode cX4_take 17 = .ok (.getfield 9, 3) := by decide +kernel
theorem dX4_take_20 : decode cX4_take 20 = .ok (.aload_n 0, 1) := by decide +kernel
theorem dX4_take_21 : decode cX4_take 21 = .ok (.getfield 113, 3) := by decide +kernel
theorem dX4_take_24 : decode cX4_take 24 = .ok (.invokevirtual 128, 3) := by decide +kernel
theorem dX4_take_27 : decode cX4_take 27 = .ok (.bipush 32, 2) := by decide +kernel
theorem dX4_take_29 : decode cX4_take 29 = .ok (.if_icmp .ne 16, 3) := by decide +kernel
theorem dX4_take_32 : decode cX4_take 32 = .ok (.aload_n 0, 1) := by decide +kernel
theorem dX4_take_33 : decode cX4_take 33 = .ok (.dup, 1) := by decide +kernel
theorem dX4_take_34 : decode cX4_take 34 = .ok (.getfield 113, 3) := by decide +kernel
theorem dX4_take_37 : decode cX4_take 37 = .ok (.iconst 1, 1) := by decide +kernel
theorem dX4_take_38 : decode cX4_take 38 = .ok (.iadd, 1) := by decide +kernel
theorem dX4_take_39 : decode cX4_take 39 = .ok (.putfield 113, 3) := by decide +kernel
theorem dX4_take_42 : decode cX4_take 42 = .ok (.goto (-34), 3) := by decide +kernel
theorem dX4_take_45 : decode cX4_take 45 = .ok (.aload_n 0, 1) := by decide +kernel
theorem dX4_take_46 : decode cX4_take 46 = .ok (.aload_n 0, 1) := by decide +kernel
theorem dX4_take_47 : decode cX4_take 47 = .ok (.getfield 113, 3) := by decide +kernel
theorem dX4_take_50 : decode cX4_take 50 = .ok (.putfield 116, 3) := by decide +kernel
theorem dX4_take_53 : decode cX4_take 53 = .ok (.aload_n 0, 1) := by decide +kernel
theorem dX4_take_54 : decode cX4_take 54 = .ok (.getfield 9, 3) := by decide +kernel
theorem dX4_take_57 : decode cX4_take 57 = .ok (.aload_n 0, 1) := by decide +kernel
theorem dX4_take_58 : decode cX4_take 58 = .ok (.getfield 113, 3) := by decide +kernel
theorem dX4_take_61 : decode cX4_take 61 = .ok (.invokevirtual 128, 3) := by decide +kernel
theorem dX4_take_64 : decode cX4_take 64 = .ok (.istore_n 2, 1) := by decide +kernel
theorem dX4_take_65 : decode cX4_take 65 = .ok (.iload_n 2, 1) := by decide +kernel
theorem dX4_take_66 : decode cX4_take 66 = .ok (.iconst (-1), 1) := by decide +kernel
theorem dX4_take_67 : decode cX4_take 67 = .ok (.if_icmp .ne 11, 3) := by decide +kernel
theorem dX4_take_70 : decode cX4_take 70 = .ok (.aload_n 0, 1) := by decide +kernel
theorem dX4_take_71 : decode cX4_take 71 = .ok (.iconst 0, 1) := by decide +kernel
theorem dX4_take_72 : decode cX4_take 72 = .ok (.putfield 31, 3) := by decide +kernel
theorem dX4_take_75 : decode cX4_take 75 = .ok (.goto 174, 3) := by decide +kernel
theorem dX4_take_78 : decode cX4_take 78 = .ok (.iload_n 2, 1) := by decide +kernel
theorem dX4_take_79 : decode cX4_take 79 = .ok (.invokestatic 131, 3) := by decide +kernel
theorem dX4_take_82 : decode cX4_take 82 = .ok (.ifCond .eq 46, 3) := by decide +kernel
theorem dX4_take_85 : decode cX4_take 85 = .ok (.aload_n 0, 1) := by decide +kernel
theorem dX4_take_86 : decode cX4_take 86 = .ok (.iconst 1, 1) := by decide +kernel
theorem dX4_take_87 : decode cX4_take 87 = .ok (.putfield 31, 3) := by decide +kernel
theorem dX4_take_90 : decode cX4_take 90 = .ok (.aload_n 0, 1) := by decide +kernel
theorem dX4_take_91 : decode cX4_take 91 = .ok (.getfield 113, 3) := by decide +kernel
theorem dX4_take_94 : decode cX4_take 94 = .ok (.iload_n 1, 1) := by decide +kernel
theorem dX4_take_95 : decode cX4_take 95 = .ok (.if_icmp .ge 154, 3) := by decide +kernel
theorem dX4_take_98 : decode cX4_take 98 = .ok (.aload_n 0, 1) := by decide +kernel
theorem dX4_take_99 : decode cX4_take 99 = .ok (.getfield 9, 3) := by decide +kernel
theorem dX4_take_102 : decode cX4_take 102 = .ok (.aload_n 0, 1) := by decide +kernel
theorem dX4_take_103 : decode cX4_take 103 = .ok (.getfield 113, 3) := by decide +kernel
theorem dX4_take_106 : decode cX4_take 106 = .ok (.invokevirtual 128, 3) := by decide +kernel
theorem dX4_take_109 : decode cX4_take 109 = .ok (.invokestatic 131, 3) := by decide +kernel
theorem dX4_take_112 : decode cX4_take 112 = .ok (.ifCond .eq 137, 3) := by decide +kernel
theorem dX4_take_115 : decode cX4_take 115 = .ok (.aload_n 0, 1) := by decide +kernel
theorem dX4_take_116 : decode cX4_take 116 = .ok (.dup, 1) := by decide +kernel
theorem dX4_take_117 : decode cX4_take 117 = .ok (.getfield 113, 3) := by decide +kernel
theorem dX4_take_120 : decode cX4_take 120 = .ok (.iconst 1, 1) := by decide +kernel
theorem dX4_take_121 : decode cX4_take 121 = .ok (.iadd, 1) := by decide +kernel
theorem dX4_take_122 : decode cX4_take 122 = .ok (.putfield 113, 3) := by decide +kernel
theorem dX4_take_125 : decode cX4_take 125 = .ok (.goto (-35), 3) := by decide +kernel
theorem dX4_take_128 : decode cX4_take 128 = .ok (.iload_n 2, 1) := by decide +kernel
theorem dX4_take_129 : decode cX4_take 129 = .ok (.invokestatic 134, 3) := by decide +kernel
theorem dX4_take_132 : decode cX4_take 132 = .ok (.ifCond .eq 97, 3) := by decide +kernel
theorem dX4_take_135 : decode cX4_take 135 = .ok (.aload_n 0, 1) := by decide +kernel
theorem dX4_take_136 : decode cX4_take 136 = .ok (.iconst 2, 1) := by decide +kernel
theorem dX4_take_137 : decode cX4_take 137 = .ok (.putfield 31, 3) := by decide +kernel
theorem dX4_take_140 : decode cX4_take 140 = .ok (.aload_n 0, 1) := by decide +kernel
theorem dX4_take_141 : decode cX4_take 141 = .ok (.iconst 0, 1) := by decide +kernel
theorem dX4_take_142 : decode cX4_take 142 = .ok (.putfield 63, 3) := by decide +kernel
theorem dX4_take_145 : decode cX4_take 145 = .ok (.aload_n 0, 1) := by decide +kernel
theorem dX4_take_146 : decode cX4_take 146 = .ok (.getfield 113, 3) := by decide +kernel
theorem dX4_take_149 : decode cX4_take 149 = .ok (.iload_n 1, 1) := by decide +kernel
theorem dX4_take_150 : decode cX4_take 150 = .ok (.if_icmp .ge 99, 3) := by decide +kernel
theorem dX4_take_153 : decode cX4_take 153 = .ok (.aload_n 0, 1) := by decide +kernel
theorem dX4_take_154 : decode cX4_take 154 = .ok (.getfield 9, 3) := by decide +kernel
theorem dX4_take_157 : decode cX4_take 157 = .ok (.aload_n 0, 1) := by decide +kernel
theorem dX4_take_158 : decode cX4_take 158 = .ok (.getfield 113, 3) := by decide +kernel
theorem dX4_take_161 : decode cX4_take 161 = .ok (.invokevirtual 128, 3) := by decide +kernel
theorem dX4_take_164 : decode cX4_take 164 = .ok (.invokestatic 134, 3) := by decide +kernel
theorem dX4_take_167 : decode cX4_take 167 = .ok (.ifCond .eq 82, 3) := by decide +kernel
theorem dX4_take_170 : decode cX4_take 170 = .ok (.aload_n 0, 1) := by decide +kernel
theorem dX4_take_171 : decode cX4_take 171 = .ok (.aload_n 0, 1) := by decide +kernel
theorem dX4_take_172 : decode cX4_take 172 = .ok (.getfield 113, 3) := by decide +kernel
theorem dX4_take_175 : decode cX4_take 175 = .ok (.aload_n 0, 1) := by decide +kernel
theorem dX4_take_176 : decode cX4_take 176 = .ok (.getfield 116, 3) := by decide +kernel
theorem dX4_take_179 : decode cX4_take 179 = .ok (.isub, 1) := by decide +kernel
theorem dX4_take_180 : decode cX4_take 180 = .ok (.iconst 3, 1) := by decide +kernel
theorem dX4_take_181 : decode cX4_take 181 = .ok (.if_icmp .ge 28, 3) := by decide +kernel
theorem dX4_take_184 : decode cX4_take 184 = .ok (.bipush 10, 2) := by decide +kernel
theorem dX4_take_186 : decode cX4_take 186 = .ok (.aload_n 0, 1) := by decide +kernel
theorem dX4_take_187 : decode cX4_take 187 = .ok (.getfield 63, 3) := by decide +kernel
theorem dX4_take_190 : decode cX4_take 190 = .ok (.imul, 1) := by decide +kernel
theorem dX4_take_191 : decode cX4_take 191 = .ok (.aload_n 0, 1) := by decide +kernel
theorem dX4_take_192 : decode cX4_take 192 = .ok (.getfield 9, 3) := by decide +kernel
theorem dX4_take_195 : decode cX4_take 195 = .ok (.aload_n 0, 1) := by decide +kernel
theorem dX4_take_196 : decode cX4_take 196 = .ok (.getfield 113, 3) := by decide +kernel
theorem dX4_take_199 : decode cX4_take 199 = .ok (.invokevirtual 128, 3) := by decide +kernel
theorem dX4_take_202 : decode cX4_take 202 = .ok (.iadd, 1) := by decide +kernel
theorem dX4_take_203 : decode cX4_take 203 = .ok (.bipush 48, 2) := by decide +kernel
theorem dX4_take_205 : decode cX4_take 205 = .ok (.isub, 1) := by decide +kernel
theorem dX4_take_206 : decode cX4_take 206 = .ok (.goto 7, 3) := by decide +kernel
theorem dX4_take_209 : decode cX4_take 209 = .ok (.aload_n 0, 1) := by decide +kernel
theorem dX4_take_210 : decode cX4_take 210 = .ok (.getfield 63, 3) := by decide +kernel
theorem dX4_take_213 : decode cX4_take 213 = .ok (.putfield 63, 3) := by decide +kernel
theorem dX4_take_216 : decode cX4_take 216 = .ok (.aload_n 0, 1) := by decide +kernel
theorem dX4_take_217 : decode cX4_take 217 = .ok (.dup, 1) := by decide +kernel
theorem dX4_take_218 : decode cX4_take 218 = .ok (.getfield 113, 3) := by decide +kernel
theorem dX4_take_221 : decode cX4_take 221 = .ok (.iconst 1, 1) := by decide +kernel
theorem dX4_take_222 : decode cX4_take 222 = .ok (.iadd, 1) := by decide +kernel
theorem dX4_take_223 : decode cX4_take 223 = .ok (.putfield 113, 3) := by decide +kernel
theorem dX4_take_226 : decode cX4_take 226 = .ok (.goto (-81), 3) := by decide +kernel
theorem dX4_take_229 : decode cX4_take 229 = .ok (.aload_n 0, 1) := by decide +kernel
theorem dX4_take_230 : decode cX4_take 230 = .ok (.iconst 3, 1) := by decide +kernel
theorem dX4_take_231 : decode cX4_take 231 = .ok (.putfield 31, 3) := by decide +kernel
theorem dX4_take_234 : decode cX4_take 234 = .ok (.aload_n 0, 1) := by decide +kernel
theorem dX4_take_235 : decode cX4_take 235 = .ok (.iload_n 2, 1) := by decide +kernel
theorem dX4_take_236 : decode cX4_take 236 = .ok (.putfield 63, 3) := by decide +kernel
theorem dX4_take_239 : decode cX4_take 239 = .ok (.aload_n 0, 1) := by decide +kernel
theorem dX4_take_240 : decode cX4_take 240 = .ok (.dup, 1) := by decide +kernel
theorem dX4_take_241 : decode cX4_take 241 = .ok (.getfield 113, 3) := by decide +kernel
theorem dX4_take_244 : decode cX4_take 244 = .ok (.iconst 1, 1) := by decide +kernel
theorem dX4_take_245 : decode cX4_take 245 = .ok (.iadd, 1) := by decide +kernel
theorem dX4_take_246 : decode cX4_take 246 = .ok (.putfield 113, 3) := by decide +kernel
theorem dX4_take_249 : decode cX4_take 249 = .ok (.return_, 1) := by decide +kernel
theorem dX4_clauseInHand_0 : decode cX4_clauseInHand 0 = .ok (.aload_n 0, 1) := by decide +kernel
theorem dX4_clauseInHand_1 : decode cX4_clauseInHand 1 = .ok (.getfield 31, 3) := by decide +kernel
theorem dX4_clauseInHand_4 : decode cX4_clauseInHand 4 = .ok (.iconst 1, 1) := by decide +kernel
theorem dX4_clauseInHand_5 : decode cX4_clauseInHand 5 = .ok (.if_icmp .eq 5, 3) := by decide +kernel
theorem dX4_clauseInHand_8 : decode cX4_clauseInHand 8 = .ok (.iconst (-1), 1) := by decide +kernel
theorem dX4_clauseInHand_9 : decode cX4_clauseInHand 9 = .ok (.ireturn, 1) := by decide +kernel
theorem dX4_clauseInHand_10 : decode cX4_clauseInHand 10 = .ok (.iconst 0, 1) := by decide +kernel
theorem dX4_clauseInHand_11 : decode cX4_clauseInHand 11 = .ok (.istore_n 1, 1) := by decide +kernel
theorem dX4_clauseInHand_12 : decode cX4_clauseInHand 12 = .ok (.iload_n 1, 1) := by decide +kernel
theorem dX4_clauseInHand_13 : decode cX4_clauseInHand 13 = .ok (.bipush 9, 2) := by decide +kernel
theorem dX4_clauseInHand_15 : decode cX4_clauseInHand 15 = .ok (.if_icmp .ge 22, 3) := by decide +kernel
theorem dX4_clauseInHand_18 : decode cX4_clauseInHand 18 = .ok (.aload_n 0, 1) := by decide +kernel
theorem dX4_clauseInHand_19 : decode cX4_clauseInHand 19 = .ok (.iload_n 1, 1) := by decide +kernel
theorem dX4_clauseInHand_20 : decode cX4_clauseInHand 20 = .ok (.invokestatic 137, 3) := by decide +kernel
theorem dX4_clauseInHand_23 : decode cX4_clauseInHand 23 = .ok (.invokevirtual 141, 3) := by decide +kernel
theorem dX4_clauseInHand_26 : decode cX4_clauseInHand 26 = .ok (.ifCond .eq 5, 3) := by decide +kernel
theorem dX4_clauseInHand_29 : decode cX4_clauseInHand 29 = .ok (.iload_n 1, 1) := by decide +kernel
theorem dX4_clauseInHand_30 : decode cX4_clauseInHand 30 = .ok (.ireturn, 1) := by decide +kernel
theorem dX4_clauseInHand_31 : decode cX4_clauseInHand 31 = .ok (.iinc 1 1, 3) := by decide +kernel
theorem dX4_clauseInHand_34 : decode cX4_clauseInHand 34 = .ok (.goto (-22), 3) := by decide +kernel
theorem dX4_clauseInHand_37 : decode cX4_clauseInHand 37 = .ok (.iconst (-1), 1) := by decide +kernel
theorem dX4_clauseInHand_38 : decode cX4_clauseInHand 38 = .ok (.ireturn, 1) := by decide +kernel
theorem dX4_nameOf_0 : decode cX4_nameOf 0 = .ok (.iload_n 0, 1) := by decide +kernel
theorem dX4_nameOf_1 : decode cX4_nameOf 1 = .ok (.tableswitch 71 0 7 #[47, 50, 53, 56, 59, 62, 65, 68], 47) := by decide +kernel
theorem dX4_nameOf_48 : decode cX4_nameOf 48 = .ok (.ldc 145, 2) := by decide +kernel
theorem dX4_nameOf_50 : decode cX4_nameOf 50 = .ok (.areturn, 1) := by decide +kernel
theorem dX4_nameOf_51 : decode cX4_nameOf 51 = .ok (.ldc 147, 2) := by decide +kernel
theorem dX4_nameOf_53 : decode cX4_nameOf 53 = .ok (.areturn, 1) := by decide +kernel
theorem dX4_nameOf_54 : decode cX4_nameOf 54 = .ok (.ldc 149, 2) := by decide +kernel
theorem dX4_nameOf_56 : decode cX4_nameOf 56 = .ok (.areturn, 1) := by decide +kernel
theorem dX4_nameOf_57 : decode cX4_nameOf 57 = .ok (.ldc 150, 2) := by decide +kernel
theorem dX4_nameOf_59 : decode cX4_nameOf 59 = .ok (.areturn, 1) := by decide +kernel
theorem dX4_nameOf_60 : decode cX4_nameOf 60 = .ok (.ldc 152, 2) := by decide +kernel
theorem dX4_nameOf_62 : decode cX4_nameOf 62 = .ok (.areturn, 1) := by decide +kernel
theorem dX4_nameOf_63 : decode cX4_nameOf 63 = .ok (.ldc 154, 2) := by decide +kernel
theorem dX4_nameOf_65 : decode cX4_nameOf 65 = .ok (.areturn, 1) := by decide +kernel
theorem dX4_nameOf_66 : decode cX4_nameOf 66 = .ok (.ldc 156, 2) := by decide +kernel
theorem dX4_nameOf_68 : decode cX4_nameOf 68 = .ok (.areturn, 1) := by decide +kernel
theorem dX4_nameOf_69 : decode cX4_nameOf 69 = .ok (.ldc 158, 2) := by decide +kernel
theorem dX4_nameOf_71 : decode cX4_nameOf 71 = .ok (.areturn, 1) := by decide +kernel
theorem dX4_nameOf_72 : decode cX4_nameOf 72 = .ok (.ldc 159, 2) := by decide +kernel
theorem dX4_nameOf_74 : decode cX4_nameOf 74 = .ok (.areturn, 1) := by decide +kernel
theorem dX4_isWord_0 : decode cX4_isWord 0 = .ok (.aload_n 0, 1) := by decide +kernel
theorem dX4_isWord_1 : decode cX4_isWord 1 = .ok (.getfield 113, 3) := by decide +kernel
theorem dX4_isWord_4 : decode cX4_isWord 4 = .ok (.aload_n 0, 1) := by decide +kernel
theorem dX4_isWord_5 : decode cX4_isWord 5 = .ok (.getfield 116, 3) := by decide +kernel
theorem dX4_isWord_8 : decode cX4_isWord 8 = .ok (.isub, 1) := by decide +kernel
theorem dX4_isWord_9 : decode cX4_isWord 9 = .ok (.aload_n 1, 1) := by decide +kernel
theorem dX4_isWord_10 : decode cX4_isWord 10 = .ok (.invokevirtual 161, 3) := by decide +kernel
theorem dX4_isWord_13 : decode cX4_isWord 13 = .ok (.if_icmp .eq 5, 3) := by decide +kernel
theorem dX4_isWord_16 : decode cX4_isWord 16 = .ok (.iconst 0, 1) := by decide +kernel
theorem dX4_isWord_17 : decode cX4_isWord 17 = .ok (.ireturn, 1) := by decide +kernel
theorem dX4_isWord_18 : decode cX4_isWord 18 = .ok (.iconst 0, 1) := by decide +kernel
theorem dX4_isWord_19 : decode cX4_isWord 19 = .ok (.istore_n 2, 1) := by decide +kernel
theorem dX4_isWord_20 : decode cX4_isWord 20 = .ok (.iload_n 2, 1) := by decide +kernel
theorem dX4_isWord_21 : decode cX4_isWord 21 = .ok (.aload_n 1, 1) := by decide +kernel
theorem dX4_isWord_22 : decode cX4_isWord 22 = .ok (.invokevirtual 161, 3) := by decide +kernel
theorem dX4_isWord_25 : decode cX4_isWord 25 = .ok (.if_icmp .ge 32, 3) := by decide +kernel
theorem dX4_isWord_28 : decode cX4_isWord 28 = .ok (.aload_n 0, 1) := by decide +kernel
theorem dX4_isWord_29 : decode cX4_isWord 29 = .ok (.getfield 9, 3) := by decide +kernel
theorem dX4_isWord_32 : decode cX4_isWord 32 = .ok (.aload_n 0, 1) := by decide +kernel
theorem dX4_isWord_33 : decode cX4_isWord 33 = .ok (.getfield 116, 3) := by decide +kernel
theorem dX4_isWord_36 : decode cX4_isWord 36 = .ok (.iload_n 2, 1) := by decide +kernel
theorem dX4_isWord_37 : decode cX4_isWord 37 = .ok (.iadd, 1) := by decide +kernel
theorem dX4_isWord_38 : decode cX4_isWord 38 = .ok (.invokevirtual 128, 3) := by decide +kernel
theorem dX4_isWord_41 : decode cX4_isWord 41 = .ok (.aload_n 1, 1) := by decide +kernel
theorem dX4_isWord_42 : decode cX4_isWord 42 = .ok (.iload_n 2, 1) := by decide +kernel
theorem dX4_isWord_43 : decode cX4_isWord 43 = .ok (.invokevirtual 164, 3) := by decide +kernel
theorem dX4_isWord_46 : decode cX4_isWord 46 = .ok (.if_icmp .eq 5, 3) := by decide +kernel
theorem dX4_isWord_49 : decode cX4_isWord 49 = .ok (.iconst 0, 1) := by decide +kernel
theorem dX4_isWord_50 : decode cX4_isWord 50 = .ok (.ireturn, 1) := by decide +kernel
theorem dX4_isWord_51 : decode cX4_isWord 51 = .ok (.iinc 2 1, 3) := by decide +kernel
theorem dX4_isWord_54 : decode cX4_isWord 54 = .ok (.goto (-34), 3) := by decide +kernel
theorem dX4_isWord_57 : decode cX4_isWord 57 = .ok (.iconst 1, 1) := by decide +kernel
theorem dX4_isWord_58 : decode cX4_isWord 58 = .ok (.ireturn, 1) := by decide +kernel
theorem dX4_isLetter_0 : decode cX4_isLetter 0 = .ok (.iload_n 0, 1) := by decide +kernel
theorem dX4_isLetter_1 : decode cX4_isLetter 1 = .ok (.bipush 97, 2) := by decide +kernel
theorem dX4_isLetter_3 : decode cX4_isLetter 3 = .ok (.if_icmp .lt 13, 3) := by decide +kernel
theorem dX4_isLetter_6 : decode cX4_isLetter 6 = .ok (.iload_n 0, 1) := by decide +kernel
theorem dX4_isLetter_7 : decode cX4_isLetter 7 = .ok (.bipush 122, 2) := by decide +kernel
theorem dX4_isLetter_9 : decode cX4_isLetter 9 = .ok (.if_icmp .gt 7, 3) := by decide +kernel
theorem dX4_isLetter_12 : decode cX4_isLetter 12 = .ok (.iconst 1, 1) := by decide +kernel
theorem dX4_isLetter_13 : decode cX4_isLetter 13 = .ok (.goto 4, 3) := by decide +kernel
theorem dX4_isLetter_16 : decode cX4_isLetter 16 = .ok (.iconst 0, 1) := by decide +kernel
theorem dX4_isLetter_17 : decode cX4_isLetter 17 = .ok (.ireturn, 1) := by decide +kernel
theorem dX4_isFigure_0 : decode cX4_isFigure 0 = .ok (.iload_n 0, 1) := by decide +kernel
theorem dX4_isFigure_1 : decode cX4_isFigure 1 = .ok (.bipush 48, 2) := by decide +kernel
theorem dX4_isFigure_3 : decode cX4_isFigure 3 = .ok (.if_icmp .lt 13, 3) := by decide +kernel
theorem dX4_isFigure_6 : decode cX4_isFigure 6 = .ok (.iload_n 0, 1) := by decide +kernel
theorem dX4_isFigure_7 : decode cX4_isFigure 7 = .ok (.bipush 57, 2) := by decide +kernel
theorem dX4_isFigure_9 : decode cX4_isFigure 9 = .ok (.if_icmp .gt 7, 3) := by decide +kernel
theorem dX4_isFigure_12 : decode cX4_isFigure 12 = .ok (.iconst 1, 1) := by decide +kernel
theorem dX4_isFigure_13 : decode cX4_isFigure 13 = .ok (.goto 4, 3) := by decide +kernel
theorem dX4_isFigure_16 : decode cX4_isFigure 16 = .ok (.iconst 0, 1) := by decide +kernel
theorem dX4_isFigure_17 : decode cX4_isFigure 17 = .ok (.ireturn, 1) := by decide +kernel
theorem dX5_init_0 : decode cX5_init 0 = .ok (.aload_n 0, 1) := by decide +kernel
theorem dX5_init_1 : decode cX5_init 1 = .ok (.invokespecial 3, 3) := by decide +kernel
theorem dX5_init_4 : decode cX5_init 4 = .ok (.aload_n 0, 1) := by decide +kernel
theorem dX5_init_5 : decode cX5_init 5 = .ok (.iconst 5, 1) := by decide +kernel
theorem dX5_init_6 : decode cX5_init 6 = .ok (.newarray .int, 2) := by decide +kernel
theorem dX5_init_8 : decode cX5_init 8 = .ok (.putfield 9, 3) := by decide +kernel
theorem dX5_init_11 : decode cX5_init 11 = .ok (.aload_n 0, 1) := by decide +kernel
theorem dX5_init_12 : decode cX5_init 12 = .ok (.bipush 9, 2) := by decide +kernel
theorem dX5_init_14 : decode cX5_init 14 = .ok (.newarray .int, 2) := by decide +kernel
theorem dX5_init_16 : decode cX5_init 16 = .ok (.putfield 15, 3) := by decide +kernel
theorem dX5_init_19 : decode cX5_init 19 = .ok (.return_, 1) := by decide +kernel
theorem dX5_begin_0 : decode cX5_begin 0 = .ok (.aload_n 0, 1) := by decide +kernel
theorem dX5_begin_1 : decode cX5_begin 1 = .ok (.iconst 0, 1) := by decide +kernel
theorem dX5_begin_2 : decode cX5_begin 2 = .ok (.iconst 0, 1) := by decide +kernel
theorem dX5_begin_3 : decode cX5_begin 3 = .ok (.invokevirtual 18, 3) := by decide +kernel
theorem dX5_begin_6 : decode cX5_begin 6 = .ok (.aload_n 0, 1) := by decide +kernel
theorem dX5_begin_7 : decode cX5_begin 7 = .ok (.iconst 1, 1) := by decide +kernel
theorem dX5_begin_8 : decode cX5_begin 8 = .ok (.iconst 0, 1) := by decide +kernel
theorem dX5_begin_9 : decode cX5_begin 9 = .ok (.invokevirtual 18, 3) := by decide +kernel
theorem dX5_begin_12 : decode cX5_begin 12 = .ok (.aload_n 0, 1) := by decide +kernel
theorem dX5_begin_13 : decode cX5_begin 13 = .ok (.iconst 2, 1) := by decide +kernel
theorem dX5_begin_14 : decode cX5_begin 14 = .ok (.iconst 0, 1) := by decide +kernel
theorem dX5_begin_15 : decode cX5_begin 15 = .ok (.invokevirtual 18, 3) := by decide +kernel
theorem dX5_begin_18 : decode cX5_begin 18 = .ok (.aload_n 0, 1) := by decide +kernel
theorem dX5_begin_19 : decode cX5_begin 19 = .ok (.iconst 3, 1) := by decide +kernel
theorem dX5_begin_20 : decode cX5_begin 20 = .ok (.aload_n 1, 1) := by decide +kernel
theorem dX5_begin_21 : decode cX5_begin 21 = .ok (.iconst 4, 1) := by decide +kernel
theorem dX5_begin_22 : decode cX5_begin 22 = .ok (.invokevirtual 22, 3) := by decide +kernel
theorem dX5_begin_25 : decode cX5_begin 25 = .ok (.invokevirtual 18, 3) := by decide +kernel
theorem dX5_begin_28 : decode cX5_begin 28 = .ok (.aload_n 0, 1) := by decide +kernel
theorem dX5_begin_29 : decode cX5_begin 29 = .ok (.iconst 4, 1) := by decide +kernel
theorem dX5_begin_30 : decode cX5_begin 30 = .ok (.aload_n 1, 1) := by decide +kernel
theorem dX5_begin_31 : decode cX5_begin 31 = .ok (.iconst 5, 1) := by decide +kernel
theorem dX5_begin_32 : decode cX5_begin 32 = .ok (.invokevirtual 22, 3) := by decide +kernel
theorem dX5_begin_35 : decode cX5_begin 35 = .ok (.invokevirtual 18, 3) := by decide +kernel
theorem dX5_begin_38 : decode cX5_begin 38 = .ok (.return_, 1) := by decide +kernel
theorem dX5_inHand_0 : decode cX5_inHand 0 = .ok (.aload_n 0, 1) := by decide +kernel
theorem dX5_inHand_1 : decode cX5_inHand 1 = .ok (.getfield 9, 3) := by decide +kernel
theorem dX5_inHand_4 : decode cX5_inHand 4 = .ok (.iload_n 1, 1) := by decide +kernel
theorem dX5_inHand_5 : decode cX5_inHand 5 = .ok (.invokestatic 28, 3) := by decide +kernel
theorem dX5_inHand_8 : decode cX5_inHand 8 = .ok (.ireturn, 1) := by decide +kernel
theorem dX5_take_0 : decode cX5_take 0 = .ok (.aload_n 0, 1) := by decide +kernel
theorem dX5_take_1 : decode cX5_take 1 = .ok (.getfield 9, 3) := by decide +kernel
theorem dX5_take_4 : decode cX5_take 4 = .ok (.iload_n 1, 1) := by decide +kernel
theorem dX5_take_5 : decode cX5_take 5 = .ok (.iload_n 2, 1) := by decide +kernel
theorem dX5_take_6 : decode cX5_take 6 = .ok (.invokestatic 32, 3) := by decide +kernel
theorem dX5_take_9 : decode cX5_take 9 = .ok (.return_, 1) := by decide +kernel
theorem dX5_draw_0 : decode cX5_draw 0 = .ok (.aload_n 0, 1) := by decide +kernel
theorem dX5_draw_1 : decode cX5_draw 1 = .ok (.aload_n 0, 1) := by decide +kernel
theorem dX5_draw_2 : decode cX5_draw 2 = .ok (.getfield 36, 3) := by decide +kernel
theorem dX5_draw_5 : decode cX5_draw 5 = .ok (.i2l, 1) := by decide +kernel
theorem dX5_draw_6 : decode cX5_draw 6 = .ok (.ldc2_w 40, 3) := by decide +kernel
theorem dX5_draw_9 : decode cX5_draw 9 = .ok (.lmul, 1) := by decide +kernel
theorem dX5_draw_10 : decode cX5_draw 10 = .ok (.ldc2_w 42, 3) := by decide +kernel
theorem dX5_draw_13 : decode cX5_draw 13 = .ok (.ladd, 1) := by decide +kernel
theorem dX5_draw_14 : decode cX5_draw 14 = .ok (.ldc2_w 44, 3) := by decide +kernel
theorem dX5_draw_17 : decode cX5_draw 17 = .ok (.lrem, 1) := by decide +kernel
theorem dX5_draw_18 : decode cX5_draw 18 = .ok (.l2i, 1) := by decide +kernel
theorem dX5_draw_19 : decode cX5_draw 19 = .ok (.putfield 36, 3) := by decide +kernel
theorem dX5_draw_22 : decode cX5_draw 22 = .ok (.iload_n 1, 1) := by decide +kernel
theorem dX5_draw_23 : decode cX5_draw 23 = .ok (.iconst 1, 1) := by decide +kernel
theorem dX5_draw_24 : decode cX5_draw 24 = .ok (.if_icmp .ge 7, 3) := by decide +kernel
theorem dX5_draw_27 : decode cX5_draw 27 = .ok (.iconst 0, 1) := by decide +kernel
theorem dX5_draw_28 : decode cX5_draw 28 = .ok (.goto 12, 3) := by decide +kernel
theorem dX5_draw_31 : decode cX5_draw 31 = .ok (.aload_n 0, 1) := by decide +kernel
theorem dX5_draw_32 : decode cX5_draw 32 = .ok (.getfield 36, 3) := by decide +kernel
theorem dX5_draw_35 : decode cX5_draw 35 = .ok (.ldc 46, 2) := by decide +kernel
theorem dX5_draw_37 : decode cX5_draw 37 = .ok (.idiv, 1) := by decide +kernel
theorem dX5_draw_38 : decode cX5_draw 38 = .ok (.iload_n 1, 1) := by decide +kernel
theorem dX5_draw_39 : decode cX5_draw 39 = .ok (.irem, 1) := by decide +kernel
theorem dX5_draw_40 : decode cX5_draw 40 = .ok (.ireturn, 1) := by decide +kernel
theorem dX5_count_0 : decode cX5_count 0 = .ok (.aload_n 0, 1) := by decide +kernel
theorem dX5_count_1 : decode cX5_count 1 = .ok (.getfield 15, 3) := by decide +kernel
theorem dX5_count_4 : decode cX5_count 4 = .ok (.iload_n 1, 1) := by decide +kernel
theorem dX5_count_5 : decode cX5_count 5 = .ok (.aload_n 0, 1) := by decide +kernel
theorem dX5_count_6 : decode cX5_count 6 = .ok (.getfield 15, 3) := by decide +kernel
theorem dX5_count_9 : decode cX5_count 9 = .ok (.iload_n 1, 1) := by decide +kernel
theorem dX5_count_10 : decode cX5_count 10 = .ok (.invokestatic 28, 3) := by decide +kernel
theorem dX5_count_13 : decode cX5_count 13 = .ok (.iconst 1, 1) := by decide +kernel
theorem dX5_count_14 : decode cX5_count 14 = .ok (.iadd, 1) := by decide +kernel
theorem dX5_count_15 : decode cX5_count 15 = .ok (.invokestatic 32, 3) := by decide +kernel
theorem dX5_count_18 : decode cX5_count 18 = .ok (.return_, 1) := by decide +kernel
theorem dX5_counted_0 : decode cX5_counted 0 = .ok (.aload_n 0, 1) := by decide +kernel
theorem dX5_counted_1 : decode cX5_counted 1 = .ok (.getfield 15, 3) := by decide +kernel
theorem dX5_counted_4 : decode cX5_counted 4 = .ok (.iload_n 1, 1) := by decide +kernel
theorem dX5_counted_5 : decode cX5_counted 5 = .ok (.invokestatic 28, 3) := by decide +kernel
theorem dX5_counted_8 : decode cX5_counted 8 = .ok (.ireturn, 1) := by decide +kernel
theorem dX5_copy_0 : decode cX5_copy 0 = .ok (.aload_n 1, 1) := by decide +kernel
theorem dX5_copy_1 : decode cX5_copy 1 = .ok (.getfield 9, 3) := by decide +kernel
theorem dX5_copy_4 : decode cX5_copy 4 = .ok (.iconst 0, 1) := by decide +kernel
theorem dX5_copy_5 : decode cX5_copy 5 = .ok (.aload_n 0, 1) := by decide +kernel
theorem dX5_copy_6 : decode cX5_copy 6 = .ok (.getfield 9, 3) := by decide +kernel
theorem dX5_copy_9 : decode cX5_copy 9 = .ok (.iconst 0, 1) := by decide +kernel
theorem dX5_copy_10 : decode cX5_copy 10 = .ok (.aload_n 1, 1) := by decide +kernel
theorem dX5_copy_11 : decode cX5_copy 11 = .ok (.getfield 9, 3) := by decide +kernel
theorem dX5_copy_14 : decode cX5_copy 14 = .ok (.arraylength, 1) := by decide +kernel
theorem dX5_copy_15 : decode cX5_copy 15 = .ok (.aload_n 0, 1) := by decide +kernel
theorem dX5_copy_16 : decode cX5_copy 16 = .ok (.getfield 9, 3) := by decide +kernel
theorem dX5_copy_19 : decode cX5_copy 19 = .ok (.arraylength, 1) := by decide +kernel
theorem dX5_copy_20 : decode cX5_copy 20 = .ok (.invokestatic 47, 3) := by decide +kernel
theorem dX5_copy_23 : decode cX5_copy 23 = .ok (.invokestatic 53, 3) := by decide +kernel
theorem dX5_copy_26 : decode cX5_copy 26 = .ok (.aload_n 1, 1) := by decide +kernel
theorem dX5_copy_27 : decode cX5_copy 27 = .ok (.getfield 15, 3) := by decide +kernel
theorem dX5_copy_30 : decode cX5_copy 30 = .ok (.iconst 0, 1) := by decide +kernel
theorem dX5_copy_31 : decode cX5_copy 31 = .ok (.aload_n 0, 1) := by decide +kernel
theorem dX5_copy_32 : decode cX5_copy 32 = .ok (.getfield 15, 3) := by decide +kernel
theorem dX5_copy_35 : decode cX5_copy 35 = .ok (.iconst 0, 1) := by decide +kernel
theorem dX5_copy_36 : decode cX5_copy 36 = .ok (.aload_n 1, 1) := by decide +kernel
theorem dX5_copy_37 : decode cX5_copy 37 = .ok (.getfield 15, 3) := by decide +kernel
theorem dX5_copy_40 : decode cX5_copy 40 = .ok (.arraylength, 1) := by decide +kernel
theorem dX5_copy_41 : decode cX5_copy 41 = .ok (.aload_n 0, 1) := by decide +kernel
theorem dX5_copy_42 : decode cX5_copy 42 = .ok (.getfield 15, 3) := by decide +kernel
theorem dX5_copy_45 : decode cX5_copy 45 = .ok (.arraylength, 1) := by decide +kernel
theorem dX5_copy_46 : decode cX5_copy 46 = .ok (.invokestatic 47, 3) := by decide +kernel
theorem dX5_copy_49 : decode cX5_copy 49 = .ok (.invokestatic 53, 3) := by decide +kernel
theorem dX5_copy_52 : decode cX5_copy 52 = .ok (.aload_n 0, 1) := by decide +kernel
theorem dX5_copy_53 : decode cX5_copy 53 = .ok (.aload_n 1, 1) := by decide +kernel
theorem dX5_copy_54 : decode cX5_copy 54 = .ok (.getfield 36, 3) := by decide +kernel
theorem dX5_copy_57 : decode cX5_copy 57 = .ok (.putfield 36, 3) := by decide +kernel
theorem dX5_copy_60 : decode cX5_copy 60 = .ok (.return_, 1) := by decide +kernel
theorem dX6_init_0 : decode cX6_init 0 = .ok (.aload_n 0, 1) := by decide +kernel
theorem dX6_init_1 : decode cX6_init 1 = .ok (.invokespecial 1, 3) := by decide +kernel
theorem dX6_init_4 : decode cX6_init 4 = .ok (.aload_n 0, 1) := by decide +kernel
theorem dX6_init_5 : decode cX6_init 5 = .ok (.iconst 5, 1) := by decide +kernel
theorem dX6_init_6 : decode cX6_init 6 = .ok (.newarray .int, 2) := by decide +kernel
theorem dX6_init_8 : decode cX6_init 8 = .ok (.putfield 9, 3) := by decide +kernel
theorem dX6_init_11 : decode cX6_init 11 = .ok (.return_, 1) := by decide +kernel
theorem dX6_least_0 : decode cX6_least 0 = .ok (.getstatic 13, 3) := by decide +kernel
theorem dX6_least_3 : decode cX6_least 3 = .ok (.iload_n 0, 1) := by decide +kernel
theorem dX6_least_4 : decode cX6_least 4 = .ok (.invokestatic 16, 3) := by decide +kernel
theorem dX6_least_7 : decode cX6_least 7 = .ok (.ireturn, 1) := by decide +kernel
theorem dX6_most_0 : decode cX6_most 0 = .ok (.getstatic 22, 3) := by decide +kernel
theorem dX6_most_3 : decode cX6_most 3 = .ok (.iload_n 0, 1) := by decide +kernel
theorem dX6_most_4 : decode cX6_most 4 = .ok (.invokestatic 16, 3) := by decide +kernel
theorem dX6_most_7 : decode cX6_most 7 = .ok (.ireturn, 1) := by decide +kernel
theorem dX6_number_0 : decode cX6_number 0 = .ok (.aload_n 0, 1) := by decide +kernel
theorem dX6_number_1 : decode cX6_number 1 = .ok (.getfield 9, 3) := by decide +kernel
theorem dX6_number_4 : decode cX6_number 4 = .ok (.iload_n 1, 1) := by decide +kernel
theorem dX6_number_5 : decode cX6_number 5 = .ok (.invokestatic 16, 3) := by decide +kernel
theorem dX6_number_8 : decode cX6_number 8 = .ok (.ireturn, 1) := by decide +kernel
theorem dX7_init_0 : decode cX7_init 0 = .ok (.aload_n 0, 1) := by decide +kernel
theorem dX7_init_1 : decode cX7_init 1 = .ok (.invokespecial 3, 3) := by decide +kernel
theorem dX7_init_4 : decode cX7_init 4 = .ok (.aload_n 0, 1) := by decide +kernel
theorem dX7_init_5 : decode cX7_init 5 = .ok (.sipush 300, 3) := by decide +kernel
theorem dX7_init_8 : decode cX7_init 8 = .ok (.newarray .int, 2) := by decide +kernel
theorem dX7_init_10 : decode cX7_init 10 = .ok (.putfield 11, 3) := by decide +kernel
theorem dX7_init_13 : decode cX7_init 13 = .ok (.return_, 1) := by decide +kernel
theorem dX7_length_0 : decode cX7_length 0 = .ok (.aload_n 0, 1) := by decide +kernel
theorem dX7_length_1 : decode cX7_length 1 = .ok (.getfield 15, 3) := by decide +kernel
theorem dX7_length_4 : decode cX7_length 4 = .ok (.ireturn, 1) := by decide +kernel
theorem dX7_add_0 : decode cX7_add 0 = .ok (.aload_n 0, 1) := by decide +kernel
theorem dX7_add_1 : decode cX7_add 1 = .ok (.getfield 15, 3) := by decide +kernel
theorem dX7_add_4 : decode cX7_add 4 = .ok (.sipush 300, 3) := by decide +kernel
theorem dX7_add_7 : decode cX7_add 7 = .ok (.if_icmp .ge 25, 3) := by decide +kernel
theorem dX7_add_10 : decode cX7_add 10 = .ok (.aload_n 0, 1) := by decide +kernel
theorem dX7_add_11 : decode cX7_add 11 = .ok (.getfield 11, 3) := by decide +kernel
theorem dX7_add_14 : decode cX7_add 14 = .ok (.aload_n 0, 1) := by decide +kernel
theorem dX7_add_15 : decode cX7_add 15 = .ok (.getfield 15, 3) := by decide +kernel
theorem dX7_add_18 : decode cX7_add 18 = .ok (.iload_n 1, 1) := by decide +kernel
theorem dX7_add_19 : decode cX7_add 19 = .ok (.invokestatic 19, 3) := by decide +kernel
theorem dX7_add_22 : decode cX7_add 22 = .ok (.aload_n 0, 1) := by decide +kernel
theorem dX7_add_23 : decode cX7_add 23 = .ok (.dup, 1) := by decide +kernel
theorem dX7_add_24 : decode cX7_add 24 = .ok (.getfield 15, 3) := by decide +kernel
theorem dX7_add_27 : decode cX7_add 27 = .ok (.iconst 1, 1) := by decide +kernel
theorem dX7_add_28 : decode cX7_add 28 = .ok (.iadd, 1) := by decide +kernel
theorem dX7_add_29 : decode cX7_add 29 = .ok (.putfield 15, 3) := by decide +kernel
theorem dX7_add_32 : decode cX7_add 32 = .ok (.return_, 1) := by decide +kernel
theorem dX7_byteAt_0 : decode cX7_byteAt 0 = .ok (.iload_n 1, 1) := by decide +kernel
theorem dX7_byteAt_1 : decode cX7_byteAt 1 = .ok (.ifCond .lt 29, 3) := by decide +kernel
theorem dX7_byteAt_4 : decode cX7_byteAt 4 = .ok (.iload_n 1, 1) := by decide +kernel
theorem dX7_byteAt_5 : decode cX7_byteAt 5 = .ok (.aload_n 0, 1) := by decide +kernel
theorem dX7_byteAt_6 : decode cX7_byteAt 6 = .ok (.getfield 15, 3) := by decide +kernel
theorem dX7_byteAt_9 : decode cX7_byteAt 9 = .ok (.if_icmp .ge 21, 3) := by decide +kernel
theorem dX7_byteAt_12 : decode cX7_byteAt 12 = .ok (.iload_n 1, 1) := by decide +kernel
theorem dX7_byteAt_13 : decode cX7_byteAt 13 = .ok (.aload_n 0, 1) := by decide +kernel
theorem dX7_byteAt_14 : decode cX7_byteAt 14 = .ok (.getfield 11, 3) := by decide +kernel
theorem dX7_byteAt_17 : decode cX7_byteAt 17 = .ok (.arraylength, 1) := by decide +kernel
theorem dX7_byteAt_18 : decode cX7_byteAt 18 = .ok (.if_icmp .ge 12, 3) := by decide +kernel
theorem dX7_byteAt_21 : decode cX7_byteAt 21 = .ok (.aload_n 0, 1) := by decide +kernel
theorem dX7_byteAt_22 : decode cX7_byteAt 22 = .ok (.getfield 11, 3) := by decide +kernel
theorem dX7_byteAt_25 : decode cX7_byteAt 25 = .ok (.iload_n 1, 1) := by decide +kernel
theorem dX7_byteAt_26 : decode cX7_byteAt 26 = .ok (.iaload, 1) := by decide +kernel
theorem dX7_byteAt_27 : decode cX7_byteAt 27 = .ok (.goto 4, 3) := by decide +kernel
theorem dX7_byteAt_30 : decode cX7_byteAt 30 = .ok (.iconst (-1), 1) := by decide +kernel
theorem dX7_byteAt_31 : decode cX7_byteAt 31 = .ok (.ireturn, 1) := by decide +kernel
theorem dX7_clear_0 : decode cX7_clear 0 = .ok (.aload_n 0, 1) := by decide +kernel
theorem dX7_clear_1 : decode cX7_clear 1 = .ok (.iconst 0, 1) := by decide +kernel
theorem dX7_clear_2 : decode cX7_clear 2 = .ok (.putfield 15, 3) := by decide +kernel
theorem dX7_clear_5 : decode cX7_clear 5 = .ok (.return_, 1) := by decide +kernel
theorem dX8_init_0 : decode cX8_init 0 = .ok (.aload_n 0, 1) := by decide +kernel
theorem dX8_init_1 : decode cX8_init 1 = .ok (.invokespecial 3, 3) := by decide +kernel
theorem dX8_init_4 : decode cX8_init 4 = .ok (.return_, 1) := by decide +kernel
theorem dX8_scan_0 : decode cX8_scan 0 = .ok (.aload_n 0, 1) := by decide +kernel
theorem dX8_scan_1 : decode cX8_scan 1 = .ok (.iconst (-1), 1) := by decide +kernel
theorem dX8_scan_2 : decode cX8_scan 2 = .ok (.putfield 9, 3) := by decide +kernel
theorem dX8_scan_5 : decode cX8_scan 5 = .ok (.aload_n 0, 1) := by decide +kernel
theorem dX8_scan_6 : decode cX8_scan 6 = .ok (.iconst (-1), 1) := by decide +kernel
theorem dX8_scan_7 : decode cX8_scan 7 = .ok (.putfield 15, 3) := by decide +kernel
theorem dX8_scan_10 : decode cX8_scan 10 = .ok (.aload_n 0, 1) := by decide +kernel
theorem dX8_scan_11 : decode cX8_scan 11 = .ok (.iconst 0, 1) := by decide +kernel
theorem dX8_scan_12 : decode cX8_scan 12 = .ok (.putfield 18, 3) := by decide +kernel
theorem dX8_scan_15 : decode cX8_scan 15 = .ok (.aload_n 0, 1) := by decide +kernel
theorem dX8_scan_16 : decode cX8_scan 16 = .ok (.iconst (-1), 1) := by decide +kernel
theorem dX8_scan_17 : decode cX8_scan 17 = .ok (.putfield 21, 3) := by decide +kernel
theorem dX8_scan_20 : decode cX8_scan 20 = .ok (.aload_n 0, 1) := by decide +kernel
theorem dX8_scan_21 : decode cX8_scan 21 = .ok (.iconst 0, 1) := by decide +kernel
theorem dX8_scan_22 : decode cX8_scan 22 = .ok (.putfield 24, 3) := by decide +kernel
theorem dX8_scan_25 : decode cX8_scan 25 = .ok (.iconst 0, 1) := by decide +kernel
theorem dX8_scan_26 : decode cX8_scan 26 = .ok (.istore_n 2, 1) := by decide +kernel
theorem dX8_scan_27 : decode cX8_scan 27 = .ok (.iconst 0, 1) := by decide +kernel
theorem dX8_scan_28 : decode cX8_scan 28 = .ok (.istore_n 3, 1) := by decide +kernel
theorem dX8_scan_29 : decode cX8_scan 29 = .ok (.iconst 0, 1) := by decide +kernel
theorem dX8_scan_30 : decode cX8_scan 30 = .ok (.istore 4, 2) := by decide +kernel
theorem dX8_scan_32 : decode cX8_scan 32 = .ok (.iconst 1, 1) := by decide +kernel
theorem dX8_scan_33 : decode cX8_scan 33 = .ok (.istore 5, 2) := by decide +kernel
theorem dX8_scan_35 : decode cX8_scan 35 = .ok (.iload 5, 2) := by decide +kernel
theorem dX8_scan_37 : decode cX8_scan 37 = .ok (.sipush 200, 3) := by decide +kernel
theorem dX8_scan_40 : decode cX8_scan 40 = .ok (.if_icmp .gt 122, 3) := by decide +kernel
theorem dX8_scan_43 : decode cX8_scan 43 = .ok (.aload_n 1, 1) := by decide +kernel
theorem dX8_scan_44 : decode cX8_scan 44 = .ok (.iload 5, 2) := by decide +kernel
theorem dX8_scan_46 : decode cX8_scan 46 = .ok (.aload_n 1, 1) := by decide +kernel
theorem dX8_scan_47 : decode cX8_scan 47 = .ok (.getfield 27, 3) := by decide +kernel
theorem dX8_scan_50 : decode cX8_scan 50 = .ok (.iadd, 1) := by decide +kernel
theorem dX8_scan_51 : decode cX8_scan 51 = .ok (.invokevirtual 32, 3) := by decide +kernel
theorem dX8_scan_54 : decode cX8_scan 54 = .ok (.ifCond .ne 9, 3) := by decide +kernel
theorem dX8_scan_57 : decode cX8_scan 57 = .ok (.iconst 0, 1) := by decide +kernel
theorem dX8_scan_58 : decode cX8_scan 58 = .ok (.istore 4, 2) := by decide +kernel
theorem dX8_scan_60 : decode cX8_scan 60 = .ok (.goto 96, 3) := by decide +kernel
theorem dX8_scan_63 : decode cX8_scan 63 = .ok (.aload_n 0, 1) := by decide +kernel
theorem dX8_scan_64 : decode cX8_scan 64 = .ok (.dup, 1) := by decide +kernel
theorem dX8_scan_65 : decode cX8_scan 65 = .ok (.getfield 24, 3) := by decide +kernel
theorem dX8_scan_68 : decode cX8_scan 68 = .ok (.iconst 1, 1) := by decide +kernel
theorem dX8_scan_69 : decode cX8_scan 69 = .ok (.iadd, 1) := by decide +kernel
theorem dX8_scan_70 : decode cX8_scan 70 = .ok (.putfield 24, 3) := by decide +kernel
theorem dX8_scan_73 : decode cX8_scan 73 = .ok (.iinc 4 1, 3) := by decide +kernel
theorem dX8_scan_76 : decode cX8_scan 76 = .ok (.iload 4, 2) := by decide +kernel
theorem dX8_scan_78 : decode cX8_scan 78 = .ok (.aload_n 0, 1) := by decide +kernel
theorem dX8_scan_79 : decode cX8_scan 79 = .ok (.getfield 18, 3) := by decide +kernel
theorem dX8_scan_82 : decode cX8_scan 82 = .ok (.if_icmp .le 20, 3) := by decide +kernel
theorem dX8_scan_85 : decode cX8_scan 85 = .ok (.aload_n 0, 1) := by decide +kernel
theorem dX8_scan_86 : decode cX8_scan 86 = .ok (.iload 4, 2) := by decide +kernel
theorem dX8_scan_88 : decode cX8_scan 88 = .ok (.putfield 18, 3) := by decide +kernel
theorem dX8_scan_91 : decode cX8_scan 91 = .ok (.aload_n 0, 1) := by decide +kernel
theorem dX8_scan_92 : decode cX8_scan 92 = .ok (.iload 5, 2) := by decide +kernel
theorem dX8_scan_94 : decode cX8_scan 94 = .ok (.iload 4, 2) := by decide +kernel
theorem dX8_scan_96 : decode cX8_scan 96 = .ok (.isub, 1) := by decide +kernel
theorem dX8_scan_97 : decode cX8_scan 97 = .ok (.iconst 1, 1) := by decide +kernel
theorem dX8_scan_98 : decode cX8_scan 98 = .ok (.iadd, 1) := by decide +kernel
theorem dX8_scan_99 : decode cX8_scan 99 = .ok (.putfield 21, 3) := by decide +kernel
theorem dX8_scan_102 : decode cX8_scan 102 = .ok (.aload_n 0, 1) := by decide +kernel
theorem dX8_scan_103 : decode cX8_scan 103 = .ok (.getfield 9, 3) := by decide +kernel
theorem dX8_scan_106 : decode cX8_scan 106 = .ok (.iconst (-1), 1) := by decide +kernel
theorem dX8_scan_107 : decode cX8_scan 107 = .ok (.if_icmp .eq 11, 3) := by decide +kernel
theorem dX8_scan_110 : decode cX8_scan 110 = .ok (.aload_n 1, 1) := by decide +kernel
theorem dX8_scan_111 : decode cX8_scan 111 = .ok (.getfield 36, 3) := by decide +kernel
theorem dX8_scan_114 : decode cX8_scan 114 = .ok (.iload_n 2, 1) := by decide +kernel
theorem dX8_scan_115 : decode cX8_scan 115 = .ok (.if_icmp .le 14, 3) := by decide +kernel
theorem dX8_scan_118 : decode cX8_scan 118 = .ok (.aload_n 0, 1) := by decide +kernel
theorem dX8_scan_119 : decode cX8_scan 119 = .ok (.iload 5, 2) := by decide +kernel
theorem dX8_scan_121 : decode cX8_scan 121 = .ok (.putfield 9, 3) := by decide +kernel
theorem dX8_scan_124 : decode cX8_scan 124 = .ok (.aload_n 1, 1) := by decide +kernel
theorem dX8_scan_125 : decode cX8_scan 125 = .ok (.getfield 36, 3) := by decide +kernel
theorem dX8_scan_128 : decode cX8_scan 128 = .ok (.istore_n 2, 1) := by decide +kernel
theorem dX8_scan_129 : decode cX8_scan 129 = .ok (.aload_n 0, 1) := by decide +kernel
theorem dX8_scan_130 : decode cX8_scan 130 = .ok (.getfield 15, 3) := by decide +kernel
theorem dX8_scan_133 : decode cX8_scan 133 = .ok (.iconst (-1), 1) := by decide +kernel
theorem dX8_scan_134 : decode cX8_scan 134 = .ok (.if_icmp .eq 11, 3) := by decide +kernel
theorem dX8_scan_137 : decode cX8_scan 137 = .ok (.aload_n 1, 1) := by decide +kernel
theorem dX8_scan_138 : decode cX8_scan 138 = .ok (.getfield 39, 3) := by decide +kernel
theorem dX8_scan_141 : decode cX8_scan 141 = .ok (.iload_n 3, 1) := by decide +kernel
theorem dX8_scan_142 : decode cX8_scan 142 = .ok (.if_icmp .le 14, 3) := by decide +kernel
theorem dX8_scan_145 : decode cX8_scan 145 = .ok (.aload_n 0, 1) := by decide +kernel
theorem dX8_scan_146 : decode cX8_scan 146 = .ok (.iload 5, 2) := by decide +kernel
theorem dX8_scan_148 : decode cX8_scan 148 = .ok (.putfield 15, 3) := by decide +kernel
theorem dX8_scan_151 : decode cX8_scan 151 = .ok (.aload_n 1, 1) := by decide +kernel
theorem dX8_scan_152 : decode cX8_scan 152 = .ok (.getfield 39, 3) := by decide +kernel
theorem dX8_scan_155 : decode cX8_scan 155 = .ok (.istore_n 3, 1) := by decide +kernel
theorem dX8_scan_156 : decode cX8_scan 156 = .ok (.iinc 5 1, 3) := by decide +kernel
theorem dX8_scan_159 : decode cX8_scan 159 = .ok (.goto (-124), 3) := by decide +kernel
theorem dX8_scan_162 : decode cX8_scan 162 = .ok (.return_, 1) := by decide +kernel
theorem dX9_init_0 : decode cX9_init 0 = .ok (.aload_n 0, 1) := by decide +kernel
theorem dX9_init_1 : decode cX9_init 1 = .ok (.invokespecial 1, 3) := by decide +kernel
theorem dX9_init_4 : decode cX9_init 4 = .ok (.aload_n 0, 1) := by decide +kernel
theorem dX9_init_5 : decode cX9_init 5 = .ok (.new 7, 3) := by decide +kernel
theorem dX9_init_8 : decode cX9_init 8 = .ok (.dup, 1) := by decide +kernel
theorem dX9_init_9 : decode cX9_init 9 = .ok (.invokespecial 9, 3) := by decide +kernel
theorem dX9_init_12 : decode cX9_init 12 = .ok (.putfield 10, 3) := by decide +kernel
theorem dX9_init_15 : decode cX9_init 15 = .ok (.aload_n 0, 1) := by decide +kernel
theorem dX9_init_16 : decode cX9_init 16 = .ok (.new 16, 3) := by decide +kernel
theorem dX9_init_19 : decode cX9_init 19 = .ok (.dup, 1) := by decide +kernel
theorem dX9_init_20 : decode cX9_init 20 = .ok (.aload_n 0, 1) := by decide +kernel
theorem dX9_init_21 : decode cX9_init 21 = .ok (.getfield 10, 3) := by decide +kernel
theorem dX9_init_24 : decode cX9_init 24 = .ok (.invokespecial 18, 3) := by decide +kernel
theorem dX9_init_27 : decode cX9_init 27 = .ok (.putfield 21, 3) := by decide +kernel
theorem dX9_init_30 : decode cX9_init 30 = .ok (.aload_n 0, 1) := by decide +kernel
theorem dX9_init_31 : decode cX9_init 31 = .ok (.new 25, 3) := by decide +kernel
theorem dX9_init_34 : decode cX9_init 34 = .ok (.dup, 1) := by decide +kernel
theorem dX9_init_35 : decode cX9_init 35 = .ok (.invokespecial 27, 3) := by decide +kernel
theorem dX9_init_38 : decode cX9_init 38 = .ok (.putfield 28, 3) := by decide +kernel
theorem dX9_init_41 : decode cX9_init 41 = .ok (.aload_n 0, 1) := by decide +kernel
theorem dX9_init_42 : decode cX9_init 42 = .ok (.new 25, 3) := by decide +kernel
theorem dX9_init_45 : decode cX9_init 45 = .ok (.dup, 1) := by decide +kernel
theorem dX9_init_46 : decode cX9_init 46 = .ok (.invokespecial 27, 3) := by decide +kernel
theorem dX9_init_49 : decode cX9_init 49 = .ok (.putfield 32, 3) := by decide +kernel
theorem dX9_init_52 : decode cX9_init 52 = .ok (.aload_n 0, 1) := by decide +kernel
theorem dX9_init_53 : decode cX9_init 53 = .ok (.bipush 8, 2) := by decide +kernel
theorem dX9_init_55 : decode cX9_init 55 = .ok (.anewarray 35, 3) := by decide +kernel
theorem dX9_init_58 : decode cX9_init 58 = .ok (.putfield 37, 3) := by decide +kernel
theorem dX9_init_61 : decode cX9_init 61 = .ok (.iconst 0, 1) := by decide +kernel
theorem dX9_init_62 : decode cX9_init 62 = .ok (.istore_n 1, 1) := by decide +kernel
theorem dX9_init_63 : decode cX9_init 63 = .ok (.iload_n 1, 1) := by decide +kernel
theorem dX9_init_64 : decode cX9_init 64 = .ok (.aload_n 0, 1) := by decide +kernel
theorem dX9_init_65 : decode cX9_init 65 = .ok (.getfield 37, 3) := by decide +kernel
theorem dX9_init_68 : decode cX9_init 68 = .ok (.arraylength, 1) := by decide +kernel
theorem dX9_init_69 : decode cX9_init 69 = .ok (.if_icmp .ge 22, 3) := by decide +kernel
theorem dX9_init_72 : decode cX9_init 72 = .ok (.aload_n 0, 1) := by decide +kernel
theorem dX9_init_73 : decode cX9_init 73 = .ok (.getfield 37, 3) := by decide +kernel
theorem dX9_init_76 : decode cX9_init 76 = .ok (.iload_n 1, 1) := by decide +kernel
theorem dX9_init_77 : decode cX9_init 77 = .ok (.new 35, 3) := by decide +kernel
theorem dX9_init_80 : decode cX9_init 80 = .ok (.dup, 1) := by decide +kernel
theorem dX9_init_81 : decode cX9_init 81 = .ok (.invokespecial 41, 3) := by decide +kernel
theorem dX9_init_84 : decode cX9_init 84 = .ok (.aastore, 1) := by decide +kernel
theorem dX9_init_85 : decode cX9_init 85 = .ok (.iinc 1 1, 3) := by decide +kernel
theorem dX9_init_88 : decode cX9_init 88 = .ok (.goto (-25), 3) := by decide +kernel
theorem dX9_init_91 : decode cX9_init 91 = .ok (.aload_n 0, 1) := by decide +kernel
theorem dX9_init_92 : decode cX9_init 92 = .ok (.new 42, 3) := by decide +kernel
theorem dX9_init_95 : decode cX9_init 95 = .ok (.dup, 1) := by decide +kernel
theorem dX9_init_96 : decode cX9_init 96 = .ok (.invokespecial 44, 3) := by decide +kernel
theorem dX9_init_99 : decode cX9_init 99 = .ok (.putfield 45, 3) := by decide +kernel
theorem dX9_init_102 : decode cX9_init 102 = .ok (.aload_n 0, 1) := by decide +kernel
theorem dX9_init_103 : decode cX9_init 103 = .ok (.iconst 2, 1) := by decide +kernel
theorem dX9_init_104 : decode cX9_init 104 = .ok (.anewarray 42, 3) := by decide +kernel
theorem dX9_init_107 : decode cX9_init 107 = .ok (.putfield 49, 3) := by decide +kernel
theorem dX9_init_110 : decode cX9_init 110 = .ok (.iconst 0, 1) := by decide +kernel
theorem dX9_init_111 : decode cX9_init 111 = .ok (.istore_n 1, 1) := by decide +kernel
theorem dX9_init_112 : decode cX9_init 112 = .ok (.iload_n 1, 1) := by decide +kernel
theorem dX9_init_113 : decode cX9_init 113 = .ok (.aload_n 0, 1) := by decide +kernel
theorem dX9_init_114 : decode cX9_init 114 = .ok (.getfield 49, 3) := by decide +kernel
theorem dX9_init_117 : decode cX9_init 117 = .ok (.arraylength, 1) := by decide +kernel
theorem dX9_init_118 : decode cX9_init 118 = .ok (.if_icmp .ge 22, 3) := by decide +kernel
theorem dX9_init_121 : decode cX9_init 121 = .ok (.aload_n 0, 1) := by decide +kernel
theorem dX9_init_122 : decode cX9_init 122 = .ok (.getfield 49, 3) := by decide +kernel
theorem dX9_init_125 : decode cX9_init 125 = .ok (.iload_n 1, 1) := by decide +kernel
theorem dX9_init_126 : decode cX9_init 126 = .ok (.new 42, 3) := by decide +kernel
theorem dX9_init_129 : decode cX9_init 129 = .ok (.dup, 1) := by decide +kernel
theorem dX9_init_130 : decode cX9_init 130 = .ok (.invokespecial 44, 3) := by decide +kernel
theorem dX9_init_133 : decode cX9_init 133 = .ok (.aastore, 1) := by decide +kernel
theorem dX9_init_134 : decode cX9_init 134 = .ok (.iinc 1 1, 3) := by decide +kernel
theorem dX9_init_137 : decode cX9_init 137 = .ok (.goto (-25), 3) := by decide +kernel
theorem dX9_init_140 : decode cX9_init 140 = .ok (.aload_n 0, 1) := by decide +kernel
theorem dX9_init_141 : decode cX9_init 141 = .ok (.new 53, 3) := by decide +kernel
theorem dX9_init_144 : decode cX9_init 144 = .ok (.dup, 1) := by decide +kernel
theorem dX9_init_145 : decode cX9_init 145 = .ok (.invokespecial 55, 3) := by decide +kernel
theorem dX9_init_148 : decode cX9_init 148 = .ok (.putfield 56, 3) := by decide +kernel
theorem dX9_init_151 : decode cX9_init 151 = .ok (.aload_n 0, 1) := by decide +kernel
theorem dX9_init_152 : decode cX9_init 152 = .ok (.new 60, 3) := by decide +kernel
theorem dX9_init_155 : decode cX9_init 155 = .ok (.dup, 1) := by decide +kernel
theorem dX9_init_156 : decode cX9_init 156 = .ok (.invokespecial 62, 3) := by decide +kernel
theorem dX9_init_159 : decode cX9_init 159 = .ok (.putfield 63, 3) := by decide +kernel
theorem dX9_init_162 : decode cX9_init 162 = .ok (.aload_n 0, 1) := by decide +kernel
theorem dX9_init_163 : decode cX9_init 163 = .ok (.new 67, 3) := by decide +kernel
theorem dX9_init_166 : decode cX9_init 166 = .ok (.dup, 1) := by decide +kernel
theorem dX9_init_167 : decode cX9_init 167 = .ok (.aload_n 0, 1) := by decide +kernel
theorem dX9_init_168 : decode cX9_init 168 = .ok (.getfield 28, 3) := by decide +kernel
theorem dX9_init_171 : decode cX9_init 171 = .ok (.aload_n 0, 1) := by decide +kernel
theorem dX9_init_172 : decode cX9_init 172 = .ok (.getfield 63, 3) := by decide +kernel
theorem dX9_init_175 : decode cX9_init 175 = .ok (.invokespecial 69, 3) := by decide +kernel
theorem dX9_init_178 : decode cX9_init 178 = .ok (.putfield 72, 3) := by decide +kernel
theorem dX9_init_181 : decode cX9_init 181 = .ok (.aload_n 0, 1) := by decide +kernel
theorem dX9_init_182 : decode cX9_init 182 = .ok (.new 76, 3) := by decide +kernel
theorem dX9_init_185 : decode cX9_init 185 = .ok (.dup, 1) := by decide +kernel
theorem dX9_init_186 : decode cX9_init 186 = .ok (.invokespecial 78, 3) := by decide +kernel
theorem dX9_init_189 : decode cX9_init 189 = .ok (.putfield 79, 3) := by decide +kernel
theorem dX9_init_192 : decode cX9_init 192 = .ok (.aload_n 0, 1) := by decide +kernel
theorem dX9_init_193 : decode cX9_init 193 = .ok (.bipush 8, 2) := by decide +kernel
theorem dX9_init_195 : decode cX9_init 195 = .ok (.newarray .int, 2) := by decide +kernel
theorem dX9_init_197 : decode cX9_init 197 = .ok (.putfield 83, 3) := by decide +kernel
theorem dX9_init_200 : decode cX9_init 200 = .ok (.aload_n 0, 1) := by decide +kernel
theorem dX9_init_201 : decode cX9_init 201 = .ok (.iconst (-1), 1) := by decide +kernel
theorem dX9_init_202 : decode cX9_init 202 = .ok (.putfield 87, 3) := by decide +kernel
theorem dX9_init_205 : decode cX9_init 205 = .ok (.aload_n 0, 1) := by decide +kernel
theorem dX9_init_206 : decode cX9_init 206 = .ok (.getfield 45, 3) := by decide +kernel
theorem dX9_init_209 : decode cX9_init 209 = .ok (.aload_n 0, 1) := by decide +kernel
theorem dX9_init_210 : decode cX9_init 210 = .ok (.getfield 28, 3) := by decide +kernel
theorem dX9_init_213 : decode cX9_init 213 = .ok (.invokevirtual 91, 3) := by decide +kernel
theorem dX9_init_216 : decode cX9_init 216 = .ok (.return_, 1) := by decide +kernel
theorem dX9_feed_0 : decode cX9_feed 0 = .ok (.iload_n 1, 1) := by decide +kernel
theorem dX9_feed_1 : decode cX9_feed 1 = .ok (.iconst 1, 1) := by decide +kernel
theorem dX9_feed_2 : decode cX9_feed 2 = .ok (.if_icmp .lt 9, 3) := by decide +kernel
theorem dX9_feed_5 : decode cX9_feed 5 = .ok (.iload_n 1, 1) := by decide +kernel
theorem dX9_feed_6 : decode cX9_feed 6 = .ok (.bipush 8, 2) := by decide +kernel
theorem dX9_feed_8 : decode cX9_feed 8 = .ok (.if_icmp .le 6, 3) := by decide +kernel
theorem dX9_feed_11 : decode cX9_feed 11 = .ok (.ldc 95, 2) := by decide +kernel
theorem dX9_feed_13 : decode cX9_feed 13 = .ok (.ireturn, 1) := by decide +kernel
theorem dX9_feed_14 : decode cX9_feed 14 = .ok (.aload_n 0, 1) := by decide +kernel
theorem dX9_feed_15 : decode cX9_feed 15 = .ok (.getfield 10, 3) := by decide +kernel
theorem dX9_feed_18 : decode cX9_feed 18 = .ok (.invokevirtual 96, 3) := by decide +kernel
theorem dX9_feed_21 : decode cX9_feed 21 = .ok (.iload_n 1, 1) := by decide +kernel
theorem dX9_feed_22 : decode cX9_feed 22 = .ok (.iadd, 1) := by decide +kernel
theorem dX9_feed_23 : decode cX9_feed 23 = .ok (.sipush 300, 3) := by decide +kernel
theorem dX9_feed_26 : decode cX9_feed 26 = .ok (.if_icmp .le 6, 3) := by decide +kernel
theorem dX9_feed_29 : decode cX9_feed 29 = .ok (.ldc 100, 2) := by decide +kernel
theorem dX9_feed_31 : decode cX9_feed 31 = .ok (.ireturn, 1) := by decide +kernel
theorem dX9_feed_32 : decode cX9_feed 32 = .ok (.iload_n 1, 1) := by decide +kernel
theorem dX9_feed_33 : decode cX9_feed 33 = .ok (.iconst 1, 1) := by decide +kernel
theorem dX9_feed_34 : decode cX9_feed 34 = .ok (.isub, 1) := by decide +kernel
theorem dX9_feed_35 : decode cX9_feed 35 = .ok (.istore 4, 2) := by decide +kernel
theorem dX9_feed_37 : decode cX9_feed 37 = .ok (.iload 4, 2) := by decide +kernel
theorem dX9_feed_39 : decode cX9_feed 39 = .ok (.ifCond .lt 28, 3) := by decide +kernel
theorem dX9_feed_42 : decode cX9_feed 42 = .ok (.aload_n 0, 1) := by decide +kernel
theorem dX9_feed_43 : decode cX9_feed 43 = .ok (.getfield 10, 3) := by decide +kernel
theorem dX9_feed_46 : decode cX9_feed 46 = .ok (.lload_n 2, 1) := by decide +kernel
theorem dX9_feed_47 : decode cX9_feed 47 = .ok (.bipush 8, 2) := by decide +kernel
theorem dX9_feed_49 : decode cX9_feed 49 = .ok (.iload 4, 2) := by decide +kernel
theorem dX9_feed_51 : decode cX9_feed 51 = .ok (.imul, 1) := by decide +kernel
theorem dX9_feed_52 : decode cX9_feed 52 = .ok (.lushr, 1) := by decide +kernel
theorem dX9_feed_53 : decode cX9_feed 53 = .ok (.l2i, 1) := by decide +kernel
theorem dX9_feed_54 : decode cX9_feed 54 = .ok (.sipush 255, 3) := by decide +kernel
theorem dX9_feed_57 : decode cX9_feed 57 = .ok (.iand, 1) := by decide +kernel
theorem dX9_feed_58 : decode cX9_feed 58 = .ok (.invokevirtual 101, 3) := by decide +kernel
theorem dX9_feed_61 : decode cX9_feed 61 = .ok (.iinc 4 (-1), 3) := by decide +kernel
theorem dX9_feed_64 : decode cX9_feed 64 = .ok (.goto (-27), 3) := by decide +kernel
theorem dX9_feed_67 : decode cX9_feed 67 = .ok (.aload_n 0, 1) := by decide +kernel
theorem dX9_feed_68 : decode cX9_feed 68 = .ok (.getfield 10, 3) := by decide +kernel
theorem dX9_feed_71 : decode cX9_feed 71 = .ok (.invokevirtual 96, 3) := by decide +kernel
end
section
theorem dX9_feed_74 : decode cX9_feed 74 = .ok (.ireturn, 1) := by decide +kernel
theorem dX9_place_0 : decode cX9_place 0 = .ok (.aload_n 0, 1) := by decide +kernel
theorem dX9_place_1 : decode cX9_place 1 = .ok (.getfield 32, 3) := by decide +kernel
theorem dX9_place_4 : decode cX9_place 4 = .ok (.invokevirtual 105, 3) := by decide +kernel
theorem dX9_place_7 : decode cX9_place 7 = .ok (.aload_n 0, 1) := by decide +kernel
theorem dX9_place_8 : decode cX9_place 8 = .ok (.getfield 21, 3) := by decide +kernel
theorem dX9_place_11 : decode cX9_place 11 = .ok (.aload_n 0, 1) := by decide +kernel
theorem dX9_place_12 : decode cX9_place 12 = .ok (.getfield 32, 3) := by decide +kernel
theorem dX9_place_15 : decode cX9_place 15 = .ok (.invokevirtual 108, 3) := by decide +kernel
theorem dX9_place_18 : decode cX9_place 18 = .ok (.istore_n 1, 1) := by decide +kernel
theorem dX9_place_19 : decode cX9_place 19 = .ok (.aload_n 0, 1) := by decide +kernel
theorem dX9_place_20 : decode cX9_place 20 = .ok (.getfield 10, 3) := by decide +kernel
theorem dX9_place_23 : decode cX9_place 23 = .ok (.invokevirtual 112, 3) := by decide +kernel
theorem dX9_place_26 : decode cX9_place 26 = .ok (.aload_n 0, 1) := by decide +kernel
theorem dX9_place_27 : decode cX9_place 27 = .ok (.aload_n 0, 1) := by decide +kernel
theorem dX9_place_28 : decode cX9_place 28 = .ok (.getfield 21, 3) := by decide +kernel
theorem dX9_place_31 : decode cX9_place 31 = .ok (.invokevirtual 113, 3) := by decide +kernel
theorem dX9_place_34 : decode cX9_place 34 = .ok (.putfield 87, 3) := by decide +kernel
theorem dX9_place_37 : decode cX9_place 37 = .ok (.iload_n 1, 1) := by decide +kernel
theorem dX9_place_38 : decode cX9_place 38 = .ok (.ifCond .ne 14, 3) := by decide +kernel
theorem dX9_place_41 : decode cX9_place 41 = .ok (.bipush (-10), 2) := by decide +kernel
theorem dX9_place_43 : decode cX9_place 43 = .ok (.aload_n 0, 1) := by decide +kernel
theorem dX9_place_44 : decode cX9_place 44 = .ok (.getfield 21, 3) := by decide +kernel
theorem dX9_place_47 : decode cX9_place 47 = .ok (.invokevirtual 115, 3) := by decide +kernel
theorem dX9_place_50 : decode cX9_place 50 = .ok (.isub, 1) := by decide +kernel
theorem dX9_place_51 : decode cX9_place 51 = .ok (.ireturn, 1) := by decide +kernel
theorem dX9_place_52 : decode cX9_place 52 = .ok (.aload_n 0, 1) := by decide +kernel
theorem dX9_place_53 : decode cX9_place 53 = .ok (.getfield 28, 3) := by decide +kernel
theorem dX9_place_56 : decode cX9_place 56 = .ok (.aload_n 0, 1) := by decide +kernel
theorem dX9_place_57 : decode cX9_place 57 = .ok (.getfield 32, 3) := by decide +kernel
theorem dX9_place_60 : decode cX9_place 60 = .ok (.invokevirtual 118, 3) := by decide +kernel
theorem dX9_place_63 : decode cX9_place 63 = .ok (.aload_n 0, 1) := by decide +kernel
theorem dX9_place_64 : decode cX9_place 64 = .ok (.getfield 45, 3) := by decide +kernel
theorem dX9_place_67 : decode cX9_place 67 = .ok (.aload_n 0, 1) := by decide +kernel
theorem dX9_place_68 : decode cX9_place 68 = .ok (.getfield 28, 3) := by decide +kernel
theorem dX9_place_71 : decode cX9_place 71 = .ok (.invokevirtual 91, 3) := by decide +kernel
theorem dX9_place_74 : decode cX9_place 74 = .ok (.aload_n 0, 1) := by decide +kernel
theorem dX9_place_75 : decode cX9_place 75 = .ok (.getfield 21, 3) := by decide +kernel
theorem dX9_place_78 : decode cX9_place 78 = .ok (.invokevirtual 121, 3) := by decide +kernel
theorem dX9_place_81 : decode cX9_place 81 = .ok (.ireturn, 1) := by decide +kernel
theorem dX9_swinger_0 : decode cX9_swinger 0 = .ok (.aload_n 0, 1) := by decide +kernel
theorem dX9_swinger_1 : decode cX9_swinger 1 = .ok (.getfield 10, 3) := by decide +kernel
theorem dX9_swinger_4 : decode cX9_swinger 4 = .ok (.invokevirtual 96, 3) := by decide +kernel
theorem dX9_swinger_7 : decode cX9_swinger 7 = .ok (.bipush 40, 2) := by decide +kernel
theorem dX9_swinger_9 : decode cX9_swinger 9 = .ok (.if_icmp .le 6, 3) := by decide +kernel
theorem dX9_swinger_12 : decode cX9_swinger 12 = .ok (.ldc 124, 2) := by decide +kernel
theorem dX9_swinger_14 : decode cX9_swinger 14 = .ok (.ireturn, 1) := by decide +kernel
theorem dX9_swinger_15 : decode cX9_swinger 15 = .ok (.aload_n 0, 1) := by decide +kernel
theorem dX9_swinger_16 : decode cX9_swinger 16 = .ok (.getfield 125, 3) := by decide +kernel
theorem dX9_swinger_19 : decode cX9_swinger 19 = .ok (.ifCond .lt 27, 3) := by decide +kernel
theorem dX9_swinger_22 : decode cX9_swinger 22 = .ok (.aload_n 0, 1) := by decide +kernel
theorem dX9_swinger_23 : decode cX9_swinger 23 = .ok (.getfield 125, 3) := by decide +kernel
theorem dX9_swinger_26 : decode cX9_swinger 26 = .ok (.aload_n 0, 1) := by decide +kernel
theorem dX9_swinger_27 : decode cX9_swinger 27 = .ok (.getfield 37, 3) := by decide +kernel
theorem dX9_swinger_30 : decode cX9_swinger 30 = .ok (.arraylength, 1) := by decide +kernel
theorem dX9_swinger_31 : decode cX9_swinger 31 = .ok (.if_icmp .ge 15, 3) := by decide +kernel
theorem dX9_swinger_34 : decode cX9_swinger 34 = .ok (.aload_n 0, 1) := by decide +kernel
theorem dX9_swinger_35 : decode cX9_swinger 35 = .ok (.getfield 37, 3) := by decide +kernel
theorem dX9_swinger_38 : decode cX9_swinger 38 = .ok (.aload_n 0, 1) := by decide +kernel
theorem dX9_swinger_39 : decode cX9_swinger 39 = .ok (.getfield 125, 3) := by decide +kernel
theorem dX9_swinger_42 : decode cX9_swinger 42 = .ok (.aaload, 1) := by decide +kernel
theorem dX9_swinger_43 : decode cX9_swinger 43 = .ok (.goto 4, 3) := by decide +kernel
theorem dX9_swinger_46 : decode cX9_swinger 46 = .ok (.aconst_null, 1) := by decide +kernel
theorem dX9_swinger_47 : decode cX9_swinger 47 = .ok (.astore_n 1, 1) := by decide +kernel
theorem dX9_swinger_48 : decode cX9_swinger 48 = .ok (.aload_n 1, 1) := by decide +kernel
theorem dX9_swinger_49 : decode cX9_swinger 49 = .ok (.ifnonnull 6, 3) := by decide +kernel
theorem dX9_swinger_52 : decode cX9_swinger 52 = .ok (.ldc 100, 2) := by decide +kernel
theorem dX9_swinger_54 : decode cX9_swinger 54 = .ok (.ireturn, 1) := by decide +kernel
theorem dX9_swinger_55 : decode cX9_swinger 55 = .ok (.aload_n 0, 1) := by decide +kernel
theorem dX9_swinger_56 : decode cX9_swinger 56 = .ok (.getfield 21, 3) := by decide +kernel
theorem dX9_swinger_59 : decode cX9_swinger 59 = .ok (.aload_n 1, 1) := by decide +kernel
theorem dX9_swinger_60 : decode cX9_swinger 60 = .ok (.invokevirtual 128, 3) := by decide +kernel
theorem dX9_swinger_63 : decode cX9_swinger 63 = .ok (.istore_n 2, 1) := by decide +kernel
theorem dX9_swinger_64 : decode cX9_swinger 64 = .ok (.aload_n 0, 1) := by decide +kernel
theorem dX9_swinger_65 : decode cX9_swinger 65 = .ok (.getfield 10, 3) := by decide +kernel
theorem dX9_swinger_68 : decode cX9_swinger 68 = .ok (.invokevirtual 112, 3) := by decide +kernel
theorem dX9_swinger_71 : decode cX9_swinger 71 = .ok (.aload_n 0, 1) := by decide +kernel
theorem dX9_swinger_72 : decode cX9_swinger 72 = .ok (.aload_n 0, 1) := by decide +kernel
theorem dX9_swinger_73 : decode cX9_swinger 73 = .ok (.getfield 21, 3) := by decide +kernel
theorem dX9_swinger_76 : decode cX9_swinger 76 = .ok (.invokevirtual 113, 3) := by decide +kernel
theorem dX9_swinger_79 : decode cX9_swinger 79 = .ok (.putfield 87, 3) := by decide +kernel
theorem dX9_swinger_82 : decode cX9_swinger 82 = .ok (.iload_n 2, 1) := by decide +kernel
theorem dX9_swinger_83 : decode cX9_swinger 83 = .ok (.ifCond .ne 14, 3) := by decide +kernel
theorem dX9_swinger_86 : decode cX9_swinger 86 = .ok (.bipush (-10), 2) := by decide +kernel
theorem dX9_swinger_88 : decode cX9_swinger 88 = .ok (.aload_n 0, 1) := by decide +kernel
theorem dX9_swinger_89 : decode cX9_swinger 89 = .ok (.getfield 21, 3) := by decide +kernel
theorem dX9_swinger_92 : decode cX9_swinger 92 = .ok (.invokevirtual 115, 3) := by decide +kernel
theorem dX9_swinger_95 : decode cX9_swinger 95 = .ok (.isub, 1) := by decide +kernel
theorem dX9_swinger_96 : decode cX9_swinger 96 = .ok (.ireturn, 1) := by decide +kernel
theorem dX9_swinger_97 : decode cX9_swinger 97 = .ok (.aload_n 0, 1) := by decide +kernel
theorem dX9_swinger_98 : decode cX9_swinger 98 = .ok (.dup, 1) := by decide +kernel
theorem dX9_swinger_99 : decode cX9_swinger 99 = .ok (.getfield 125, 3) := by decide +kernel
theorem dX9_swinger_102 : decode cX9_swinger 102 = .ok (.iconst 1, 1) := by decide +kernel
theorem dX9_swinger_103 : decode cX9_swinger 103 = .ok (.iadd, 1) := by decide +kernel
theorem dX9_swinger_104 : decode cX9_swinger 104 = .ok (.putfield 125, 3) := by decide +kernel
theorem dX9_swinger_107 : decode cX9_swinger 107 = .ok (.aload_n 0, 1) := by decide +kernel
theorem dX9_swinger_108 : decode cX9_swinger 108 = .ok (.getfield 125, 3) := by decide +kernel
theorem dX9_swinger_111 : decode cX9_swinger 111 = .ok (.iconst 1, 1) := by decide +kernel
theorem dX9_swinger_112 : decode cX9_swinger 112 = .ok (.isub, 1) := by decide +kernel
theorem dX9_swinger_113 : decode cX9_swinger 113 = .ok (.ireturn, 1) := by decide +kernel
theorem dX9_fault_0 : decode cX9_fault 0 = .ok (.aload_n 0, 1) := by decide +kernel
theorem dX9_fault_1 : decode cX9_fault 1 = .ok (.getfield 87, 3) := by decide +kernel
theorem dX9_fault_4 : decode cX9_fault 4 = .ok (.ireturn, 1) := by decide +kernel
theorem dX9_told_0 : decode cX9_told 0 = .ok (.iload_n 1, 1) := by decide +kernel
theorem dX9_told_1 : decode cX9_told 1 = .ok (.ifCond .lt 9, 3) := by decide +kernel
theorem dX9_told_4 : decode cX9_told 4 = .ok (.iload_n 1, 1) := by decide +kernel
theorem dX9_told_5 : decode cX9_told 5 = .ok (.bipush 10, 2) := by decide +kernel
theorem dX9_told_7 : decode cX9_told 7 = .ok (.if_icmp .le 6, 3) := by decide +kernel
theorem dX9_told_10 : decode cX9_told 10 = .ok (.ldc 95, 2) := by decide +kernel
theorem dX9_told_12 : decode cX9_told 12 = .ok (.ireturn, 1) := by decide +kernel
theorem dX9_told_13 : decode cX9_told 13 = .ok (.iload_n 1, 1) := by decide +kernel
theorem dX9_told_14 : decode cX9_told 14 = .ok (.bipush 9, 2) := by decide +kernel
theorem dX9_told_16 : decode cX9_told 16 = .ok (.if_icmp .ne 8, 3) := by decide +kernel
theorem dX9_told_19 : decode cX9_told 19 = .ok (.aload_n 0, 1) := by decide +kernel
theorem dX9_told_20 : decode cX9_told 20 = .ok (.getfield 125, 3) := by decide +kernel
theorem dX9_told_23 : decode cX9_told 23 = .ok (.ireturn, 1) := by decide +kernel
theorem dX9_told_24 : decode cX9_told 24 = .ok (.iload_n 1, 1) := by decide +kernel
theorem dX9_told_25 : decode cX9_told 25 = .ok (.bipush 10, 2) := by decide +kernel
theorem dX9_told_27 : decode cX9_told 27 = .ok (.if_icmp .ne 13, 3) := by decide +kernel
theorem dX9_told_30 : decode cX9_told 30 = .ok (.aload_n 0, 1) := by decide +kernel
theorem dX9_told_31 : decode cX9_told 31 = .ok (.getfield 10, 3) := by decide +kernel
theorem dX9_told_34 : decode cX9_told 34 = .ok (.invokevirtual 96, 3) := by decide +kernel
theorem dX9_told_37 : decode cX9_told 37 = .ok (.goto 11, 3) := by decide +kernel
theorem dX9_told_40 : decode cX9_told 40 = .ok (.aload_n 0, 1) := by decide +kernel
theorem dX9_told_41 : decode cX9_told 41 = .ok (.getfield 28, 3) := by decide +kernel
theorem dX9_told_44 : decode cX9_told 44 = .ok (.iload_n 1, 1) := by decide +kernel
theorem dX9_told_45 : decode cX9_told 45 = .ok (.invokevirtual 132, 3) := by decide +kernel
theorem dX9_told_48 : decode cX9_told 48 = .ok (.ireturn, 1) := by decide +kernel
theorem dX9_cell_0 : decode cX9_cell 0 = .ok (.iload_n 1, 1) := by decide +kernel
theorem dX9_cell_1 : decode cX9_cell 1 = .ok (.ifCond .lt 9, 3) := by decide +kernel
theorem dX9_cell_4 : decode cX9_cell 4 = .ok (.iload_n 1, 1) := by decide +kernel
theorem dX9_cell_5 : decode cX9_cell 5 = .ok (.bipush 24, 2) := by decide +kernel
theorem dX9_cell_7 : decode cX9_cell 7 = .ok (.if_icmp .lt 6, 3) := by decide +kernel
theorem dX9_cell_10 : decode cX9_cell 10 = .ok (.ldc 136, 2) := by decide +kernel
theorem dX9_cell_12 : decode cX9_cell 12 = .ok (.ireturn, 1) := by decide +kernel
theorem dX9_cell_13 : decode cX9_cell 13 = .ok (.iload_n 2, 1) := by decide +kernel
theorem dX9_cell_14 : decode cX9_cell 14 = .ok (.ifCond .lt 8, 3) := by decide +kernel
theorem dX9_cell_17 : decode cX9_cell 17 = .ok (.iload_n 2, 1) := by decide +kernel
theorem dX9_cell_18 : decode cX9_cell 18 = .ok (.iconst 2, 1) := by decide +kernel
theorem dX9_cell_19 : decode cX9_cell 19 = .ok (.if_icmp .le 6, 3) := by decide +kernel
theorem dX9_cell_22 : decode cX9_cell 22 = .ok (.ldc 95, 2) := by decide +kernel
theorem dX9_cell_24 : decode cX9_cell 24 = .ok (.ireturn, 1) := by decide +kernel
theorem dX9_cell_25 : decode cX9_cell 25 = .ok (.iload_n 2, 1) := by decide +kernel
theorem dX9_cell_26 : decode cX9_cell 26 = .ok (.iconst 2, 1) := by decide +kernel
theorem dX9_cell_27 : decode cX9_cell 27 = .ok (.if_icmp .ne 12, 3) := by decide +kernel
theorem dX9_cell_30 : decode cX9_cell 30 = .ok (.aload_n 0, 1) := by decide +kernel
theorem dX9_cell_31 : decode cX9_cell 31 = .ok (.getfield 28, 3) := by decide +kernel
theorem dX9_cell_34 : decode cX9_cell 34 = .ok (.iload_n 1, 1) := by decide +kernel
theorem dX9_cell_35 : decode cX9_cell 35 = .ok (.invokevirtual 137, 3) := by decide +kernel
theorem dX9_cell_38 : decode cX9_cell 38 = .ok (.ireturn, 1) := by decide +kernel
theorem dX9_cell_39 : decode cX9_cell 39 = .ok (.aload_n 0, 1) := by decide +kernel
theorem dX9_cell_40 : decode cX9_cell 40 = .ok (.getfield 28, 3) := by decide +kernel
theorem dX9_cell_43 : decode cX9_cell 43 = .ok (.iload_n 1, 1) := by decide +kernel
theorem dX9_cell_44 : decode cX9_cell 44 = .ok (.iload_n 2, 1) := by decide +kernel
theorem dX9_cell_45 : decode cX9_cell 45 = .ok (.ifCond .ne 7, 3) := by decide +kernel
theorem dX9_cell_48 : decode cX9_cell 48 = .ok (.iconst 0, 1) := by decide +kernel
theorem dX9_cell_49 : decode cX9_cell 49 = .ok (.goto 7, 3) := by decide +kernel
theorem dX9_cell_52 : decode cX9_cell 52 = .ok (.aload_n 0, 1) := by decide +kernel
theorem dX9_cell_53 : decode cX9_cell 53 = .ok (.invokevirtual 140, 3) := by decide +kernel
theorem dX9_cell_56 : decode cX9_cell 56 = .ok (.invokevirtual 143, 3) := by decide +kernel
theorem dX9_cell_59 : decode cX9_cell 59 = .ok (.ireturn, 1) := by decide +kernel
theorem dX9_who_0 : decode cX9_who 0 = .ok (.aload_n 0, 1) := by decide +kernel
theorem dX9_who_1 : decode cX9_who 1 = .ok (.iload_n 1, 1) := by decide +kernel
theorem dX9_who_2 : decode cX9_who 2 = .ok (.invokevirtual 147, 3) := by decide +kernel
theorem dX9_who_5 : decode cX9_who 5 = .ok (.astore_n 3, 1) := by decide +kernel
theorem dX9_who_6 : decode cX9_who 6 = .ok (.aload_n 3, 1) := by decide +kernel
theorem dX9_who_7 : decode cX9_who 7 = .ok (.ifnonnull 6, 3) := by decide +kernel
theorem dX9_who_10 : decode cX9_who 10 = .ok (.ldc 136, 2) := by decide +kernel
theorem dX9_who_12 : decode cX9_who 12 = .ok (.ireturn, 1) := by decide +kernel
theorem dX9_who_13 : decode cX9_who 13 = .ok (.iload_n 2, 1) := by decide +kernel
theorem dX9_who_14 : decode cX9_who 14 = .ok (.iconst 0, 1) := by decide +kernel
theorem dX9_who_15 : decode cX9_who 15 = .ok (.iconst 4, 1) := by decide +kernel
theorem dX9_who_16 : decode cX9_who 16 = .ok (.invokestatic 151, 3) := by decide +kernel
theorem dX9_who_19 : decode cX9_who 19 = .ok (.ifCond .eq 11, 3) := by decide +kernel
theorem dX9_who_22 : decode cX9_who 22 = .ok (.aload_n 3, 1) := by decide +kernel
theorem dX9_who_23 : decode cX9_who 23 = .ok (.iload_n 2, 1) := by decide +kernel
theorem dX9_who_24 : decode cX9_who 24 = .ok (.invokevirtual 155, 3) := by decide +kernel
theorem dX9_who_27 : decode cX9_who 27 = .ok (.goto 5, 3) := by decide +kernel
theorem dX9_who_30 : decode cX9_who 30 = .ok (.ldc 95, 2) := by decide +kernel
theorem dX9_who_32 : decode cX9_who 32 = .ok (.ireturn, 1) := by decide +kernel
theorem dX9_set_0 : decode cX9_set 0 = .ok (.iload_n 1, 1) := by decide +kernel
theorem dX9_set_1 : decode cX9_set 1 = .ok (.iconst 0, 1) := by decide +kernel
theorem dX9_set_2 : decode cX9_set 2 = .ok (.getstatic 156, 3) := by decide +kernel
theorem dX9_set_5 : decode cX9_set 5 = .ok (.arraylength, 1) := by decide +kernel
theorem dX9_set_6 : decode cX9_set 6 = .ok (.iconst 1, 1) := by decide +kernel
theorem dX9_set_7 : decode cX9_set 7 = .ok (.isub, 1) := by decide +kernel
theorem dX9_set_8 : decode cX9_set 8 = .ok (.invokestatic 151, 3) := by decide +kernel
theorem dX9_set_11 : decode cX9_set 11 = .ok (.ifCond .eq 16, 3) := by decide +kernel
theorem dX9_set_14 : decode cX9_set 14 = .ok (.iload_n 2, 1) := by decide +kernel
theorem dX9_set_15 : decode cX9_set 15 = .ok (.iconst 0, 1) := by decide +kernel
theorem dX9_set_16 : decode cX9_set 16 = .ok (.aload_n 0, 1) := by decide +kernel
theorem dX9_set_17 : decode cX9_set 17 = .ok (.iload_n 1, 1) := by decide +kernel
theorem dX9_set_18 : decode cX9_set 18 = .ok (.invokevirtual 159, 3) := by decide +kernel
theorem dX9_set_21 : decode cX9_set 21 = .ok (.invokestatic 151, 3) := by decide +kernel
theorem dX9_set_24 : decode cX9_set 24 = .ok (.ifCond .ne 6, 3) := by decide +kernel
theorem dX9_set_27 : decode cX9_set 27 = .ok (.ldc 95, 2) := by decide +kernel
theorem dX9_set_29 : decode cX9_set 29 = .ok (.ireturn, 1) := by decide +kernel
theorem dX9_set_30 : decode cX9_set 30 = .ok (.aload_n 0, 1) := by decide +kernel
theorem dX9_set_31 : decode cX9_set 31 = .ok (.getfield 45, 3) := by decide +kernel
theorem dX9_set_34 : decode cX9_set 34 = .ok (.iload_n 1, 1) := by decide +kernel
theorem dX9_set_35 : decode cX9_set 35 = .ok (.invokevirtual 162, 3) := by decide +kernel
theorem dX9_set_38 : decode cX9_set 38 = .ok (.istore_n 3, 1) := by decide +kernel
theorem dX9_set_39 : decode cX9_set 39 = .ok (.aload_n 0, 1) := by decide +kernel
theorem dX9_set_40 : decode cX9_set 40 = .ok (.getfield 45, 3) := by decide +kernel
theorem dX9_set_43 : decode cX9_set 43 = .ok (.iload_n 1, 1) := by decide +kernel
theorem dX9_set_44 : decode cX9_set 44 = .ok (.iload_n 2, 1) := by decide +kernel
theorem dX9_set_45 : decode cX9_set 45 = .ok (.invokevirtual 165, 3) := by decide +kernel
theorem dX9_set_48 : decode cX9_set 48 = .ok (.iload_n 3, 1) := by decide +kernel
theorem dX9_set_49 : decode cX9_set 49 = .ok (.ireturn, 1) := by decide +kernel
theorem dX9_now_0 : decode cX9_now 0 = .ok (.iload_n 1, 1) := by decide +kernel
theorem dX9_now_1 : decode cX9_now 1 = .ok (.ifCond .lt 9, 3) := by decide +kernel
theorem dX9_now_4 : decode cX9_now 4 = .ok (.iload_n 1, 1) := by decide +kernel
theorem dX9_now_5 : decode cX9_now 5 = .ok (.bipush 7, 2) := by decide +kernel
theorem dX9_now_7 : decode cX9_now 7 = .ok (.if_icmp .le 6, 3) := by decide +kernel
theorem dX9_now_10 : decode cX9_now 10 = .ok (.ldc 95, 2) := by decide +kernel
theorem dX9_now_12 : decode cX9_now 12 = .ok (.ireturn, 1) := by decide +kernel
theorem dX9_now_13 : decode cX9_now 13 = .ok (.iload_n 1, 1) := by decide +kernel
theorem dX9_now_14 : decode cX9_now 14 = .ok (.tableswitch 49 5 7 #[26, 31, 44], 26) := by decide +kernel
theorem dX9_now_40 : decode cX9_now 40 = .ok (.aload_n 0, 1) := by decide +kernel
theorem dX9_now_41 : decode cX9_now 41 = .ok (.invokevirtual 169, 3) := by decide +kernel
theorem dX9_now_44 : decode cX9_now 44 = .ok (.ireturn, 1) := by decide +kernel
theorem dX9_now_45 : decode cX9_now 45 = .ok (.aload_n 0, 1) := by decide +kernel
theorem dX9_now_46 : decode cX9_now 46 = .ok (.aload_n 0, 1) := by decide +kernel
theorem dX9_now_47 : decode cX9_now 47 = .ok (.getfield 45, 3) := by decide +kernel
theorem dX9_now_50 : decode cX9_now 50 = .ok (.iconst 2, 1) := by decide +kernel
theorem dX9_now_51 : decode cX9_now 51 = .ok (.invokevirtual 162, 3) := by decide +kernel
theorem dX9_now_54 : decode cX9_now 54 = .ok (.invokevirtual 172, 3) := by decide +kernel
theorem dX9_now_57 : decode cX9_now 57 = .ok (.ireturn, 1) := by decide +kernel
theorem dX9_now_58 : decode cX9_now 58 = .ok (.aload_n 0, 1) := by decide +kernel
theorem dX9_now_59 : decode cX9_now 59 = .ok (.invokevirtual 140, 3) := by decide +kernel
theorem dX9_now_62 : decode cX9_now 62 = .ok (.ireturn, 1) := by decide +kernel
theorem dX9_now_63 : decode cX9_now 63 = .ok (.aload_n 0, 1) := by decide +kernel
theorem dX9_now_64 : decode cX9_now 64 = .ok (.getfield 45, 3) := by decide +kernel
theorem dX9_now_67 : decode cX9_now 67 = .ok (.iload_n 1, 1) := by decide +kernel
theorem dX9_now_68 : decode cX9_now 68 = .ok (.invokevirtual 162, 3) := by decide +kernel
theorem dX9_now_71 : decode cX9_now 71 = .ok (.ireturn, 1) := by decide +kernel
theorem dX9_sine_0 : decode cX9_sine 0 = .ok (.iload_n 1, 1) := by decide +kernel
theorem dX9_sine_1 : decode cX9_sine 1 = .ok (.sipush (-1800), 3) := by decide +kernel
theorem dX9_sine_4 : decode cX9_sine 4 = .ok (.sipush 1800, 3) := by decide +kernel
theorem dX9_sine_7 : decode cX9_sine 7 = .ok (.invokestatic 151, 3) := by decide +kernel
theorem dX9_sine_10 : decode cX9_sine 10 = .ok (.ifCond .eq 10, 3) := by decide +kernel
theorem dX9_sine_13 : decode cX9_sine 13 = .ok (.iload_n 1, 1) := by decide +kernel
theorem dX9_sine_14 : decode cX9_sine 14 = .ok (.invokestatic 175, 3) := by decide +kernel
theorem dX9_sine_17 : decode cX9_sine 17 = .ok (.goto 5, 3) := by decide +kernel
theorem dX9_sine_20 : decode cX9_sine 20 = .ok (.ldc 95, 2) := by decide +kernel
theorem dX9_sine_22 : decode cX9_sine 22 = .ok (.ireturn, 1) := by decide +kernel
theorem dX9_holds_0 : decode cX9_holds 0 = .ok (.aload_n 0, 1) := by decide +kernel
theorem dX9_holds_1 : decode cX9_holds 1 = .ok (.iload_n 1, 1) := by decide +kernel
theorem dX9_holds_2 : decode cX9_holds 2 = .ok (.invokevirtual 147, 3) := by decide +kernel
theorem dX9_holds_5 : decode cX9_holds 5 = .ok (.astore 4, 2) := by decide +kernel
theorem dX9_holds_7 : decode cX9_holds 7 = .ok (.aload 4, 2) := by decide +kernel
theorem dX9_holds_9 : decode cX9_holds 9 = .ok (.ifnonnull 6, 3) := by decide +kernel
theorem dX9_holds_12 : decode cX9_holds 12 = .ok (.ldc 136, 2) := by decide +kernel
theorem dX9_holds_14 : decode cX9_holds 14 = .ok (.ireturn, 1) := by decide +kernel
theorem dX9_holds_15 : decode cX9_holds 15 = .ok (.iload_n 2, 1) := by decide +kernel
theorem dX9_holds_16 : decode cX9_holds 16 = .ok (.iconst 0, 1) := by decide +kernel
theorem dX9_holds_17 : decode cX9_holds 17 = .ok (.sipush 200, 3) := by decide +kernel
theorem dX9_holds_20 : decode cX9_holds 20 = .ok (.invokestatic 151, 3) := by decide +kernel
theorem dX9_holds_23 : decode cX9_holds 23 = .ok (.ifCond .eq 12, 3) := by decide +kernel
theorem dX9_holds_26 : decode cX9_holds 26 = .ok (.iload_n 3, 1) := by decide +kernel
theorem dX9_holds_27 : decode cX9_holds 27 = .ok (.iconst 0, 1) := by decide +kernel
theorem dX9_holds_28 : decode cX9_holds 28 = .ok (.iconst 5, 1) := by decide +kernel
theorem dX9_holds_29 : decode cX9_holds 29 = .ok (.invokestatic 151, 3) := by decide +kernel
theorem dX9_holds_32 : decode cX9_holds 32 = .ok (.ifCond .ne 6, 3) := by decide +kernel
theorem dX9_holds_35 : decode cX9_holds 35 = .ok (.ldc 95, 2) := by decide +kernel
theorem dX9_holds_37 : decode cX9_holds 37 = .ok (.ireturn, 1) := by decide +kernel
theorem dX9_holds_38 : decode cX9_holds 38 = .ok (.aload_n 0, 1) := by decide +kernel
theorem dX9_holds_39 : decode cX9_holds 39 = .ok (.invokevirtual 178, 3) := by decide +kernel
theorem dX9_holds_42 : decode cX9_holds 42 = .ok (.iload_n 3, 1) := by decide +kernel
theorem dX9_holds_43 : decode cX9_holds 43 = .ok (.tableswitch 92 0 4 #[33, 42, 51, 60, 69], 33) := by decide +kernel
theorem dX9_holds_76 : decode cX9_holds 76 = .ok (.aload_n 0, 1) := by decide +kernel
theorem dX9_holds_77 : decode cX9_holds 77 = .ok (.getfield 63, 3) := by decide +kernel
theorem dX9_holds_80 : decode cX9_holds 80 = .ok (.iload_n 2, 1) := by decide +kernel
theorem dX9_holds_81 : decode cX9_holds 81 = .ok (.invokevirtual 181, 3) := by decide +kernel
theorem dX9_holds_84 : decode cX9_holds 84 = .ok (.ireturn, 1) := by decide +kernel
theorem dX9_holds_85 : decode cX9_holds 85 = .ok (.aload_n 0, 1) := by decide +kernel
theorem dX9_holds_86 : decode cX9_holds 86 = .ok (.getfield 63, 3) := by decide +kernel
theorem dX9_holds_89 : decode cX9_holds 89 = .ok (.iload_n 2, 1) := by decide +kernel
theorem dX9_holds_90 : decode cX9_holds 90 = .ok (.invokevirtual 184, 3) := by decide +kernel
theorem dX9_holds_93 : decode cX9_holds 93 = .ok (.ireturn, 1) := by decide +kernel
theorem dX9_holds_94 : decode cX9_holds 94 = .ok (.aload_n 0, 1) := by decide +kernel
theorem dX9_holds_95 : decode cX9_holds 95 = .ok (.getfield 63, 3) := by decide +kernel
theorem dX9_holds_98 : decode cX9_holds 98 = .ok (.iload_n 2, 1) := by decide +kernel
theorem dX9_holds_99 : decode cX9_holds 99 = .ok (.invokevirtual 187, 3) := by decide +kernel
theorem dX9_holds_102 : decode cX9_holds 102 = .ok (.ireturn, 1) := by decide +kernel
theorem dX9_holds_103 : decode cX9_holds 103 = .ok (.aload_n 0, 1) := by decide +kernel
theorem dX9_holds_104 : decode cX9_holds 104 = .ok (.getfield 63, 3) := by decide +kernel
theorem dX9_holds_107 : decode cX9_holds 107 = .ok (.iload_n 2, 1) := by decide +kernel
theorem dX9_holds_108 : decode cX9_holds 108 = .ok (.invokevirtual 190, 3) := by decide +kernel
theorem dX9_holds_111 : decode cX9_holds 111 = .ok (.ireturn, 1) := by decide +kernel
theorem dX9_holds_112 : decode cX9_holds 112 = .ok (.iload_n 2, 1) := by decide +kernel
theorem dX9_holds_113 : decode cX9_holds 113 = .ok (.ifCond .ne 7, 3) := by decide +kernel
theorem dX9_holds_116 : decode cX9_holds 116 = .ok (.iconst 0, 1) := by decide +kernel
theorem dX9_holds_117 : decode cX9_holds 117 = .ok (.goto 17, 3) := by decide +kernel
theorem dX9_holds_120 : decode cX9_holds 120 = .ok (.aload_n 0, 1) := by decide +kernel
theorem dX9_holds_121 : decode cX9_holds 121 = .ok (.getfield 63, 3) := by decide +kernel
theorem dX9_holds_124 : decode cX9_holds 124 = .ok (.iload_n 2, 1) := by decide +kernel
theorem dX9_holds_125 : decode cX9_holds 125 = .ok (.aload 4, 2) := by decide +kernel
theorem dX9_holds_127 : decode cX9_holds 127 = .ok (.iconst 0, 1) := by decide +kernel
theorem dX9_holds_128 : decode cX9_holds 128 = .ok (.invokevirtual 155, 3) := by decide +kernel
theorem dX9_holds_131 : decode cX9_holds 131 = .ok (.invokevirtual 193, 3) := by decide +kernel
theorem dX9_holds_134 : decode cX9_holds 134 = .ok (.ireturn, 1) := by decide +kernel
theorem dX9_holds_135 : decode cX9_holds 135 = .ok (.aload_n 0, 1) := by decide +kernel
theorem dX9_holds_136 : decode cX9_holds 136 = .ok (.getfield 63, 3) := by decide +kernel
theorem dX9_holds_139 : decode cX9_holds 139 = .ok (.iload_n 2, 1) := by decide +kernel
theorem dX9_holds_140 : decode cX9_holds 140 = .ok (.aload 4, 2) := by decide +kernel
theorem dX9_holds_142 : decode cX9_holds 142 = .ok (.iconst 0, 1) := by decide +kernel
theorem dX9_holds_143 : decode cX9_holds 143 = .ok (.invokevirtual 155, 3) := by decide +kernel
theorem dX9_holds_146 : decode cX9_holds 146 = .ok (.aload 4, 2) := by decide +kernel
theorem dX9_holds_148 : decode cX9_holds 148 = .ok (.iconst 2, 1) := by decide +kernel
theorem dX9_holds_149 : decode cX9_holds 149 = .ok (.invokevirtual 155, 3) := by decide +kernel
theorem dX9_holds_152 : decode cX9_holds 152 = .ok (.invokevirtual 196, 3) := by decide +kernel
theorem dX9_holds_155 : decode cX9_holds 155 = .ok (.ireturn, 1) := by decide +kernel
theorem dX9_lands_0 : decode cX9_lands 0 = .ok (.aload_n 0, 1) := by decide +kernel
theorem dX9_lands_1 : decode cX9_lands 1 = .ok (.iload_n 1, 1) := by decide +kernel
theorem dX9_lands_2 : decode cX9_lands 2 = .ok (.invokevirtual 147, 3) := by decide +kernel
theorem dX9_lands_5 : decode cX9_lands 5 = .ok (.astore 4, 2) := by decide +kernel
theorem dX9_lands_7 : decode cX9_lands 7 = .ok (.aload 4, 2) := by decide +kernel
theorem dX9_lands_9 : decode cX9_lands 9 = .ok (.ifnonnull 6, 3) := by decide +kernel
theorem dX9_lands_12 : decode cX9_lands 12 = .ok (.ldc 136, 2) := by decide +kernel
theorem dX9_lands_14 : decode cX9_lands 14 = .ok (.ireturn, 1) := by decide +kernel
theorem dX9_lands_15 : decode cX9_lands 15 = .ok (.iload_n 2, 1) := by decide +kernel
theorem dX9_lands_16 : decode cX9_lands 16 = .ok (.iconst 1, 1) := by decide +kernel
theorem dX9_lands_17 : decode cX9_lands 17 = .ok (.sipush 200, 3) := by decide +kernel
theorem dX9_lands_20 : decode cX9_lands 20 = .ok (.invokestatic 151, 3) := by decide +kernel
theorem dX9_lands_23 : decode cX9_lands 23 = .ok (.ifCond .eq 12, 3) := by decide +kernel
theorem dX9_lands_26 : decode cX9_lands 26 = .ok (.iload_n 3, 1) := by decide +kernel
theorem dX9_lands_27 : decode cX9_lands 27 = .ok (.iconst 0, 1) := by decide +kernel
theorem dX9_lands_28 : decode cX9_lands 28 = .ok (.iconst 5, 1) := by decide +kernel
theorem dX9_lands_29 : decode cX9_lands 29 = .ok (.invokestatic 151, 3) := by decide +kernel
theorem dX9_lands_32 : decode cX9_lands 32 = .ok (.ifCond .ne 6, 3) := by decide +kernel
theorem dX9_lands_35 : decode cX9_lands 35 = .ok (.ldc 95, 2) := by decide +kernel
theorem dX9_lands_37 : decode cX9_lands 37 = .ok (.ireturn, 1) := by decide +kernel
theorem dX9_lands_38 : decode cX9_lands 38 = .ok (.aload_n 0, 1) := by decide +kernel
theorem dX9_lands_39 : decode cX9_lands 39 = .ok (.aload 4, 2) := by decide +kernel
theorem dX9_lands_41 : decode cX9_lands 41 = .ok (.invokevirtual 200, 3) := by decide +kernel
theorem dX9_lands_44 : decode cX9_lands 44 = .ok (.aload_n 0, 1) := by decide +kernel
theorem dX9_lands_45 : decode cX9_lands 45 = .ok (.getfield 72, 3) := by decide +kernel
theorem dX9_lands_48 : decode cX9_lands 48 = .ok (.iload_n 2, 1) := by decide +kernel
theorem dX9_lands_49 : decode cX9_lands 49 = .ok (.aload_n 0, 1) := by decide +kernel
theorem dX9_lands_50 : decode cX9_lands 50 = .ok (.getfield 72, 3) := by decide +kernel
theorem dX9_lands_53 : decode cX9_lands 53 = .ok (.getfield 204, 3) := by decide +kernel
theorem dX9_lands_56 : decode cX9_lands 56 = .ok (.iadd, 1) := by decide +kernel
theorem dX9_lands_57 : decode cX9_lands 57 = .ok (.invokevirtual 207, 3) := by decide +kernel
theorem dX9_lands_60 : decode cX9_lands 60 = .ok (.iload_n 3, 1) := by decide +kernel
theorem dX9_lands_61 : decode cX9_lands 61 = .ok (.tableswitch 75 0 4 #[35, 43, 51, 59, 67], 35) := by decide +kernel
theorem dX9_lands_96 : decode cX9_lands 96 = .ok (.aload_n 0, 1) := by decide +kernel
theorem dX9_lands_97 : decode cX9_lands 97 = .ok (.getfield 72, 3) := by decide +kernel
theorem dX9_lands_100 : decode cX9_lands 100 = .ok (.getfield 210, 3) := by decide +kernel
theorem dX9_lands_103 : decode cX9_lands 103 = .ok (.ireturn, 1) := by decide +kernel
theorem dX9_lands_104 : decode cX9_lands 104 = .ok (.aload_n 0, 1) := by decide +kernel
theorem dX9_lands_105 : decode cX9_lands 105 = .ok (.getfield 72, 3) := by decide +kernel
theorem dX9_lands_108 : decode cX9_lands 108 = .ok (.getfield 213, 3) := by decide +kernel
theorem dX9_lands_111 : decode cX9_lands 111 = .ok (.ireturn, 1) := by decide +kernel
theorem dX9_lands_112 : decode cX9_lands 112 = .ok (.aload_n 0, 1) := by decide +kernel
theorem dX9_lands_113 : decode cX9_lands 113 = .ok (.getfield 72, 3) := by decide +kernel
theorem dX9_lands_116 : decode cX9_lands 116 = .ok (.getfield 216, 3) := by decide +kernel
theorem dX9_lands_119 : decode cX9_lands 119 = .ok (.ireturn, 1) := by decide +kernel
theorem dX9_lands_120 : decode cX9_lands 120 = .ok (.aload_n 0, 1) := by decide +kernel
theorem dX9_lands_121 : decode cX9_lands 121 = .ok (.getfield 72, 3) := by decide +kernel
theorem dX9_lands_124 : decode cX9_lands 124 = .ok (.getfield 219, 3) := by decide +kernel
theorem dX9_lands_127 : decode cX9_lands 127 = .ok (.ireturn, 1) := by decide +kernel
theorem dX9_lands_128 : decode cX9_lands 128 = .ok (.aload_n 0, 1) := by decide +kernel
theorem dX9_lands_129 : decode cX9_lands 129 = .ok (.getfield 72, 3) := by decide +kernel
theorem dX9_lands_132 : decode cX9_lands 132 = .ok (.getfield 222, 3) := by decide +kernel
theorem dX9_lands_135 : decode cX9_lands 135 = .ok (.ireturn, 1) := by decide +kernel
theorem dX9_lands_136 : decode cX9_lands 136 = .ok (.aload_n 0, 1) := by decide +kernel
theorem dX9_lands_137 : decode cX9_lands 137 = .ok (.getfield 72, 3) := by decide +kernel
theorem dX9_lands_140 : decode cX9_lands 140 = .ok (.getfield 225, 3) := by decide +kernel
theorem dX9_lands_143 : decode cX9_lands 143 = .ok (.ireturn, 1) := by decide +kernel
theorem dX9_best_0 : decode cX9_best 0 = .ok (.aload_n 0, 1) := by decide +kernel
theorem dX9_best_1 : decode cX9_best 1 = .ok (.iload_n 1, 1) := by decide +kernel
theorem dX9_best_2 : decode cX9_best 2 = .ok (.invokevirtual 147, 3) := by decide +kernel
theorem dX9_best_5 : decode cX9_best 5 = .ok (.astore_n 3, 1) := by decide +kernel
theorem dX9_best_6 : decode cX9_best 6 = .ok (.aload_n 3, 1) := by decide +kernel
theorem dX9_best_7 : decode cX9_best 7 = .ok (.ifnonnull 6, 3) := by decide +kernel
theorem dX9_best_10 : decode cX9_best 10 = .ok (.ldc 136, 2) := by decide +kernel
theorem dX9_best_12 : decode cX9_best 12 = .ok (.ireturn, 1) := by decide +kernel
theorem dX9_best_13 : decode cX9_best 13 = .ok (.iload_n 2, 1) := by decide +kernel
theorem dX9_best_14 : decode cX9_best 14 = .ok (.ifCond .lt 8, 3) := by decide +kernel
theorem dX9_best_17 : decode cX9_best 17 = .ok (.iload_n 2, 1) := by decide +kernel
theorem dX9_best_18 : decode cX9_best 18 = .ok (.iconst 1, 1) := by decide +kernel
theorem dX9_best_19 : decode cX9_best 19 = .ok (.if_icmp .le 6, 3) := by decide +kernel
theorem dX9_best_22 : decode cX9_best 22 = .ok (.ldc 95, 2) := by decide +kernel
theorem dX9_best_24 : decode cX9_best 24 = .ok (.ireturn, 1) := by decide +kernel
theorem dX9_best_25 : decode cX9_best 25 = .ok (.aload_n 0, 1) := by decide +kernel
theorem dX9_best_26 : decode cX9_best 26 = .ok (.aload_n 3, 1) := by decide +kernel
theorem dX9_best_27 : decode cX9_best 27 = .ok (.invokevirtual 200, 3) := by decide +kernel
theorem dX9_best_30 : decode cX9_best 30 = .ok (.aload_n 0, 1) := by decide +kernel
theorem dX9_best_31 : decode cX9_best 31 = .ok (.getfield 79, 3) := by decide +kernel
theorem dX9_best_34 : decode cX9_best 34 = .ok (.aload_n 0, 1) := by decide +kernel
theorem dX9_best_35 : decode cX9_best 35 = .ok (.getfield 72, 3) := by decide +kernel
theorem dX9_best_38 : decode cX9_best 38 = .ok (.invokevirtual 228, 3) := by decide +kernel
theorem dX9_best_41 : decode cX9_best 41 = .ok (.iload_n 2, 1) := by decide +kernel
theorem dX9_best_42 : decode cX9_best 42 = .ok (.ifCond .ne 13, 3) := by decide +kernel
theorem dX9_best_45 : decode cX9_best 45 = .ok (.aload_n 0, 1) := by decide +kernel
theorem dX9_best_46 : decode cX9_best 46 = .ok (.getfield 79, 3) := by decide +kernel
theorem dX9_best_49 : decode cX9_best 49 = .ok (.getfield 232, 3) := by decide +kernel
theorem dX9_best_52 : decode cX9_best 52 = .ok (.goto 10, 3) := by decide +kernel
theorem dX9_best_55 : decode cX9_best 55 = .ok (.aload_n 0, 1) := by decide +kernel
theorem dX9_best_56 : decode cX9_best 56 = .ok (.getfield 79, 3) := by decide +kernel
theorem dX9_best_59 : decode cX9_best 59 = .ok (.getfield 234, 3) := by decide +kernel
theorem dX9_best_62 : decode cX9_best 62 = .ok (.ireturn, 1) := by decide +kernel
theorem dX9_wide_0 : decode cX9_wide 0 = .ok (.aload_n 0, 1) := by decide +kernel
theorem dX9_wide_1 : decode cX9_wide 1 = .ok (.iload_n 1, 1) := by decide +kernel
theorem dX9_wide_2 : decode cX9_wide 2 = .ok (.invokevirtual 147, 3) := by decide +kernel
theorem dX9_wide_5 : decode cX9_wide 5 = .ok (.astore_n 3, 1) := by decide +kernel
theorem dX9_wide_6 : decode cX9_wide 6 = .ok (.aload_n 3, 1) := by decide +kernel
theorem dX9_wide_7 : decode cX9_wide 7 = .ok (.ifnonnull 6, 3) := by decide +kernel
theorem dX9_wide_10 : decode cX9_wide 10 = .ok (.ldc 136, 2) := by decide +kernel
theorem dX9_wide_12 : decode cX9_wide 12 = .ok (.ireturn, 1) := by decide +kernel
theorem dX9_wide_13 : decode cX9_wide 13 = .ok (.iload_n 2, 1) := by decide +kernel
theorem dX9_wide_14 : decode cX9_wide 14 = .ok (.ifCond .lt 8, 3) := by decide +kernel
theorem dX9_wide_17 : decode cX9_wide 17 = .ok (.iload_n 2, 1) := by decide +kernel
theorem dX9_wide_18 : decode cX9_wide 18 = .ok (.iconst 2, 1) := by decide +kernel
theorem dX9_wide_19 : decode cX9_wide 19 = .ok (.if_icmp .le 6, 3) := by decide +kernel
theorem dX9_wide_22 : decode cX9_wide 22 = .ok (.ldc 95, 2) := by decide +kernel
theorem dX9_wide_24 : decode cX9_wide 24 = .ok (.ireturn, 1) := by decide +kernel
theorem dX9_wide_25 : decode cX9_wide 25 = .ok (.aload_n 0, 1) := by decide +kernel
theorem dX9_wide_26 : decode cX9_wide 26 = .ok (.aload_n 3, 1) := by decide +kernel
theorem dX9_wide_27 : decode cX9_wide 27 = .ok (.invokevirtual 200, 3) := by decide +kernel
theorem dX9_wide_30 : decode cX9_wide 30 = .ok (.aload_n 0, 1) := by decide +kernel
theorem dX9_wide_31 : decode cX9_wide 31 = .ok (.getfield 79, 3) := by decide +kernel
theorem dX9_wide_34 : decode cX9_wide 34 = .ok (.aload_n 0, 1) := by decide +kernel
theorem dX9_wide_35 : decode cX9_wide 35 = .ok (.getfield 72, 3) := by decide +kernel
theorem dX9_wide_38 : decode cX9_wide 38 = .ok (.invokevirtual 228, 3) := by decide +kernel
theorem dX9_wide_41 : decode cX9_wide 41 = .ok (.iload_n 2, 1) := by decide +kernel
theorem dX9_wide_42 : decode cX9_wide 42 = .ok (.ifCond .ne 11, 3) := by decide +kernel
theorem dX9_wide_45 : decode cX9_wide 45 = .ok (.aload_n 0, 1) := by decide +kernel
theorem dX9_wide_46 : decode cX9_wide 46 = .ok (.getfield 79, 3) := by decide +kernel
theorem dX9_wide_49 : decode cX9_wide 49 = .ok (.getfield 235, 3) := by decide +kernel
theorem dX9_wide_52 : decode cX9_wide 52 = .ok (.ireturn, 1) := by decide +kernel
theorem dX9_wide_53 : decode cX9_wide 53 = .ok (.iload_n 2, 1) := by decide +kernel
theorem dX9_wide_54 : decode cX9_wide 54 = .ok (.iconst 1, 1) := by decide +kernel
theorem dX9_wide_55 : decode cX9_wide 55 = .ok (.if_icmp .ne 13, 3) := by decide +kernel
theorem dX9_wide_58 : decode cX9_wide 58 = .ok (.aload_n 0, 1) := by decide +kernel
theorem dX9_wide_59 : decode cX9_wide 59 = .ok (.getfield 79, 3) := by decide +kernel
theorem dX9_wide_62 : decode cX9_wide 62 = .ok (.getfield 238, 3) := by decide +kernel
theorem dX9_wide_65 : decode cX9_wide 65 = .ok (.goto 10, 3) := by decide +kernel
theorem dX9_wide_68 : decode cX9_wide 68 = .ok (.aload_n 0, 1) := by decide +kernel
theorem dX9_wide_69 : decode cX9_wide 69 = .ok (.getfield 79, 3) := by decide +kernel
theorem dX9_wide_72 : decode cX9_wide 72 = .ok (.getfield 241, 3) := by decide +kernel
theorem dX9_wide_75 : decode cX9_wide 75 = .ok (.ireturn, 1) := by decide +kernel
theorem dX9_odds_0 : decode cX9_odds 0 = .ok (.aload_n 0, 1) := by decide +kernel
theorem dX9_odds_1 : decode cX9_odds 1 = .ok (.iload_n 1, 1) := by decide +kernel
theorem dX9_odds_2 : decode cX9_odds 2 = .ok (.invokevirtual 147, 3) := by decide +kernel
theorem dX9_odds_5 : decode cX9_odds 5 = .ok (.astore 4, 2) := by decide +kernel
theorem dX9_odds_7 : decode cX9_odds 7 = .ok (.aload 4, 2) := by decide +kernel
theorem dX9_odds_9 : decode cX9_odds 9 = .ok (.ifnonnull 6, 3) := by decide +kernel
theorem dX9_odds_12 : decode cX9_odds 12 = .ok (.ldc 136, 2) := by decide +kernel
theorem dX9_odds_14 : decode cX9_odds 14 = .ok (.ireturn, 1) := by decide +kernel
theorem dX9_odds_15 : decode cX9_odds 15 = .ok (.iload_n 2, 1) := by decide +kernel
theorem dX9_odds_16 : decode cX9_odds 16 = .ok (.iconst 1, 1) := by decide +kernel
theorem dX9_odds_17 : decode cX9_odds 17 = .ok (.sipush 200, 3) := by decide +kernel
theorem dX9_odds_20 : decode cX9_odds 20 = .ok (.invokestatic 151, 3) := by decide +kernel
theorem dX9_odds_23 : decode cX9_odds 23 = .ok (.ifCond .eq 13, 3) := by decide +kernel
theorem dX9_odds_26 : decode cX9_odds 26 = .ok (.iload_n 3, 1) := by decide +kernel
theorem dX9_odds_27 : decode cX9_odds 27 = .ok (.iconst 0, 1) := by decide +kernel
theorem dX9_odds_28 : decode cX9_odds 28 = .ok (.bipush 40, 2) := by decide +kernel
theorem dX9_odds_30 : decode cX9_odds 30 = .ok (.invokestatic 151, 3) := by decide +kernel
theorem dX9_odds_33 : decode cX9_odds 33 = .ok (.ifCond .ne 6, 3) := by decide +kernel
theorem dX9_odds_36 : decode cX9_odds 36 = .ok (.ldc 95, 2) := by decide +kernel
theorem dX9_odds_38 : decode cX9_odds 38 = .ok (.ireturn, 1) := by decide +kernel
theorem dX9_odds_39 : decode cX9_odds 39 = .ok (.aload_n 0, 1) := by decide +kernel
theorem dX9_odds_40 : decode cX9_odds 40 = .ok (.aload 4, 2) := by decide +kernel
theorem dX9_odds_42 : decode cX9_odds 42 = .ok (.invokevirtual 200, 3) := by decide +kernel
theorem dX9_odds_45 : decode cX9_odds 45 = .ok (.iconst 0, 1) := by decide +kernel
theorem dX9_odds_46 : decode cX9_odds 46 = .ok (.istore 5, 2) := by decide +kernel
theorem dX9_odds_48 : decode cX9_odds 48 = .ok (.iconst 0, 1) := by decide +kernel
theorem dX9_odds_49 : decode cX9_odds 49 = .ok (.istore 6, 2) := by decide +kernel
theorem dX9_odds_51 : decode cX9_odds 51 = .ok (.iload 6, 2) := by decide +kernel
theorem dX9_odds_53 : decode cX9_odds 53 = .ok (.iload_n 3, 1) := by decide +kernel
theorem dX9_odds_54 : decode cX9_odds 54 = .ok (.if_icmp .gt 34, 3) := by decide +kernel
theorem dX9_odds_57 : decode cX9_odds 57 = .ok (.aload_n 0, 1) := by decide +kernel
theorem dX9_odds_58 : decode cX9_odds 58 = .ok (.getfield 72, 3) := by decide +kernel
theorem dX9_odds_61 : decode cX9_odds 61 = .ok (.iload_n 2, 1) := by decide +kernel
theorem dX9_odds_62 : decode cX9_odds 62 = .ok (.aload_n 0, 1) := by decide +kernel
theorem dX9_odds_63 : decode cX9_odds 63 = .ok (.getfield 72, 3) := by decide +kernel
theorem dX9_odds_66 : decode cX9_odds 66 = .ok (.getfield 204, 3) := by decide +kernel
theorem dX9_odds_69 : decode cX9_odds 69 = .ok (.iadd, 1) := by decide +kernel
theorem dX9_odds_70 : decode cX9_odds 70 = .ok (.iload 6, 2) := by decide +kernel
theorem dX9_odds_72 : decode cX9_odds 72 = .ok (.iadd, 1) := by decide +kernel
theorem dX9_odds_73 : decode cX9_odds 73 = .ok (.invokevirtual 244, 3) := by decide +kernel
theorem dX9_odds_76 : decode cX9_odds 76 = .ok (.ifCond .eq 6, 3) := by decide +kernel
theorem dX9_odds_79 : decode cX9_odds 79 = .ok (.iinc 5 1, 3) := by decide +kernel
theorem dX9_odds_82 : decode cX9_odds 82 = .ok (.iinc 6 1, 3) := by decide +kernel
theorem dX9_odds_85 : decode cX9_odds 85 = .ok (.goto (-34), 3) := by decide +kernel
theorem dX9_odds_88 : decode cX9_odds 88 = .ok (.ldc 248, 2) := by decide +kernel
theorem dX9_odds_90 : decode cX9_odds 90 = .ok (.iload 5, 2) := by decide +kernel
theorem dX9_odds_92 : decode cX9_odds 92 = .ok (.imul, 1) := by decide +kernel
theorem dX9_odds_93 : decode cX9_odds 93 = .ok (.iload_n 3, 1) := by decide +kernel
theorem dX9_odds_94 : decode cX9_odds 94 = .ok (.iconst 1, 1) := by decide +kernel
theorem dX9_odds_95 : decode cX9_odds 95 = .ok (.iadd, 1) := by decide +kernel
theorem dX9_odds_96 : decode cX9_odds 96 = .ok (.invokestatic 249, 3) := by decide +kernel
theorem dX9_odds_99 : decode cX9_odds 99 = .ok (.ireturn, 1) := by decide +kernel
theorem dX9_strong_0 : decode cX9_strong 0 = .ok (.aload_n 0, 1) := by decide +kernel
theorem dX9_strong_1 : decode cX9_strong 1 = .ok (.iload_n 1, 1) := by decide +kernel
theorem dX9_strong_2 : decode cX9_strong 2 = .ok (.invokevirtual 147, 3) := by decide +kernel
theorem dX9_strong_5 : decode cX9_strong 5 = .ok (.astore_n 3, 1) := by decide +kernel
theorem dX9_strong_6 : decode cX9_strong 6 = .ok (.aload_n 3, 1) := by decide +kernel
theorem dX9_strong_7 : decode cX9_strong 7 = .ok (.ifnonnull 6, 3) := by decide +kernel
theorem dX9_strong_10 : decode cX9_strong 10 = .ok (.ldc 136, 2) := by decide +kernel
theorem dX9_strong_12 : decode cX9_strong 12 = .ok (.ireturn, 1) := by decide +kernel
theorem dX9_strong_13 : decode cX9_strong 13 = .ok (.iload_n 2, 1) := by decide +kernel
theorem dX9_strong_14 : decode cX9_strong 14 = .ok (.iconst 1, 1) := by decide +kernel
theorem dX9_strong_15 : decode cX9_strong 15 = .ok (.sipush 200, 3) := by decide +kernel
theorem dX9_strong_18 : decode cX9_strong 18 = .ok (.invokestatic 151, 3) := by decide +kernel
theorem dX9_strong_21 : decode cX9_strong 21 = .ok (.ifCond .ne 6, 3) := by decide +kernel
theorem dX9_strong_24 : decode cX9_strong 24 = .ok (.ldc 95, 2) := by decide +kernel
theorem dX9_strong_26 : decode cX9_strong 26 = .ok (.ireturn, 1) := by decide +kernel
theorem dX9_strong_27 : decode cX9_strong 27 = .ok (.aload_n 0, 1) := by decide +kernel
theorem dX9_strong_28 : decode cX9_strong 28 = .ok (.invokevirtual 178, 3) := by decide +kernel
theorem dX9_strong_31 : decode cX9_strong 31 = .ok (.iconst 2, 1) := by decide +kernel
theorem dX9_strong_32 : decode cX9_strong 32 = .ok (.invokestatic 252, 3) := by decide +kernel
theorem dX9_strong_35 : decode cX9_strong 35 = .ok (.istore 4, 2) := by decide +kernel
theorem dX9_strong_37 : decode cX9_strong 37 = .ok (.iload 4, 2) := by decide +kernel
theorem dX9_strong_39 : decode cX9_strong 39 = .ok (.iconst 2, 1) := by decide +kernel
theorem dX9_strong_40 : decode cX9_strong 40 = .ok (.invokestatic 255, 3) := by decide +kernel
theorem dX9_strong_43 : decode cX9_strong 43 = .ok (.if_icmp .gt 30, 3) := by decide +kernel
theorem dX9_strong_46 : decode cX9_strong 46 = .ok (.aload_n 0, 1) := by decide +kernel
theorem dX9_strong_47 : decode cX9_strong 47 = .ok (.getfield 63, 3) := by decide +kernel
theorem dX9_strong_50 : decode cX9_strong 50 = .ok (.iload_n 2, 1) := by decide +kernel
theorem dX9_strong_51 : decode cX9_strong 51 = .ok (.aload_n 3, 1) := by decide +kernel
theorem dX9_strong_52 : decode cX9_strong 52 = .ok (.iconst 0, 1) := by decide +kernel
theorem dX9_strong_53 : decode cX9_strong 53 = .ok (.invokevirtual 155, 3) := by decide +kernel
theorem dX9_strong_56 : decode cX9_strong 56 = .ok (.iload 4, 2) := by decide +kernel
theorem dX9_strong_58 : decode cX9_strong 58 = .ok (.invokevirtual 196, 3) := by decide +kernel
theorem dX9_strong_61 : decode cX9_strong 61 = .ok (.ifCond .lt 6, 3) := by decide +kernel
theorem dX9_strong_64 : decode cX9_strong 64 = .ok (.iload 4, 2) := by decide +kernel
theorem dX9_strong_66 : decode cX9_strong 66 = .ok (.ireturn, 1) := by decide +kernel
theorem dX9_strong_67 : decode cX9_strong 67 = .ok (.iinc 4 1, 3) := by decide +kernel
theorem dX9_strong_70 : decode cX9_strong 70 = .ok (.goto (-33), 3) := by decide +kernel
theorem dX9_strong_73 : decode cX9_strong 73 = .ok (.iconst (-1), 1) := by decide +kernel
theorem dX9_strong_74 : decode cX9_strong 74 = .ok (.ireturn, 1) := by decide +kernel
theorem dX9_heavy_0 : decode cX9_heavy 0 = .ok (.aload_n 0, 1) := by decide +kernel
theorem dX9_heavy_1 : decode cX9_heavy 1 = .ok (.invokevirtual 178, 3) := by decide +kernel
theorem dX9_heavy_4 : decode cX9_heavy 4 = .ok (.aload_n 0, 1) := by decide +kernel
theorem dX9_heavy_5 : decode cX9_heavy 5 = .ok (.aload_n 0, 1) := by decide +kernel
theorem dX9_heavy_6 : decode cX9_heavy 6 = .ok (.getfield 45, 3) := by decide +kernel
theorem dX9_heavy_9 : decode cX9_heavy 9 = .ok (.iconst 2, 1) := by decide +kernel
theorem dX9_heavy_10 : decode cX9_heavy 10 = .ok (.invokevirtual 162, 3) := by decide +kernel
theorem dX9_heavy_13 : decode cX9_heavy 13 = .ok (.invokevirtual 172, 3) := by decide +kernel
theorem dX9_heavy_16 : decode cX9_heavy 16 = .ok (.istore_n 1, 1) := by decide +kernel
theorem dX9_heavy_17 : decode cX9_heavy 17 = .ok (.iconst 0, 1) := by decide +kernel
theorem dX9_heavy_18 : decode cX9_heavy 18 = .ok (.invokestatic 255, 3) := by decide +kernel
theorem dX9_heavy_21 : decode cX9_heavy 21 = .ok (.istore_n 2, 1) := by decide +kernel
theorem dX9_heavy_22 : decode cX9_heavy 22 = .ok (.iload_n 2, 1) := by decide +kernel
theorem dX9_heavy_23 : decode cX9_heavy 23 = .ok (.iconst 0, 1) := by decide +kernel
theorem dX9_heavy_24 : decode cX9_heavy 24 = .ok (.invokestatic 252, 3) := by decide +kernel
theorem dX9_heavy_27 : decode cX9_heavy 27 = .ok (.if_icmp .lt 23, 3) := by decide +kernel
theorem dX9_heavy_30 : decode cX9_heavy 30 = .ok (.aload_n 0, 1) := by decide +kernel
theorem dX9_heavy_31 : decode cX9_heavy 31 = .ok (.getfield 63, 3) := by decide +kernel
theorem dX9_heavy_34 : decode cX9_heavy 34 = .ok (.iload_n 2, 1) := by decide +kernel
theorem dX9_heavy_35 : decode cX9_heavy 35 = .ok (.invokevirtual 258, 3) := by decide +kernel
theorem dX9_heavy_38 : decode cX9_heavy 38 = .ok (.iload_n 1, 1) := by decide +kernel
theorem dX9_heavy_39 : decode cX9_heavy 39 = .ok (.if_icmp .gt 5, 3) := by decide +kernel
theorem dX9_heavy_42 : decode cX9_heavy 42 = .ok (.iload_n 2, 1) := by decide +kernel
theorem dX9_heavy_43 : decode cX9_heavy 43 = .ok (.ireturn, 1) := by decide +kernel
theorem dX9_heavy_44 : decode cX9_heavy 44 = .ok (.iinc 2 (-1), 3) := by decide +kernel
theorem dX9_heavy_47 : decode cX9_heavy 47 = .ok (.goto (-25), 3) := by decide +kernel
theorem dX9_heavy_50 : decode cX9_heavy 50 = .ok (.iconst (-1), 1) := by decide +kernel
theorem dX9_heavy_51 : decode cX9_heavy 51 = .ok (.ireturn, 1) := by decide +kernel
theorem dX9_may_0 : decode cX9_may 0 = .ok (.iconst 0, 1) := by decide +kernel
theorem dX9_may_1 : decode cX9_may 1 = .ok (.istore_n 1, 1) := by decide +kernel
theorem dX9_may_2 : decode cX9_may 2 = .ok (.iconst 0, 1) := by decide +kernel
theorem dX9_may_3 : decode cX9_may 3 = .ok (.istore_n 2, 1) := by decide +kernel
theorem dX9_may_4 : decode cX9_may 4 = .ok (.iload_n 2, 1) := by decide +kernel
theorem dX9_may_5 : decode cX9_may 5 = .ok (.aload_n 0, 1) := by decide +kernel
theorem dX9_may_6 : decode cX9_may 6 = .ok (.getfield 125, 3) := by decide +kernel
theorem dX9_may_9 : decode cX9_may 9 = .ok (.if_icmp .ge 44, 3) := by decide +kernel
theorem dX9_may_12 : decode cX9_may 12 = .ok (.aload_n 0, 1) := by decide +kernel
theorem dX9_may_13 : decode cX9_may 13 = .ok (.iload_n 2, 1) := by decide +kernel
theorem dX9_may_14 : decode cX9_may 14 = .ok (.invokevirtual 147, 3) := by decide +kernel
theorem dX9_may_17 : decode cX9_may 17 = .ok (.astore_n 3, 1) := by decide +kernel
theorem dX9_may_18 : decode cX9_may 18 = .ok (.aload_n 3, 1) := by decide +kernel
theorem dX9_may_19 : decode cX9_may 19 = .ok (.ifnull 28, 3) := by decide +kernel
theorem dX9_may_22 : decode cX9_may 22 = .ok (.aload_n 0, 1) := by decide +kernel
theorem dX9_may_23 : decode cX9_may 23 = .ok (.aload_n 3, 1) := by decide +kernel
theorem dX9_may_24 : decode cX9_may 24 = .ok (.invokevirtual 200, 3) := by decide +kernel
theorem dX9_may_27 : decode cX9_may 27 = .ok (.iload_n 1, 1) := by decide +kernel
theorem dX9_may_28 : decode cX9_may 28 = .ok (.aload_n 0, 1) := by decide +kernel
theorem dX9_may_29 : decode cX9_may 29 = .ok (.getfield 72, 3) := by decide +kernel
theorem dX9_may_32 : decode cX9_may 32 = .ok (.invokevirtual 261, 3) := by decide +kernel
theorem dX9_may_35 : decode cX9_may 35 = .ok (.ifCond .eq 9, 3) := by decide +kernel
theorem dX9_may_38 : decode cX9_may 38 = .ok (.iconst 1, 1) := by decide +kernel
theorem dX9_may_39 : decode cX9_may 39 = .ok (.iload_n 2, 1) := by decide +kernel
theorem dX9_may_40 : decode cX9_may 40 = .ok (.ishl, 1) := by decide +kernel
theorem dX9_may_41 : decode cX9_may 41 = .ok (.goto 4, 3) := by decide +kernel
theorem dX9_may_44 : decode cX9_may 44 = .ok (.iconst 0, 1) := by decide +kernel
theorem dX9_may_45 : decode cX9_may 45 = .ok (.ior, 1) := by decide +kernel
theorem dX9_may_46 : decode cX9_may 46 = .ok (.istore_n 1, 1) := by decide +kernel
theorem dX9_may_47 : decode cX9_may 47 = .ok (.iinc 2 1, 3) := by decide +kernel
theorem dX9_may_50 : decode cX9_may 50 = .ok (.goto (-46), 3) := by decide +kernel
theorem dX9_may_53 : decode cX9_may 53 = .ok (.iload_n 1, 1) := by decide +kernel
theorem dX9_may_54 : decode cX9_may 54 = .ok (.ireturn, 1) := by decide +kernel
theorem dX9_months_0 : decode cX9_months 0 = .ok (.aload_n 0, 1) := by decide +kernel
theorem dX9_months_1 : decode cX9_months 1 = .ok (.iload_n 1, 1) := by decide +kernel
theorem dX9_months_2 : decode cX9_months 2 = .ok (.invokevirtual 147, 3) := by decide +kernel
theorem dX9_months_5 : decode cX9_months 5 = .ok (.astore_n 2, 1) := by decide +kernel
theorem dX9_months_6 : decode cX9_months 6 = .ok (.aload_n 2, 1) := by decide +kernel
theorem dX9_months_7 : decode cX9_months 7 = .ok (.ifnonnull 6, 3) := by decide +kernel
theorem dX9_months_10 : decode cX9_months 10 = .ok (.ldc 136, 2) := by decide +kernel
theorem dX9_months_12 : decode cX9_months 12 = .ok (.ireturn, 1) := by decide +kernel
theorem dX9_months_13 : decode cX9_months 13 = .ok (.aload_n 0, 1) := by decide +kernel
theorem dX9_months_14 : decode cX9_months 14 = .ok (.aload_n 2, 1) := by decide +kernel
theorem dX9_months_15 : decode cX9_months 15 = .ok (.invokevirtual 200, 3) := by decide +kernel
theorem dX9_months_18 : decode cX9_months 18 = .ok (.iconst 0, 1) := by decide +kernel
theorem dX9_months_19 : decode cX9_months 19 = .ok (.istore_n 3, 1) := by decide +kernel
theorem dX9_months_20 : decode cX9_months 20 = .ok (.iconst 0, 1) := by decide +kernel
theorem dX9_months_21 : decode cX9_months 21 = .ok (.istore 4, 2) := by decide +kernel
theorem dX9_months_23 : decode cX9_months 23 = .ok (.iload 4, 2) := by decide +kernel
theorem dX9_months_25 : decode cX9_months 25 = .ok (.bipush 12, 2) := by decide +kernel
theorem dX9_months_27 : decode cX9_months 27 = .ok (.if_icmp .ge 53, 3) := by decide +kernel
theorem dX9_months_30 : decode cX9_months 30 = .ok (.aload_n 0, 1) := by decide +kernel
theorem dX9_months_31 : decode cX9_months 31 = .ok (.getfield 72, 3) := by decide +kernel
theorem dX9_months_34 : decode cX9_months 34 = .ok (.aload_n 0, 1) := by decide +kernel
theorem dX9_months_35 : decode cX9_months 35 = .ok (.getfield 28, 3) := by decide +kernel
theorem dX9_months_38 : decode cX9_months 38 = .ok (.iload 4, 2) := by decide +kernel
theorem dX9_months_40 : decode cX9_months 40 = .ok (.invokevirtual 265, 3) := by decide +kernel
theorem dX9_months_43 : decode cX9_months 43 = .ok (.putfield 268, 3) := by decide +kernel
theorem dX9_months_46 : decode cX9_months 46 = .ok (.aload_n 0, 1) := by decide +kernel
theorem dX9_months_47 : decode cX9_months 47 = .ok (.getfield 72, 3) := by decide +kernel
theorem dX9_months_50 : decode cX9_months 50 = .ok (.invokevirtual 270, 3) := by decide +kernel
theorem dX9_months_53 : decode cX9_months 53 = .ok (.iload_n 3, 1) := by decide +kernel
theorem dX9_months_54 : decode cX9_months 54 = .ok (.aload_n 0, 1) := by decide +kernel
theorem dX9_months_55 : decode cX9_months 55 = .ok (.getfield 72, 3) := by decide +kernel
theorem dX9_months_58 : decode cX9_months 58 = .ok (.invokevirtual 261, 3) := by decide +kernel
theorem dX9_months_61 : decode cX9_months 61 = .ok (.ifCond .eq 10, 3) := by decide +kernel
theorem dX9_months_64 : decode cX9_months 64 = .ok (.iconst 1, 1) := by decide +kernel
theorem dX9_months_65 : decode cX9_months 65 = .ok (.iload 4, 2) := by decide +kernel
theorem dX9_months_67 : decode cX9_months 67 = .ok (.ishl, 1) := by decide +kernel
theorem dX9_months_68 : decode cX9_months 68 = .ok (.goto 4, 3) := by decide +kernel
theorem dX9_months_71 : decode cX9_months 71 = .ok (.iconst 0, 1) := by decide +kernel
theorem dX9_months_72 : decode cX9_months 72 = .ok (.ior, 1) := by decide +kernel
theorem dX9_months_73 : decode cX9_months 73 = .ok (.istore_n 3, 1) := by decide +kernel
theorem dX9_months_74 : decode cX9_months 74 = .ok (.iinc 4 1, 3) := by decide +kernel
theorem dX9_months_77 : decode cX9_months 77 = .ok (.goto (-54), 3) := by decide +kernel
theorem dX9_months_80 : decode cX9_months 80 = .ok (.iload_n 3, 1) := by decide +kernel
theorem dX9_months_81 : decode cX9_months 81 = .ok (.ireturn, 1) := by decide +kernel
theorem dX9_rope_0 : decode cX9_rope 0 = .ok (.aload_n 0, 1) := by decide +kernel
theorem dX9_rope_1 : decode cX9_rope 1 = .ok (.iload_n 1, 1) := by decide +kernel
theorem dX9_rope_2 : decode cX9_rope 2 = .ok (.invokevirtual 147, 3) := by decide +kernel
theorem dX9_rope_5 : decode cX9_rope 5 = .ok (.astore_n 3, 1) := by decide +kernel
theorem dX9_rope_6 : decode cX9_rope 6 = .ok (.aload_n 3, 1) := by decide +kernel
theorem dX9_rope_7 : decode cX9_rope 7 = .ok (.ifnonnull 6, 3) := by decide +kernel
theorem dX9_rope_10 : decode cX9_rope 10 = .ok (.ldc 136, 2) := by decide +kernel
theorem dX9_rope_12 : decode cX9_rope 12 = .ok (.ireturn, 1) := by decide +kernel
theorem dX9_rope_13 : decode cX9_rope 13 = .ok (.iload_n 2, 1) := by decide +kernel
theorem dX9_rope_14 : decode cX9_rope 14 = .ok (.ifCond .lt 8, 3) := by decide +kernel
theorem dX9_rope_17 : decode cX9_rope 17 = .ok (.iload_n 2, 1) := by decide +kernel
theorem dX9_rope_18 : decode cX9_rope 18 = .ok (.iconst 2, 1) := by decide +kernel
theorem dX9_rope_19 : decode cX9_rope 19 = .ok (.if_icmp .le 6, 3) := by decide +kernel
theorem dX9_rope_22 : decode cX9_rope 22 = .ok (.ldc 95, 2) := by decide +kernel
theorem dX9_rope_24 : decode cX9_rope 24 = .ok (.ireturn, 1) := by decide +kernel
theorem dX9_rope_25 : decode cX9_rope 25 = .ok (.aload_n 0, 1) := by decide +kernel
theorem dX9_rope_26 : decode cX9_rope 26 = .ok (.aload_n 3, 1) := by decide +kernel
theorem dX9_rope_27 : decode cX9_rope 27 = .ok (.invokevirtual 200, 3) := by decide +kernel
theorem dX9_rope_30 : decode cX9_rope 30 = .ok (.iconst 0, 1) := by decide +kernel
theorem dX9_rope_31 : decode cX9_rope 31 = .ok (.istore 4, 2) := by decide +kernel
theorem dX9_rope_33 : decode cX9_rope 33 = .ok (.iconst 0, 1) := by decide +kernel
theorem dX9_rope_34 : decode cX9_rope 34 = .ok (.istore 5, 2) := by decide +kernel
theorem dX9_rope_36 : decode cX9_rope 36 = .ok (.iconst (-1), 1) := by decide +kernel
theorem dX9_rope_37 : decode cX9_rope 37 = .ok (.istore 6, 2) := by decide +kernel
theorem dX9_rope_39 : decode cX9_rope 39 = .ok (.bipush 100, 2) := by decide +kernel
theorem dX9_rope_41 : decode cX9_rope 41 = .ok (.istore 7, 2) := by decide +kernel
theorem dX9_rope_43 : decode cX9_rope 43 = .ok (.iload 7, 2) := by decide +kernel
theorem dX9_rope_45 : decode cX9_rope 45 = .ok (.sipush 900, 3) := by decide +kernel
theorem dX9_rope_48 : decode cX9_rope 48 = .ok (.if_icmp .gt 119, 3) := by decide +kernel
theorem dX9_rope_51 : decode cX9_rope 51 = .ok (.iconst 0, 1) := by decide +kernel
theorem dX9_rope_52 : decode cX9_rope 52 = .ok (.istore 8, 2) := by decide +kernel
theorem dX9_rope_54 : decode cX9_rope 54 = .ok (.iload 8, 2) := by decide +kernel
theorem dX9_rope_56 : decode cX9_rope 56 = .ok (.iload 7, 2) := by decide +kernel
theorem dX9_rope_58 : decode cX9_rope 58 = .ok (.bipush 100, 2) := by decide +kernel
theorem dX9_rope_60 : decode cX9_rope 60 = .ok (.if_icmp .ne 8, 3) := by decide +kernel
theorem dX9_rope_63 : decode cX9_rope 63 = .ok (.bipush 50, 2) := by decide +kernel
theorem dX9_rope_65 : decode cX9_rope 65 = .ok (.goto 4, 3) := by decide +kernel
theorem dX9_rope_68 : decode cX9_rope 68 = .ok (.iconst 0, 1) := by decide +kernel
theorem dX9_rope_69 : decode cX9_rope 69 = .ok (.if_icmp .gt 92, 3) := by decide +kernel
theorem dX9_rope_72 : decode cX9_rope 72 = .ok (.aload_n 0, 1) := by decide +kernel
theorem dX9_rope_73 : decode cX9_rope 73 = .ok (.getfield 63, 3) := by decide +kernel
theorem dX9_rope_76 : decode cX9_rope 76 = .ok (.aload_n 0, 1) := by decide +kernel
theorem dX9_rope_77 : decode cX9_rope 77 = .ok (.getfield 28, 3) := by decide +kernel
theorem dX9_rope_80 : decode cX9_rope 80 = .ok (.iconst 0, 1) := by decide +kernel
theorem dX9_rope_81 : decode cX9_rope 81 = .ok (.invokevirtual 132, 3) := by decide +kernel
theorem dX9_rope_84 : decode cX9_rope 84 = .ok (.iload 7, 2) := by decide +kernel
theorem dX9_rope_86 : decode cX9_rope 86 = .ok (.iload 8, 2) := by decide +kernel
theorem dX9_rope_88 : decode cX9_rope 88 = .ok (.isub, 1) := by decide +kernel
theorem dX9_rope_89 : decode cX9_rope 89 = .ok (.aload_n 0, 1) := by decide +kernel
theorem dX9_rope_90 : decode cX9_rope 90 = .ok (.getfield 45, 3) := by decide +kernel
theorem dX9_rope_93 : decode cX9_rope 93 = .ok (.iconst 3, 1) := by decide +kernel
theorem dX9_rope_94 : decode cX9_rope 94 = .ok (.invokevirtual 162, 3) := by decide +kernel
theorem dX9_rope_97 : decode cX9_rope 97 = .ok (.aload_n 0, 1) := by decide +kernel
theorem dX9_rope_98 : decode cX9_rope 98 = .ok (.getfield 45, 3) := by decide +kernel
theorem dX9_rope_101 : decode cX9_rope 101 = .ok (.iconst 4, 1) := by decide +kernel
theorem dX9_rope_102 : decode cX9_rope 102 = .ok (.invokevirtual 162, 3) := by decide +kernel
theorem dX9_rope_105 : decode cX9_rope 105 = .ok (.invokevirtual 273, 3) := by decide +kernel
theorem dX9_rope_108 : decode cX9_rope 108 = .ok (.aload_n 0, 1) := by decide +kernel
theorem dX9_rope_109 : decode cX9_rope 109 = .ok (.getfield 72, 3) := by decide +kernel
theorem dX9_rope_112 : decode cX9_rope 112 = .ok (.invokevirtual 270, 3) := by decide +kernel
theorem dX9_rope_115 : decode cX9_rope 115 = .ok (.aload_n 0, 1) := by decide +kernel
theorem dX9_rope_116 : decode cX9_rope 116 = .ok (.getfield 79, 3) := by decide +kernel
theorem dX9_rope_119 : decode cX9_rope 119 = .ok (.aload_n 0, 1) := by decide +kernel
theorem dX9_rope_120 : decode cX9_rope 120 = .ok (.getfield 72, 3) := by decide +kernel
theorem dX9_rope_123 : decode cX9_rope 123 = .ok (.invokevirtual 228, 3) := by decide +kernel
theorem dX9_rope_126 : decode cX9_rope 126 = .ok (.aload_n 0, 1) := by decide +kernel
theorem dX9_rope_127 : decode cX9_rope 127 = .ok (.getfield 79, 3) := by decide +kernel
theorem dX9_rope_130 : decode cX9_rope 130 = .ok (.getfield 235, 3) := by decide +kernel
theorem dX9_rope_133 : decode cX9_rope 133 = .ok (.iload 6, 2) := by decide +kernel
theorem dX9_rope_135 : decode cX9_rope 135 = .ok (.if_icmp .le 20, 3) := by decide +kernel
theorem dX9_rope_138 : decode cX9_rope 138 = .ok (.aload_n 0, 1) := by decide +kernel
theorem dX9_rope_139 : decode cX9_rope 139 = .ok (.getfield 79, 3) := by decide +kernel
theorem dX9_rope_142 : decode cX9_rope 142 = .ok (.getfield 235, 3) := by decide +kernel
theorem dX9_rope_145 : decode cX9_rope 145 = .ok (.istore 6, 2) := by decide +kernel
theorem dX9_rope_147 : decode cX9_rope 147 = .ok (.iload 7, 2) := by decide +kernel
theorem dX9_rope_149 : decode cX9_rope 149 = .ok (.istore 4, 2) := by decide +kernel
theorem dX9_rope_151 : decode cX9_rope 151 = .ok (.iload 8, 2) := by decide +kernel
theorem dX9_rope_153 : decode cX9_rope 153 = .ok (.istore 5, 2) := by decide +kernel
theorem dX9_rope_155 : decode cX9_rope 155 = .ok (.iinc 8 50, 3) := by decide +kernel
theorem dX9_rope_158 : decode cX9_rope 158 = .ok (.goto (-104), 3) := by decide +kernel
theorem dX9_rope_161 : decode cX9_rope 161 = .ok (.iinc 7 50, 3) := by decide +kernel
theorem dX9_rope_164 : decode cX9_rope 164 = .ok (.goto (-121), 3) := by decide +kernel
theorem dX9_rope_167 : decode cX9_rope 167 = .ok (.iload_n 2, 1) := by decide +kernel
theorem dX9_rope_168 : decode cX9_rope 168 = .ok (.ifCond .ne 6, 3) := by decide +kernel
theorem dX9_rope_171 : decode cX9_rope 171 = .ok (.iload 4, 2) := by decide +kernel
theorem dX9_rope_173 : decode cX9_rope 173 = .ok (.ireturn, 1) := by decide +kernel
theorem dX9_rope_174 : decode cX9_rope 174 = .ok (.iload_n 2, 1) := by decide +kernel
theorem dX9_rope_175 : decode cX9_rope 175 = .ok (.iconst 1, 1) := by decide +kernel
theorem dX9_rope_176 : decode cX9_rope 176 = .ok (.if_icmp .ne 8, 3) := by decide +kernel
theorem dX9_rope_179 : decode cX9_rope 179 = .ok (.iload 5, 2) := by decide +kernel
theorem dX9_rope_181 : decode cX9_rope 181 = .ok (.goto 5, 3) := by decide +kernel
theorem dX9_rope_184 : decode cX9_rope 184 = .ok (.iload 6, 2) := by decide +kernel
theorem dX9_rope_186 : decode cX9_rope 186 = .ok (.ireturn, 1) := by decide +kernel
theorem dX9_turn_0 : decode cX9_turn 0 = .ok (.aload_n 0, 1) := by decide +kernel
theorem dX9_turn_1 : decode cX9_turn 1 = .ok (.iload_n 1, 1) := by decide +kernel
theorem dX9_turn_2 : decode cX9_turn 2 = .ok (.invokevirtual 147, 3) := by decide +kernel
theorem dX9_turn_5 : decode cX9_turn 5 = .ok (.astore_n 3, 1) := by decide +kernel
theorem dX9_turn_6 : decode cX9_turn 6 = .ok (.aload_n 3, 1) := by decide +kernel
theorem dX9_turn_7 : decode cX9_turn 7 = .ok (.ifnonnull 6, 3) := by decide +kernel
theorem dX9_turn_10 : decode cX9_turn 10 = .ok (.ldc 136, 2) := by decide +kernel
theorem dX9_turn_12 : decode cX9_turn 12 = .ok (.ireturn, 1) := by decide +kernel
theorem dX9_turn_13 : decode cX9_turn 13 = .ok (.iload_n 2, 1) := by decide +kernel
theorem dX9_turn_14 : decode cX9_turn 14 = .ok (.iconst 1, 1) := by decide +kernel
theorem dX9_turn_15 : decode cX9_turn 15 = .ok (.sipush 200, 3) := by decide +kernel
theorem dX9_turn_18 : decode cX9_turn 18 = .ok (.invokestatic 151, 3) := by decide +kernel
theorem dX9_turn_21 : decode cX9_turn 21 = .ok (.ifCond .ne 6, 3) := by decide +kernel
theorem dX9_turn_24 : decode cX9_turn 24 = .ok (.ldc 95, 2) := by decide +kernel
theorem dX9_turn_26 : decode cX9_turn 26 = .ok (.ireturn, 1) := by decide +kernel
theorem dX9_turn_27 : decode cX9_turn 27 = .ok (.aload_n 0, 1) := by decide +kernel
theorem dX9_turn_28 : decode cX9_turn 28 = .ok (.aload_n 3, 1) := by decide +kernel
theorem dX9_turn_29 : decode cX9_turn 29 = .ok (.invokevirtual 200, 3) := by decide +kernel
theorem dX9_turn_32 : decode cX9_turn 32 = .ok (.iconst 4, 1) := by decide +kernel
theorem dX9_turn_33 : decode cX9_turn 33 = .ok (.invokestatic 252, 3) := by decide +kernel
theorem dX9_turn_36 : decode cX9_turn 36 = .ok (.istore 4, 2) := by decide +kernel
theorem dX9_turn_38 : decode cX9_turn 38 = .ok (.iload 4, 2) := by decide +kernel
theorem dX9_turn_40 : decode cX9_turn 40 = .ok (.iconst 4, 1) := by decide +kernel
theorem dX9_turn_41 : decode cX9_turn 41 = .ok (.invokestatic 255, 3) := by decide +kernel
theorem dX9_turn_44 : decode cX9_turn 44 = .ok (.if_icmp .gt 48, 3) := by decide +kernel
theorem dX9_turn_47 : decode cX9_turn 47 = .ok (.aload_n 0, 1) := by decide +kernel
theorem dX9_turn_48 : decode cX9_turn 48 = .ok (.getfield 72, 3) := by decide +kernel
theorem dX9_turn_51 : decode cX9_turn 51 = .ok (.iload 4, 2) := by decide +kernel
theorem dX9_turn_53 : decode cX9_turn 53 = .ok (.putfield 277, 3) := by decide +kernel
theorem dX9_turn_56 : decode cX9_turn 56 = .ok (.aload_n 0, 1) := by decide +kernel
theorem dX9_turn_57 : decode cX9_turn 57 = .ok (.getfield 72, 3) := by decide +kernel
theorem dX9_turn_60 : decode cX9_turn 60 = .ok (.iload_n 2, 1) := by decide +kernel
theorem dX9_turn_61 : decode cX9_turn 61 = .ok (.aload_n 0, 1) := by decide +kernel
theorem dX9_turn_62 : decode cX9_turn 62 = .ok (.getfield 72, 3) := by decide +kernel
theorem dX9_turn_65 : decode cX9_turn 65 = .ok (.getfield 204, 3) := by decide +kernel
theorem dX9_turn_68 : decode cX9_turn 68 = .ok (.iadd, 1) := by decide +kernel
theorem dX9_turn_69 : decode cX9_turn 69 = .ok (.invokevirtual 207, 3) := by decide +kernel
theorem dX9_turn_72 : decode cX9_turn 72 = .ok (.aload_n 0, 1) := by decide +kernel
theorem dX9_turn_73 : decode cX9_turn 73 = .ok (.getfield 72, 3) := by decide +kernel
theorem dX9_turn_76 : decode cX9_turn 76 = .ok (.getfield 210, 3) := by decide +kernel
theorem dX9_turn_79 : decode cX9_turn 79 = .ok (.iconst 2, 1) := by decide +kernel
theorem dX9_turn_80 : decode cX9_turn 80 = .ok (.if_icmp .ne 6, 3) := by decide +kernel
theorem dX9_turn_83 : decode cX9_turn 83 = .ok (.iload 4, 2) := by decide +kernel
theorem dX9_turn_85 : decode cX9_turn 85 = .ok (.ireturn, 1) := by decide +kernel
theorem dX9_turn_86 : decode cX9_turn 86 = .ok (.iinc 4 1, 3) := by decide +kernel
theorem dX9_turn_89 : decode cX9_turn 89 = .ok (.goto (-51), 3) := by decide +kernel
theorem dX9_turn_92 : decode cX9_turn 92 = .ok (.iconst (-1), 1) := by decide +kernel
theorem dX9_turn_93 : decode cX9_turn 93 = .ok (.ireturn, 1) := by decide +kernel
theorem dX9_film_0 : decode cX9_film 0 = .ok (.iload_n 1, 1) := by decide +kernel
theorem dX9_film_1 : decode cX9_film 1 = .ok (.iconst 1, 1) := by decide +kernel
theorem dX9_film_2 : decode cX9_film 2 = .ok (.sipush 200, 3) := by decide +kernel
theorem dX9_film_5 : decode cX9_film 5 = .ok (.invokestatic 151, 3) := by decide +kernel
theorem dX9_film_8 : decode cX9_film 8 = .ok (.ifCond .eq 16, 3) := by decide +kernel
theorem dX9_film_11 : decode cX9_film 11 = .ok (.iload_n 2, 1) := by decide +kernel
theorem dX9_film_12 : decode cX9_film 12 = .ok (.sipush (-180), 3) := by decide +kernel
theorem dX9_film_15 : decode cX9_film 15 = .ok (.sipush 180, 3) := by decide +kernel
theorem dX9_film_18 : decode cX9_film 18 = .ok (.invokestatic 151, 3) := by decide +kernel
theorem dX9_film_21 : decode cX9_film 21 = .ok (.ifCond .ne 6, 3) := by decide +kernel
theorem dX9_film_24 : decode cX9_film 24 = .ok (.ldc 95, 2) := by decide +kernel
theorem dX9_film_26 : decode cX9_film 26 = .ok (.ireturn, 1) := by decide +kernel
theorem dX9_film_27 : decode cX9_film 27 = .ok (.iconst 0, 1) := by decide +kernel
theorem dX9_film_28 : decode cX9_film 28 = .ok (.istore_n 3, 1) := by decide +kernel
theorem dX9_film_29 : decode cX9_film 29 = .ok (.ldc_w 280, 3) := by decide +kernel
theorem dX9_film_32 : decode cX9_film 32 = .ok (.istore 4, 2) := by decide +kernel
theorem dX9_film_34 : decode cX9_film 34 = .ok (.iconst 0, 1) := by decide +kernel
theorem dX9_film_35 : decode cX9_film 35 = .ok (.istore 5, 2) := by decide +kernel
theorem dX9_film_37 : decode cX9_film 37 = .ok (.iload 5, 2) := by decide +kernel
theorem dX9_film_39 : decode cX9_film 39 = .ok (.sipush 600, 3) := by decide +kernel
theorem dX9_film_42 : decode cX9_film 42 = .ok (.if_icmp .gt 84, 3) := by decide +kernel
theorem dX9_film_45 : decode cX9_film 45 = .ok (.aload_n 0, 1) := by decide +kernel
theorem dX9_film_46 : decode cX9_film 46 = .ok (.getfield 56, 3) := by decide +kernel
theorem dX9_film_49 : decode cX9_film 49 = .ok (.aload_n 0, 1) := by decide +kernel
theorem dX9_film_50 : decode cX9_film 50 = .ok (.invokevirtual 169, 3) := by decide +kernel
theorem dX9_film_53 : decode cX9_film 53 = .ok (.aload_n 0, 1) := by decide +kernel
theorem dX9_film_54 : decode cX9_film 54 = .ok (.getfield 45, 3) := by decide +kernel
theorem dX9_film_57 : decode cX9_film 57 = .ok (.iconst 3, 1) := by decide +kernel
theorem dX9_film_58 : decode cX9_film 58 = .ok (.invokevirtual 162, 3) := by decide +kernel
theorem dX9_film_61 : decode cX9_film 61 = .ok (.iload 5, 2) := by decide +kernel
theorem dX9_film_63 : decode cX9_film 63 = .ok (.invokevirtual 281, 3) := by decide +kernel
theorem dX9_film_66 : decode cX9_film 66 = .ok (.iconst 1, 1) := by decide +kernel
theorem dX9_film_67 : decode cX9_film 67 = .ok (.istore 6, 2) := by decide +kernel
theorem dX9_film_69 : decode cX9_film 69 = .ok (.iload 6, 2) := by decide +kernel
theorem dX9_film_71 : decode cX9_film 71 = .ok (.iload_n 1, 1) := by decide +kernel
theorem dX9_film_72 : decode cX9_film 72 = .ok (.if_icmp .gt 16, 3) := by decide +kernel
theorem dX9_film_75 : decode cX9_film 75 = .ok (.aload_n 0, 1) := by decide +kernel
theorem dX9_film_76 : decode cX9_film 76 = .ok (.getfield 56, 3) := by decide +kernel
theorem dX9_film_79 : decode cX9_film 79 = .ok (.invokevirtual 284, 3) := by decide +kernel
theorem dX9_film_82 : decode cX9_film 82 = .ok (.iinc 6 1, 3) := by decide +kernel
theorem dX9_film_85 : decode cX9_film 85 = .ok (.goto (-16), 3) := by decide +kernel
theorem dX9_film_88 : decode cX9_film 88 = .ok (.aload_n 0, 1) := by decide +kernel
theorem dX9_film_89 : decode cX9_film 89 = .ok (.getfield 56, 3) := by decide +kernel
theorem dX9_film_92 : decode cX9_film 92 = .ok (.getfield 287, 3) := by decide +kernel
theorem dX9_film_95 : decode cX9_film 95 = .ok (.sipush 1000, 3) := by decide +kernel
theorem dX9_film_98 : decode cX9_film 98 = .ok (.idiv, 1) := by decide +kernel
theorem dX9_film_99 : decode cX9_film 99 = .ok (.iload_n 2, 1) := by decide +kernel
theorem dX9_film_100 : decode cX9_film 100 = .ok (.isub, 1) := by decide +kernel
theorem dX9_film_101 : decode cX9_film 101 = .ok (.invokestatic 289, 3) := by decide +kernel
theorem dX9_film_104 : decode cX9_film 104 = .ok (.istore 6, 2) := by decide +kernel
theorem dX9_film_106 : decode cX9_film 106 = .ok (.iload 6, 2) := by decide +kernel
theorem dX9_film_108 : decode cX9_film 108 = .ok (.iload 4, 2) := by decide +kernel
theorem dX9_film_110 : decode cX9_film 110 = .ok (.if_icmp .ge 10, 3) := by decide +kernel
theorem dX9_film_113 : decode cX9_film 113 = .ok (.iload 6, 2) := by decide +kernel
theorem dX9_film_115 : decode cX9_film 115 = .ok (.istore 4, 2) := by decide +kernel
theorem dX9_film_117 : decode cX9_film 117 = .ok (.iload 5, 2) := by decide +kernel
theorem dX9_film_119 : decode cX9_film 119 = .ok (.istore_n 3, 1) := by decide +kernel
theorem dX9_film_120 : decode cX9_film 120 = .ok (.iinc 5 1, 3) := by decide +kernel
theorem dX9_film_123 : decode cX9_film 123 = .ok (.goto (-86), 3) := by decide +kernel
theorem dX9_film_126 : decode cX9_film 126 = .ok (.iload_n 3, 1) := by decide +kernel
theorem dX9_film_127 : decode cX9_film 127 = .ok (.ireturn, 1) := by decide +kernel
theorem dX9_age_0 : decode cX9_age 0 = .ok (.aload_n 0, 1) := by decide +kernel
theorem dX9_age_1 : decode cX9_age 1 = .ok (.iload_n 1, 1) := by decide +kernel
theorem dX9_age_2 : decode cX9_age 2 = .ok (.invokevirtual 147, 3) := by decide +kernel
theorem dX9_age_5 : decode cX9_age 5 = .ok (.astore_n 2, 1) := by decide +kernel
theorem dX9_age_6 : decode cX9_age 6 = .ok (.aload_n 2, 1) := by decide +kernel
theorem dX9_age_7 : decode cX9_age 7 = .ok (.ifnonnull 6, 3) := by decide +kernel
theorem dX9_age_10 : decode cX9_age 10 = .ok (.ldc 136, 2) := by decide +kernel
theorem dX9_age_12 : decode cX9_age 12 = .ok (.ireturn, 1) := by decide +kernel
theorem dX9_age_13 : decode cX9_age 13 = .ok (.aload_n 0, 1) := by decide +kernel
theorem dX9_age_14 : decode cX9_age 14 = .ok (.aload_n 2, 1) := by decide +kernel
theorem dX9_age_15 : decode cX9_age 15 = .ok (.invokevirtual 200, 3) := by decide +kernel
theorem dX9_age_18 : decode cX9_age 18 = .ok (.iconst 0, 1) := by decide +kernel
theorem dX9_age_19 : decode cX9_age 19 = .ok (.istore_n 3, 1) := by decide +kernel
theorem dX9_age_20 : decode cX9_age 20 = .ok (.iload_n 3, 1) := by decide +kernel
theorem dX9_age_21 : decode cX9_age 21 = .ok (.bipush 40, 2) := by decide +kernel
theorem dX9_age_23 : decode cX9_age 23 = .ok (.if_icmp .gt 40, 3) := by decide +kernel
theorem dX9_age_26 : decode cX9_age 26 = .ok (.aload_n 0, 1) := by decide +kernel
theorem dX9_age_27 : decode cX9_age 27 = .ok (.getfield 72, 3) := by decide +kernel
theorem dX9_age_30 : decode cX9_age 30 = .ok (.aload_n 0, 1) := by decide +kernel
theorem dX9_age_31 : decode cX9_age 31 = .ok (.iload_n 3, 1) := by decide +kernel
theorem dX9_age_32 : decode cX9_age 32 = .ok (.invokevirtual 172, 3) := by decide +kernel
theorem dX9_age_35 : decode cX9_age 35 = .ok (.putfield 294, 3) := by decide +kernel
theorem dX9_age_38 : decode cX9_age 38 = .ok (.aload_n 0, 1) := by decide +kernel
theorem dX9_age_39 : decode cX9_age 39 = .ok (.getfield 72, 3) := by decide +kernel
theorem dX9_age_42 : decode cX9_age 42 = .ok (.invokevirtual 270, 3) := by decide +kernel
theorem dX9_age_45 : decode cX9_age 45 = .ok (.aload_n 0, 1) := by decide +kernel
theorem dX9_age_46 : decode cX9_age 46 = .ok (.getfield 72, 3) := by decide +kernel
theorem dX9_age_49 : decode cX9_age 49 = .ok (.invokevirtual 261, 3) := by decide +kernel
theorem dX9_age_52 : decode cX9_age 52 = .ok (.ifCond .ne 5, 3) := by decide +kernel
theorem dX9_age_55 : decode cX9_age 55 = .ok (.iload_n 3, 1) := by decide +kernel
theorem dX9_age_56 : decode cX9_age 56 = .ok (.ireturn, 1) := by decide +kernel
theorem dX9_age_57 : decode cX9_age 57 = .ok (.iinc 3 1, 3) := by decide +kernel
theorem dX9_age_60 : decode cX9_age 60 = .ok (.goto (-40), 3) := by decide +kernel
theorem dX9_age_63 : decode cX9_age 63 = .ok (.iconst (-1), 1) := by decide +kernel
theorem dX9_age_64 : decode cX9_age 64 = .ok (.ireturn, 1) := by decide +kernel
theorem dX9_harmed_0 : decode cX9_harmed 0 = .ok (.iload_n 1, 1) := by decide +kernel
theorem dX9_harmed_1 : decode cX9_harmed 1 = .ok (.iconst 0, 1) := by decide +kernel
theorem dX9_harmed_2 : decode cX9_harmed 2 = .ok (.bipush 63, 2) := by decide +kernel
theorem dX9_harmed_4 : decode cX9_harmed 4 = .ok (.invokestatic 151, 3) := by decide +kernel
theorem dX9_harmed_7 : decode cX9_harmed 7 = .ok (.ifCond .ne 6, 3) := by decide +kernel
theorem dX9_harmed_10 : decode cX9_harmed 10 = .ok (.ldc 95, 2) := by decide +kernel
theorem dX9_harmed_12 : decode cX9_harmed 12 = .ok (.ireturn, 1) := by decide +kernel
theorem dX9_harmed_13 : decode cX9_harmed 13 = .ok (.aload_n 0, 1) := by decide +kernel
theorem dX9_harmed_14 : decode cX9_harmed 14 = .ok (.invokevirtual 297, 3) := by decide +kernel
theorem dX9_harmed_17 : decode cX9_harmed 17 = .ok (.aload_n 0, 1) := by decide +kernel
theorem dX9_harmed_18 : decode cX9_harmed 18 = .ok (.iload_n 1, 1) := by decide +kernel
theorem dX9_harmed_19 : decode cX9_harmed 19 = .ok (.invokevirtual 300, 3) := by decide +kernel
theorem dX9_harmed_22 : decode cX9_harmed 22 = .ok (.ireturn, 1) := by decide +kernel
theorem dX9_enough_0 : decode cX9_enough 0 = .ok (.aload_n 0, 1) := by decide +kernel
theorem dX9_enough_1 : decode cX9_enough 1 = .ok (.invokevirtual 297, 3) := by decide +kernel
theorem dX9_enough_4 : decode cX9_enough 4 = .ok (.ldc_w 280, 3) := by decide +kernel
theorem dX9_enough_7 : decode cX9_enough 7 = .ok (.istore_n 1, 1) := by decide +kernel
theorem dX9_enough_8 : decode cX9_enough 8 = .ok (.iconst (-1), 1) := by decide +kernel
theorem dX9_enough_9 : decode cX9_enough 9 = .ok (.istore_n 2, 1) := by decide +kernel
theorem dX9_enough_10 : decode cX9_enough 10 = .ok (.iconst 0, 1) := by decide +kernel
theorem dX9_enough_11 : decode cX9_enough 11 = .ok (.istore_n 3, 1) := by decide +kernel
theorem dX9_enough_12 : decode cX9_enough 12 = .ok (.iload_n 3, 1) := by decide +kernel
theorem dX9_enough_13 : decode cX9_enough 13 = .ok (.bipush 63, 2) := by decide +kernel
theorem dX9_enough_15 : decode cX9_enough 15 = .ok (.if_icmp .gt 34, 3) := by decide +kernel
theorem dX9_enough_18 : decode cX9_enough 18 = .ok (.iload_n 3, 1) := by decide +kernel
theorem dX9_enough_19 : decode cX9_enough 19 = .ok (.invokestatic 303, 3) := by decide +kernel
theorem dX9_enough_22 : decode cX9_enough 22 = .ok (.istore 4, 2) := by decide +kernel
theorem dX9_enough_24 : decode cX9_enough 24 = .ok (.iload 4, 2) := by decide +kernel
theorem dX9_enough_26 : decode cX9_enough 26 = .ok (.iload_n 1, 1) := by decide +kernel
theorem dX9_enough_27 : decode cX9_enough 27 = .ok (.if_icmp .ge 16, 3) := by decide +kernel
theorem dX9_enough_30 : decode cX9_enough 30 = .ok (.aload_n 0, 1) := by decide +kernel
theorem dX9_enough_31 : decode cX9_enough 31 = .ok (.iload_n 3, 1) := by decide +kernel
theorem dX9_enough_32 : decode cX9_enough 32 = .ok (.invokevirtual 300, 3) := by decide +kernel
theorem dX9_enough_35 : decode cX9_enough 35 = .ok (.ifCond .ne 8, 3) := by decide +kernel
theorem dX9_enough_38 : decode cX9_enough 38 = .ok (.iload 4, 2) := by decide +kernel
theorem dX9_enough_40 : decode cX9_enough 40 = .ok (.istore_n 1, 1) := by decide +kernel
theorem dX9_enough_41 : decode cX9_enough 41 = .ok (.iload_n 3, 1) := by decide +kernel
theorem dX9_enough_42 : decode cX9_enough 42 = .ok (.istore_n 2, 1) := by decide +kernel
theorem dX9_enough_43 : decode cX9_enough 43 = .ok (.iinc 3 1, 3) := by decide +kernel
theorem dX9_enough_46 : decode cX9_enough 46 = .ok (.goto (-34), 3) := by decide +kernel
theorem dX9_enough_49 : decode cX9_enough 49 = .ok (.iload_n 2, 1) := by decide +kernel
theorem dX9_enough_50 : decode cX9_enough 50 = .ok (.ireturn, 1) := by decide +kernel
theorem dX9_seed_0 : decode cX9_seed 0 = .ok (.iload_n 1, 1) := by decide +kernel
theorem dX9_seed_1 : decode cX9_seed 1 = .ok (.ifCond .ge 6, 3) := by decide +kernel
theorem dX9_seed_4 : decode cX9_seed 4 = .ok (.ldc 95, 2) := by decide +kernel
theorem dX9_seed_6 : decode cX9_seed 6 = .ok (.ireturn, 1) := by decide +kernel
theorem dX9_seed_7 : decode cX9_seed 7 = .ok (.aload_n 0, 1) := by decide +kernel
theorem dX9_seed_8 : decode cX9_seed 8 = .ok (.getfield 45, 3) := by decide +kernel
theorem dX9_seed_11 : decode cX9_seed 11 = .ok (.getfield 308, 3) := by decide +kernel
theorem dX9_seed_14 : decode cX9_seed 14 = .ok (.istore_n 2, 1) := by decide +kernel
theorem dX9_seed_15 : decode cX9_seed 15 = .ok (.aload_n 0, 1) := by decide +kernel
theorem dX9_seed_16 : decode cX9_seed 16 = .ok (.getfield 45, 3) := by decide +kernel
theorem dX9_seed_19 : decode cX9_seed 19 = .ok (.iload_n 1, 1) := by decide +kernel
theorem dX9_seed_20 : decode cX9_seed 20 = .ok (.putfield 308, 3) := by decide +kernel
theorem dX9_seed_23 : decode cX9_seed 23 = .ok (.iload_n 2, 1) := by decide +kernel
theorem dX9_seed_24 : decode cX9_seed 24 = .ok (.ireturn, 1) := by decide +kernel
theorem dX9_afternoon_0 : decode cX9_afternoon 0 = .ok (.iload_n 1, 1) := by decide +kernel
theorem dX9_afternoon_1 : decode cX9_afternoon 1 = .ok (.iconst 1, 1) := by decide +kernel
theorem dX9_afternoon_2 : decode cX9_afternoon 2 = .ok (.if_icmp .lt 9, 3) := by decide +kernel
theorem dX9_afternoon_5 : decode cX9_afternoon 5 = .ok (.iload_n 1, 1) := by decide +kernel
theorem dX9_afternoon_6 : decode cX9_afternoon 6 = .ok (.bipush 40, 2) := by decide +kernel
theorem dX9_afternoon_8 : decode cX9_afternoon 8 = .ok (.if_icmp .le 6, 3) := by decide +kernel
theorem dX9_afternoon_11 : decode cX9_afternoon 11 = .ok (.ldc 95, 2) := by decide +kernel
theorem dX9_afternoon_13 : decode cX9_afternoon 13 = .ok (.ireturn, 1) := by decide +kernel
theorem dX9_afternoon_14 : decode cX9_afternoon 14 = .ok (.aload_n 0, 1) := by decide +kernel
theorem dX9_afternoon_15 : decode cX9_afternoon 15 = .ok (.getfield 125, 3) := by decide +kernel
theorem dX9_afternoon_18 : decode cX9_afternoon 18 = .ok (.ifCond .ne 6, 3) := by decide +kernel
theorem dX9_afternoon_21 : decode cX9_afternoon 21 = .ok (.ldc 124, 2) := by decide +kernel
theorem dX9_afternoon_23 : decode cX9_afternoon 23 = .ok (.ireturn, 1) := by decide +kernel
theorem dX9_afternoon_24 : decode cX9_afternoon 24 = .ok (.iconst 0, 1) := by decide +kernel
theorem dX9_afternoon_25 : decode cX9_afternoon 25 = .ok (.istore_n 2, 1) := by decide +kernel
theorem dX9_afternoon_26 : decode cX9_afternoon 26 = .ok (.iconst 0, 1) := by decide +kernel
theorem dX9_afternoon_27 : decode cX9_afternoon 27 = .ok (.istore_n 3, 1) := by decide +kernel
theorem dX9_afternoon_28 : decode cX9_afternoon 28 = .ok (.iload_n 3, 1) := by decide +kernel
theorem dX9_afternoon_29 : decode cX9_afternoon 29 = .ok (.iload_n 1, 1) := by decide +kernel
theorem dX9_afternoon_30 : decode cX9_afternoon 30 = .ok (.if_icmp .ge 102, 3) := by decide +kernel
theorem dX9_afternoon_33 : decode cX9_afternoon 33 = .ok (.aload_n 0, 1) := by decide +kernel
theorem dX9_afternoon_34 : decode cX9_afternoon 34 = .ok (.aload_n 0, 1) := by decide +kernel
theorem dX9_afternoon_35 : decode cX9_afternoon 35 = .ok (.getfield 45, 3) := by decide +kernel
theorem dX9_afternoon_38 : decode cX9_afternoon 38 = .ok (.aload_n 0, 1) := by decide +kernel
theorem dX9_afternoon_39 : decode cX9_afternoon 39 = .ok (.getfield 125, 3) := by decide +kernel
theorem dX9_afternoon_42 : decode cX9_afternoon 42 = .ok (.invokevirtual 311, 3) := by decide +kernel
theorem dX9_afternoon_45 : decode cX9_afternoon 45 = .ok (.invokevirtual 147, 3) := by decide +kernel
theorem dX9_afternoon_48 : decode cX9_afternoon 48 = .ok (.astore 4, 2) := by decide +kernel
theorem dX9_afternoon_50 : decode cX9_afternoon 50 = .ok (.iconst 1, 1) := by decide +kernel
theorem dX9_afternoon_51 : decode cX9_afternoon 51 = .ok (.aload_n 0, 1) := by decide +kernel
theorem dX9_afternoon_52 : decode cX9_afternoon 52 = .ok (.getfield 45, 3) := by decide +kernel
theorem dX9_afternoon_55 : decode cX9_afternoon 55 = .ok (.bipush 60, 2) := by decide +kernel
theorem dX9_afternoon_57 : decode cX9_afternoon 57 = .ok (.invokevirtual 311, 3) := by decide +kernel
theorem dX9_afternoon_60 : decode cX9_afternoon 60 = .ok (.iadd, 1) := by decide +kernel
theorem dX9_afternoon_61 : decode cX9_afternoon 61 = .ok (.istore 5, 2) := by decide +kernel
theorem dX9_afternoon_63 : decode cX9_afternoon 63 = .ok (.aload 4, 2) := by decide +kernel
theorem dX9_afternoon_65 : decode cX9_afternoon 65 = .ok (.ifnull 61, 3) := by decide +kernel
theorem dX9_afternoon_68 : decode cX9_afternoon 68 = .ok (.aload_n 0, 1) := by decide +kernel
theorem dX9_afternoon_69 : decode cX9_afternoon 69 = .ok (.aload 4, 2) := by decide +kernel
theorem dX9_afternoon_71 : decode cX9_afternoon 71 = .ok (.invokevirtual 200, 3) := by decide +kernel
theorem dX9_afternoon_74 : decode cX9_afternoon 74 = .ok (.aload_n 0, 1) := by decide +kernel
theorem dX9_afternoon_75 : decode cX9_afternoon 75 = .ok (.getfield 72, 3) := by decide +kernel
theorem dX9_afternoon_78 : decode cX9_afternoon 78 = .ok (.iload 5, 2) := by decide +kernel
theorem dX9_afternoon_80 : decode cX9_afternoon 80 = .ok (.aload_n 0, 1) := by decide +kernel
theorem dX9_afternoon_81 : decode cX9_afternoon 81 = .ok (.getfield 72, 3) := by decide +kernel
theorem dX9_afternoon_84 : decode cX9_afternoon 84 = .ok (.getfield 204, 3) := by decide +kernel
theorem dX9_afternoon_87 : decode cX9_afternoon 87 = .ok (.iadd, 1) := by decide +kernel
theorem dX9_afternoon_88 : decode cX9_afternoon 88 = .ok (.invokevirtual 207, 3) := by decide +kernel
theorem dX9_afternoon_91 : decode cX9_afternoon 91 = .ok (.aload_n 0, 1) := by decide +kernel
theorem dX9_afternoon_92 : decode cX9_afternoon 92 = .ok (.getfield 45, 3) := by decide +kernel
theorem dX9_afternoon_95 : decode cX9_afternoon 95 = .ok (.aload_n 0, 1) := by decide +kernel
theorem dX9_afternoon_96 : decode cX9_afternoon 96 = .ok (.getfield 72, 3) := by decide +kernel
theorem dX9_afternoon_99 : decode cX9_afternoon 99 = .ok (.getfield 210, 3) := by decide +kernel
theorem dX9_afternoon_102 : decode cX9_afternoon 102 = .ok (.invokevirtual 314, 3) := by decide +kernel
theorem dX9_afternoon_105 : decode cX9_afternoon 105 = .ok (.iload_n 2, 1) := by decide +kernel
theorem dX9_afternoon_106 : decode cX9_afternoon 106 = .ok (.aload_n 0, 1) := by decide +kernel
theorem dX9_afternoon_107 : decode cX9_afternoon 107 = .ok (.getfield 72, 3) := by decide +kernel
theorem dX9_afternoon_110 : decode cX9_afternoon 110 = .ok (.getfield 210, 3) := by decide +kernel
theorem dX9_afternoon_113 : decode cX9_afternoon 113 = .ok (.invokestatic 317, 3) := by decide +kernel
theorem dX9_afternoon_116 : decode cX9_afternoon 116 = .ok (.ifCond .eq 7, 3) := by decide +kernel
theorem dX9_afternoon_119 : decode cX9_afternoon 119 = .ok (.iconst 1, 1) := by decide +kernel
theorem dX9_afternoon_120 : decode cX9_afternoon 120 = .ok (.goto 4, 3) := by decide +kernel
theorem dX9_afternoon_123 : decode cX9_afternoon 123 = .ok (.iconst 0, 1) := by decide +kernel
theorem dX9_afternoon_124 : decode cX9_afternoon 124 = .ok (.iadd, 1) := by decide +kernel
theorem dX9_afternoon_125 : decode cX9_afternoon 125 = .ok (.istore_n 2, 1) := by decide +kernel
theorem dX9_afternoon_126 : decode cX9_afternoon 126 = .ok (.iinc 3 1, 3) := by decide +kernel
theorem dX9_afternoon_129 : decode cX9_afternoon 129 = .ok (.goto (-101), 3) := by decide +kernel
theorem dX9_afternoon_132 : decode cX9_afternoon 132 = .ok (.iload_n 2, 1) := by decide +kernel
theorem dX9_afternoon_133 : decode cX9_afternoon 133 = .ok (.ireturn, 1) := by decide +kernel
theorem dX9_ends_0 : decode cX9_ends 0 = .ok (.iload_n 1, 1) := by decide +kernel
theorem dX9_ends_1 : decode cX9_ends 1 = .ok (.iconst 0, 1) := by decide +kernel
theorem dX9_ends_2 : decode cX9_ends 2 = .ok (.bipush 8, 2) := by decide +kernel
theorem dX9_ends_4 : decode cX9_ends 4 = .ok (.invokestatic 151, 3) := by decide +kernel
theorem dX9_ends_7 : decode cX9_ends 7 = .ok (.ifCond .eq 14, 3) := by decide +kernel
theorem dX9_ends_10 : decode cX9_ends 10 = .ok (.aload_n 0, 1) := by decide +kernel
theorem dX9_ends_11 : decode cX9_ends 11 = .ok (.getfield 45, 3) := by decide +kernel
theorem dX9_ends_14 : decode cX9_ends 14 = .ok (.iload_n 1, 1) := by decide +kernel
theorem dX9_ends_15 : decode cX9_ends 15 = .ok (.invokevirtual 320, 3) := by decide +kernel
theorem dX9_ends_18 : decode cX9_ends 18 = .ok (.goto 5, 3) := by decide +kernel
theorem dX9_ends_21 : decode cX9_ends 21 = .ok (.ldc 95, 2) := by decide +kernel
theorem dX9_ends_23 : decode cX9_ends 23 = .ok (.ireturn, 1) := by decide +kernel
theorem dX9_keep_0 : decode cX9_keep 0 = .ok (.aload_n 0, 1) := by decide +kernel
theorem dX9_keep_1 : decode cX9_keep 1 = .ok (.iload_n 1, 1) := by decide +kernel
theorem dX9_keep_2 : decode cX9_keep 2 = .ok (.invokevirtual 323, 3) := by decide +kernel
theorem dX9_keep_5 : decode cX9_keep 5 = .ok (.astore_n 2, 1) := by decide +kernel
theorem dX9_keep_6 : decode cX9_keep 6 = .ok (.aload_n 2, 1) := by decide +kernel
theorem dX9_keep_7 : decode cX9_keep 7 = .ok (.ifnonnull 6, 3) := by decide +kernel
theorem dX9_keep_10 : decode cX9_keep 10 = .ok (.ldc 136, 2) := by decide +kernel
theorem dX9_keep_12 : decode cX9_keep 12 = .ok (.ireturn, 1) := by decide +kernel
theorem dX9_keep_13 : decode cX9_keep 13 = .ok (.aload_n 2, 1) := by decide +kernel
theorem dX9_keep_14 : decode cX9_keep 14 = .ok (.aload_n 0, 1) := by decide +kernel
theorem dX9_keep_15 : decode cX9_keep 15 = .ok (.getfield 45, 3) := by decide +kernel
theorem dX9_keep_18 : decode cX9_keep 18 = .ok (.invokevirtual 327, 3) := by decide +kernel
theorem dX9_keep_21 : decode cX9_keep 21 = .ok (.aload_n 2, 1) := by decide +kernel
theorem dX9_keep_22 : decode cX9_keep 22 = .ok (.iconst 1, 1) := by decide +kernel
theorem dX9_keep_23 : decode cX9_keep 23 = .ok (.putfield 330, 3) := by decide +kernel
theorem dX9_keep_26 : decode cX9_keep 26 = .ok (.iconst 1, 1) := by decide +kernel
theorem dX9_keep_27 : decode cX9_keep 27 = .ok (.ireturn, 1) := by decide +kernel
theorem dX9_goBack_0 : decode cX9_goBack 0 = .ok (.aload_n 0, 1) := by decide +kernel
theorem dX9_goBack_1 : decode cX9_goBack 1 = .ok (.iload_n 1, 1) := by decide +kernel
theorem dX9_goBack_2 : decode cX9_goBack 2 = .ok (.invokevirtual 323, 3) := by decide +kernel
theorem dX9_goBack_5 : decode cX9_goBack 5 = .ok (.astore_n 2, 1) := by decide +kernel
theorem dX9_goBack_6 : decode cX9_goBack 6 = .ok (.aload_n 2, 1) := by decide +kernel
theorem dX9_goBack_7 : decode cX9_goBack 7 = .ok (.ifnonnull 6, 3) := by decide +kernel
theorem dX9_goBack_10 : decode cX9_goBack 10 = .ok (.ldc 136, 2) := by decide +kernel
theorem dX9_goBack_12 : decode cX9_goBack 12 = .ok (.ireturn, 1) := by decide +kernel
theorem dX9_goBack_13 : decode cX9_goBack 13 = .ok (.aload_n 2, 1) := by decide +kernel
theorem dX9_goBack_14 : decode cX9_goBack 14 = .ok (.getfield 330, 3) := by decide +kernel
theorem dX9_goBack_17 : decode cX9_goBack 17 = .ok (.ifCond .ne 6, 3) := by decide +kernel
theorem dX9_goBack_20 : decode cX9_goBack 20 = .ok (.ldc 124, 2) := by decide +kernel
theorem dX9_goBack_22 : decode cX9_goBack 22 = .ok (.ireturn, 1) := by decide +kernel
theorem dX9_goBack_23 : decode cX9_goBack 23 = .ok (.aload_n 0, 1) := by decide +kernel
theorem dX9_goBack_24 : decode cX9_goBack 24 = .ok (.getfield 45, 3) := by decide +kernel
theorem dX9_goBack_27 : decode cX9_goBack 27 = .ok (.aload_n 2, 1) := by decide +kernel
theorem dX9_goBack_28 : decode cX9_goBack 28 = .ok (.invokevirtual 327, 3) := by decide +kernel
theorem dX9_goBack_31 : decode cX9_goBack 31 = .ok (.aload_n 0, 1) := by decide +kernel
theorem dX9_goBack_32 : decode cX9_goBack 32 = .ok (.getfield 45, 3) := by decide +kernel
theorem dX9_goBack_35 : decode cX9_goBack 35 = .ok (.iconst 1, 1) := by decide +kernel
theorem dX9_goBack_36 : decode cX9_goBack 36 = .ok (.aload_n 0, 1) := by decide +kernel
theorem dX9_goBack_37 : decode cX9_goBack 37 = .ok (.getfield 45, 3) := by decide +kernel
theorem dX9_goBack_40 : decode cX9_goBack 40 = .ok (.iconst 1, 1) := by decide +kernel
theorem dX9_goBack_41 : decode cX9_goBack 41 = .ok (.invokevirtual 162, 3) := by decide +kernel
theorem dX9_goBack_44 : decode cX9_goBack 44 = .ok (.aload_n 0, 1) := by decide +kernel
theorem dX9_goBack_45 : decode cX9_goBack 45 = .ok (.iconst 1, 1) := by decide +kernel
theorem dX9_goBack_46 : decode cX9_goBack 46 = .ok (.invokevirtual 159, 3) := by decide +kernel
theorem dX9_goBack_49 : decode cX9_goBack 49 = .ok (.invokestatic 334, 3) := by decide +kernel
theorem dX9_goBack_52 : decode cX9_goBack 52 = .ok (.invokevirtual 165, 3) := by decide +kernel
theorem dX9_goBack_55 : decode cX9_goBack 55 = .ok (.iconst 1, 1) := by decide +kernel
theorem dX9_goBack_56 : decode cX9_goBack 56 = .ok (.ireturn, 1) := by decide +kernel
theorem dX9_swingerAt_0 : decode cX9_swingerAt 0 = .ok (.iload_n 1, 1) := by decide +kernel
theorem dX9_swingerAt_1 : decode cX9_swingerAt 1 = .ok (.ifCond .lt 29, 3) := by decide +kernel
theorem dX9_swingerAt_4 : decode cX9_swingerAt 4 = .ok (.iload_n 1, 1) := by decide +kernel
theorem dX9_swingerAt_5 : decode cX9_swingerAt 5 = .ok (.aload_n 0, 1) := by decide +kernel
theorem dX9_swingerAt_6 : decode cX9_swingerAt 6 = .ok (.getfield 125, 3) := by decide +kernel
theorem dX9_swingerAt_9 : decode cX9_swingerAt 9 = .ok (.if_icmp .ge 21, 3) := by decide +kernel
theorem dX9_swingerAt_12 : decode cX9_swingerAt 12 = .ok (.iload_n 1, 1) := by decide +kernel
theorem dX9_swingerAt_13 : decode cX9_swingerAt 13 = .ok (.aload_n 0, 1) := by decide +kernel
theorem dX9_swingerAt_14 : decode cX9_swingerAt 14 = .ok (.getfield 37, 3) := by decide +kernel
theorem dX9_swingerAt_17 : decode cX9_swingerAt 17 = .ok (.arraylength, 1) := by decide +kernel
theorem dX9_swingerAt_18 : decode cX9_swingerAt 18 = .ok (.if_icmp .ge 12, 3) := by decide +kernel
theorem dX9_swingerAt_21 : decode cX9_swingerAt 21 = .ok (.aload_n 0, 1) := by decide +kernel
theorem dX9_swingerAt_22 : decode cX9_swingerAt 22 = .ok (.getfield 37, 3) := by decide +kernel
theorem dX9_swingerAt_25 : decode cX9_swingerAt 25 = .ok (.iload_n 1, 1) := by decide +kernel
theorem dX9_swingerAt_26 : decode cX9_swingerAt 26 = .ok (.aaload, 1) := by decide +kernel
theorem dX9_swingerAt_27 : decode cX9_swingerAt 27 = .ok (.goto 4, 3) := by decide +kernel
theorem dX9_swingerAt_30 : decode cX9_swingerAt 30 = .ok (.aconst_null, 1) := by decide +kernel
theorem dX9_swingerAt_31 : decode cX9_swingerAt 31 = .ok (.areturn, 1) := by decide +kernel
theorem dX9_imageAt_0 : decode cX9_imageAt 0 = .ok (.iload_n 1, 1) := by decide +kernel
theorem dX9_imageAt_1 : decode cX9_imageAt 1 = .ok (.ifCond .lt 21, 3) := by decide +kernel
theorem dX9_imageAt_4 : decode cX9_imageAt 4 = .ok (.iload_n 1, 1) := by decide +kernel
theorem dX9_imageAt_5 : decode cX9_imageAt 5 = .ok (.aload_n 0, 1) := by decide +kernel
theorem dX9_imageAt_6 : decode cX9_imageAt 6 = .ok (.getfield 49, 3) := by decide +kernel
theorem dX9_imageAt_9 : decode cX9_imageAt 9 = .ok (.arraylength, 1) := by decide +kernel
theorem dX9_imageAt_10 : decode cX9_imageAt 10 = .ok (.if_icmp .ge 12, 3) := by decide +kernel
theorem dX9_imageAt_13 : decode cX9_imageAt 13 = .ok (.aload_n 0, 1) := by decide +kernel
theorem dX9_imageAt_14 : decode cX9_imageAt 14 = .ok (.getfield 49, 3) := by decide +kernel
theorem dX9_imageAt_17 : decode cX9_imageAt 17 = .ok (.iload_n 1, 1) := by decide +kernel
theorem dX9_imageAt_18 : decode cX9_imageAt 18 = .ok (.aaload, 1) := by decide +kernel
theorem dX9_imageAt_19 : decode cX9_imageAt 19 = .ok (.goto 4, 3) := by decide +kernel
theorem dX9_imageAt_22 : decode cX9_imageAt 22 = .ok (.aconst_null, 1) := by decide +kernel
theorem dX9_imageAt_23 : decode cX9_imageAt 23 = .ok (.areturn, 1) := by decide +kernel
theorem dX9_mostInHand_0 : decode cX9_mostInHand 0 = .ok (.getstatic 156, 3) := by decide +kernel
theorem dX9_mostInHand_3 : decode cX9_mostInHand 3 = .ok (.iload_n 1, 1) := by decide +kernel
theorem dX9_mostInHand_4 : decode cX9_mostInHand 4 = .ok (.invokestatic 337, 3) := by decide +kernel
theorem dX9_mostInHand_7 : decode cX9_mostInHand 7 = .ok (.istore_n 2, 1) := by decide +kernel
theorem dX9_mostInHand_8 : decode cX9_mostInHand 8 = .ok (.iload_n 1, 1) := by decide +kernel
theorem dX9_mostInHand_9 : decode cX9_mostInHand 9 = .ok (.iconst 1, 1) := by decide +kernel
theorem dX9_mostInHand_10 : decode cX9_mostInHand 10 = .ok (.if_icmp .ne 21, 3) := by decide +kernel
theorem dX9_mostInHand_13 : decode cX9_mostInHand 13 = .ok (.iload_n 2, 1) := by decide +kernel
theorem dX9_mostInHand_14 : decode cX9_mostInHand 14 = .ok (.aload_n 0, 1) := by decide +kernel
theorem dX9_mostInHand_15 : decode cX9_mostInHand 15 = .ok (.getfield 28, 3) := by decide +kernel
theorem dX9_mostInHand_18 : decode cX9_mostInHand 18 = .ok (.iconst 1, 1) := by decide +kernel
theorem dX9_mostInHand_19 : decode cX9_mostInHand 19 = .ok (.invokevirtual 132, 3) := by decide +kernel
theorem dX9_mostInHand_22 : decode cX9_mostInHand 22 = .ok (.bipush 50, 2) := by decide +kernel
theorem dX9_mostInHand_24 : decode cX9_mostInHand 24 = .ok (.isub, 1) := by decide +kernel
theorem dX9_mostInHand_25 : decode cX9_mostInHand 25 = .ok (.invokestatic 334, 3) := by decide +kernel
theorem dX9_mostInHand_28 : decode cX9_mostInHand 28 = .ok (.goto 4, 3) := by decide +kernel
theorem dX9_mostInHand_31 : decode cX9_mostInHand 31 = .ok (.iload_n 2, 1) := by decide +kernel
theorem dX9_mostInHand_32 : decode cX9_mostInHand 32 = .ok (.ireturn, 1) := by decide +kernel
theorem dX9_lengthNow_0 : decode cX9_lengthNow 0 = .ok (.aload_n 0, 1) := by decide +kernel
theorem dX9_lengthNow_1 : decode cX9_lengthNow 1 = .ok (.getfield 28, 3) := by decide +kernel
theorem dX9_lengthNow_4 : decode cX9_lengthNow 4 = .ok (.iconst 1, 1) := by decide +kernel
theorem dX9_lengthNow_5 : decode cX9_lengthNow 5 = .ok (.invokevirtual 132, 3) := by decide +kernel
theorem dX9_lengthNow_8 : decode cX9_lengthNow 8 = .ok (.aload_n 0, 1) := by decide +kernel
theorem dX9_lengthNow_9 : decode cX9_lengthNow 9 = .ok (.getfield 45, 3) := by decide +kernel
theorem dX9_lengthNow_12 : decode cX9_lengthNow 12 = .ok (.iconst 1, 1) := by decide +kernel
theorem dX9_lengthNow_13 : decode cX9_lengthNow 13 = .ok (.invokevirtual 162, 3) := by decide +kernel
theorem dX9_lengthNow_16 : decode cX9_lengthNow 16 = .ok (.isub, 1) := by decide +kernel
theorem dX9_lengthNow_17 : decode cX9_lengthNow 17 = .ok (.ireturn, 1) := by decide +kernel
theorem dX9_lowerNow_0 : decode cX9_lowerNow 0 = .ok (.aload_n 0, 1) := by decide +kernel
theorem dX9_lowerNow_1 : decode cX9_lowerNow 1 = .ok (.getfield 28, 3) := by decide +kernel
theorem dX9_lowerNow_4 : decode cX9_lowerNow 4 = .ok (.aload_n 0, 1) := by decide +kernel
theorem dX9_lowerNow_5 : decode cX9_lowerNow 5 = .ok (.getfield 45, 3) := by decide +kernel
theorem dX9_lowerNow_8 : decode cX9_lowerNow 8 = .ok (.iconst 0, 1) := by decide +kernel
theorem dX9_lowerNow_9 : decode cX9_lowerNow 9 = .ok (.invokevirtual 162, 3) := by decide +kernel
theorem dX9_lowerNow_12 : decode cX9_lowerNow 12 = .ok (.invokevirtual 265, 3) := by decide +kernel
theorem dX9_lowerNow_15 : decode cX9_lowerNow 15 = .ok (.ireturn, 1) := by decide +kernel
theorem dX9_strengthAfter_0 : decode cX9_strengthAfter 0 = .ok (.aload_n 0, 1) := by decide +kernel
theorem dX9_strengthAfter_1 : decode cX9_strengthAfter 1 = .ok (.getfield 28, 3) := by decide +kernel
theorem dX9_strengthAfter_4 : decode cX9_strengthAfter 4 = .ok (.iconst 2, 1) := by decide +kernel
theorem dX9_strengthAfter_5 : decode cX9_strengthAfter 5 = .ok (.invokevirtual 132, 3) := by decide +kernel
theorem dX9_strengthAfter_8 : decode cX9_strengthAfter 8 = .ok (.istore_n 2, 1) := by decide +kernel
theorem dX9_strengthAfter_9 : decode cX9_strengthAfter 9 = .ok (.iconst 1, 1) := by decide +kernel
theorem dX9_strengthAfter_10 : decode cX9_strengthAfter 10 = .ok (.istore_n 3, 1) := by decide +kernel
theorem dX9_strengthAfter_11 : decode cX9_strengthAfter 11 = .ok (.iload_n 3, 1) := by decide +kernel
theorem dX9_strengthAfter_12 : decode cX9_strengthAfter 12 = .ok (.iload_n 1, 1) := by decide +kernel
theorem dX9_strengthAfter_13 : decode cX9_strengthAfter 13 = .ok (.if_icmp .gt 25, 3) := by decide +kernel
theorem dX9_strengthAfter_16 : decode cX9_strengthAfter 16 = .ok (.iload_n 2, 1) := by decide +kernel
theorem dX9_strengthAfter_17 : decode cX9_strengthAfter 17 = .ok (.iload_n 2, 1) := by decide +kernel
theorem dX9_strengthAfter_18 : decode cX9_strengthAfter 18 = .ok (.aload_n 0, 1) := by decide +kernel
theorem dX9_strengthAfter_19 : decode cX9_strengthAfter 19 = .ok (.getfield 28, 3) := by decide +kernel
theorem dX9_strengthAfter_22 : decode cX9_strengthAfter 22 = .ok (.iconst 3, 1) := by decide +kernel
theorem dX9_strengthAfter_23 : decode cX9_strengthAfter 23 = .ok (.invokevirtual 132, 3) := by decide +kernel
theorem dX9_strengthAfter_26 : decode cX9_strengthAfter 26 = .ok (.imul, 1) := by decide +kernel
theorem dX9_strengthAfter_27 : decode cX9_strengthAfter 27 = .ok (.bipush 100, 2) := by decide +kernel
theorem dX9_strengthAfter_29 : decode cX9_strengthAfter 29 = .ok (.idiv, 1) := by decide +kernel
theorem dX9_strengthAfter_30 : decode cX9_strengthAfter 30 = .ok (.isub, 1) := by decide +kernel
theorem dX9_strengthAfter_31 : decode cX9_strengthAfter 31 = .ok (.istore_n 2, 1) := by decide +kernel
theorem dX9_strengthAfter_32 : decode cX9_strengthAfter 32 = .ok (.iinc 3 1, 3) := by decide +kernel
theorem dX9_strengthAfter_35 : decode cX9_strengthAfter 35 = .ok (.goto (-24), 3) := by decide +kernel
theorem dX9_strengthAfter_38 : decode cX9_strengthAfter 38 = .ok (.iload_n 2, 1) := by decide +kernel
theorem dX9_strengthAfter_39 : decode cX9_strengthAfter 39 = .ok (.ireturn, 1) := by decide +kernel
theorem dX9_traceNow_0 : decode cX9_traceNow 0 = .ok (.aload_n 0, 1) := by decide +kernel
theorem dX9_traceNow_1 : decode cX9_traceNow 1 = .ok (.getfield 63, 3) := by decide +kernel
theorem dX9_traceNow_4 : decode cX9_traceNow 4 = .ok (.aload_n 0, 1) := by decide +kernel
theorem dX9_traceNow_5 : decode cX9_traceNow 5 = .ok (.getfield 28, 3) := by decide +kernel
theorem dX9_traceNow_8 : decode cX9_traceNow 8 = .ok (.iconst 0, 1) := by decide +kernel
theorem dX9_traceNow_9 : decode cX9_traceNow 9 = .ok (.invokevirtual 132, 3) := by decide +kernel
theorem dX9_traceNow_12 : decode cX9_traceNow 12 = .ok (.aload_n 0, 1) := by decide +kernel
theorem dX9_traceNow_13 : decode cX9_traceNow 13 = .ok (.invokevirtual 169, 3) := by decide +kernel
theorem dX9_traceNow_16 : decode cX9_traceNow 16 = .ok (.aload_n 0, 1) := by decide +kernel
theorem dX9_traceNow_17 : decode cX9_traceNow 17 = .ok (.getfield 45, 3) := by decide +kernel
theorem dX9_traceNow_20 : decode cX9_traceNow 20 = .ok (.iconst 3, 1) := by decide +kernel
theorem dX9_traceNow_21 : decode cX9_traceNow 21 = .ok (.invokevirtual 162, 3) := by decide +kernel
theorem dX9_traceNow_24 : decode cX9_traceNow 24 = .ok (.aload_n 0, 1) := by decide +kernel
theorem dX9_traceNow_25 : decode cX9_traceNow 25 = .ok (.getfield 45, 3) := by decide +kernel
theorem dX9_traceNow_28 : decode cX9_traceNow 28 = .ok (.iconst 4, 1) := by decide +kernel
theorem dX9_traceNow_29 : decode cX9_traceNow 29 = .ok (.invokevirtual 162, 3) := by decide +kernel
theorem dX9_traceNow_32 : decode cX9_traceNow 32 = .ok (.invokevirtual 273, 3) := by decide +kernel
theorem dX9_traceNow_35 : decode cX9_traceNow 35 = .ok (.return_, 1) := by decide +kernel
theorem dX9_ready_0 : decode cX9_ready 0 = .ok (.aload_n 0, 1) := by decide +kernel
theorem dX9_ready_1 : decode cX9_ready 1 = .ok (.getfield 63, 3) := by decide +kernel
theorem dX9_ready_4 : decode cX9_ready 4 = .ok (.aload_n 0, 1) := by decide +kernel
theorem dX9_ready_5 : decode cX9_ready 5 = .ok (.getfield 28, 3) := by decide +kernel
theorem dX9_ready_8 : decode cX9_ready 8 = .ok (.iconst 0, 1) := by decide +kernel
theorem dX9_ready_9 : decode cX9_ready 9 = .ok (.invokevirtual 132, 3) := by decide +kernel
theorem dX9_ready_12 : decode cX9_ready 12 = .ok (.aload_n 0, 1) := by decide +kernel
theorem dX9_ready_13 : decode cX9_ready 13 = .ok (.invokevirtual 169, 3) := by decide +kernel
theorem dX9_ready_16 : decode cX9_ready 16 = .ok (.aload_n 0, 1) := by decide +kernel
theorem dX9_ready_17 : decode cX9_ready 17 = .ok (.getfield 45, 3) := by decide +kernel
theorem dX9_ready_20 : decode cX9_ready 20 = .ok (.iconst 3, 1) := by decide +kernel
theorem dX9_ready_21 : decode cX9_ready 21 = .ok (.invokevirtual 162, 3) := by decide +kernel
theorem dX9_ready_24 : decode cX9_ready 24 = .ok (.aload_n 0, 1) := by decide +kernel
theorem dX9_ready_25 : decode cX9_ready 25 = .ok (.getfield 45, 3) := by decide +kernel
theorem dX9_ready_28 : decode cX9_ready 28 = .ok (.iconst 4, 1) := by decide +kernel
theorem dX9_ready_29 : decode cX9_ready 29 = .ok (.invokevirtual 162, 3) := by decide +kernel
theorem dX9_ready_32 : decode cX9_ready 32 = .ok (.invokevirtual 273, 3) := by decide +kernel
theorem dX9_ready_35 : decode cX9_ready 35 = .ok (.aload_n 0, 1) := by decide +kernel
theorem dX9_ready_36 : decode cX9_ready 36 = .ok (.getfield 72, 3) := by decide +kernel
theorem dX9_ready_39 : decode cX9_ready 39 = .ok (.aload_n 0, 1) := by decide +kernel
theorem dX9_ready_40 : decode cX9_ready 40 = .ok (.aload_n 0, 1) := by decide +kernel
theorem dX9_ready_41 : decode cX9_ready 41 = .ok (.getfield 45, 3) := by decide +kernel
theorem dX9_ready_44 : decode cX9_ready 44 = .ok (.iconst 2, 1) := by decide +kernel
theorem dX9_ready_45 : decode cX9_ready 45 = .ok (.invokevirtual 162, 3) := by decide +kernel
theorem dX9_ready_48 : decode cX9_ready 48 = .ok (.invokevirtual 172, 3) := by decide +kernel
theorem dX9_ready_51 : decode cX9_ready 51 = .ok (.putfield 294, 3) := by decide +kernel
theorem dX9_ready_54 : decode cX9_ready 54 = .ok (.aload_n 0, 1) := by decide +kernel
theorem dX9_ready_55 : decode cX9_ready 55 = .ok (.getfield 72, 3) := by decide +kernel
theorem dX9_ready_58 : decode cX9_ready 58 = .ok (.aload_n 0, 1) := by decide +kernel
theorem dX9_ready_59 : decode cX9_ready 59 = .ok (.invokevirtual 140, 3) := by decide +kernel
theorem dX9_ready_62 : decode cX9_ready 62 = .ok (.putfield 268, 3) := by decide +kernel
theorem dX9_ready_65 : decode cX9_ready 65 = .ok (.aload_n 0, 1) := by decide +kernel
theorem dX9_ready_66 : decode cX9_ready 66 = .ok (.getfield 72, 3) := by decide +kernel
theorem dX9_ready_69 : decode cX9_ready 69 = .ok (.aload_n 1, 1) := by decide +kernel
theorem dX9_ready_70 : decode cX9_ready 70 = .ok (.invokevirtual 341, 3) := by decide +kernel
theorem dX9_ready_73 : decode cX9_ready 73 = .ok (.aload_n 0, 1) := by decide +kernel
theorem dX9_ready_74 : decode cX9_ready 74 = .ok (.getfield 72, 3) := by decide +kernel
theorem dX9_ready_77 : decode cX9_ready 77 = .ok (.invokevirtual 270, 3) := by decide +kernel
theorem dX9_ready_80 : decode cX9_ready 80 = .ok (.return_, 1) := by decide +kernel
theorem dX9_findFarthest_0 : decode cX9_findFarthest 0 = .ok (.iconst 0, 1) := by decide +kernel
theorem dX9_findFarthest_1 : decode cX9_findFarthest 1 = .ok (.istore_n 1, 1) := by decide +kernel
theorem dX9_findFarthest_2 : decode cX9_findFarthest 2 = .ok (.iload_n 1, 1) := by decide +kernel
theorem dX9_findFarthest_3 : decode cX9_findFarthest 3 = .ok (.aload_n 0, 1) := by decide +kernel
theorem dX9_findFarthest_4 : decode cX9_findFarthest 4 = .ok (.getfield 125, 3) := by decide +kernel
theorem dX9_findFarthest_7 : decode cX9_findFarthest 7 = .ok (.if_icmp .ge 66, 3) := by decide +kernel
theorem dX9_findFarthest_10 : decode cX9_findFarthest 10 = .ok (.aload_n 0, 1) := by decide +kernel
theorem dX9_findFarthest_11 : decode cX9_findFarthest 11 = .ok (.iload_n 1, 1) := by decide +kernel
theorem dX9_findFarthest_12 : decode cX9_findFarthest 12 = .ok (.invokevirtual 147, 3) := by decide +kernel
theorem dX9_findFarthest_15 : decode cX9_findFarthest 15 = .ok (.astore_n 2, 1) := by decide +kernel
theorem dX9_findFarthest_16 : decode cX9_findFarthest 16 = .ok (.aload_n 2, 1) := by decide +kernel
theorem dX9_findFarthest_17 : decode cX9_findFarthest 17 = .ok (.ifnull 50, 3) := by decide +kernel
theorem dX9_findFarthest_20 : decode cX9_findFarthest 20 = .ok (.aload_n 0, 1) := by decide +kernel
theorem dX9_findFarthest_21 : decode cX9_findFarthest 21 = .ok (.aload_n 2, 1) := by decide +kernel
theorem dX9_findFarthest_22 : decode cX9_findFarthest 22 = .ok (.invokevirtual 200, 3) := by decide +kernel
theorem dX9_findFarthest_25 : decode cX9_findFarthest 25 = .ok (.aload_n 0, 1) := by decide +kernel
theorem dX9_findFarthest_26 : decode cX9_findFarthest 26 = .ok (.getfield 79, 3) := by decide +kernel
theorem dX9_findFarthest_29 : decode cX9_findFarthest 29 = .ok (.aload_n 0, 1) := by decide +kernel
theorem dX9_findFarthest_30 : decode cX9_findFarthest 30 = .ok (.getfield 72, 3) := by decide +kernel
theorem dX9_findFarthest_33 : decode cX9_findFarthest 33 = .ok (.invokevirtual 228, 3) := by decide +kernel
theorem dX9_findFarthest_36 : decode cX9_findFarthest 36 = .ok (.aload_n 0, 1) := by decide +kernel
theorem dX9_findFarthest_37 : decode cX9_findFarthest 37 = .ok (.getfield 83, 3) := by decide +kernel
theorem dX9_findFarthest_40 : decode cX9_findFarthest 40 = .ok (.iload_n 1, 1) := by decide +kernel
theorem dX9_findFarthest_41 : decode cX9_findFarthest 41 = .ok (.aload_n 0, 1) := by decide +kernel
theorem dX9_findFarthest_42 : decode cX9_findFarthest 42 = .ok (.getfield 79, 3) := by decide +kernel
theorem dX9_findFarthest_45 : decode cX9_findFarthest 45 = .ok (.getfield 232, 3) := by decide +kernel
theorem dX9_findFarthest_48 : decode cX9_findFarthest 48 = .ok (.iconst (-1), 1) := by decide +kernel
theorem dX9_findFarthest_49 : decode cX9_findFarthest 49 = .ok (.if_icmp .ne 8, 3) := by decide +kernel
theorem dX9_findFarthest_52 : decode cX9_findFarthest 52 = .ok (.bipush 20, 2) := by decide +kernel
theorem dX9_findFarthest_54 : decode cX9_findFarthest 54 = .ok (.goto 10, 3) := by decide +kernel
theorem dX9_findFarthest_57 : decode cX9_findFarthest 57 = .ok (.aload_n 0, 1) := by decide +kernel
theorem dX9_findFarthest_58 : decode cX9_findFarthest 58 = .ok (.getfield 79, 3) := by decide +kernel
theorem dX9_findFarthest_61 : decode cX9_findFarthest 61 = .ok (.getfield 232, 3) := by decide +kernel
theorem dX9_findFarthest_64 : decode cX9_findFarthest 64 = .ok (.invokestatic 344, 3) := by decide +kernel
theorem dX9_findFarthest_67 : decode cX9_findFarthest 67 = .ok (.iinc 1 1, 3) := by decide +kernel
theorem dX9_findFarthest_70 : decode cX9_findFarthest 70 = .ok (.goto (-68), 3) := by decide +kernel
theorem dX9_findFarthest_73 : decode cX9_findFarthest 73 = .ok (.return_, 1) := by decide +kernel
theorem dX9_harmedBy_0 : decode cX9_harmedBy 0 = .ok (.iconst 0, 1) := by decide +kernel
theorem dX9_harmedBy_1 : decode cX9_harmedBy 1 = .ok (.istore_n 2, 1) := by decide +kernel
theorem dX9_harmedBy_2 : decode cX9_harmedBy 2 = .ok (.iconst 0, 1) := by decide +kernel
theorem dX9_harmedBy_3 : decode cX9_harmedBy 3 = .ok (.istore_n 3, 1) := by decide +kernel
theorem dX9_harmedBy_4 : decode cX9_harmedBy 4 = .ok (.iload_n 3, 1) := by decide +kernel
theorem dX9_harmedBy_5 : decode cX9_harmedBy 5 = .ok (.aload_n 0, 1) := by decide +kernel
theorem dX9_harmedBy_6 : decode cX9_harmedBy 6 = .ok (.getfield 125, 3) := by decide +kernel
theorem dX9_harmedBy_9 : decode cX9_harmedBy 9 = .ok (.if_icmp .ge 55, 3) := by decide +kernel
theorem dX9_harmedBy_12 : decode cX9_harmedBy 12 = .ok (.aload_n 0, 1) := by decide +kernel
theorem dX9_harmedBy_13 : decode cX9_harmedBy 13 = .ok (.iload_n 3, 1) := by decide +kernel
theorem dX9_harmedBy_14 : decode cX9_harmedBy 14 = .ok (.invokevirtual 147, 3) := by decide +kernel
theorem dX9_harmedBy_17 : decode cX9_harmedBy 17 = .ok (.astore 4, 2) := by decide +kernel
theorem dX9_harmedBy_19 : decode cX9_harmedBy 19 = .ok (.aload 4, 2) := by decide +kernel
theorem dX9_harmedBy_21 : decode cX9_harmedBy 21 = .ok (.ifnull 37, 3) := by decide +kernel
theorem dX9_harmedBy_24 : decode cX9_harmedBy 24 = .ok (.aload_n 0, 1) := by decide +kernel
theorem dX9_harmedBy_25 : decode cX9_harmedBy 25 = .ok (.aload 4, 2) := by decide +kernel
theorem dX9_harmedBy_27 : decode cX9_harmedBy 27 = .ok (.iload_n 1, 1) := by decide +kernel
theorem dX9_harmedBy_28 : decode cX9_harmedBy 28 = .ok (.invokevirtual 348, 3) := by decide +kernel
theorem dX9_harmedBy_31 : decode cX9_harmedBy 31 = .ok (.ifCond .ne 27, 3) := by decide +kernel
theorem dX9_harmedBy_34 : decode cX9_harmedBy 34 = .ok (.aload_n 0, 1) := by decide +kernel
theorem dX9_harmedBy_35 : decode cX9_harmedBy 35 = .ok (.aload 4, 2) := by decide +kernel
theorem dX9_harmedBy_37 : decode cX9_harmedBy 37 = .ok (.aload_n 0, 1) := by decide +kernel
theorem dX9_harmedBy_38 : decode cX9_harmedBy 38 = .ok (.getfield 83, 3) := by decide +kernel
theorem dX9_harmedBy_41 : decode cX9_harmedBy 41 = .ok (.iload_n 3, 1) := by decide +kernel
theorem dX9_harmedBy_42 : decode cX9_harmedBy 42 = .ok (.invokestatic 337, 3) := by decide +kernel
theorem dX9_harmedBy_45 : decode cX9_harmedBy 45 = .ok (.iload_n 1, 1) := by decide +kernel
theorem dX9_harmedBy_46 : decode cX9_harmedBy 46 = .ok (.invokevirtual 352, 3) := by decide +kernel
theorem dX9_harmedBy_49 : decode cX9_harmedBy 49 = .ok (.ifCond .eq 9, 3) := by decide +kernel
theorem dX9_harmedBy_52 : decode cX9_harmedBy 52 = .ok (.iload_n 2, 1) := by decide +kernel
theorem dX9_harmedBy_53 : decode cX9_harmedBy 53 = .ok (.iconst 1, 1) := by decide +kernel
theorem dX9_harmedBy_54 : decode cX9_harmedBy 54 = .ok (.iload_n 3, 1) := by decide +kernel
theorem dX9_harmedBy_55 : decode cX9_harmedBy 55 = .ok (.ishl, 1) := by decide +kernel
theorem dX9_harmedBy_56 : decode cX9_harmedBy 56 = .ok (.ior, 1) := by decide +kernel
theorem dX9_harmedBy_57 : decode cX9_harmedBy 57 = .ok (.istore_n 2, 1) := by decide +kernel
theorem dX9_harmedBy_58 : decode cX9_harmedBy 58 = .ok (.iinc 3 1, 3) := by decide +kernel
theorem dX9_harmedBy_61 : decode cX9_harmedBy 61 = .ok (.goto (-57), 3) := by decide +kernel
theorem dX9_harmedBy_64 : decode cX9_harmedBy 64 = .ok (.iload_n 2, 1) := by decide +kernel
theorem dX9_harmedBy_65 : decode cX9_harmedBy 65 = .ok (.ireturn, 1) := by decide +kernel
theorem dX9_keptOut_0 : decode cX9_keptOut 0 = .ok (.iload_n 2, 1) := by decide +kernel
theorem dX9_keptOut_1 : decode cX9_keptOut 1 = .ok (.iconst 1, 1) := by decide +kernel
theorem dX9_keptOut_2 : decode cX9_keptOut 2 = .ok (.iand, 1) := by decide +kernel
theorem dX9_keptOut_3 : decode cX9_keptOut 3 = .ok (.ifCond .eq 13, 3) := by decide +kernel
theorem dX9_keptOut_6 : decode cX9_keptOut 6 = .ok (.aload_n 1, 1) := by decide +kernel
theorem dX9_keptOut_7 : decode cX9_keptOut 7 = .ok (.iconst 0, 1) := by decide +kernel
theorem dX9_keptOut_8 : decode cX9_keptOut 8 = .ok (.invokevirtual 155, 3) := by decide +kernel
theorem dX9_keptOut_11 : decode cX9_keptOut 11 = .ok (.bipush 30, 2) := by decide +kernel
theorem dX9_keptOut_13 : decode cX9_keptOut 13 = .ok (.if_icmp .lt 35, 3) := by decide +kernel
theorem dX9_keptOut_16 : decode cX9_keptOut 16 = .ok (.iload_n 2, 1) := by decide +kernel
theorem dX9_keptOut_17 : decode cX9_keptOut 17 = .ok (.iconst 2, 1) := by decide +kernel
theorem dX9_keptOut_18 : decode cX9_keptOut 18 = .ok (.iand, 1) := by decide +kernel
theorem dX9_keptOut_19 : decode cX9_keptOut 19 = .ok (.ifCond .eq 13, 3) := by decide +kernel
theorem dX9_keptOut_22 : decode cX9_keptOut 22 = .ok (.aload_n 1, 1) := by decide +kernel
theorem dX9_keptOut_23 : decode cX9_keptOut 23 = .ok (.iconst 0, 1) := by decide +kernel
theorem dX9_keptOut_24 : decode cX9_keptOut 24 = .ok (.invokevirtual 155, 3) := by decide +kernel
theorem dX9_keptOut_27 : decode cX9_keptOut 27 = .ok (.bipush 90, 2) := by decide +kernel
theorem dX9_keptOut_29 : decode cX9_keptOut 29 = .ok (.if_icmp .gt 19, 3) := by decide +kernel
theorem dX9_keptOut_32 : decode cX9_keptOut 32 = .ok (.iload_n 2, 1) := by decide +kernel
theorem dX9_keptOut_33 : decode cX9_keptOut 33 = .ok (.bipush 32, 2) := by decide +kernel
theorem dX9_keptOut_35 : decode cX9_keptOut 35 = .ok (.iand, 1) := by decide +kernel
theorem dX9_keptOut_36 : decode cX9_keptOut 36 = .ok (.ifCond .eq 16, 3) := by decide +kernel
theorem dX9_keptOut_39 : decode cX9_keptOut 39 = .ok (.aload_n 0, 1) := by decide +kernel
theorem dX9_keptOut_40 : decode cX9_keptOut 40 = .ok (.invokevirtual 140, 3) := by decide +kernel
theorem dX9_keptOut_43 : decode cX9_keptOut 43 = .ok (.bipush 50, 2) := by decide +kernel
theorem dX9_keptOut_45 : decode cX9_keptOut 45 = .ok (.if_icmp .lt 7, 3) := by decide +kernel
theorem dX9_keptOut_48 : decode cX9_keptOut 48 = .ok (.iconst 1, 1) := by decide +kernel
theorem dX9_keptOut_49 : decode cX9_keptOut 49 = .ok (.goto 4, 3) := by decide +kernel
theorem dX9_keptOut_52 : decode cX9_keptOut 52 = .ok (.iconst 0, 1) := by decide +kernel
theorem dX9_keptOut_53 : decode cX9_keptOut 53 = .ok (.ireturn, 1) := by decide +kernel
theorem dX9_comesToHarm_0 : decode cX9_comesToHarm 0 = .ok (.iload_n 3, 1) := by decide +kernel
theorem dX9_comesToHarm_1 : decode cX9_comesToHarm 1 = .ok (.iconst 4, 1) := by decide +kernel
theorem dX9_comesToHarm_2 : decode cX9_comesToHarm 2 = .ok (.iand, 1) := by decide +kernel
theorem dX9_comesToHarm_3 : decode cX9_comesToHarm 3 = .ok (.ifCond .eq 7, 3) := by decide +kernel
theorem dX9_comesToHarm_6 : decode cX9_comesToHarm 6 = .ok (.iconst 0, 1) := by decide +kernel
theorem dX9_comesToHarm_7 : decode cX9_comesToHarm 7 = .ok (.goto 11, 3) := by decide +kernel
theorem dX9_comesToHarm_10 : decode cX9_comesToHarm 10 = .ok (.aload_n 0, 1) := by decide +kernel
theorem dX9_comesToHarm_11 : decode cX9_comesToHarm 11 = .ok (.getfield 45, 3) := by decide +kernel
theorem dX9_comesToHarm_14 : decode cX9_comesToHarm 14 = .ok (.iconst 4, 1) := by decide +kernel
theorem dX9_comesToHarm_15 : decode cX9_comesToHarm 15 = .ok (.invokevirtual 162, 3) := by decide +kernel
theorem dX9_comesToHarm_18 : decode cX9_comesToHarm 18 = .ok (.istore 4, 2) := by decide +kernel
theorem dX9_comesToHarm_20 : decode cX9_comesToHarm 20 = .ok (.aload_n 0, 1) := by decide +kernel
theorem dX9_comesToHarm_21 : decode cX9_comesToHarm 21 = .ok (.getfield 63, 3) := by decide +kernel
theorem dX9_comesToHarm_24 : decode cX9_comesToHarm 24 = .ok (.aload_n 0, 1) := by decide +kernel
theorem dX9_comesToHarm_25 : decode cX9_comesToHarm 25 = .ok (.getfield 28, 3) := by decide +kernel
theorem dX9_comesToHarm_28 : decode cX9_comesToHarm 28 = .ok (.iconst 0, 1) := by decide +kernel
theorem dX9_comesToHarm_29 : decode cX9_comesToHarm 29 = .ok (.invokevirtual 132, 3) := by decide +kernel
theorem dX9_comesToHarm_32 : decode cX9_comesToHarm 32 = .ok (.aload_n 0, 1) := by decide +kernel
theorem dX9_comesToHarm_33 : decode cX9_comesToHarm 33 = .ok (.invokevirtual 169, 3) := by decide +kernel
theorem dX9_comesToHarm_36 : decode cX9_comesToHarm 36 = .ok (.aload_n 0, 1) := by decide +kernel
theorem dX9_comesToHarm_37 : decode cX9_comesToHarm 37 = .ok (.getfield 45, 3) := by decide +kernel
theorem dX9_comesToHarm_40 : decode cX9_comesToHarm 40 = .ok (.iconst 3, 1) := by decide +kernel
theorem dX9_comesToHarm_41 : decode cX9_comesToHarm 41 = .ok (.invokevirtual 162, 3) := by decide +kernel
theorem dX9_comesToHarm_44 : decode cX9_comesToHarm 44 = .ok (.iload 4, 2) := by decide +kernel
theorem dX9_comesToHarm_46 : decode cX9_comesToHarm 46 = .ok (.invokevirtual 273, 3) := by decide +kernel
theorem dX9_comesToHarm_49 : decode cX9_comesToHarm 49 = .ok (.aload_n 0, 1) := by decide +kernel
theorem dX9_comesToHarm_50 : decode cX9_comesToHarm 50 = .ok (.getfield 72, 3) := by decide +kernel
theorem dX9_comesToHarm_53 : decode cX9_comesToHarm 53 = .ok (.aload_n 0, 1) := by decide +kernel
theorem dX9_comesToHarm_54 : decode cX9_comesToHarm 54 = .ok (.iload_n 3, 1) := by decide +kernel
theorem dX9_comesToHarm_55 : decode cX9_comesToHarm 55 = .ok (.bipush 8, 2) := by decide +kernel
theorem dX9_comesToHarm_57 : decode cX9_comesToHarm 57 = .ok (.iand, 1) := by decide +kernel
theorem dX9_comesToHarm_58 : decode cX9_comesToHarm 58 = .ok (.ifCond .eq 7, 3) := by decide +kernel
theorem dX9_comesToHarm_61 : decode cX9_comesToHarm 61 = .ok (.iconst 0, 1) := by decide +kernel
theorem dX9_comesToHarm_62 : decode cX9_comesToHarm 62 = .ok (.goto 11, 3) := by decide +kernel
theorem dX9_comesToHarm_65 : decode cX9_comesToHarm 65 = .ok (.aload_n 0, 1) := by decide +kernel
theorem dX9_comesToHarm_66 : decode cX9_comesToHarm 66 = .ok (.getfield 45, 3) := by decide +kernel
theorem dX9_comesToHarm_69 : decode cX9_comesToHarm 69 = .ok (.iconst 2, 1) := by decide +kernel
theorem dX9_comesToHarm_70 : decode cX9_comesToHarm 70 = .ok (.invokevirtual 162, 3) := by decide +kernel
theorem dX9_comesToHarm_73 : decode cX9_comesToHarm 73 = .ok (.invokevirtual 172, 3) := by decide +kernel
theorem dX9_comesToHarm_76 : decode cX9_comesToHarm 76 = .ok (.putfield 294, 3) := by decide +kernel
theorem dX9_comesToHarm_79 : decode cX9_comesToHarm 79 = .ok (.aload_n 0, 1) := by decide +kernel
theorem dX9_comesToHarm_80 : decode cX9_comesToHarm 80 = .ok (.getfield 72, 3) := by decide +kernel
theorem dX9_comesToHarm_83 : decode cX9_comesToHarm 83 = .ok (.aload_n 0, 1) := by decide +kernel
theorem dX9_comesToHarm_84 : decode cX9_comesToHarm 84 = .ok (.invokevirtual 140, 3) := by decide +kernel
theorem dX9_comesToHarm_87 : decode cX9_comesToHarm 87 = .ok (.putfield 268, 3) := by decide +kernel
theorem dX9_comesToHarm_90 : decode cX9_comesToHarm 90 = .ok (.aload_n 0, 1) := by decide +kernel
theorem dX9_comesToHarm_91 : decode cX9_comesToHarm 91 = .ok (.getfield 72, 3) := by decide +kernel
theorem dX9_comesToHarm_94 : decode cX9_comesToHarm 94 = .ok (.aload_n 1, 1) := by decide +kernel
theorem dX9_comesToHarm_95 : decode cX9_comesToHarm 95 = .ok (.invokevirtual 341, 3) := by decide +kernel
theorem dX9_comesToHarm_98 : decode cX9_comesToHarm 98 = .ok (.iload_n 3, 1) := by decide +kernel
theorem dX9_comesToHarm_99 : decode cX9_comesToHarm 99 = .ok (.bipush 16, 2) := by decide +kernel
theorem dX9_comesToHarm_101 : decode cX9_comesToHarm 101 = .ok (.iand, 1) := by decide +kernel
theorem dX9_comesToHarm_102 : decode cX9_comesToHarm 102 = .ok (.ifCond .eq 11, 3) := by decide +kernel
theorem dX9_comesToHarm_105 : decode cX9_comesToHarm 105 = .ok (.aload_n 0, 1) := by decide +kernel
theorem dX9_comesToHarm_106 : decode cX9_comesToHarm 106 = .ok (.getfield 72, 3) := by decide +kernel
theorem dX9_comesToHarm_109 : decode cX9_comesToHarm 109 = .ok (.iconst 0, 1) := by decide +kernel
theorem dX9_comesToHarm_110 : decode cX9_comesToHarm 110 = .ok (.putfield 204, 3) := by decide +kernel
theorem dX9_comesToHarm_113 : decode cX9_comesToHarm 113 = .ok (.aload_n 0, 1) := by decide +kernel
theorem dX9_comesToHarm_114 : decode cX9_comesToHarm 114 = .ok (.getfield 72, 3) := by decide +kernel
theorem dX9_comesToHarm_117 : decode cX9_comesToHarm 117 = .ok (.invokevirtual 270, 3) := by decide +kernel
theorem dX9_comesToHarm_120 : decode cX9_comesToHarm 120 = .ok (.aload_n 0, 1) := by decide +kernel
theorem dX9_comesToHarm_121 : decode cX9_comesToHarm 121 = .ok (.getfield 72, 3) := by decide +kernel
theorem dX9_comesToHarm_124 : decode cX9_comesToHarm 124 = .ok (.iload_n 2, 1) := by decide +kernel
theorem dX9_comesToHarm_125 : decode cX9_comesToHarm 125 = .ok (.aload_n 0, 1) := by decide +kernel
theorem dX9_comesToHarm_126 : decode cX9_comesToHarm 126 = .ok (.getfield 72, 3) := by decide +kernel
theorem dX9_comesToHarm_129 : decode cX9_comesToHarm 129 = .ok (.getfield 204, 3) := by decide +kernel
theorem dX9_comesToHarm_132 : decode cX9_comesToHarm 132 = .ok (.iadd, 1) := by decide +kernel
theorem dX9_comesToHarm_133 : decode cX9_comesToHarm 133 = .ok (.invokevirtual 244, 3) := by decide +kernel
theorem dX9_comesToHarm_136 : decode cX9_comesToHarm 136 = .ok (.ifCond .ne 7, 3) := by decide +kernel
theorem dX9_comesToHarm_139 : decode cX9_comesToHarm 139 = .ok (.iconst 1, 1) := by decide +kernel
theorem dX9_comesToHarm_140 : decode cX9_comesToHarm 140 = .ok (.goto 4, 3) := by decide +kernel
theorem dX9_comesToHarm_143 : decode cX9_comesToHarm 143 = .ok (.iconst 0, 1) := by decide +kernel
theorem dX9_comesToHarm_144 : decode cX9_comesToHarm 144 = .ok (.ireturn, 1) := by decide +kernel
theorem dX9_within_0 : decode cX9_within 0 = .ok (.iload_n 0, 1) := by decide +kernel
theorem dX9_within_1 : decode cX9_within 1 = .ok (.iload_n 1, 1) := by decide +kernel
theorem dX9_within_2 : decode cX9_within 2 = .ok (.if_icmp .lt 12, 3) := by decide +kernel
theorem dX9_within_5 : decode cX9_within 5 = .ok (.iload_n 0, 1) := by decide +kernel
theorem dX9_within_6 : decode cX9_within 6 = .ok (.iload_n 2, 1) := by decide +kernel
theorem dX9_within_7 : decode cX9_within 7 = .ok (.if_icmp .gt 7, 3) := by decide +kernel
theorem dX9_within_10 : decode cX9_within 10 = .ok (.iconst 1, 1) := by decide +kernel
theorem dX9_within_11 : decode cX9_within 11 = .ok (.goto 4, 3) := by decide +kernel
theorem dX9_within_14 : decode cX9_within 14 = .ok (.iconst 0, 1) := by decide +kernel
theorem dX9_within_15 : decode cX9_within 15 = .ok (.ireturn, 1) := by decide +kernel
theorem dX9_isGood_0 : decode cX9_isGood 0 = .ok (.iload_n 0, 1) := by decide +kernel
theorem dX9_isGood_1 : decode cX9_isGood 1 = .ok (.iconst 1, 1) := by decide +kernel
theorem dX9_isGood_2 : decode cX9_isGood 2 = .ok (.if_icmp .eq 8, 3) := by decide +kernel
theorem dX9_isGood_5 : decode cX9_isGood 5 = .ok (.iload_n 0, 1) := by decide +kernel
theorem dX9_isGood_6 : decode cX9_isGood 6 = .ok (.iconst 2, 1) := by decide +kernel
theorem dX9_isGood_7 : decode cX9_isGood 7 = .ok (.if_icmp .ne 7, 3) := by decide +kernel
theorem dX9_isGood_10 : decode cX9_isGood 10 = .ok (.iconst 1, 1) := by decide +kernel
theorem dX9_isGood_11 : decode cX9_isGood 11 = .ok (.goto 4, 3) := by decide +kernel
theorem dX9_isGood_14 : decode cX9_isGood 14 = .ok (.iconst 0, 1) := by decide +kernel
theorem dX9_isGood_15 : decode cX9_isGood 15 = .ok (.ireturn, 1) := by decide +kernel
theorem dX9_quotient_0 : decode cX9_quotient 0 = .ok (.iload_n 1, 1) := by decide +kernel
theorem dX9_quotient_1 : decode cX9_quotient 1 = .ok (.ifCond .ne 7, 3) := by decide +kernel
theorem dX9_quotient_4 : decode cX9_quotient 4 = .ok (.iconst 0, 1) := by decide +kernel
theorem dX9_quotient_5 : decode cX9_quotient 5 = .ok (.goto 6, 3) := by decide +kernel
theorem dX9_quotient_8 : decode cX9_quotient 8 = .ok (.iload_n 0, 1) := by decide +kernel
theorem dX9_quotient_9 : decode cX9_quotient 9 = .ok (.iload_n 1, 1) := by decide +kernel
theorem dX9_quotient_10 : decode cX9_quotient 10 = .ok (.idiv, 1) := by decide +kernel
theorem dX9_quotient_11 : decode cX9_quotient 11 = .ok (.ireturn, 1) := by decide +kernel
theorem dX9_at_0 : decode cX9_at 0 = .ok (.iload_n 1, 1) := by decide +kernel
theorem dX9_at_1 : decode cX9_at 1 = .ok (.ifCond .lt 15, 3) := by decide +kernel
theorem dX9_at_4 : decode cX9_at 4 = .ok (.iload_n 1, 1) := by decide +kernel
theorem dX9_at_5 : decode cX9_at 5 = .ok (.aload_n 0, 1) := by decide +kernel
theorem dX9_at_6 : decode cX9_at 6 = .ok (.arraylength, 1) := by decide +kernel
theorem dX9_at_7 : decode cX9_at 7 = .ok (.if_icmp .ge 9, 3) := by decide +kernel
theorem dX9_at_10 : decode cX9_at 10 = .ok (.aload_n 0, 1) := by decide +kernel
theorem dX9_at_11 : decode cX9_at 11 = .ok (.iload_n 1, 1) := by decide +kernel
theorem dX9_at_12 : decode cX9_at 12 = .ok (.iaload, 1) := by decide +kernel
theorem dX9_at_13 : decode cX9_at 13 = .ok (.goto 4, 3) := by decide +kernel
theorem dX9_at_16 : decode cX9_at 16 = .ok (.iconst 0, 1) := by decide +kernel
theorem dX9_at_17 : decode cX9_at 17 = .ok (.ireturn, 1) := by decide +kernel
theorem dX9_put_0 : decode cX9_put 0 = .ok (.iload_n 1, 1) := by decide +kernel
theorem dX9_put_1 : decode cX9_put 1 = .ok (.ifCond .lt 13, 3) := by decide +kernel
theorem dX9_put_4 : decode cX9_put 4 = .ok (.iload_n 1, 1) := by decide +kernel
theorem dX9_put_5 : decode cX9_put 5 = .ok (.aload_n 0, 1) := by decide +kernel
theorem dX9_put_6 : decode cX9_put 6 = .ok (.arraylength, 1) := by decide +kernel
theorem dX9_put_7 : decode cX9_put 7 = .ok (.if_icmp .ge 7, 3) := by decide +kernel
theorem dX9_put_10 : decode cX9_put 10 = .ok (.aload_n 0, 1) := by decide +kernel
theorem dX9_put_11 : decode cX9_put 11 = .ok (.iload_n 1, 1) := by decide +kernel
theorem dX9_put_12 : decode cX9_put 12 = .ok (.iload_n 2, 1) := by decide +kernel
theorem dX9_put_13 : decode cX9_put 13 = .ok (.iastore, 1) := by decide +kernel
theorem dX9_put_14 : decode cX9_put 14 = .ok (.return_, 1) := by decide +kernel
theorem dX9_sineOf_0 : decode cX9_sineOf 0 = .ok (.iload_n 0, 1) := by decide +kernel
theorem dX9_sineOf_1 : decode cX9_sineOf 1 = .ok (.invokestatic 356, 3) := by decide +kernel
theorem dX9_sineOf_4 : decode cX9_sineOf 4 = .ok (.i2l, 1) := by decide +kernel
theorem dX9_sineOf_5 : decode cX9_sineOf 5 = .ok (.lstore_n 1, 1) := by decide +kernel
theorem dX9_sineOf_6 : decode cX9_sineOf 6 = .ok (.lload_n 1, 1) := by decide +kernel
theorem dX9_sineOf_7 : decode cX9_sineOf 7 = .ok (.ldc2_w 359, 3) := by decide +kernel
theorem dX9_sineOf_10 : decode cX9_sineOf 10 = .ok (.lload_n 1, 1) := by decide +kernel
theorem dX9_sineOf_11 : decode cX9_sineOf 11 = .ok (.lsub, 1) := by decide +kernel
theorem dX9_sineOf_12 : decode cX9_sineOf 12 = .ok (.lmul, 1) := by decide +kernel
theorem dX9_sineOf_13 : decode cX9_sineOf 13 = .ok (.lstore_n 3, 1) := by decide +kernel
theorem dX9_sineOf_14 : decode cX9_sineOf 14 = .ok (.ldc2_w 361, 3) := by decide +kernel
theorem dX9_sineOf_17 : decode cX9_sineOf 17 = .ok (.lload_n 3, 1) := by decide +kernel
theorem dX9_sineOf_18 : decode cX9_sineOf 18 = .ok (.lsub, 1) := by decide +kernel
theorem dX9_sineOf_19 : decode cX9_sineOf 19 = .ok (.lstore 5, 2) := by decide +kernel
theorem dX9_sineOf_21 : decode cX9_sineOf 21 = .ok (.lload 5, 2) := by decide +kernel
theorem dX9_sineOf_23 : decode cX9_sineOf 23 = .ok (.lconst 0, 1) := by decide +kernel
theorem dX9_sineOf_24 : decode cX9_sineOf 24 = .ok (.lcmp, 1) := by decide +kernel
theorem dX9_sineOf_25 : decode cX9_sineOf 25 = .ok (.ifCond .ne 5, 3) := by decide +kernel
theorem dX9_sineOf_28 : decode cX9_sineOf 28 = .ok (.iconst 0, 1) := by decide +kernel
theorem dX9_sineOf_29 : decode cX9_sineOf 29 = .ok (.ireturn, 1) := by decide +kernel
theorem dX9_sineOf_30 : decode cX9_sineOf 30 = .ok (.ldc2_w 363, 3) := by decide +kernel
theorem dX9_sineOf_33 : decode cX9_sineOf 33 = .ok (.lload_n 3, 1) := by decide +kernel
theorem dX9_sineOf_34 : decode cX9_sineOf 34 = .ok (.lmul, 1) := by decide +kernel
theorem dX9_sineOf_35 : decode cX9_sineOf 35 = .ok (.lload 5, 2) := by decide +kernel
theorem dX9_sineOf_37 : decode cX9_sineOf 37 = .ok (.ldiv, 1) := by decide +kernel
theorem dX9_sineOf_38 : decode cX9_sineOf 38 = .ok (.l2i, 1) := by decide +kernel
theorem dX9_sineOf_39 : decode cX9_sineOf 39 = .ok (.istore 7, 2) := by decide +kernel
theorem dX9_sineOf_41 : decode cX9_sineOf 41 = .ok (.iload_n 0, 1) := by decide +kernel
theorem dX9_sineOf_42 : decode cX9_sineOf 42 = .ok (.ifCond .ge 9, 3) := by decide +kernel
theorem dX9_sineOf_45 : decode cX9_sineOf 45 = .ok (.iload 7, 2) := by decide +kernel
theorem dX9_sineOf_47 : decode cX9_sineOf 47 = .ok (.ineg, 1) := by decide +kernel
theorem dX9_sineOf_48 : decode cX9_sineOf 48 = .ok (.goto 5, 3) := by decide +kernel
theorem dX9_sineOf_51 : decode cX9_sineOf 51 = .ok (.iload 7, 2) := by decide +kernel
theorem dX9_sineOf_53 : decode cX9_sineOf 53 = .ok (.ireturn, 1) := by decide +kernel
theorem dX9_sizeOf_0 : decode cX9_sizeOf 0 = .ok (.iload_n 0, 1) := by decide +kernel
theorem dX9_sizeOf_1 : decode cX9_sizeOf 1 = .ok (.sipush (-1800), 3) := by decide +kernel
theorem dX9_sizeOf_4 : decode cX9_sizeOf 4 = .ok (.if_icmp .lt 10, 3) := by decide +kernel
theorem dX9_sizeOf_7 : decode cX9_sizeOf 7 = .ok (.iload_n 0, 1) := by decide +kernel
theorem dX9_sizeOf_8 : decode cX9_sizeOf 8 = .ok (.sipush 1800, 3) := by decide +kernel
theorem dX9_sizeOf_11 : decode cX9_sizeOf 11 = .ok (.if_icmp .le 7, 3) := by decide +kernel
theorem dX9_sizeOf_14 : decode cX9_sizeOf 14 = .ok (.sipush 1800, 3) := by decide +kernel
theorem dX9_sizeOf_17 : decode cX9_sizeOf 17 = .ok (.ireturn, 1) := by decide +kernel
theorem dX9_sizeOf_18 : decode cX9_sizeOf 18 = .ok (.iload_n 0, 1) := by decide +kernel
theorem dX9_sizeOf_19 : decode cX9_sizeOf 19 = .ok (.ifCond .ge 8, 3) := by decide +kernel
theorem dX9_sizeOf_22 : decode cX9_sizeOf 22 = .ok (.iload_n 0, 1) := by decide +kernel
theorem dX9_sizeOf_23 : decode cX9_sizeOf 23 = .ok (.ineg, 1) := by decide +kernel
theorem dX9_sizeOf_24 : decode cX9_sizeOf 24 = .ok (.goto 4, 3) := by decide +kernel
theorem dX9_sizeOf_27 : decode cX9_sizeOf 27 = .ok (.iload_n 0, 1) := by decide +kernel
theorem dX9_sizeOf_28 : decode cX9_sizeOf 28 = .ok (.ireturn, 1) := by decide +kernel
theorem dX10_init_0 : decode cX10_init 0 = .ok (.aload_n 0, 1) := by decide +kernel
theorem dX10_init_1 : decode cX10_init 1 = .ok (.invokespecial 1, 3) := by decide +kernel
theorem dX10_init_4 : decode cX10_init 4 = .ok (.aload_n 0, 1) := by decide +kernel
theorem dX10_init_5 : decode cX10_init 5 = .ok (.bipush 9, 2) := by decide +kernel
theorem dX10_init_7 : decode cX10_init 7 = .ok (.newarray .int, 2) := by decide +kernel
theorem dX10_init_9 : decode cX10_init 9 = .ok (.putfield 7, 3) := by decide +kernel
theorem dX10_init_12 : decode cX10_init 12 = .ok (.aload_n 0, 1) := by decide +kernel
theorem dX10_init_13 : decode cX10_init 13 = .ok (.bipush 24, 2) := by decide +kernel
theorem dX10_init_15 : decode cX10_init 15 = .ok (.newarray .int, 2) := by decide +kernel
theorem dX10_init_17 : decode cX10_init 17 = .ok (.putfield 13, 3) := by decide +kernel
theorem dX10_init_20 : decode cX10_init 20 = .ok (.aload_n 0, 1) := by decide +kernel
theorem dX10_init_21 : decode cX10_init 21 = .ok (.bipush 24, 2) := by decide +kernel
theorem dX10_init_23 : decode cX10_init 23 = .ok (.newarray .boolean, 2) := by decide +kernel
theorem dX10_init_25 : decode cX10_init 25 = .ok (.putfield 16, 3) := by decide +kernel
theorem dX10_init_28 : decode cX10_init 28 = .ok (.aload_n 0, 1) := by decide +kernel
theorem dX10_init_29 : decode cX10_init 29 = .ok (.bipush 12, 2) := by decide +kernel
theorem dX10_init_31 : decode cX10_init 31 = .ok (.newarray .int, 2) := by decide +kernel
theorem dX10_init_33 : decode cX10_init 33 = .ok (.putfield 20, 3) := by decide +kernel
theorem dX10_init_36 : decode cX10_init 36 = .ok (.aload_n 0, 1) := by decide +kernel
theorem dX10_init_37 : decode cX10_init 37 = .ok (.bipush 40, 2) := by decide +kernel
theorem dX10_init_39 : decode cX10_init 39 = .ok (.newarray .int, 2) := by decide +kernel
theorem dX10_init_41 : decode cX10_init 41 = .ok (.putfield 23, 3) := by decide +kernel
theorem dX10_init_44 : decode cX10_init 44 = .ok (.aload_n 0, 1) := by decide +kernel
theorem dX10_init_45 : decode cX10_init 45 = .ok (.iconst 5, 1) := by decide +kernel
theorem dX10_init_46 : decode cX10_init 46 = .ok (.newarray .int, 2) := by decide +kernel
theorem dX10_init_48 : decode cX10_init 48 = .ok (.putfield 26, 3) := by decide +kernel
theorem dX10_init_51 : decode cX10_init 51 = .ok (.aload_n 0, 1) := by decide +kernel
theorem dX10_init_52 : decode cX10_init 52 = .ok (.sipush 300, 3) := by decide +kernel
theorem dX10_init_55 : decode cX10_init 55 = .ok (.newarray .int, 2) := by decide +kernel
theorem dX10_init_57 : decode cX10_init 57 = .ok (.putfield 29, 3) := by decide +kernel
theorem dX10_init_60 : decode cX10_init 60 = .ok (.aload_n 0, 1) := by decide +kernel
theorem dX10_init_61 : decode cX10_init 61 = .ok (.iconst (-1), 1) := by decide +kernel
theorem dX10_init_62 : decode cX10_init 62 = .ok (.putfield 32, 3) := by decide +kernel
theorem dX10_init_65 : decode cX10_init 65 = .ok (.aload_n 0, 1) := by decide +kernel
theorem dX10_init_66 : decode cX10_init 66 = .ok (.bipush 9, 2) := by decide +kernel
theorem dX10_init_68 : decode cX10_init 68 = .ok (.newarray .int, 2) := by decide +kernel
theorem dX10_init_70 : decode cX10_init 70 = .ok (.putfield 36, 3) := by decide +kernel
theorem dX10_init_73 : decode cX10_init 73 = .ok (.aload_n 0, 1) := by decide +kernel
theorem dX10_init_74 : decode cX10_init 74 = .ok (.bipush 24, 2) := by decide +kernel
theorem dX10_init_76 : decode cX10_init 76 = .ok (.newarray .int, 2) := by decide +kernel
theorem dX10_init_78 : decode cX10_init 78 = .ok (.putfield 39, 3) := by decide +kernel
theorem dX10_init_81 : decode cX10_init 81 = .ok (.aload_n 0, 1) := by decide +kernel
theorem dX10_init_82 : decode cX10_init 82 = .ok (.bipush 24, 2) := by decide +kernel
theorem dX10_init_84 : decode cX10_init 84 = .ok (.newarray .boolean, 2) := by decide +kernel
theorem dX10_init_86 : decode cX10_init 86 = .ok (.putfield 42, 3) := by decide +kernel
theorem dX10_init_89 : decode cX10_init 89 = .ok (.aload_n 0, 1) := by decide +kernel
theorem dX10_init_90 : decode cX10_init 90 = .ok (.bipush 12, 2) := by decide +kernel
theorem dX10_init_92 : decode cX10_init 92 = .ok (.newarray .int, 2) := by decide +kernel
theorem dX10_init_94 : decode cX10_init 94 = .ok (.putfield 45, 3) := by decide +kernel
theorem dX10_init_97 : decode cX10_init 97 = .ok (.aload_n 0, 1) := by decide +kernel
theorem dX10_init_98 : decode cX10_init 98 = .ok (.sipush 201, 3) := by decide +kernel
theorem dX10_init_101 : decode cX10_init 101 = .ok (.newarray .int, 2) := by decide +kernel
theorem dX10_init_103 : decode cX10_init 103 = .ok (.putfield 48, 3) := by decide +kernel
theorem dX10_init_106 : decode cX10_init 106 = .ok (.aload_n 0, 1) := by decide +kernel
theorem dX10_init_107 : decode cX10_init 107 = .ok (.sipush 201, 3) := by decide +kernel
theorem dX10_init_110 : decode cX10_init 110 = .ok (.newarray .int, 2) := by decide +kernel
theorem dX10_init_112 : decode cX10_init 112 = .ok (.putfield 51, 3) := by decide +kernel
theorem dX10_init_115 : decode cX10_init 115 = .ok (.aload_n 0, 1) := by decide +kernel
theorem dX10_init_116 : decode cX10_init 116 = .ok (.sipush 201, 3) := by decide +kernel
theorem dX10_init_119 : decode cX10_init 119 = .ok (.newarray .int, 2) := by decide +kernel
theorem dX10_init_121 : decode cX10_init 121 = .ok (.putfield 54, 3) := by decide +kernel
theorem dX10_init_124 : decode cX10_init 124 = .ok (.aload_n 0, 1) := by decide +kernel
theorem dX10_init_125 : decode cX10_init 125 = .ok (.sipush 201, 3) := by decide +kernel
theorem dX10_init_128 : decode cX10_init 128 = .ok (.newarray .int, 2) := by decide +kernel
theorem dX10_init_130 : decode cX10_init 130 = .ok (.putfield 57, 3) := by decide +kernel
theorem dX10_init_133 : decode cX10_init 133 = .ok (.aload_n 0, 1) := by decide +kernel
theorem dX10_init_134 : decode cX10_init 134 = .ok (.bipush 8, 2) := by decide +kernel
theorem dX10_init_136 : decode cX10_init 136 = .ok (.newarray .int, 2) := by decide +kernel
theorem dX10_init_138 : decode cX10_init 138 = .ok (.putfield 60, 3) := by decide +kernel
theorem dX10_init_141 : decode cX10_init 141 = .ok (.aload_n 0, 1) := by decide +kernel
theorem dX10_init_142 : decode cX10_init 142 = .ok (.bipush 9, 2) := by decide +kernel
theorem dX10_init_144 : decode cX10_init 144 = .ok (.newarray .int, 2) := by decide +kernel
theorem dX10_init_146 : decode cX10_init 146 = .ok (.putfield 63, 3) := by decide +kernel
theorem dX10_init_149 : decode cX10_init 149 = .ok (.aload_n 0, 1) := by decide +kernel
theorem dX10_init_150 : decode cX10_init 150 = .ok (.bipush 40, 2) := by decide +kernel
theorem dX10_init_152 : decode cX10_init 152 = .ok (.newarray .int, 2) := by decide +kernel
theorem dX10_init_154 : decode cX10_init 154 = .ok (.putfield 66, 3) := by decide +kernel
theorem dX10_init_157 : decode cX10_init 157 = .ok (.aload_n 0, 1) := by decide +kernel
theorem dX10_init_158 : decode cX10_init 158 = .ok (.iconst 2, 1) := by decide +kernel
theorem dX10_init_159 : decode cX10_init 159 = .ok (.newarray .boolean, 2) := by decide +kernel
theorem dX10_init_161 : decode cX10_init 161 = .ok (.putfield 69, 3) := by decide +kernel
theorem dX10_init_164 : decode cX10_init 164 = .ok (.aload_n 0, 1) := by decide +kernel
theorem dX10_init_165 : decode cX10_init 165 = .ok (.invokevirtual 72, 3) := by decide +kernel
theorem dX10_init_168 : decode cX10_init 168 = .ok (.aload_n 0, 1) := by decide +kernel
theorem dX10_init_169 : decode cX10_init 169 = .ok (.invokevirtual 75, 3) := by decide +kernel
theorem dX10_init_172 : decode cX10_init 172 = .ok (.return_, 1) := by decide +kernel
theorem dX10_in_0 : decode cX10_in 0 = .ok (.lload_n 0, 1) := by decide +kernel
theorem dX10_in_1 : decode cX10_in 1 = .ok (.lload_n 2, 1) := by decide +kernel
theorem dX10_in_2 : decode cX10_in 2 = .ok (.lcmp, 1) := by decide +kernel
theorem dX10_in_3 : decode cX10_in 3 = .ok (.ifCond .lt 14, 3) := by decide +kernel
theorem dX10_in_6 : decode cX10_in 6 = .ok (.lload_n 0, 1) := by decide +kernel
theorem dX10_in_7 : decode cX10_in 7 = .ok (.lload 4, 2) := by decide +kernel
theorem dX10_in_9 : decode cX10_in 9 = .ok (.lcmp, 1) := by decide +kernel
theorem dX10_in_10 : decode cX10_in 10 = .ok (.ifCond .gt 7, 3) := by decide +kernel
theorem dX10_in_13 : decode cX10_in 13 = .ok (.iconst 1, 1) := by decide +kernel
theorem dX10_in_14 : decode cX10_in 14 = .ok (.goto 4, 3) := by decide +kernel
theorem dX10_in_17 : decode cX10_in 17 = .ok (.iconst 0, 1) := by decide +kernel
theorem dX10_in_18 : decode cX10_in 18 = .ok (.ireturn, 1) := by decide +kernel
theorem dX10_isSwinger_0 : decode cX10_isSwinger 0 = .ok (.iload_n 1, 1) := by decide +kernel
theorem dX10_isSwinger_1 : decode cX10_isSwinger 1 = .ok (.i2l, 1) := by decide +kernel
theorem dX10_isSwinger_2 : decode cX10_isSwinger 2 = .ok (.lconst 0, 1) := by decide +kernel
theorem dX10_isSwinger_3 : decode cX10_isSwinger 3 = .ok (.aload_n 0, 1) := by decide +kernel
theorem dX10_isSwinger_4 : decode cX10_isSwinger 4 = .ok (.getfield 78, 3) := by decide +kernel
theorem dX10_isSwinger_7 : decode cX10_isSwinger 7 = .ok (.iconst 1, 1) := by decide +kernel
theorem dX10_isSwinger_8 : decode cX10_isSwinger 8 = .ok (.isub, 1) := by decide +kernel
theorem dX10_isSwinger_9 : decode cX10_isSwinger 9 = .ok (.i2l, 1) := by decide +kernel
theorem dX10_isSwinger_10 : decode cX10_isSwinger 10 = .ok (.invokestatic 81, 3) := by decide +kernel
theorem dX10_isSwinger_13 : decode cX10_isSwinger 13 = .ok (.ireturn, 1) := by decide +kernel
theorem dX10_feed_0 : decode cX10_feed 0 = .ok (.iload_n 1, 1) := by decide +kernel
theorem dX10_feed_1 : decode cX10_feed 1 = .ok (.i2l, 1) := by decide +kernel
theorem dX10_feed_2 : decode cX10_feed 2 = .ok (.lconst 1, 1) := by decide +kernel
theorem dX10_feed_3 : decode cX10_feed 3 = .ok (.ldc2_w 85, 3) := by decide +kernel
theorem dX10_feed_6 : decode cX10_feed 6 = .ok (.invokestatic 81, 3) := by decide +kernel
theorem dX10_feed_9 : decode cX10_feed 9 = .ok (.ifCond .ne 6, 3) := by decide +kernel
theorem dX10_feed_12 : decode cX10_feed 12 = .ok (.ldc 87, 2) := by decide +kernel
theorem dX10_feed_14 : decode cX10_feed 14 = .ok (.ireturn, 1) := by decide +kernel
theorem dX10_feed_15 : decode cX10_feed 15 = .ok (.aload_n 0, 1) := by decide +kernel
theorem dX10_feed_16 : decode cX10_feed 16 = .ok (.getfield 88, 3) := by decide +kernel
theorem dX10_feed_19 : decode cX10_feed 19 = .ok (.iload_n 1, 1) := by decide +kernel
theorem dX10_feed_20 : decode cX10_feed 20 = .ok (.iadd, 1) := by decide +kernel
theorem dX10_feed_21 : decode cX10_feed 21 = .ok (.sipush 300, 3) := by decide +kernel
theorem dX10_feed_24 : decode cX10_feed 24 = .ok (.if_icmp .le 6, 3) := by decide +kernel
theorem dX10_feed_27 : decode cX10_feed 27 = .ok (.ldc 91, 2) := by decide +kernel
theorem dX10_feed_29 : decode cX10_feed 29 = .ok (.ireturn, 1) := by decide +kernel
theorem dX10_feed_30 : decode cX10_feed 30 = .ok (.iload_n 1, 1) := by decide +kernel
theorem dX10_feed_31 : decode cX10_feed 31 = .ok (.iconst 1, 1) := by decide +kernel
theorem dX10_feed_32 : decode cX10_feed 32 = .ok (.isub, 1) := by decide +kernel
theorem dX10_feed_33 : decode cX10_feed 33 = .ok (.istore 4, 2) := by decide +kernel
theorem dX10_feed_35 : decode cX10_feed 35 = .ok (.iload 4, 2) := by decide +kernel
theorem dX10_feed_37 : decode cX10_feed 37 = .ok (.ifCond .lt 40, 3) := by decide +kernel
theorem dX10_feed_40 : decode cX10_feed 40 = .ok (.aload_n 0, 1) := by decide +kernel
theorem dX10_feed_41 : decode cX10_feed 41 = .ok (.getfield 29, 3) := by decide +kernel
theorem dX10_feed_44 : decode cX10_feed 44 = .ok (.aload_n 0, 1) := by decide +kernel
theorem dX10_feed_45 : decode cX10_feed 45 = .ok (.getfield 88, 3) := by decide +kernel
theorem dX10_feed_48 : decode cX10_feed 48 = .ok (.lload_n 2, 1) := by decide +kernel
theorem dX10_feed_49 : decode cX10_feed 49 = .ok (.bipush 8, 2) := by decide +kernel
theorem dX10_feed_51 : decode cX10_feed 51 = .ok (.iload 4, 2) := by decide +kernel
theorem dX10_feed_53 : decode cX10_feed 53 = .ok (.imul, 1) := by decide +kernel
theorem dX10_feed_54 : decode cX10_feed 54 = .ok (.lshr, 1) := by decide +kernel
theorem dX10_feed_55 : decode cX10_feed 55 = .ok (.ldc2_w 92, 3) := by decide +kernel
theorem dX10_feed_58 : decode cX10_feed 58 = .ok (.land, 1) := by decide +kernel
theorem dX10_feed_59 : decode cX10_feed 59 = .ok (.l2i, 1) := by decide +kernel
theorem dX10_feed_60 : decode cX10_feed 60 = .ok (.iastore, 1) := by decide +kernel
theorem dX10_feed_61 : decode cX10_feed 61 = .ok (.aload_n 0, 1) := by decide +kernel
theorem dX10_feed_62 : decode cX10_feed 62 = .ok (.dup, 1) := by decide +kernel
theorem dX10_feed_63 : decode cX10_feed 63 = .ok (.getfield 88, 3) := by decide +kernel
theorem dX10_feed_66 : decode cX10_feed 66 = .ok (.iconst 1, 1) := by decide +kernel
theorem dX10_feed_67 : decode cX10_feed 67 = .ok (.iadd, 1) := by decide +kernel
theorem dX10_feed_68 : decode cX10_feed 68 = .ok (.putfield 88, 3) := by decide +kernel
theorem dX10_feed_71 : decode cX10_feed 71 = .ok (.iinc 4 (-1), 3) := by decide +kernel
theorem dX10_feed_74 : decode cX10_feed 74 = .ok (.goto (-39), 3) := by decide +kernel
theorem dX10_feed_77 : decode cX10_feed 77 = .ok (.aload_n 0, 1) := by decide +kernel
theorem dX10_feed_78 : decode cX10_feed 78 = .ok (.getfield 88, 3) := by decide +kernel
theorem dX10_feed_81 : decode cX10_feed 81 = .ok (.ireturn, 1) := by decide +kernel
theorem dX10_here_0 : decode cX10_here 0 = .ok (.aload_n 0, 1) := by decide +kernel
theorem dX10_here_1 : decode cX10_here 1 = .ok (.getfield 94, 3) := by decide +kernel
theorem dX10_here_4 : decode cX10_here 4 = .ok (.aload_n 0, 1) := by decide +kernel
theorem dX10_here_5 : decode cX10_here 5 = .ok (.getfield 88, 3) := by decide +kernel
theorem dX10_here_8 : decode cX10_here 8 = .ok (.if_icmp .ge 30, 3) := by decide +kernel
theorem dX10_here_11 : decode cX10_here 11 = .ok (.aload_n 0, 1) := by decide +kernel
theorem dX10_here_12 : decode cX10_here 12 = .ok (.getfield 29, 3) := by decide +kernel
theorem dX10_here_15 : decode cX10_here 15 = .ok (.aload_n 0, 1) := by decide +kernel
theorem dX10_here_16 : decode cX10_here 16 = .ok (.getfield 94, 3) := by decide +kernel
theorem dX10_here_19 : decode cX10_here 19 = .ok (.iaload, 1) := by decide +kernel
theorem dX10_here_20 : decode cX10_here 20 = .ok (.bipush 32, 2) := by decide +kernel
theorem dX10_here_22 : decode cX10_here 22 = .ok (.if_icmp .ne 16, 3) := by decide +kernel
theorem dX10_here_25 : decode cX10_here 25 = .ok (.aload_n 0, 1) := by decide +kernel
theorem dX10_here_26 : decode cX10_here 26 = .ok (.dup, 1) := by decide +kernel
theorem dX10_here_27 : decode cX10_here 27 = .ok (.getfield 94, 3) := by decide +kernel
theorem dX10_here_30 : decode cX10_here 30 = .ok (.iconst 1, 1) := by decide +kernel
theorem dX10_here_31 : decode cX10_here 31 = .ok (.iadd, 1) := by decide +kernel
theorem dX10_here_32 : decode cX10_here 32 = .ok (.putfield 94, 3) := by decide +kernel
theorem dX10_here_35 : decode cX10_here 35 = .ok (.goto (-35), 3) := by decide +kernel
theorem dX10_here_38 : decode cX10_here 38 = .ok (.aload_n 0, 1) := by decide +kernel
theorem dX10_here_39 : decode cX10_here 39 = .ok (.getfield 94, 3) := by decide +kernel
theorem dX10_here_42 : decode cX10_here 42 = .ok (.aload_n 0, 1) := by decide +kernel
theorem dX10_here_43 : decode cX10_here 43 = .ok (.getfield 88, 3) := by decide +kernel
theorem dX10_here_46 : decode cX10_here 46 = .ok (.if_icmp .ge 15, 3) := by decide +kernel
theorem dX10_here_49 : decode cX10_here 49 = .ok (.aload_n 0, 1) := by decide +kernel
theorem dX10_here_50 : decode cX10_here 50 = .ok (.getfield 29, 3) := by decide +kernel
theorem dX10_here_53 : decode cX10_here 53 = .ok (.aload_n 0, 1) := by decide +kernel
theorem dX10_here_54 : decode cX10_here 54 = .ok (.getfield 94, 3) := by decide +kernel
theorem dX10_here_57 : decode cX10_here 57 = .ok (.iaload, 1) := by decide +kernel
theorem dX10_here_58 : decode cX10_here 58 = .ok (.goto 4, 3) := by decide +kernel
theorem dX10_here_61 : decode cX10_here 61 = .ok (.iconst (-1), 1) := by decide +kernel
theorem dX10_here_62 : decode cX10_here 62 = .ok (.ireturn, 1) := by decide +kernel
theorem dX10_fails_0 : decode cX10_fails 0 = .ok (.aload_n 0, 1) := by decide +kernel
theorem dX10_fails_1 : decode cX10_fails 1 = .ok (.iload_n 2, 1) := by decide +kernel
theorem dX10_fails_2 : decode cX10_fails 2 = .ok (.putfield 32, 3) := by decide +kernel
theorem dX10_fails_5 : decode cX10_fails 5 = .ok (.iload_n 1, 1) := by decide +kernel
theorem dX10_fails_6 : decode cX10_fails 6 = .ok (.ireturn, 1) := by decide +kernel
theorem dX10_readWord_0 : decode cX10_readWord 0 = .ok (.aload_n 0, 1) := by decide +kernel
theorem dX10_readWord_1 : decode cX10_readWord 1 = .ok (.invokevirtual 97, 3) := by decide +kernel
theorem dX10_readWord_4 : decode cX10_readWord 4 = .ok (.istore_n 1, 1) := by decide +kernel
theorem dX10_readWord_5 : decode cX10_readWord 5 = .ok (.aload_n 0, 1) := by decide +kernel
theorem dX10_readWord_6 : decode cX10_readWord 6 = .ok (.lconst 0, 1) := by decide +kernel
theorem dX10_readWord_7 : decode cX10_readWord 7 = .ok (.putfield 101, 3) := by decide +kernel
theorem dX10_readWord_10 : decode cX10_readWord 10 = .ok (.aload_n 0, 1) := by decide +kernel
theorem dX10_readWord_11 : decode cX10_readWord 11 = .ok (.aload_n 0, 1) := by decide +kernel
theorem dX10_readWord_12 : decode cX10_readWord 12 = .ok (.getfield 94, 3) := by decide +kernel
theorem dX10_readWord_15 : decode cX10_readWord 15 = .ok (.putfield 105, 3) := by decide +kernel
theorem dX10_readWord_18 : decode cX10_readWord 18 = .ok (.aload_n 0, 1) := by decide +kernel
theorem dX10_readWord_19 : decode cX10_readWord 19 = .ok (.getfield 105, 3) := by decide +kernel
theorem dX10_readWord_22 : decode cX10_readWord 22 = .ok (.aload_n 0, 1) := by decide +kernel
theorem dX10_readWord_23 : decode cX10_readWord 23 = .ok (.getfield 88, 3) := by decide +kernel
theorem dX10_readWord_26 : decode cX10_readWord 26 = .ok (.if_icmp .ge 82, 3) := by decide +kernel
theorem dX10_readWord_29 : decode cX10_readWord 29 = .ok (.aload_n 0, 1) := by decide +kernel
theorem dX10_readWord_30 : decode cX10_readWord 30 = .ok (.getfield 29, 3) := by decide +kernel
theorem dX10_readWord_33 : decode cX10_readWord 33 = .ok (.aload_n 0, 1) := by decide +kernel
theorem dX10_readWord_34 : decode cX10_readWord 34 = .ok (.getfield 105, 3) := by decide +kernel
theorem dX10_readWord_37 : decode cX10_readWord 37 = .ok (.iaload, 1) := by decide +kernel
theorem dX10_readWord_38 : decode cX10_readWord 38 = .ok (.i2l, 1) := by decide +kernel
theorem dX10_readWord_39 : decode cX10_readWord 39 = .ok (.ldc2_w 108, 3) := by decide +kernel
theorem dX10_readWord_42 : decode cX10_readWord 42 = .ok (.ldc2_w 110, 3) := by decide +kernel
theorem dX10_readWord_45 : decode cX10_readWord 45 = .ok (.invokestatic 81, 3) := by decide +kernel
theorem dX10_readWord_48 : decode cX10_readWord 48 = .ok (.ifCond .eq 60, 3) := by decide +kernel
theorem dX10_readWord_51 : decode cX10_readWord 51 = .ok (.aload_n 0, 1) := by decide +kernel
theorem dX10_readWord_52 : decode cX10_readWord 52 = .ok (.aload_n 0, 1) := by decide +kernel
theorem dX10_readWord_53 : decode cX10_readWord 53 = .ok (.getfield 101, 3) := by decide +kernel
theorem dX10_readWord_56 : decode cX10_readWord 56 = .ok (.ldc2_w 112, 3) := by decide +kernel
theorem dX10_readWord_59 : decode cX10_readWord 59 = .ok (.lcmp, 1) := by decide +kernel
theorem dX10_readWord_60 : decode cX10_readWord 60 = .ok (.ifCond .le 9, 3) := by decide +kernel
theorem dX10_readWord_63 : decode cX10_readWord 63 = .ok (.ldc2_w 114, 3) := by decide +kernel
theorem dX10_readWord_66 : decode cX10_readWord 66 = .ok (.goto 26, 3) := by decide +kernel
theorem dX10_readWord_69 : decode cX10_readWord 69 = .ok (.ldc2_w 116, 3) := by decide +kernel
theorem dX10_readWord_72 : decode cX10_readWord 72 = .ok (.aload_n 0, 1) := by decide +kernel
theorem dX10_readWord_73 : decode cX10_readWord 73 = .ok (.getfield 101, 3) := by decide +kernel
theorem dX10_readWord_76 : decode cX10_readWord 76 = .ok (.lmul, 1) := by decide +kernel
theorem dX10_readWord_77 : decode cX10_readWord 77 = .ok (.aload_n 0, 1) := by decide +kernel
theorem dX10_readWord_78 : decode cX10_readWord 78 = .ok (.getfield 29, 3) := by decide +kernel
theorem dX10_readWord_81 : decode cX10_readWord 81 = .ok (.aload_n 0, 1) := by decide +kernel
theorem dX10_readWord_82 : decode cX10_readWord 82 = .ok (.getfield 105, 3) := by decide +kernel
theorem dX10_readWord_85 : decode cX10_readWord 85 = .ok (.iaload, 1) := by decide +kernel
theorem dX10_readWord_86 : decode cX10_readWord 86 = .ok (.i2l, 1) := by decide +kernel
theorem dX10_readWord_87 : decode cX10_readWord 87 = .ok (.ladd, 1) := by decide +kernel
theorem dX10_readWord_88 : decode cX10_readWord 88 = .ok (.ldc2_w 118, 3) := by decide +kernel
theorem dX10_readWord_91 : decode cX10_readWord 91 = .ok (.lsub, 1) := by decide +kernel
theorem dX10_readWord_92 : decode cX10_readWord 92 = .ok (.putfield 101, 3) := by decide +kernel
theorem dX10_readWord_95 : decode cX10_readWord 95 = .ok (.aload_n 0, 1) := by decide +kernel
theorem dX10_readWord_96 : decode cX10_readWord 96 = .ok (.dup, 1) := by decide +kernel
theorem dX10_readWord_97 : decode cX10_readWord 97 = .ok (.getfield 105, 3) := by decide +kernel
theorem dX10_readWord_100 : decode cX10_readWord 100 = .ok (.iconst 1, 1) := by decide +kernel
theorem dX10_readWord_101 : decode cX10_readWord 101 = .ok (.iadd, 1) := by decide +kernel
theorem dX10_readWord_102 : decode cX10_readWord 102 = .ok (.putfield 105, 3) := by decide +kernel
theorem dX10_readWord_105 : decode cX10_readWord 105 = .ok (.goto (-87), 3) := by decide +kernel
theorem dX10_readWord_108 : decode cX10_readWord 108 = .ok (.return_, 1) := by decide +kernel
theorem dX10_code_0 : decode cX10_code 0 = .ok (.ldc2_w 116, 3) := by decide +kernel
theorem dX10_code_3 : decode cX10_code 3 = .ok (.ldc2_w 116, 3) := by decide +kernel
theorem dX10_code_6 : decode cX10_code 6 = .ok (.ldc2_w 116, 3) := by decide +kernel
theorem dX10_code_9 : decode cX10_code 9 = .ok (.iload_n 0, 1) := by decide +kernel
theorem dX10_code_10 : decode cX10_code 10 = .ok (.i2l, 1) := by decide +kernel
theorem dX10_code_11 : decode cX10_code 11 = .ok (.ldc2_w 118, 3) := by decide +kernel
theorem dX10_code_14 : decode cX10_code 14 = .ok (.lsub, 1) := by decide +kernel
theorem dX10_code_15 : decode cX10_code 15 = .ok (.lmul, 1) := by decide +kernel
theorem dX10_code_16 : decode cX10_code 16 = .ok (.iload_n 1, 1) := by decide +kernel
theorem dX10_code_17 : decode cX10_code 17 = .ok (.i2l, 1) := by decide +kernel
theorem dX10_code_18 : decode cX10_code 18 = .ok (.ladd, 1) := by decide +kernel
theorem dX10_code_19 : decode cX10_code 19 = .ok (.ldc2_w 118, 3) := by decide +kernel
theorem dX10_code_22 : decode cX10_code 22 = .ok (.lsub, 1) := by decide +kernel
theorem dX10_code_23 : decode cX10_code 23 = .ok (.lmul, 1) := by decide +kernel
theorem dX10_code_24 : decode cX10_code 24 = .ok (.iload_n 2, 1) := by decide +kernel
theorem dX10_code_25 : decode cX10_code 25 = .ok (.i2l, 1) := by decide +kernel
theorem dX10_code_26 : decode cX10_code 26 = .ok (.ladd, 1) := by decide +kernel
theorem dX10_code_27 : decode cX10_code 27 = .ok (.ldc2_w 118, 3) := by decide +kernel
theorem dX10_code_30 : decode cX10_code 30 = .ok (.lsub, 1) := by decide +kernel
theorem dX10_code_31 : decode cX10_code 31 = .ok (.lmul, 1) := by decide +kernel
theorem dX10_code_32 : decode cX10_code 32 = .ok (.iload_n 3, 1) := by decide +kernel
theorem dX10_code_33 : decode cX10_code 33 = .ok (.i2l, 1) := by decide +kernel
theorem dX10_code_34 : decode cX10_code 34 = .ok (.ladd, 1) := by decide +kernel
theorem dX10_code_35 : decode cX10_code 35 = .ok (.ldc2_w 118, 3) := by decide +kernel
theorem dX10_code_38 : decode cX10_code 38 = .ok (.lsub, 1) := by decide +kernel
theorem dX10_code_39 : decode cX10_code 39 = .ok (.lreturn, 1) := by decide +kernel
theorem dX10_longer_0 : decode cX10_longer 0 = .ok (.ldc2_w 116, 3) := by decide +kernel
theorem dX10_longer_3 : decode cX10_longer 3 = .ok (.lload_n 0, 1) := by decide +kernel
theorem dX10_longer_4 : decode cX10_longer 4 = .ok (.lmul, 1) := by decide +kernel
theorem dX10_longer_5 : decode cX10_longer 5 = .ok (.iload_n 2, 1) := by decide +kernel
theorem dX10_longer_6 : decode cX10_longer 6 = .ok (.i2l, 1) := by decide +kernel
theorem dX10_longer_7 : decode cX10_longer 7 = .ok (.ladd, 1) := by decide +kernel
theorem dX10_longer_8 : decode cX10_longer 8 = .ok (.ldc2_w 118, 3) := by decide +kernel
theorem dX10_longer_11 : decode cX10_longer 11 = .ok (.lsub, 1) := by decide +kernel
theorem dX10_longer_12 : decode cX10_longer 12 = .ok (.lreturn, 1) := by decide +kernel
theorem dX10_takeNumber_0 : decode cX10_takeNumber 0 = .ok (.aload_n 0, 1) := by decide +kernel
theorem dX10_takeNumber_1 : decode cX10_takeNumber 1 = .ok (.invokevirtual 97, 3) := by decide +kernel
theorem dX10_takeNumber_4 : decode cX10_takeNumber 4 = .ok (.istore_n 3, 1) := by decide +kernel
theorem dX10_takeNumber_5 : decode cX10_takeNumber 5 = .ok (.iload_n 3, 1) := by decide +kernel
theorem dX10_takeNumber_6 : decode cX10_takeNumber 6 = .ok (.i2l, 1) := by decide +kernel
theorem dX10_takeNumber_7 : decode cX10_takeNumber 7 = .ok (.ldc2_w 120, 3) := by decide +kernel
theorem dX10_takeNumber_10 : decode cX10_takeNumber 10 = .ok (.ldc2_w 122, 3) := by decide +kernel
theorem dX10_takeNumber_13 : decode cX10_takeNumber 13 = .ok (.invokestatic 81, 3) := by decide +kernel
theorem dX10_takeNumber_16 : decode cX10_takeNumber 16 = .ok (.ifCond .ne 13, 3) := by decide +kernel
theorem dX10_takeNumber_19 : decode cX10_takeNumber 19 = .ok (.aload_n 0, 1) := by decide +kernel
theorem dX10_takeNumber_20 : decode cX10_takeNumber 20 = .ok (.iconst 1, 1) := by decide +kernel
theorem dX10_takeNumber_21 : decode cX10_takeNumber 21 = .ok (.aload_n 0, 1) := by decide +kernel
theorem dX10_takeNumber_22 : decode cX10_takeNumber 22 = .ok (.getfield 94, 3) := by decide +kernel
theorem dX10_takeNumber_25 : decode cX10_takeNumber 25 = .ok (.invokevirtual 124, 3) := by decide +kernel
theorem dX10_takeNumber_28 : decode cX10_takeNumber 28 = .ok (.ireturn, 1) := by decide +kernel
theorem dX10_takeNumber_29 : decode cX10_takeNumber 29 = .ok (.aload_n 0, 1) := by decide +kernel
theorem dX10_takeNumber_30 : decode cX10_takeNumber 30 = .ok (.aload_n 0, 1) := by decide +kernel
theorem dX10_takeNumber_31 : decode cX10_takeNumber 31 = .ok (.getfield 94, 3) := by decide +kernel
theorem dX10_takeNumber_34 : decode cX10_takeNumber 34 = .ok (.putfield 128, 3) := by decide +kernel
theorem dX10_takeNumber_37 : decode cX10_takeNumber 37 = .ok (.aload_n 0, 1) := by decide +kernel
theorem dX10_takeNumber_38 : decode cX10_takeNumber 38 = .ok (.iconst 0, 1) := by decide +kernel
theorem dX10_takeNumber_39 : decode cX10_takeNumber 39 = .ok (.putfield 131, 3) := by decide +kernel
theorem dX10_takeNumber_42 : decode cX10_takeNumber 42 = .ok (.aload_n 0, 1) := by decide +kernel
theorem dX10_takeNumber_43 : decode cX10_takeNumber 43 = .ok (.getfield 94, 3) := by decide +kernel
theorem dX10_takeNumber_46 : decode cX10_takeNumber 46 = .ok (.aload_n 0, 1) := by decide +kernel
theorem dX10_takeNumber_47 : decode cX10_takeNumber 47 = .ok (.getfield 88, 3) := by decide +kernel
theorem dX10_takeNumber_50 : decode cX10_takeNumber 50 = .ok (.if_icmp .ge 79, 3) := by decide +kernel
theorem dX10_takeNumber_53 : decode cX10_takeNumber 53 = .ok (.aload_n 0, 1) := by decide +kernel
theorem dX10_takeNumber_54 : decode cX10_takeNumber 54 = .ok (.getfield 29, 3) := by decide +kernel
theorem dX10_takeNumber_57 : decode cX10_takeNumber 57 = .ok (.aload_n 0, 1) := by decide +kernel
theorem dX10_takeNumber_58 : decode cX10_takeNumber 58 = .ok (.getfield 94, 3) := by decide +kernel
theorem dX10_takeNumber_61 : decode cX10_takeNumber 61 = .ok (.iaload, 1) := by decide +kernel
theorem dX10_takeNumber_62 : decode cX10_takeNumber 62 = .ok (.i2l, 1) := by decide +kernel
theorem dX10_takeNumber_63 : decode cX10_takeNumber 63 = .ok (.ldc2_w 120, 3) := by decide +kernel
theorem dX10_takeNumber_66 : decode cX10_takeNumber 66 = .ok (.ldc2_w 122, 3) := by decide +kernel
theorem dX10_takeNumber_69 : decode cX10_takeNumber 69 = .ok (.invokestatic 81, 3) := by decide +kernel
theorem dX10_takeNumber_72 : decode cX10_takeNumber 72 = .ok (.ifCond .eq 57, 3) := by decide +kernel
theorem dX10_takeNumber_75 : decode cX10_takeNumber 75 = .ok (.aload_n 0, 1) := by decide +kernel
theorem dX10_takeNumber_76 : decode cX10_takeNumber 76 = .ok (.aload_n 0, 1) := by decide +kernel
theorem dX10_takeNumber_77 : decode cX10_takeNumber 77 = .ok (.getfield 131, 3) := by decide +kernel
theorem dX10_takeNumber_80 : decode cX10_takeNumber 80 = .ok (.sipush 10000, 3) := by decide +kernel
theorem dX10_takeNumber_83 : decode cX10_takeNumber 83 = .ok (.if_icmp .le 10, 3) := by decide +kernel
theorem dX10_takeNumber_86 : decode cX10_takeNumber 86 = .ok (.aload_n 0, 1) := by decide +kernel
theorem dX10_takeNumber_87 : decode cX10_takeNumber 87 = .ok (.getfield 131, 3) := by decide +kernel
theorem dX10_takeNumber_90 : decode cX10_takeNumber 90 = .ok (.goto 23, 3) := by decide +kernel
theorem dX10_takeNumber_93 : decode cX10_takeNumber 93 = .ok (.bipush 10, 2) := by decide +kernel
theorem dX10_takeNumber_95 : decode cX10_takeNumber 95 = .ok (.aload_n 0, 1) := by decide +kernel
theorem dX10_takeNumber_96 : decode cX10_takeNumber 96 = .ok (.getfield 131, 3) := by decide +kernel
theorem dX10_takeNumber_99 : decode cX10_takeNumber 99 = .ok (.imul, 1) := by decide +kernel
theorem dX10_takeNumber_100 : decode cX10_takeNumber 100 = .ok (.aload_n 0, 1) := by decide +kernel
theorem dX10_takeNumber_101 : decode cX10_takeNumber 101 = .ok (.getfield 29, 3) := by decide +kernel
theorem dX10_takeNumber_104 : decode cX10_takeNumber 104 = .ok (.aload_n 0, 1) := by decide +kernel
theorem dX10_takeNumber_105 : decode cX10_takeNumber 105 = .ok (.getfield 94, 3) := by decide +kernel
theorem dX10_takeNumber_108 : decode cX10_takeNumber 108 = .ok (.iaload, 1) := by decide +kernel
theorem dX10_takeNumber_109 : decode cX10_takeNumber 109 = .ok (.iadd, 1) := by decide +kernel
theorem dX10_takeNumber_110 : decode cX10_takeNumber 110 = .ok (.bipush 48, 2) := by decide +kernel
theorem dX10_takeNumber_112 : decode cX10_takeNumber 112 = .ok (.isub, 1) := by decide +kernel
theorem dX10_takeNumber_113 : decode cX10_takeNumber 113 = .ok (.putfield 131, 3) := by decide +kernel
theorem dX10_takeNumber_116 : decode cX10_takeNumber 116 = .ok (.aload_n 0, 1) := by decide +kernel
theorem dX10_takeNumber_117 : decode cX10_takeNumber 117 = .ok (.dup, 1) := by decide +kernel
theorem dX10_takeNumber_118 : decode cX10_takeNumber 118 = .ok (.getfield 94, 3) := by decide +kernel
theorem dX10_takeNumber_121 : decode cX10_takeNumber 121 = .ok (.iconst 1, 1) := by decide +kernel
theorem dX10_takeNumber_122 : decode cX10_takeNumber 122 = .ok (.iadd, 1) := by decide +kernel
theorem dX10_takeNumber_123 : decode cX10_takeNumber 123 = .ok (.putfield 94, 3) := by decide +kernel
theorem dX10_takeNumber_126 : decode cX10_takeNumber 126 = .ok (.goto (-84), 3) := by decide +kernel
theorem dX10_takeNumber_129 : decode cX10_takeNumber 129 = .ok (.aload_n 0, 1) := by decide +kernel
theorem dX10_takeNumber_130 : decode cX10_takeNumber 130 = .ok (.getfield 94, 3) := by decide +kernel
theorem dX10_takeNumber_133 : decode cX10_takeNumber 133 = .ok (.aload_n 0, 1) := by decide +kernel
theorem dX10_takeNumber_134 : decode cX10_takeNumber 134 = .ok (.getfield 128, 3) := by decide +kernel
theorem dX10_takeNumber_137 : decode cX10_takeNumber 137 = .ok (.isub, 1) := by decide +kernel
theorem dX10_takeNumber_138 : decode cX10_takeNumber 138 = .ok (.iconst 3, 1) := by decide +kernel
theorem dX10_takeNumber_139 : decode cX10_takeNumber 139 = .ok (.if_icmp .gt 18, 3) := by decide +kernel
theorem dX10_takeNumber_142 : decode cX10_takeNumber 142 = .ok (.aload_n 0, 1) := by decide +kernel
theorem dX10_takeNumber_143 : decode cX10_takeNumber 143 = .ok (.getfield 131, 3) := by decide +kernel
theorem dX10_takeNumber_146 : decode cX10_takeNumber 146 = .ok (.i2l, 1) := by decide +kernel
theorem dX10_takeNumber_147 : decode cX10_takeNumber 147 = .ok (.iload_n 1, 1) := by decide +kernel
theorem dX10_takeNumber_148 : decode cX10_takeNumber 148 = .ok (.i2l, 1) := by decide +kernel
theorem dX10_takeNumber_149 : decode cX10_takeNumber 149 = .ok (.iload_n 2, 1) := by decide +kernel
theorem dX10_takeNumber_150 : decode cX10_takeNumber 150 = .ok (.i2l, 1) := by decide +kernel
theorem dX10_takeNumber_151 : decode cX10_takeNumber 151 = .ok (.invokestatic 81, 3) := by decide +kernel
theorem dX10_takeNumber_154 : decode cX10_takeNumber 154 = .ok (.ifCond .ne 15, 3) := by decide +kernel
theorem dX10_takeNumber_157 : decode cX10_takeNumber 157 = .ok (.aload_n 0, 1) := by decide +kernel
theorem dX10_takeNumber_158 : decode cX10_takeNumber 158 = .ok (.iconst 2, 1) := by decide +kernel
theorem dX10_takeNumber_159 : decode cX10_takeNumber 159 = .ok (.aload_n 0, 1) := by decide +kernel
theorem dX10_takeNumber_160 : decode cX10_takeNumber 160 = .ok (.getfield 128, 3) := by decide +kernel
theorem dX10_takeNumber_163 : decode cX10_takeNumber 163 = .ok (.invokevirtual 124, 3) := by decide +kernel
theorem dX10_takeNumber_166 : decode cX10_takeNumber 166 = .ok (.goto 4, 3) := by decide +kernel
theorem dX10_takeNumber_169 : decode cX10_takeNumber 169 = .ok (.iconst 0, 1) := by decide +kernel
theorem dX10_takeNumber_170 : decode cX10_takeNumber 170 = .ok (.ireturn, 1) := by decide +kernel
theorem dX10_takeStop_0 : decode cX10_takeStop 0 = .ok (.aload_n 0, 1) := by decide +kernel
theorem dX10_takeStop_1 : decode cX10_takeStop 1 = .ok (.invokevirtual 97, 3) := by decide +kernel
theorem dX10_takeStop_4 : decode cX10_takeStop 4 = .ok (.bipush 59, 2) := by decide +kernel
theorem dX10_takeStop_6 : decode cX10_takeStop 6 = .ok (.if_icmp .eq 13, 3) := by decide +kernel
theorem dX10_takeStop_9 : decode cX10_takeStop 9 = .ok (.aload_n 0, 1) := by decide +kernel
theorem dX10_takeStop_10 : decode cX10_takeStop 10 = .ok (.iconst 1, 1) := by decide +kernel
theorem dX10_takeStop_11 : decode cX10_takeStop 11 = .ok (.aload_n 0, 1) := by decide +kernel
theorem dX10_takeStop_12 : decode cX10_takeStop 12 = .ok (.getfield 94, 3) := by decide +kernel
theorem dX10_takeStop_15 : decode cX10_takeStop 15 = .ok (.invokevirtual 124, 3) := by decide +kernel
theorem dX10_takeStop_18 : decode cX10_takeStop 18 = .ok (.ireturn, 1) := by decide +kernel
theorem dX10_takeStop_19 : decode cX10_takeStop 19 = .ok (.aload_n 0, 1) := by decide +kernel
theorem dX10_takeStop_20 : decode cX10_takeStop 20 = .ok (.dup, 1) := by decide +kernel
theorem dX10_takeStop_21 : decode cX10_takeStop 21 = .ok (.getfield 94, 3) := by decide +kernel
theorem dX10_takeStop_24 : decode cX10_takeStop 24 = .ok (.iconst 1, 1) := by decide +kernel
theorem dX10_takeStop_25 : decode cX10_takeStop 25 = .ok (.iadd, 1) := by decide +kernel
theorem dX10_takeStop_26 : decode cX10_takeStop 26 = .ok (.putfield 94, 3) := by decide +kernel
theorem dX10_takeStop_29 : decode cX10_takeStop 29 = .ok (.iconst 0, 1) := by decide +kernel
theorem dX10_takeStop_30 : decode cX10_takeStop 30 = .ok (.ireturn, 1) := by decide +kernel
theorem dX10_isComma_0 : decode cX10_isComma 0 = .ok (.aload_n 0, 1) := by decide +kernel
theorem dX10_isComma_1 : decode cX10_isComma 1 = .ok (.invokevirtual 97, 3) := by decide +kernel
theorem dX10_isComma_4 : decode cX10_isComma 4 = .ok (.bipush 44, 2) := by decide +kernel
theorem dX10_isComma_6 : decode cX10_isComma 6 = .ok (.if_icmp .ne 7, 3) := by decide +kernel
theorem dX10_isComma_9 : decode cX10_isComma 9 = .ok (.iconst 1, 1) := by decide +kernel
theorem dX10_isComma_10 : decode cX10_isComma 10 = .ok (.goto 4, 3) := by decide +kernel
theorem dX10_isComma_13 : decode cX10_isComma 13 = .ok (.iconst 0, 1) := by decide +kernel
theorem dX10_isComma_14 : decode cX10_isComma 14 = .ok (.istore_n 1, 1) := by decide +kernel
theorem dX10_isComma_15 : decode cX10_isComma 15 = .ok (.aload_n 0, 1) := by decide +kernel
theorem dX10_isComma_16 : decode cX10_isComma 16 = .ok (.dup, 1) := by decide +kernel
theorem dX10_isComma_17 : decode cX10_isComma 17 = .ok (.getfield 94, 3) := by decide +kernel
theorem dX10_isComma_20 : decode cX10_isComma 20 = .ok (.iload_n 1, 1) := by decide +kernel
theorem dX10_isComma_21 : decode cX10_isComma 21 = .ok (.ifCond .eq 7, 3) := by decide +kernel
theorem dX10_isComma_24 : decode cX10_isComma 24 = .ok (.iconst 1, 1) := by decide +kernel
theorem dX10_isComma_25 : decode cX10_isComma 25 = .ok (.goto 4, 3) := by decide +kernel
theorem dX10_isComma_28 : decode cX10_isComma 28 = .ok (.iconst 0, 1) := by decide +kernel
theorem dX10_isComma_29 : decode cX10_isComma 29 = .ok (.iadd, 1) := by decide +kernel
theorem dX10_isComma_30 : decode cX10_isComma 30 = .ok (.putfield 94, 3) := by decide +kernel
theorem dX10_isComma_33 : decode cX10_isComma 33 = .ok (.iload_n 1, 1) := by decide +kernel
theorem dX10_isComma_34 : decode cX10_isComma 34 = .ok (.ireturn, 1) := by decide +kernel
theorem dX10_bare_0 : decode cX10_bare 0 = .ok (.aload_n 0, 1) := by decide +kernel
theorem dX10_bare_1 : decode cX10_bare 1 = .ok (.iconst 0, 1) := by decide +kernel
theorem dX10_bare_2 : decode cX10_bare 2 = .ok (.putfield 134, 3) := by decide +kernel
end
section
theorem dX10_bare_5 : decode cX10_bare 5 = .ok (.aload_n 0, 1) := by decide +kernel
theorem dX10_bare_6 : decode cX10_bare 6 = .ok (.iconst 0, 1) := by decide +kernel
theorem dX10_bare_7 : decode cX10_bare 7 = .ok (.putfield 137, 3) := by decide +kernel
theorem dX10_bare_10 : decode cX10_bare 10 = .ok (.iconst 0, 1) := by decide +kernel
theorem dX10_bare_11 : decode cX10_bare 11 = .ok (.istore_n 1, 1) := by decide +kernel
theorem dX10_bare_12 : decode cX10_bare 12 = .ok (.iload_n 1, 1) := by decide +kernel
theorem dX10_bare_13 : decode cX10_bare 13 = .ok (.bipush 9, 2) := by decide +kernel
theorem dX10_bare_15 : decode cX10_bare 15 = .ok (.if_icmp .ge 19, 3) := by decide +kernel
theorem dX10_bare_18 : decode cX10_bare 18 = .ok (.aload_n 0, 1) := by decide +kernel
theorem dX10_bare_19 : decode cX10_bare 19 = .ok (.getfield 36, 3) := by decide +kernel
theorem dX10_bare_22 : decode cX10_bare 22 = .ok (.iload_n 1, 1) := by decide +kernel
theorem dX10_bare_23 : decode cX10_bare 23 = .ok (.iload_n 1, 1) := by decide +kernel
theorem dX10_bare_24 : decode cX10_bare 24 = .ok (.invokestatic 140, 3) := by decide +kernel
theorem dX10_bare_27 : decode cX10_bare 27 = .ok (.iastore, 1) := by decide +kernel
theorem dX10_bare_28 : decode cX10_bare 28 = .ok (.iinc 1 1, 3) := by decide +kernel
theorem dX10_bare_31 : decode cX10_bare 31 = .ok (.goto (-19), 3) := by decide +kernel
theorem dX10_bare_34 : decode cX10_bare 34 = .ok (.iconst 0, 1) := by decide +kernel
theorem dX10_bare_35 : decode cX10_bare 35 = .ok (.istore_n 1, 1) := by decide +kernel
theorem dX10_bare_36 : decode cX10_bare 36 = .ok (.iload_n 1, 1) := by decide +kernel
theorem dX10_bare_37 : decode cX10_bare 37 = .ok (.bipush 24, 2) := by decide +kernel
theorem dX10_bare_39 : decode cX10_bare 39 = .ok (.if_icmp .ge 25, 3) := by decide +kernel
theorem dX10_bare_42 : decode cX10_bare 42 = .ok (.aload_n 0, 1) := by decide +kernel
theorem dX10_bare_43 : decode cX10_bare 43 = .ok (.getfield 39, 3) := by decide +kernel
theorem dX10_bare_46 : decode cX10_bare 46 = .ok (.iload_n 1, 1) := by decide +kernel
theorem dX10_bare_47 : decode cX10_bare 47 = .ok (.sipush 200, 3) := by decide +kernel
theorem dX10_bare_50 : decode cX10_bare 50 = .ok (.iastore, 1) := by decide +kernel
theorem dX10_bare_51 : decode cX10_bare 51 = .ok (.aload_n 0, 1) := by decide +kernel
theorem dX10_bare_52 : decode cX10_bare 52 = .ok (.getfield 42, 3) := by decide +kernel
theorem dX10_bare_55 : decode cX10_bare 55 = .ok (.iload_n 1, 1) := by decide +kernel
theorem dX10_bare_56 : decode cX10_bare 56 = .ok (.iconst 0, 1) := by decide +kernel
theorem dX10_bare_57 : decode cX10_bare 57 = .ok (.bastore, 1) := by decide +kernel
theorem dX10_bare_58 : decode cX10_bare 58 = .ok (.iinc 1 1, 3) := by decide +kernel
theorem dX10_bare_61 : decode cX10_bare 61 = .ok (.goto (-25), 3) := by decide +kernel
theorem dX10_bare_64 : decode cX10_bare 64 = .ok (.iconst 0, 1) := by decide +kernel
theorem dX10_bare_65 : decode cX10_bare 65 = .ok (.istore_n 1, 1) := by decide +kernel
theorem dX10_bare_66 : decode cX10_bare 66 = .ok (.iload_n 1, 1) := by decide +kernel
theorem dX10_bare_67 : decode cX10_bare 67 = .ok (.bipush 12, 2) := by decide +kernel
theorem dX10_bare_69 : decode cX10_bare 69 = .ok (.if_icmp .ge 16, 3) := by decide +kernel
theorem dX10_bare_72 : decode cX10_bare 72 = .ok (.aload_n 0, 1) := by decide +kernel
theorem dX10_bare_73 : decode cX10_bare 73 = .ok (.getfield 45, 3) := by decide +kernel
theorem dX10_bare_76 : decode cX10_bare 76 = .ok (.iload_n 1, 1) := by decide +kernel
theorem dX10_bare_77 : decode cX10_bare 77 = .ok (.iconst 0, 1) := by decide +kernel
theorem dX10_bare_78 : decode cX10_bare 78 = .ok (.iastore, 1) := by decide +kernel
theorem dX10_bare_79 : decode cX10_bare 79 = .ok (.iinc 1 1, 3) := by decide +kernel
theorem dX10_bare_82 : decode cX10_bare 82 = .ok (.goto (-16), 3) := by decide +kernel
theorem dX10_bare_85 : decode cX10_bare 85 = .ok (.return_, 1) := by decide +kernel
theorem dX10_untold_0 : decode cX10_untold 0 = .ok (.iload_n 0, 1) := by decide +kernel
theorem dX10_untold_1 : decode cX10_untold 1 = .ok (.tableswitch 76 0 7 #[47, 51, 55, 59, 62, 65, 68, 72], 47) := by decide +kernel
theorem dX10_untold_48 : decode cX10_untold 48 = .ok (.sipush 660, 3) := by decide +kernel
theorem dX10_untold_51 : decode cX10_untold 51 = .ok (.ireturn, 1) := by decide +kernel
theorem dX10_untold_52 : decode cX10_untold 52 = .ok (.sipush 450, 3) := by decide +kernel
theorem dX10_untold_55 : decode cX10_untold 55 = .ok (.ireturn, 1) := by decide +kernel
theorem dX10_untold_56 : decode cX10_untold 56 = .ok (.sipush 300, 3) := by decide +kernel
theorem dX10_untold_59 : decode cX10_untold 59 = .ok (.ireturn, 1) := by decide +kernel
theorem dX10_untold_60 : decode cX10_untold 60 = .ok (.bipush 10, 2) := by decide +kernel
theorem dX10_untold_62 : decode cX10_untold 62 = .ok (.ireturn, 1) := by decide +kernel
theorem dX10_untold_63 : decode cX10_untold 63 = .ok (.bipush 40, 2) := by decide +kernel
theorem dX10_untold_65 : decode cX10_untold 65 = .ok (.ireturn, 1) := by decide +kernel
theorem dX10_untold_66 : decode cX10_untold 66 = .ok (.bipush 100, 2) := by decide +kernel
theorem dX10_untold_68 : decode cX10_untold 68 = .ok (.ireturn, 1) := by decide +kernel
theorem dX10_untold_69 : decode cX10_untold 69 = .ok (.sipush 400, 3) := by decide +kernel
theorem dX10_untold_72 : decode cX10_untold 72 = .ok (.ireturn, 1) := by decide +kernel
theorem dX10_untold_73 : decode cX10_untold 73 = .ok (.sipush 150, 3) := by decide +kernel
theorem dX10_untold_76 : decode cX10_untold 76 = .ok (.ireturn, 1) := by decide +kernel
theorem dX10_untold_77 : decode cX10_untold 77 = .ok (.bipush 16, 2) := by decide +kernel
theorem dX10_untold_79 : decode cX10_untold 79 = .ok (.ireturn, 1) := by decide +kernel
theorem dX10_take_0 : decode cX10_take 0 = .ok (.aload_n 0, 1) := by decide +kernel
theorem dX10_take_1 : decode cX10_take 1 = .ok (.iload_n 2, 1) := by decide +kernel
theorem dX10_take_2 : decode cX10_take 2 = .ok (.iload_n 3, 1) := by decide +kernel
theorem dX10_take_3 : decode cX10_take 3 = .ok (.invokevirtual 144, 3) := by decide +kernel
theorem dX10_take_6 : decode cX10_take 6 = .ok (.istore 4, 2) := by decide +kernel
theorem dX10_take_8 : decode cX10_take 8 = .ok (.aload_n 0, 1) := by decide +kernel
theorem dX10_take_9 : decode cX10_take 9 = .ok (.getfield 36, 3) := by decide +kernel
theorem dX10_take_12 : decode cX10_take 12 = .ok (.iload_n 1, 1) := by decide +kernel
theorem dX10_take_13 : decode cX10_take 13 = .ok (.aload_n 0, 1) := by decide +kernel
theorem dX10_take_14 : decode cX10_take 14 = .ok (.getfield 131, 3) := by decide +kernel
theorem dX10_take_17 : decode cX10_take 17 = .ok (.iastore, 1) := by decide +kernel
theorem dX10_take_18 : decode cX10_take 18 = .ok (.iload 4, 2) := by decide +kernel
theorem dX10_take_20 : decode cX10_take 20 = .ok (.ireturn, 1) := by decide +kernel
theorem dX10_takeRope_0 : decode cX10_takeRope 0 = .ok (.aload_n 0, 1) := by decide +kernel
theorem dX10_takeRope_1 : decode cX10_takeRope 1 = .ok (.iconst 1, 1) := by decide +kernel
theorem dX10_takeRope_2 : decode cX10_takeRope 2 = .ok (.bipush 100, 2) := by decide +kernel
theorem dX10_takeRope_4 : decode cX10_takeRope 4 = .ok (.sipush 900, 3) := by decide +kernel
theorem dX10_takeRope_7 : decode cX10_takeRope 7 = .ok (.invokevirtual 147, 3) := by decide +kernel
theorem dX10_takeRope_10 : decode cX10_takeRope 10 = .ok (.istore_n 1, 1) := by decide +kernel
theorem dX10_takeRope_11 : decode cX10_takeRope 11 = .ok (.iload_n 1, 1) := by decide +kernel
theorem dX10_takeRope_12 : decode cX10_takeRope 12 = .ok (.ifCond .le 7, 3) := by decide +kernel
theorem dX10_takeRope_15 : decode cX10_takeRope 15 = .ok (.iload_n 1, 1) := by decide +kernel
theorem dX10_takeRope_16 : decode cX10_takeRope 16 = .ok (.goto 13, 3) := by decide +kernel
theorem dX10_takeRope_19 : decode cX10_takeRope 19 = .ok (.aload_n 0, 1) := by decide +kernel
theorem dX10_takeRope_20 : decode cX10_takeRope 20 = .ok (.iconst 2, 1) := by decide +kernel
theorem dX10_takeRope_21 : decode cX10_takeRope 21 = .ok (.bipush 20, 2) := by decide +kernel
theorem dX10_takeRope_23 : decode cX10_takeRope 23 = .ok (.sipush 999, 3) := by decide +kernel
theorem dX10_takeRope_26 : decode cX10_takeRope 26 = .ok (.invokevirtual 147, 3) := by decide +kernel
theorem dX10_takeRope_29 : decode cX10_takeRope 29 = .ok (.istore_n 1, 1) := by decide +kernel
theorem dX10_takeRope_30 : decode cX10_takeRope 30 = .ok (.iload_n 1, 1) := by decide +kernel
theorem dX10_takeRope_31 : decode cX10_takeRope 31 = .ok (.ifCond .le 7, 3) := by decide +kernel
theorem dX10_takeRope_34 : decode cX10_takeRope 34 = .ok (.iload_n 1, 1) := by decide +kernel
theorem dX10_takeRope_35 : decode cX10_takeRope 35 = .ok (.goto 11, 3) := by decide +kernel
theorem dX10_takeRope_38 : decode cX10_takeRope 38 = .ok (.aload_n 0, 1) := by decide +kernel
theorem dX10_takeRope_39 : decode cX10_takeRope 39 = .ok (.iconst 3, 1) := by decide +kernel
theorem dX10_takeRope_40 : decode cX10_takeRope 40 = .ok (.iconst 0, 1) := by decide +kernel
theorem dX10_takeRope_41 : decode cX10_takeRope 41 = .ok (.bipush 99, 2) := by decide +kernel
theorem dX10_takeRope_43 : decode cX10_takeRope 43 = .ok (.invokevirtual 147, 3) := by decide +kernel
theorem dX10_takeRope_46 : decode cX10_takeRope 46 = .ok (.ireturn, 1) := by decide +kernel
theorem dX10_takeStart_0 : decode cX10_takeStart 0 = .ok (.aload_n 0, 1) := by decide +kernel
theorem dX10_takeStart_1 : decode cX10_takeStart 1 = .ok (.iconst 4, 1) := by decide +kernel
theorem dX10_takeStart_2 : decode cX10_takeStart 2 = .ok (.iconst 0, 1) := by decide +kernel
theorem dX10_takeStart_3 : decode cX10_takeStart 3 = .ok (.bipush 80, 2) := by decide +kernel
theorem dX10_takeStart_5 : decode cX10_takeStart 5 = .ok (.invokevirtual 147, 3) := by decide +kernel
theorem dX10_takeStart_8 : decode cX10_takeStart 8 = .ok (.istore_n 1, 1) := by decide +kernel
theorem dX10_takeStart_9 : decode cX10_takeStart 9 = .ok (.iload_n 1, 1) := by decide +kernel
theorem dX10_takeStart_10 : decode cX10_takeStart 10 = .ok (.ifCond .le 7, 3) := by decide +kernel
theorem dX10_takeStart_13 : decode cX10_takeStart 13 = .ok (.iload_n 1, 1) := by decide +kernel
theorem dX10_takeStart_14 : decode cX10_takeStart 14 = .ok (.goto 12, 3) := by decide +kernel
theorem dX10_takeStart_17 : decode cX10_takeStart 17 = .ok (.aload_n 0, 1) := by decide +kernel
theorem dX10_takeStart_18 : decode cX10_takeStart 18 = .ok (.iconst 5, 1) := by decide +kernel
theorem dX10_takeStart_19 : decode cX10_takeStart 19 = .ok (.iconst 0, 1) := by decide +kernel
theorem dX10_takeStart_20 : decode cX10_takeStart 20 = .ok (.sipush 600, 3) := by decide +kernel
theorem dX10_takeStart_23 : decode cX10_takeStart 23 = .ok (.invokevirtual 147, 3) := by decide +kernel
theorem dX10_takeStart_26 : decode cX10_takeStart 26 = .ok (.ireturn, 1) := by decide +kernel
theorem dX10_takeRow_0 : decode cX10_takeRow 0 = .ok (.iconst 0, 1) := by decide +kernel
theorem dX10_takeRow_1 : decode cX10_takeRow 1 = .ok (.istore 4, 2) := by decide +kernel
theorem dX10_takeRow_3 : decode cX10_takeRow 3 = .ok (.iconst 1, 1) := by decide +kernel
theorem dX10_takeRow_4 : decode cX10_takeRow 4 = .ok (.istore 5, 2) := by decide +kernel
theorem dX10_takeRow_6 : decode cX10_takeRow 6 = .ok (.iload 5, 2) := by decide +kernel
theorem dX10_takeRow_8 : decode cX10_takeRow 8 = .ok (.ifCond .eq 66, 3) := by decide +kernel
theorem dX10_takeRow_11 : decode cX10_takeRow 11 = .ok (.aload_n 0, 1) := by decide +kernel
theorem dX10_takeRow_12 : decode cX10_takeRow 12 = .ok (.iconst 0, 1) := by decide +kernel
theorem dX10_takeRow_13 : decode cX10_takeRow 13 = .ok (.iload_n 3, 1) := by decide +kernel
theorem dX10_takeRow_14 : decode cX10_takeRow 14 = .ok (.invokevirtual 144, 3) := by decide +kernel
theorem dX10_takeRow_17 : decode cX10_takeRow 17 = .ok (.istore 6, 2) := by decide +kernel
theorem dX10_takeRow_19 : decode cX10_takeRow 19 = .ok (.iload 6, 2) := by decide +kernel
theorem dX10_takeRow_21 : decode cX10_takeRow 21 = .ok (.ifCond .ne 21, 3) := by decide +kernel
theorem dX10_takeRow_24 : decode cX10_takeRow 24 = .ok (.iload 4, 2) := by decide +kernel
theorem dX10_takeRow_26 : decode cX10_takeRow 26 = .ok (.iload_n 2, 1) := by decide +kernel
theorem dX10_takeRow_27 : decode cX10_takeRow 27 = .ok (.if_icmp .ne 15, 3) := by decide +kernel
theorem dX10_takeRow_30 : decode cX10_takeRow 30 = .ok (.aload_n 0, 1) := by decide +kernel
theorem dX10_takeRow_31 : decode cX10_takeRow 31 = .ok (.iconst 4, 1) := by decide +kernel
theorem dX10_takeRow_32 : decode cX10_takeRow 32 = .ok (.aload_n 0, 1) := by decide +kernel
theorem dX10_takeRow_33 : decode cX10_takeRow 33 = .ok (.getfield 128, 3) := by decide +kernel
theorem dX10_takeRow_36 : decode cX10_takeRow 36 = .ok (.invokevirtual 124, 3) := by decide +kernel
theorem dX10_takeRow_39 : decode cX10_takeRow 39 = .ok (.goto 5, 3) := by decide +kernel
theorem dX10_takeRow_42 : decode cX10_takeRow 42 = .ok (.iload 6, 2) := by decide +kernel
theorem dX10_takeRow_44 : decode cX10_takeRow 44 = .ok (.istore 6, 2) := by decide +kernel
theorem dX10_takeRow_46 : decode cX10_takeRow 46 = .ok (.iload 6, 2) := by decide +kernel
theorem dX10_takeRow_48 : decode cX10_takeRow 48 = .ok (.ifCond .le 6, 3) := by decide +kernel
theorem dX10_takeRow_51 : decode cX10_takeRow 51 = .ok (.iload 6, 2) := by decide +kernel
theorem dX10_takeRow_53 : decode cX10_takeRow 53 = .ok (.ireturn, 1) := by decide +kernel
theorem dX10_takeRow_54 : decode cX10_takeRow 54 = .ok (.aload_n 1, 1) := by decide +kernel
theorem dX10_takeRow_55 : decode cX10_takeRow 55 = .ok (.iload 4, 2) := by decide +kernel
theorem dX10_takeRow_57 : decode cX10_takeRow 57 = .ok (.aload_n 0, 1) := by decide +kernel
theorem dX10_takeRow_58 : decode cX10_takeRow 58 = .ok (.getfield 131, 3) := by decide +kernel
theorem dX10_takeRow_61 : decode cX10_takeRow 61 = .ok (.iastore, 1) := by decide +kernel
theorem dX10_takeRow_62 : decode cX10_takeRow 62 = .ok (.iinc 4 1, 3) := by decide +kernel
theorem dX10_takeRow_65 : decode cX10_takeRow 65 = .ok (.aload_n 0, 1) := by decide +kernel
theorem dX10_takeRow_66 : decode cX10_takeRow 66 = .ok (.invokevirtual 151, 3) := by decide +kernel
theorem dX10_takeRow_69 : decode cX10_takeRow 69 = .ok (.istore 5, 2) := by decide +kernel
theorem dX10_takeRow_71 : decode cX10_takeRow 71 = .ok (.goto (-65), 3) := by decide +kernel
theorem dX10_takeRow_74 : decode cX10_takeRow 74 = .ok (.iconst 0, 1) := by decide +kernel
theorem dX10_takeRow_75 : decode cX10_takeRow 75 = .ok (.ireturn, 1) := by decide +kernel
theorem dX10_takeStones_0 : decode cX10_takeStones 0 = .ok (.iconst 1, 1) := by decide +kernel
theorem dX10_takeStones_1 : decode cX10_takeStones 1 = .ok (.istore_n 1, 1) := by decide +kernel
theorem dX10_takeStones_2 : decode cX10_takeStones 2 = .ok (.iload_n 1, 1) := by decide +kernel
theorem dX10_takeStones_3 : decode cX10_takeStones 3 = .ok (.ifCond .eq 65, 3) := by decide +kernel
theorem dX10_takeStones_6 : decode cX10_takeStones 6 = .ok (.aload_n 0, 1) := by decide +kernel
theorem dX10_takeStones_7 : decode cX10_takeStones 7 = .ok (.iconst 0, 1) := by decide +kernel
theorem dX10_takeStones_8 : decode cX10_takeStones 8 = .ok (.bipush 23, 2) := by decide +kernel
theorem dX10_takeStones_10 : decode cX10_takeStones 10 = .ok (.invokevirtual 144, 3) := by decide +kernel
theorem dX10_takeStones_13 : decode cX10_takeStones 13 = .ok (.istore_n 2, 1) := by decide +kernel
theorem dX10_takeStones_14 : decode cX10_takeStones 14 = .ok (.iload_n 2, 1) := by decide +kernel
theorem dX10_takeStones_15 : decode cX10_takeStones 15 = .ok (.ifCond .ne 27, 3) := by decide +kernel
theorem dX10_takeStones_18 : decode cX10_takeStones 18 = .ok (.aload_n 0, 1) := by decide +kernel
theorem dX10_takeStones_19 : decode cX10_takeStones 19 = .ok (.getfield 42, 3) := by decide +kernel
theorem dX10_takeStones_22 : decode cX10_takeStones 22 = .ok (.aload_n 0, 1) := by decide +kernel
theorem dX10_takeStones_23 : decode cX10_takeStones 23 = .ok (.getfield 131, 3) := by decide +kernel
theorem dX10_takeStones_26 : decode cX10_takeStones 26 = .ok (.baload, 1) := by decide +kernel
theorem dX10_takeStones_27 : decode cX10_takeStones 27 = .ok (.ifCond .eq 15, 3) := by decide +kernel
theorem dX10_takeStones_30 : decode cX10_takeStones 30 = .ok (.aload_n 0, 1) := by decide +kernel
theorem dX10_takeStones_31 : decode cX10_takeStones 31 = .ok (.iconst 3, 1) := by decide +kernel
theorem dX10_takeStones_32 : decode cX10_takeStones 32 = .ok (.aload_n 0, 1) := by decide +kernel
theorem dX10_takeStones_33 : decode cX10_takeStones 33 = .ok (.getfield 128, 3) := by decide +kernel
theorem dX10_takeStones_36 : decode cX10_takeStones 36 = .ok (.invokevirtual 124, 3) := by decide +kernel
theorem dX10_takeStones_39 : decode cX10_takeStones 39 = .ok (.goto 4, 3) := by decide +kernel
theorem dX10_takeStones_42 : decode cX10_takeStones 42 = .ok (.iload_n 2, 1) := by decide +kernel
theorem dX10_takeStones_43 : decode cX10_takeStones 43 = .ok (.istore_n 2, 1) := by decide +kernel
theorem dX10_takeStones_44 : decode cX10_takeStones 44 = .ok (.iload_n 2, 1) := by decide +kernel
theorem dX10_takeStones_45 : decode cX10_takeStones 45 = .ok (.ifCond .le 5, 3) := by decide +kernel
theorem dX10_takeStones_48 : decode cX10_takeStones 48 = .ok (.iload_n 2, 1) := by decide +kernel
theorem dX10_takeStones_49 : decode cX10_takeStones 49 = .ok (.ireturn, 1) := by decide +kernel
theorem dX10_takeStones_50 : decode cX10_takeStones 50 = .ok (.aload_n 0, 1) := by decide +kernel
theorem dX10_takeStones_51 : decode cX10_takeStones 51 = .ok (.getfield 42, 3) := by decide +kernel
theorem dX10_takeStones_54 : decode cX10_takeStones 54 = .ok (.aload_n 0, 1) := by decide +kernel
theorem dX10_takeStones_55 : decode cX10_takeStones 55 = .ok (.getfield 131, 3) := by decide +kernel
theorem dX10_takeStones_58 : decode cX10_takeStones 58 = .ok (.iconst 1, 1) := by decide +kernel
theorem dX10_takeStones_59 : decode cX10_takeStones 59 = .ok (.bastore, 1) := by decide +kernel
theorem dX10_takeStones_60 : decode cX10_takeStones 60 = .ok (.aload_n 0, 1) := by decide +kernel
theorem dX10_takeStones_61 : decode cX10_takeStones 61 = .ok (.invokevirtual 151, 3) := by decide +kernel
theorem dX10_takeStones_64 : decode cX10_takeStones 64 = .ok (.istore_n 1, 1) := by decide +kernel
theorem dX10_takeStones_65 : decode cX10_takeStones 65 = .ok (.goto (-63), 3) := by decide +kernel
theorem dX10_takeStones_68 : decode cX10_takeStones 68 = .ok (.iconst 0, 1) := by decide +kernel
theorem dX10_takeStones_69 : decode cX10_takeStones 69 = .ok (.ireturn, 1) := by decide +kernel
theorem dX10_clauseOf_0 : decode cX10_clauseOf 0 = .ok (.aload_n 0, 1) := by decide +kernel
theorem dX10_clauseOf_1 : decode cX10_clauseOf 1 = .ok (.getfield 101, 3) := by decide +kernel
theorem dX10_clauseOf_4 : decode cX10_clauseOf 4 = .ok (.bipush 98, 2) := by decide +kernel
theorem dX10_clauseOf_6 : decode cX10_clauseOf 6 = .ok (.bipush 111, 2) := by decide +kernel
theorem dX10_clauseOf_8 : decode cX10_clauseOf 8 = .ok (.bipush 117, 2) := by decide +kernel
theorem dX10_clauseOf_10 : decode cX10_clauseOf 10 = .ok (.bipush 103, 2) := by decide +kernel
theorem dX10_clauseOf_12 : decode cX10_clauseOf 12 = .ok (.invokestatic 155, 3) := by decide +kernel
theorem dX10_clauseOf_15 : decode cX10_clauseOf 15 = .ok (.bipush 104, 2) := by decide +kernel
theorem dX10_clauseOf_17 : decode cX10_clauseOf 17 = .ok (.invokestatic 159, 3) := by decide +kernel
theorem dX10_clauseOf_20 : decode cX10_clauseOf 20 = .ok (.lcmp, 1) := by decide +kernel
theorem dX10_clauseOf_21 : decode cX10_clauseOf 21 = .ok (.ifCond .ne 7, 3) := by decide +kernel
theorem dX10_clauseOf_24 : decode cX10_clauseOf 24 = .ok (.iconst 0, 1) := by decide +kernel
theorem dX10_clauseOf_25 : decode cX10_clauseOf 25 = .ok (.goto 83, 3) := by decide +kernel
theorem dX10_clauseOf_28 : decode cX10_clauseOf 28 = .ok (.aload_n 0, 1) := by decide +kernel
theorem dX10_clauseOf_29 : decode cX10_clauseOf 29 = .ok (.getfield 101, 3) := by decide +kernel
theorem dX10_clauseOf_32 : decode cX10_clauseOf 32 = .ok (.bipush 114, 2) := by decide +kernel
theorem dX10_clauseOf_34 : decode cX10_clauseOf 34 = .ok (.bipush 111, 2) := by decide +kernel
theorem dX10_clauseOf_36 : decode cX10_clauseOf 36 = .ok (.bipush 112, 2) := by decide +kernel
theorem dX10_clauseOf_38 : decode cX10_clauseOf 38 = .ok (.bipush 101, 2) := by decide +kernel
theorem dX10_clauseOf_40 : decode cX10_clauseOf 40 = .ok (.invokestatic 155, 3) := by decide +kernel
theorem dX10_clauseOf_43 : decode cX10_clauseOf 43 = .ok (.lcmp, 1) := by decide +kernel
theorem dX10_clauseOf_44 : decode cX10_clauseOf 44 = .ok (.ifCond .ne 7, 3) := by decide +kernel
theorem dX10_clauseOf_47 : decode cX10_clauseOf 47 = .ok (.iconst 1, 1) := by decide +kernel
theorem dX10_clauseOf_48 : decode cX10_clauseOf 48 = .ok (.goto 60, 3) := by decide +kernel
theorem dX10_clauseOf_51 : decode cX10_clauseOf 51 = .ok (.aload_n 0, 1) := by decide +kernel
theorem dX10_clauseOf_52 : decode cX10_clauseOf 52 = .ok (.getfield 101, 3) := by decide +kernel
theorem dX10_clauseOf_55 : decode cX10_clauseOf 55 = .ok (.bipush 115, 2) := by decide +kernel
theorem dX10_clauseOf_57 : decode cX10_clauseOf 57 = .ok (.bipush 116, 2) := by decide +kernel
theorem dX10_clauseOf_59 : decode cX10_clauseOf 59 = .ok (.bipush 97, 2) := by decide +kernel
theorem dX10_clauseOf_61 : decode cX10_clauseOf 61 = .ok (.bipush 114, 2) := by decide +kernel
theorem dX10_clauseOf_63 : decode cX10_clauseOf 63 = .ok (.invokestatic 155, 3) := by decide +kernel
theorem dX10_clauseOf_66 : decode cX10_clauseOf 66 = .ok (.bipush 116, 2) := by decide +kernel
theorem dX10_clauseOf_68 : decode cX10_clauseOf 68 = .ok (.invokestatic 159, 3) := by decide +kernel
theorem dX10_clauseOf_71 : decode cX10_clauseOf 71 = .ok (.lcmp, 1) := by decide +kernel
theorem dX10_clauseOf_72 : decode cX10_clauseOf 72 = .ok (.ifCond .ne 7, 3) := by decide +kernel
theorem dX10_clauseOf_75 : decode cX10_clauseOf 75 = .ok (.iconst 2, 1) := by decide +kernel
theorem dX10_clauseOf_76 : decode cX10_clauseOf 76 = .ok (.goto 32, 3) := by decide +kernel
theorem dX10_clauseOf_79 : decode cX10_clauseOf 79 = .ok (.aload_n 0, 1) := by decide +kernel
theorem dX10_clauseOf_80 : decode cX10_clauseOf 80 = .ok (.getfield 101, 3) := by decide +kernel
theorem dX10_clauseOf_83 : decode cX10_clauseOf 83 = .ok (.bipush 116, 2) := by decide +kernel
theorem dX10_clauseOf_85 : decode cX10_clauseOf 85 = .ok (.bipush 114, 2) := by decide +kernel
theorem dX10_clauseOf_87 : decode cX10_clauseOf 87 = .ok (.bipush 117, 2) := by decide +kernel
theorem dX10_clauseOf_89 : decode cX10_clauseOf 89 = .ok (.bipush 110, 2) := by decide +kernel
theorem dX10_clauseOf_91 : decode cX10_clauseOf 91 = .ok (.invokestatic 155, 3) := by decide +kernel
theorem dX10_clauseOf_94 : decode cX10_clauseOf 94 = .ok (.bipush 107, 2) := by decide +kernel
theorem dX10_clauseOf_96 : decode cX10_clauseOf 96 = .ok (.invokestatic 159, 3) := by decide +kernel
theorem dX10_clauseOf_99 : decode cX10_clauseOf 99 = .ok (.lcmp, 1) := by decide +kernel
theorem dX10_clauseOf_100 : decode cX10_clauseOf 100 = .ok (.ifCond .ne 7, 3) := by decide +kernel
theorem dX10_clauseOf_103 : decode cX10_clauseOf 103 = .ok (.iconst 3, 1) := by decide +kernel
theorem dX10_clauseOf_104 : decode cX10_clauseOf 104 = .ok (.goto 4, 3) := by decide +kernel
theorem dX10_clauseOf_107 : decode cX10_clauseOf 107 = .ok (.iconst (-1), 1) := by decide +kernel
theorem dX10_clauseOf_108 : decode cX10_clauseOf 108 = .ok (.istore_n 1, 1) := by decide +kernel
theorem dX10_clauseOf_109 : decode cX10_clauseOf 109 = .ok (.aload_n 0, 1) := by decide +kernel
theorem dX10_clauseOf_110 : decode cX10_clauseOf 110 = .ok (.getfield 101, 3) := by decide +kernel
theorem dX10_clauseOf_113 : decode cX10_clauseOf 113 = .ok (.bipush 110, 2) := by decide +kernel
theorem dX10_clauseOf_115 : decode cX10_clauseOf 115 = .ok (.bipush 101, 2) := by decide +kernel
theorem dX10_clauseOf_117 : decode cX10_clauseOf 117 = .ok (.bipush 101, 2) := by decide +kernel
theorem dX10_clauseOf_119 : decode cX10_clauseOf 119 = .ok (.bipush 100, 2) := by decide +kernel
theorem dX10_clauseOf_121 : decode cX10_clauseOf 121 = .ok (.invokestatic 155, 3) := by decide +kernel
theorem dX10_clauseOf_124 : decode cX10_clauseOf 124 = .ok (.lcmp, 1) := by decide +kernel
theorem dX10_clauseOf_125 : decode cX10_clauseOf 125 = .ok (.ifCond .ne 7, 3) := by decide +kernel
theorem dX10_clauseOf_128 : decode cX10_clauseOf 128 = .ok (.iconst 4, 1) := by decide +kernel
theorem dX10_clauseOf_129 : decode cX10_clauseOf 129 = .ok (.goto 90, 3) := by decide +kernel
theorem dX10_clauseOf_132 : decode cX10_clauseOf 132 = .ok (.aload_n 0, 1) := by decide +kernel
theorem dX10_clauseOf_133 : decode cX10_clauseOf 133 = .ok (.getfield 101, 3) := by decide +kernel
theorem dX10_clauseOf_136 : decode cX10_clauseOf 136 = .ok (.bipush 119, 2) := by decide +kernel
theorem dX10_clauseOf_138 : decode cX10_clauseOf 138 = .ok (.bipush 97, 2) := by decide +kernel
theorem dX10_clauseOf_140 : decode cX10_clauseOf 140 = .ok (.bipush 116, 2) := by decide +kernel
theorem dX10_clauseOf_142 : decode cX10_clauseOf 142 = .ok (.bipush 101, 2) := by decide +kernel
theorem dX10_clauseOf_144 : decode cX10_clauseOf 144 = .ok (.invokestatic 155, 3) := by decide +kernel
theorem dX10_clauseOf_147 : decode cX10_clauseOf 147 = .ok (.bipush 114, 2) := by decide +kernel
theorem dX10_clauseOf_149 : decode cX10_clauseOf 149 = .ok (.invokestatic 159, 3) := by decide +kernel
theorem dX10_clauseOf_152 : decode cX10_clauseOf 152 = .ok (.lcmp, 1) := by decide +kernel
theorem dX10_clauseOf_153 : decode cX10_clauseOf 153 = .ok (.ifCond .ne 7, 3) := by decide +kernel
theorem dX10_clauseOf_156 : decode cX10_clauseOf 156 = .ok (.iconst 5, 1) := by decide +kernel
theorem dX10_clauseOf_157 : decode cX10_clauseOf 157 = .ok (.goto 62, 3) := by decide +kernel
theorem dX10_clauseOf_160 : decode cX10_clauseOf 160 = .ok (.aload_n 0, 1) := by decide +kernel
theorem dX10_clauseOf_161 : decode cX10_clauseOf 161 = .ok (.getfield 101, 3) := by decide +kernel
theorem dX10_clauseOf_164 : decode cX10_clauseOf 164 = .ok (.bipush 115, 2) := by decide +kernel
theorem dX10_clauseOf_166 : decode cX10_clauseOf 166 = .ok (.bipush 116, 2) := by decide +kernel
theorem dX10_clauseOf_168 : decode cX10_clauseOf 168 = .ok (.bipush 111, 2) := by decide +kernel
theorem dX10_clauseOf_170 : decode cX10_clauseOf 170 = .ok (.bipush 110, 2) := by decide +kernel
theorem dX10_clauseOf_172 : decode cX10_clauseOf 172 = .ok (.invokestatic 155, 3) := by decide +kernel
theorem dX10_clauseOf_175 : decode cX10_clauseOf 175 = .ok (.bipush 101, 2) := by decide +kernel
theorem dX10_clauseOf_177 : decode cX10_clauseOf 177 = .ok (.invokestatic 159, 3) := by decide +kernel
theorem dX10_clauseOf_180 : decode cX10_clauseOf 180 = .ok (.bipush 115, 2) := by decide +kernel
theorem dX10_clauseOf_182 : decode cX10_clauseOf 182 = .ok (.invokestatic 159, 3) := by decide +kernel
theorem dX10_clauseOf_185 : decode cX10_clauseOf 185 = .ok (.lcmp, 1) := by decide +kernel
theorem dX10_clauseOf_186 : decode cX10_clauseOf 186 = .ok (.ifCond .ne 8, 3) := by decide +kernel
theorem dX10_clauseOf_189 : decode cX10_clauseOf 189 = .ok (.bipush 6, 2) := by decide +kernel
theorem dX10_clauseOf_191 : decode cX10_clauseOf 191 = .ok (.goto 28, 3) := by decide +kernel
theorem dX10_clauseOf_194 : decode cX10_clauseOf 194 = .ok (.aload_n 0, 1) := by decide +kernel
theorem dX10_clauseOf_195 : decode cX10_clauseOf 195 = .ok (.getfield 101, 3) := by decide +kernel
theorem dX10_clauseOf_198 : decode cX10_clauseOf 198 = .ok (.bipush 115, 2) := by decide +kernel
theorem dX10_clauseOf_200 : decode cX10_clauseOf 200 = .ok (.bipush 97, 2) := by decide +kernel
theorem dX10_clauseOf_202 : decode cX10_clauseOf 202 = .ok (.bipush 110, 2) := by decide +kernel
theorem dX10_clauseOf_204 : decode cX10_clauseOf 204 = .ok (.bipush 100, 2) := by decide +kernel
theorem dX10_clauseOf_206 : decode cX10_clauseOf 206 = .ok (.invokestatic 155, 3) := by decide +kernel
theorem dX10_clauseOf_209 : decode cX10_clauseOf 209 = .ok (.lcmp, 1) := by decide +kernel
theorem dX10_clauseOf_210 : decode cX10_clauseOf 210 = .ok (.ifCond .ne 8, 3) := by decide +kernel
theorem dX10_clauseOf_213 : decode cX10_clauseOf 213 = .ok (.bipush 7, 2) := by decide +kernel
theorem dX10_clauseOf_215 : decode cX10_clauseOf 215 = .ok (.goto 4, 3) := by decide +kernel
theorem dX10_clauseOf_218 : decode cX10_clauseOf 218 = .ok (.iconst (-1), 1) := by decide +kernel
theorem dX10_clauseOf_219 : decode cX10_clauseOf 219 = .ok (.istore_n 2, 1) := by decide +kernel
theorem dX10_clauseOf_220 : decode cX10_clauseOf 220 = .ok (.iload_n 1, 1) := by decide +kernel
theorem dX10_clauseOf_221 : decode cX10_clauseOf 221 = .ok (.ifCond .lt 7, 3) := by decide +kernel
theorem dX10_clauseOf_224 : decode cX10_clauseOf 224 = .ok (.iload_n 1, 1) := by decide +kernel
theorem dX10_clauseOf_225 : decode cX10_clauseOf 225 = .ok (.goto 46, 3) := by decide +kernel
theorem dX10_clauseOf_228 : decode cX10_clauseOf 228 = .ok (.iload_n 2, 1) := by decide +kernel
theorem dX10_clauseOf_229 : decode cX10_clauseOf 229 = .ok (.ifCond .lt 7, 3) := by decide +kernel
theorem dX10_clauseOf_232 : decode cX10_clauseOf 232 = .ok (.iload_n 2, 1) := by decide +kernel
theorem dX10_clauseOf_233 : decode cX10_clauseOf 233 = .ok (.goto 38, 3) := by decide +kernel
theorem dX10_clauseOf_236 : decode cX10_clauseOf 236 = .ok (.aload_n 0, 1) := by decide +kernel
theorem dX10_clauseOf_237 : decode cX10_clauseOf 237 = .ok (.getfield 101, 3) := by decide +kernel
theorem dX10_clauseOf_240 : decode cX10_clauseOf 240 = .ok (.bipush 109, 2) := by decide +kernel
theorem dX10_clauseOf_242 : decode cX10_clauseOf 242 = .ok (.bipush 111, 2) := by decide +kernel
theorem dX10_clauseOf_244 : decode cX10_clauseOf 244 = .ok (.bipush 110, 2) := by decide +kernel
theorem dX10_clauseOf_246 : decode cX10_clauseOf 246 = .ok (.bipush 116, 2) := by decide +kernel
theorem dX10_clauseOf_248 : decode cX10_clauseOf 248 = .ok (.invokestatic 155, 3) := by decide +kernel
theorem dX10_clauseOf_251 : decode cX10_clauseOf 251 = .ok (.bipush 104, 2) := by decide +kernel
theorem dX10_clauseOf_253 : decode cX10_clauseOf 253 = .ok (.invokestatic 159, 3) := by decide +kernel
theorem dX10_clauseOf_256 : decode cX10_clauseOf 256 = .ok (.bipush 115, 2) := by decide +kernel
theorem dX10_clauseOf_258 : decode cX10_clauseOf 258 = .ok (.invokestatic 159, 3) := by decide +kernel
theorem dX10_clauseOf_261 : decode cX10_clauseOf 261 = .ok (.lcmp, 1) := by decide +kernel
theorem dX10_clauseOf_262 : decode cX10_clauseOf 262 = .ok (.ifCond .ne 8, 3) := by decide +kernel
theorem dX10_clauseOf_265 : decode cX10_clauseOf 265 = .ok (.bipush 8, 2) := by decide +kernel
theorem dX10_clauseOf_267 : decode cX10_clauseOf 267 = .ok (.goto 4, 3) := by decide +kernel
theorem dX10_clauseOf_270 : decode cX10_clauseOf 270 = .ok (.iconst (-1), 1) := by decide +kernel
theorem dX10_clauseOf_271 : decode cX10_clauseOf 271 = .ok (.ireturn, 1) := by decide +kernel
theorem dX10_takeClause_0 : decode cX10_takeClause 0 = .ok (.aload_n 0, 1) := by decide +kernel
theorem dX10_takeClause_1 : decode cX10_takeClause 1 = .ok (.invokevirtual 163, 3) := by decide +kernel
theorem dX10_takeClause_4 : decode cX10_takeClause 4 = .ok (.aload_n 0, 1) := by decide +kernel
theorem dX10_takeClause_5 : decode cX10_takeClause 5 = .ok (.invokevirtual 166, 3) := by decide +kernel
theorem dX10_takeClause_8 : decode cX10_takeClause 8 = .ok (.istore_n 1, 1) := by decide +kernel
theorem dX10_takeClause_9 : decode cX10_takeClause 9 = .ok (.iload_n 1, 1) := by decide +kernel
theorem dX10_takeClause_10 : decode cX10_takeClause 10 = .ok (.ifCond .lt 15, 3) := by decide +kernel
theorem dX10_takeClause_13 : decode cX10_takeClause 13 = .ok (.aload_n 0, 1) := by decide +kernel
theorem dX10_takeClause_14 : decode cX10_takeClause 14 = .ok (.getfield 134, 3) := by decide +kernel
theorem dX10_takeClause_17 : decode cX10_takeClause 17 = .ok (.iload_n 1, 1) := by decide +kernel
theorem dX10_takeClause_18 : decode cX10_takeClause 18 = .ok (.ishr, 1) := by decide +kernel
theorem dX10_takeClause_19 : decode cX10_takeClause 19 = .ok (.iconst 1, 1) := by decide +kernel
theorem dX10_takeClause_20 : decode cX10_takeClause 20 = .ok (.iand, 1) := by decide +kernel
theorem dX10_takeClause_21 : decode cX10_takeClause 21 = .ok (.iconst 1, 1) := by decide +kernel
theorem dX10_takeClause_22 : decode cX10_takeClause 22 = .ok (.if_icmp .ne 21, 3) := by decide +kernel
theorem dX10_takeClause_25 : decode cX10_takeClause 25 = .ok (.aload_n 0, 1) := by decide +kernel
theorem dX10_takeClause_26 : decode cX10_takeClause 26 = .ok (.iload_n 1, 1) := by decide +kernel
theorem dX10_takeClause_27 : decode cX10_takeClause 27 = .ok (.ifCond .ge 7, 3) := by decide +kernel
theorem dX10_takeClause_30 : decode cX10_takeClause 30 = .ok (.iconst 1, 1) := by decide +kernel
theorem dX10_takeClause_31 : decode cX10_takeClause 31 = .ok (.goto 4, 3) := by decide +kernel
theorem dX10_takeClause_34 : decode cX10_takeClause 34 = .ok (.iconst 3, 1) := by decide +kernel
theorem dX10_takeClause_35 : decode cX10_takeClause 35 = .ok (.aload_n 0, 1) := by decide +kernel
theorem dX10_takeClause_36 : decode cX10_takeClause 36 = .ok (.getfield 94, 3) := by decide +kernel
theorem dX10_takeClause_39 : decode cX10_takeClause 39 = .ok (.invokevirtual 124, 3) := by decide +kernel
theorem dX10_takeClause_42 : decode cX10_takeClause 42 = .ok (.ireturn, 1) := by decide +kernel
theorem dX10_takeClause_43 : decode cX10_takeClause 43 = .ok (.aload_n 0, 1) := by decide +kernel
theorem dX10_takeClause_44 : decode cX10_takeClause 44 = .ok (.dup, 1) := by decide +kernel
theorem dX10_takeClause_45 : decode cX10_takeClause 45 = .ok (.getfield 134, 3) := by decide +kernel
theorem dX10_takeClause_48 : decode cX10_takeClause 48 = .ok (.iconst 1, 1) := by decide +kernel
theorem dX10_takeClause_49 : decode cX10_takeClause 49 = .ok (.iload_n 1, 1) := by decide +kernel
theorem dX10_takeClause_50 : decode cX10_takeClause 50 = .ok (.ishl, 1) := by decide +kernel
theorem dX10_takeClause_51 : decode cX10_takeClause 51 = .ok (.ior, 1) := by decide +kernel
theorem dX10_takeClause_52 : decode cX10_takeClause 52 = .ok (.putfield 134, 3) := by decide +kernel
theorem dX10_takeClause_55 : decode cX10_takeClause 55 = .ok (.aload_n 0, 1) := by decide +kernel
theorem dX10_takeClause_56 : decode cX10_takeClause 56 = .ok (.dup, 1) := by decide +kernel
theorem dX10_takeClause_57 : decode cX10_takeClause 57 = .ok (.getfield 137, 3) := by decide +kernel
theorem dX10_takeClause_60 : decode cX10_takeClause 60 = .ok (.iconst 1, 1) := by decide +kernel
theorem dX10_takeClause_61 : decode cX10_takeClause 61 = .ok (.iadd, 1) := by decide +kernel
theorem dX10_takeClause_62 : decode cX10_takeClause 62 = .ok (.putfield 137, 3) := by decide +kernel
theorem dX10_takeClause_65 : decode cX10_takeClause 65 = .ok (.aload_n 0, 1) := by decide +kernel
theorem dX10_takeClause_66 : decode cX10_takeClause 66 = .ok (.aload_n 0, 1) := by decide +kernel
theorem dX10_takeClause_67 : decode cX10_takeClause 67 = .ok (.getfield 105, 3) := by decide +kernel
theorem dX10_takeClause_70 : decode cX10_takeClause 70 = .ok (.putfield 94, 3) := by decide +kernel
theorem dX10_takeClause_73 : decode cX10_takeClause 73 = .ok (.iconst 0, 1) := by decide +kernel
theorem dX10_takeClause_74 : decode cX10_takeClause 74 = .ok (.istore_n 2, 1) := by decide +kernel
theorem dX10_takeClause_75 : decode cX10_takeClause 75 = .ok (.iload_n 1, 1) := by decide +kernel
theorem dX10_takeClause_76 : decode cX10_takeClause 76 = .ok (.tableswitch 146 0 7 #[48, 63, 71, 79, 94, 108, 125, 133], 48) := by decide +kernel
theorem dX10_takeClause_124 : decode cX10_takeClause 124 = .ok (.aload_n 0, 1) := by decide +kernel
theorem dX10_takeClause_125 : decode cX10_takeClause 125 = .ok (.iconst 0, 1) := by decide +kernel
theorem dX10_takeClause_126 : decode cX10_takeClause 126 = .ok (.sipush 200, 3) := by decide +kernel
theorem dX10_takeClause_129 : decode cX10_takeClause 129 = .ok (.sipush 999, 3) := by decide +kernel
theorem dX10_takeClause_132 : decode cX10_takeClause 132 = .ok (.invokevirtual 147, 3) := by decide +kernel
theorem dX10_takeClause_135 : decode cX10_takeClause 135 = .ok (.istore_n 2, 1) := by decide +kernel
theorem dX10_takeClause_136 : decode cX10_takeClause 136 = .ok (.goto 100, 3) := by decide +kernel
theorem dX10_takeClause_139 : decode cX10_takeClause 139 = .ok (.aload_n 0, 1) := by decide +kernel
theorem dX10_takeClause_140 : decode cX10_takeClause 140 = .ok (.invokevirtual 169, 3) := by decide +kernel
theorem dX10_takeClause_143 : decode cX10_takeClause 143 = .ok (.istore_n 2, 1) := by decide +kernel
theorem dX10_takeClause_144 : decode cX10_takeClause 144 = .ok (.goto 92, 3) := by decide +kernel
theorem dX10_takeClause_147 : decode cX10_takeClause 147 = .ok (.aload_n 0, 1) := by decide +kernel
theorem dX10_takeClause_148 : decode cX10_takeClause 148 = .ok (.invokevirtual 172, 3) := by decide +kernel
theorem dX10_takeClause_151 : decode cX10_takeClause 151 = .ok (.istore_n 2, 1) := by decide +kernel
theorem dX10_takeClause_152 : decode cX10_takeClause 152 = .ok (.goto 84, 3) := by decide +kernel
theorem dX10_takeClause_155 : decode cX10_takeClause 155 = .ok (.aload_n 0, 1) := by decide +kernel
theorem dX10_takeClause_156 : decode cX10_takeClause 156 = .ok (.bipush 6, 2) := by decide +kernel
theorem dX10_takeClause_158 : decode cX10_takeClause 158 = .ok (.bipush 50, 2) := by decide +kernel
theorem dX10_takeClause_160 : decode cX10_takeClause 160 = .ok (.sipush 600, 3) := by decide +kernel
theorem dX10_takeClause_163 : decode cX10_takeClause 163 = .ok (.invokevirtual 147, 3) := by decide +kernel
theorem dX10_takeClause_166 : decode cX10_takeClause 166 = .ok (.istore_n 2, 1) := by decide +kernel
theorem dX10_takeClause_167 : decode cX10_takeClause 167 = .ok (.goto 69, 3) := by decide +kernel
theorem dX10_takeClause_170 : decode cX10_takeClause 170 = .ok (.aload_n 0, 1) := by decide +kernel
theorem dX10_takeClause_171 : decode cX10_takeClause 171 = .ok (.bipush 7, 2) := by decide +kernel
theorem dX10_takeClause_173 : decode cX10_takeClause 173 = .ok (.iconst 0, 1) := by decide +kernel
theorem dX10_takeClause_174 : decode cX10_takeClause 174 = .ok (.sipush 300, 3) := by decide +kernel
theorem dX10_takeClause_177 : decode cX10_takeClause 177 = .ok (.invokevirtual 147, 3) := by decide +kernel
theorem dX10_takeClause_180 : decode cX10_takeClause 180 = .ok (.istore_n 2, 1) := by decide +kernel
theorem dX10_takeClause_181 : decode cX10_takeClause 181 = .ok (.goto 55, 3) := by decide +kernel
theorem dX10_takeClause_184 : decode cX10_takeClause 184 = .ok (.aload_n 0, 1) := by decide +kernel
theorem dX10_takeClause_185 : decode cX10_takeClause 185 = .ok (.aload_n 0, 1) := by decide +kernel
theorem dX10_takeClause_186 : decode cX10_takeClause 186 = .ok (.getfield 39, 3) := by decide +kernel
theorem dX10_takeClause_189 : decode cX10_takeClause 189 = .ok (.bipush 24, 2) := by decide +kernel
theorem dX10_takeClause_191 : decode cX10_takeClause 191 = .ok (.sipush 600, 3) := by decide +kernel
theorem dX10_takeClause_194 : decode cX10_takeClause 194 = .ok (.invokevirtual 175, 3) := by decide +kernel
theorem dX10_takeClause_197 : decode cX10_takeClause 197 = .ok (.istore_n 2, 1) := by decide +kernel
theorem dX10_takeClause_198 : decode cX10_takeClause 198 = .ok (.goto 38, 3) := by decide +kernel
theorem dX10_takeClause_201 : decode cX10_takeClause 201 = .ok (.aload_n 0, 1) := by decide +kernel
theorem dX10_takeClause_202 : decode cX10_takeClause 202 = .ok (.invokevirtual 179, 3) := by decide +kernel
theorem dX10_takeClause_205 : decode cX10_takeClause 205 = .ok (.istore_n 2, 1) := by decide +kernel
theorem dX10_takeClause_206 : decode cX10_takeClause 206 = .ok (.goto 30, 3) := by decide +kernel
theorem dX10_takeClause_209 : decode cX10_takeClause 209 = .ok (.aload_n 0, 1) := by decide +kernel
theorem dX10_takeClause_210 : decode cX10_takeClause 210 = .ok (.bipush 8, 2) := by decide +kernel
theorem dX10_takeClause_212 : decode cX10_takeClause 212 = .ok (.iconst 1, 1) := by decide +kernel
theorem dX10_takeClause_213 : decode cX10_takeClause 213 = .ok (.bipush 24, 2) := by decide +kernel
theorem dX10_takeClause_215 : decode cX10_takeClause 215 = .ok (.invokevirtual 147, 3) := by decide +kernel
theorem dX10_takeClause_218 : decode cX10_takeClause 218 = .ok (.istore_n 2, 1) := by decide +kernel
theorem dX10_takeClause_219 : decode cX10_takeClause 219 = .ok (.goto 17, 3) := by decide +kernel
theorem dX10_takeClause_222 : decode cX10_takeClause 222 = .ok (.aload_n 0, 1) := by decide +kernel
theorem dX10_takeClause_223 : decode cX10_takeClause 223 = .ok (.aload_n 0, 1) := by decide +kernel
theorem dX10_takeClause_224 : decode cX10_takeClause 224 = .ok (.getfield 45, 3) := by decide +kernel
theorem dX10_takeClause_227 : decode cX10_takeClause 227 = .ok (.bipush 12, 2) := by decide +kernel
theorem dX10_takeClause_229 : decode cX10_takeClause 229 = .ok (.sipush 300, 3) := by decide +kernel
theorem dX10_takeClause_232 : decode cX10_takeClause 232 = .ok (.invokevirtual 175, 3) := by decide +kernel
theorem dX10_takeClause_235 : decode cX10_takeClause 235 = .ok (.istore_n 2, 1) := by decide +kernel
theorem dX10_takeClause_236 : decode cX10_takeClause 236 = .ok (.iload_n 2, 1) := by decide +kernel
theorem dX10_takeClause_237 : decode cX10_takeClause 237 = .ok (.ifCond .le 7, 3) := by decide +kernel
theorem dX10_takeClause_240 : decode cX10_takeClause 240 = .ok (.iload_n 2, 1) := by decide +kernel
theorem dX10_takeClause_241 : decode cX10_takeClause 241 = .ok (.goto 7, 3) := by decide +kernel
theorem dX10_takeClause_244 : decode cX10_takeClause 244 = .ok (.aload_n 0, 1) := by decide +kernel
theorem dX10_takeClause_245 : decode cX10_takeClause 245 = .ok (.invokevirtual 182, 3) := by decide +kernel
theorem dX10_takeClause_248 : decode cX10_takeClause 248 = .ok (.ireturn, 1) := by decide +kernel
theorem dX10_takePlace_0 : decode cX10_takePlace 0 = .ok (.iconst 0, 1) := by decide +kernel
theorem dX10_takePlace_1 : decode cX10_takePlace 1 = .ok (.istore_n 1, 1) := by decide +kernel
theorem dX10_takePlace_2 : decode cX10_takePlace 2 = .ok (.iload_n 1, 1) := by decide +kernel
theorem dX10_takePlace_3 : decode cX10_takePlace 3 = .ok (.bipush 9, 2) := by decide +kernel
theorem dX10_takePlace_5 : decode cX10_takePlace 5 = .ok (.if_icmp .ge 21, 3) := by decide +kernel
theorem dX10_takePlace_8 : decode cX10_takePlace 8 = .ok (.aload_n 0, 1) := by decide +kernel
theorem dX10_takePlace_9 : decode cX10_takePlace 9 = .ok (.getfield 7, 3) := by decide +kernel
theorem dX10_takePlace_12 : decode cX10_takePlace 12 = .ok (.iload_n 1, 1) := by decide +kernel
theorem dX10_takePlace_13 : decode cX10_takePlace 13 = .ok (.aload_n 0, 1) := by decide +kernel
theorem dX10_takePlace_14 : decode cX10_takePlace 14 = .ok (.getfield 36, 3) := by decide +kernel
theorem dX10_takePlace_17 : decode cX10_takePlace 17 = .ok (.iload_n 1, 1) := by decide +kernel
theorem dX10_takePlace_18 : decode cX10_takePlace 18 = .ok (.iaload, 1) := by decide +kernel
theorem dX10_takePlace_19 : decode cX10_takePlace 19 = .ok (.iastore, 1) := by decide +kernel
theorem dX10_takePlace_20 : decode cX10_takePlace 20 = .ok (.iinc 1 1, 3) := by decide +kernel
theorem dX10_takePlace_23 : decode cX10_takePlace 23 = .ok (.goto (-21), 3) := by decide +kernel
theorem dX10_takePlace_26 : decode cX10_takePlace 26 = .ok (.iconst 0, 1) := by decide +kernel
theorem dX10_takePlace_27 : decode cX10_takePlace 27 = .ok (.istore_n 1, 1) := by decide +kernel
theorem dX10_takePlace_28 : decode cX10_takePlace 28 = .ok (.iload_n 1, 1) := by decide +kernel
theorem dX10_takePlace_29 : decode cX10_takePlace 29 = .ok (.bipush 24, 2) := by decide +kernel
theorem dX10_takePlace_31 : decode cX10_takePlace 31 = .ok (.if_icmp .ge 33, 3) := by decide +kernel
theorem dX10_takePlace_34 : decode cX10_takePlace 34 = .ok (.aload_n 0, 1) := by decide +kernel
theorem dX10_takePlace_35 : decode cX10_takePlace 35 = .ok (.getfield 13, 3) := by decide +kernel
theorem dX10_takePlace_38 : decode cX10_takePlace 38 = .ok (.iload_n 1, 1) := by decide +kernel
theorem dX10_takePlace_39 : decode cX10_takePlace 39 = .ok (.aload_n 0, 1) := by decide +kernel
theorem dX10_takePlace_40 : decode cX10_takePlace 40 = .ok (.getfield 39, 3) := by decide +kernel
theorem dX10_takePlace_43 : decode cX10_takePlace 43 = .ok (.iload_n 1, 1) := by decide +kernel
theorem dX10_takePlace_44 : decode cX10_takePlace 44 = .ok (.iaload, 1) := by decide +kernel
theorem dX10_takePlace_45 : decode cX10_takePlace 45 = .ok (.iastore, 1) := by decide +kernel
theorem dX10_takePlace_46 : decode cX10_takePlace 46 = .ok (.aload_n 0, 1) := by decide +kernel
theorem dX10_takePlace_47 : decode cX10_takePlace 47 = .ok (.getfield 16, 3) := by decide +kernel
theorem dX10_takePlace_50 : decode cX10_takePlace 50 = .ok (.iload_n 1, 1) := by decide +kernel
theorem dX10_takePlace_51 : decode cX10_takePlace 51 = .ok (.aload_n 0, 1) := by decide +kernel
theorem dX10_takePlace_52 : decode cX10_takePlace 52 = .ok (.getfield 42, 3) := by decide +kernel
theorem dX10_takePlace_55 : decode cX10_takePlace 55 = .ok (.iload_n 1, 1) := by decide +kernel
theorem dX10_takePlace_56 : decode cX10_takePlace 56 = .ok (.baload, 1) := by decide +kernel
theorem dX10_takePlace_57 : decode cX10_takePlace 57 = .ok (.bastore, 1) := by decide +kernel
theorem dX10_takePlace_58 : decode cX10_takePlace 58 = .ok (.iinc 1 1, 3) := by decide +kernel
theorem dX10_takePlace_61 : decode cX10_takePlace 61 = .ok (.goto (-33), 3) := by decide +kernel
theorem dX10_takePlace_64 : decode cX10_takePlace 64 = .ok (.iconst 0, 1) := by decide +kernel
theorem dX10_takePlace_65 : decode cX10_takePlace 65 = .ok (.istore_n 1, 1) := by decide +kernel
theorem dX10_takePlace_66 : decode cX10_takePlace 66 = .ok (.iload_n 1, 1) := by decide +kernel
theorem dX10_takePlace_67 : decode cX10_takePlace 67 = .ok (.bipush 12, 2) := by decide +kernel
theorem dX10_takePlace_69 : decode cX10_takePlace 69 = .ok (.if_icmp .ge 21, 3) := by decide +kernel
theorem dX10_takePlace_72 : decode cX10_takePlace 72 = .ok (.aload_n 0, 1) := by decide +kernel
theorem dX10_takePlace_73 : decode cX10_takePlace 73 = .ok (.getfield 20, 3) := by decide +kernel
theorem dX10_takePlace_76 : decode cX10_takePlace 76 = .ok (.iload_n 1, 1) := by decide +kernel
theorem dX10_takePlace_77 : decode cX10_takePlace 77 = .ok (.aload_n 0, 1) := by decide +kernel
theorem dX10_takePlace_78 : decode cX10_takePlace 78 = .ok (.getfield 45, 3) := by decide +kernel
theorem dX10_takePlace_81 : decode cX10_takePlace 81 = .ok (.iload_n 1, 1) := by decide +kernel
theorem dX10_takePlace_82 : decode cX10_takePlace 82 = .ok (.iaload, 1) := by decide +kernel
theorem dX10_takePlace_83 : decode cX10_takePlace 83 = .ok (.iastore, 1) := by decide +kernel
theorem dX10_takePlace_84 : decode cX10_takePlace 84 = .ok (.iinc 1 1, 3) := by decide +kernel
theorem dX10_takePlace_87 : decode cX10_takePlace 87 = .ok (.goto (-21), 3) := by decide +kernel
theorem dX10_takePlace_90 : decode cX10_takePlace 90 = .ok (.aload_n 0, 1) := by decide +kernel
theorem dX10_takePlace_91 : decode cX10_takePlace 91 = .ok (.getfield 26, 3) := by decide +kernel
theorem dX10_takePlace_94 : decode cX10_takePlace 94 = .ok (.iconst 0, 1) := by decide +kernel
theorem dX10_takePlace_95 : decode cX10_takePlace 95 = .ok (.iconst 0, 1) := by decide +kernel
theorem dX10_takePlace_96 : decode cX10_takePlace 96 = .ok (.iastore, 1) := by decide +kernel
theorem dX10_takePlace_97 : decode cX10_takePlace 97 = .ok (.aload_n 0, 1) := by decide +kernel
theorem dX10_takePlace_98 : decode cX10_takePlace 98 = .ok (.getfield 26, 3) := by decide +kernel
theorem dX10_takePlace_101 : decode cX10_takePlace 101 = .ok (.iconst 1, 1) := by decide +kernel
theorem dX10_takePlace_102 : decode cX10_takePlace 102 = .ok (.iconst 0, 1) := by decide +kernel
theorem dX10_takePlace_103 : decode cX10_takePlace 103 = .ok (.iastore, 1) := by decide +kernel
theorem dX10_takePlace_104 : decode cX10_takePlace 104 = .ok (.aload_n 0, 1) := by decide +kernel
theorem dX10_takePlace_105 : decode cX10_takePlace 105 = .ok (.getfield 26, 3) := by decide +kernel
theorem dX10_takePlace_108 : decode cX10_takePlace 108 = .ok (.iconst 2, 1) := by decide +kernel
theorem dX10_takePlace_109 : decode cX10_takePlace 109 = .ok (.iconst 0, 1) := by decide +kernel
theorem dX10_takePlace_110 : decode cX10_takePlace 110 = .ok (.iastore, 1) := by decide +kernel
theorem dX10_takePlace_111 : decode cX10_takePlace 111 = .ok (.aload_n 0, 1) := by decide +kernel
theorem dX10_takePlace_112 : decode cX10_takePlace 112 = .ok (.getfield 26, 3) := by decide +kernel
theorem dX10_takePlace_115 : decode cX10_takePlace 115 = .ok (.iconst 3, 1) := by decide +kernel
theorem dX10_takePlace_116 : decode cX10_takePlace 116 = .ok (.aload_n 0, 1) := by decide +kernel
theorem dX10_takePlace_117 : decode cX10_takePlace 117 = .ok (.getfield 7, 3) := by decide +kernel
theorem dX10_takePlace_120 : decode cX10_takePlace 120 = .ok (.iconst 4, 1) := by decide +kernel
theorem dX10_takePlace_121 : decode cX10_takePlace 121 = .ok (.iaload, 1) := by decide +kernel
theorem dX10_takePlace_122 : decode cX10_takePlace 122 = .ok (.iastore, 1) := by decide +kernel
theorem dX10_takePlace_123 : decode cX10_takePlace 123 = .ok (.aload_n 0, 1) := by decide +kernel
theorem dX10_takePlace_124 : decode cX10_takePlace 124 = .ok (.getfield 26, 3) := by decide +kernel
theorem dX10_takePlace_127 : decode cX10_takePlace 127 = .ok (.iconst 4, 1) := by decide +kernel
theorem dX10_takePlace_128 : decode cX10_takePlace 128 = .ok (.aload_n 0, 1) := by decide +kernel
theorem dX10_takePlace_129 : decode cX10_takePlace 129 = .ok (.getfield 7, 3) := by decide +kernel
theorem dX10_takePlace_132 : decode cX10_takePlace 132 = .ok (.iconst 5, 1) := by decide +kernel
theorem dX10_takePlace_133 : decode cX10_takePlace 133 = .ok (.iaload, 1) := by decide +kernel
theorem dX10_takePlace_134 : decode cX10_takePlace 134 = .ok (.iastore, 1) := by decide +kernel
theorem dX10_takePlace_135 : decode cX10_takePlace 135 = .ok (.return_, 1) := by decide +kernel
theorem dX10_place_0 : decode cX10_place 0 = .ok (.aload_n 0, 1) := by decide +kernel
theorem dX10_place_1 : decode cX10_place 1 = .ok (.iconst (-1), 1) := by decide +kernel
theorem dX10_place_2 : decode cX10_place 2 = .ok (.putfield 32, 3) := by decide +kernel
theorem dX10_place_5 : decode cX10_place 5 = .ok (.aload_n 0, 1) := by decide +kernel
theorem dX10_place_6 : decode cX10_place 6 = .ok (.iconst 0, 1) := by decide +kernel
theorem dX10_place_7 : decode cX10_place 7 = .ok (.putfield 94, 3) := by decide +kernel
theorem dX10_place_10 : decode cX10_place 10 = .ok (.aload_n 0, 1) := by decide +kernel
theorem dX10_place_11 : decode cX10_place 11 = .ok (.invokevirtual 72, 3) := by decide +kernel
theorem dX10_place_14 : decode cX10_place 14 = .ok (.iconst 0, 1) := by decide +kernel
theorem dX10_place_15 : decode cX10_place 15 = .ok (.istore_n 1, 1) := by decide +kernel
theorem dX10_place_16 : decode cX10_place 16 = .ok (.iload_n 1, 1) := by decide +kernel
theorem dX10_place_17 : decode cX10_place 17 = .ok (.ifCond .ne 18, 3) := by decide +kernel
theorem dX10_place_20 : decode cX10_place 20 = .ok (.aload_n 0, 1) := by decide +kernel
theorem dX10_place_21 : decode cX10_place 21 = .ok (.invokevirtual 97, 3) := by decide +kernel
theorem dX10_place_24 : decode cX10_place 24 = .ok (.ifCond .lt 11, 3) := by decide +kernel
theorem dX10_place_27 : decode cX10_place 27 = .ok (.aload_n 0, 1) := by decide +kernel
theorem dX10_place_28 : decode cX10_place 28 = .ok (.invokevirtual 185, 3) := by decide +kernel
theorem dX10_place_31 : decode cX10_place 31 = .ok (.istore_n 1, 1) := by decide +kernel
theorem dX10_place_32 : decode cX10_place 32 = .ok (.goto (-16), 3) := by decide +kernel
theorem dX10_place_35 : decode cX10_place 35 = .ok (.aload_n 0, 1) := by decide +kernel
theorem dX10_place_36 : decode cX10_place 36 = .ok (.iconst 0, 1) := by decide +kernel
theorem dX10_place_37 : decode cX10_place 37 = .ok (.putfield 88, 3) := by decide +kernel
theorem dX10_place_40 : decode cX10_place 40 = .ok (.iload_n 1, 1) := by decide +kernel
theorem dX10_place_41 : decode cX10_place 41 = .ok (.ifCond .le 8, 3) := by decide +kernel
theorem dX10_place_44 : decode cX10_place 44 = .ok (.bipush (-10), 2) := by decide +kernel
theorem dX10_place_46 : decode cX10_place 46 = .ok (.iload_n 1, 1) := by decide +kernel
theorem dX10_place_47 : decode cX10_place 47 = .ok (.isub, 1) := by decide +kernel
theorem dX10_place_48 : decode cX10_place 48 = .ok (.ireturn, 1) := by decide +kernel
theorem dX10_place_49 : decode cX10_place 49 = .ok (.aload_n 0, 1) := by decide +kernel
theorem dX10_place_50 : decode cX10_place 50 = .ok (.invokevirtual 75, 3) := by decide +kernel
theorem dX10_place_53 : decode cX10_place 53 = .ok (.aload_n 0, 1) := by decide +kernel
theorem dX10_place_54 : decode cX10_place 54 = .ok (.getfield 137, 3) := by decide +kernel
theorem dX10_place_57 : decode cX10_place 57 = .ok (.ireturn, 1) := by decide +kernel
theorem dX10_takeSwinger_0 : decode cX10_takeSwinger 0 = .ok (.iconst 5, 1) := by decide +kernel
theorem dX10_takeSwinger_1 : decode cX10_takeSwinger 1 = .ok (.aload_n 0, 1) := by decide +kernel
theorem dX10_takeSwinger_2 : decode cX10_takeSwinger 2 = .ok (.getfield 78, 3) := by decide +kernel
theorem dX10_takeSwinger_5 : decode cX10_takeSwinger 5 = .ok (.imul, 1) := by decide +kernel
theorem dX10_takeSwinger_6 : decode cX10_takeSwinger 6 = .ok (.istore_n 1, 1) := by decide +kernel
theorem dX10_takeSwinger_7 : decode cX10_takeSwinger 7 = .ok (.aload_n 0, 1) := by decide +kernel
theorem dX10_takeSwinger_8 : decode cX10_takeSwinger 8 = .ok (.bipush 10, 2) := by decide +kernel
theorem dX10_takeSwinger_10 : decode cX10_takeSwinger 10 = .ok (.sipush 150, 3) := by decide +kernel
theorem dX10_takeSwinger_13 : decode cX10_takeSwinger 13 = .ok (.invokevirtual 144, 3) := by decide +kernel
theorem dX10_takeSwinger_16 : decode cX10_takeSwinger 16 = .ok (.istore_n 2, 1) := by decide +kernel
theorem dX10_takeSwinger_17 : decode cX10_takeSwinger 17 = .ok (.aload_n 0, 1) := by decide +kernel
theorem dX10_takeSwinger_18 : decode cX10_takeSwinger 18 = .ok (.getfield 23, 3) := by decide +kernel
theorem dX10_takeSwinger_21 : decode cX10_takeSwinger 21 = .ok (.iload_n 1, 1) := by decide +kernel
theorem dX10_takeSwinger_22 : decode cX10_takeSwinger 22 = .ok (.aload_n 0, 1) := by decide +kernel
theorem dX10_takeSwinger_23 : decode cX10_takeSwinger 23 = .ok (.getfield 131, 3) := by decide +kernel
theorem dX10_takeSwinger_26 : decode cX10_takeSwinger 26 = .ok (.iastore, 1) := by decide +kernel
theorem dX10_takeSwinger_27 : decode cX10_takeSwinger 27 = .ok (.iload_n 2, 1) := by decide +kernel
theorem dX10_takeSwinger_28 : decode cX10_takeSwinger 28 = .ok (.ifCond .le 7, 3) := by decide +kernel
theorem dX10_takeSwinger_31 : decode cX10_takeSwinger 31 = .ok (.iload_n 2, 1) := by decide +kernel
theorem dX10_takeSwinger_32 : decode cX10_takeSwinger 32 = .ok (.goto 12, 3) := by decide +kernel
theorem dX10_takeSwinger_35 : decode cX10_takeSwinger 35 = .ok (.aload_n 0, 1) := by decide +kernel
theorem dX10_takeSwinger_36 : decode cX10_takeSwinger 36 = .ok (.bipush 50, 2) := by decide +kernel
theorem dX10_takeSwinger_38 : decode cX10_takeSwinger 38 = .ok (.sipush 220, 3) := by decide +kernel
theorem dX10_takeSwinger_41 : decode cX10_takeSwinger 41 = .ok (.invokevirtual 144, 3) := by decide +kernel
theorem dX10_takeSwinger_44 : decode cX10_takeSwinger 44 = .ok (.istore_n 2, 1) := by decide +kernel
theorem dX10_takeSwinger_45 : decode cX10_takeSwinger 45 = .ok (.aload_n 0, 1) := by decide +kernel
theorem dX10_takeSwinger_46 : decode cX10_takeSwinger 46 = .ok (.getfield 23, 3) := by decide +kernel
theorem dX10_takeSwinger_49 : decode cX10_takeSwinger 49 = .ok (.iload_n 1, 1) := by decide +kernel
theorem dX10_takeSwinger_50 : decode cX10_takeSwinger 50 = .ok (.iconst 1, 1) := by decide +kernel
theorem dX10_takeSwinger_51 : decode cX10_takeSwinger 51 = .ok (.iadd, 1) := by decide +kernel
theorem dX10_takeSwinger_52 : decode cX10_takeSwinger 52 = .ok (.aload_n 0, 1) := by decide +kernel
theorem dX10_takeSwinger_53 : decode cX10_takeSwinger 53 = .ok (.getfield 131, 3) := by decide +kernel
theorem dX10_takeSwinger_56 : decode cX10_takeSwinger 56 = .ok (.iastore, 1) := by decide +kernel
theorem dX10_takeSwinger_57 : decode cX10_takeSwinger 57 = .ok (.iload_n 2, 1) := by decide +kernel
theorem dX10_takeSwinger_58 : decode cX10_takeSwinger 58 = .ok (.ifCond .le 7, 3) := by decide +kernel
theorem dX10_takeSwinger_61 : decode cX10_takeSwinger 61 = .ok (.iload_n 2, 1) := by decide +kernel
theorem dX10_takeSwinger_62 : decode cX10_takeSwinger 62 = .ok (.goto 12, 3) := by decide +kernel
theorem dX10_takeSwinger_65 : decode cX10_takeSwinger 65 = .ok (.aload_n 0, 1) := by decide +kernel
theorem dX10_takeSwinger_66 : decode cX10_takeSwinger 66 = .ok (.bipush 10, 2) := by decide +kernel
theorem dX10_takeSwinger_68 : decode cX10_takeSwinger 68 = .ok (.sipush 300, 3) := by decide +kernel
theorem dX10_takeSwinger_71 : decode cX10_takeSwinger 71 = .ok (.invokevirtual 144, 3) := by decide +kernel
theorem dX10_takeSwinger_74 : decode cX10_takeSwinger 74 = .ok (.istore_n 2, 1) := by decide +kernel
theorem dX10_takeSwinger_75 : decode cX10_takeSwinger 75 = .ok (.aload_n 0, 1) := by decide +kernel
theorem dX10_takeSwinger_76 : decode cX10_takeSwinger 76 = .ok (.getfield 23, 3) := by decide +kernel
theorem dX10_takeSwinger_79 : decode cX10_takeSwinger 79 = .ok (.iload_n 1, 1) := by decide +kernel
theorem dX10_takeSwinger_80 : decode cX10_takeSwinger 80 = .ok (.iconst 2, 1) := by decide +kernel
theorem dX10_takeSwinger_81 : decode cX10_takeSwinger 81 = .ok (.iadd, 1) := by decide +kernel
theorem dX10_takeSwinger_82 : decode cX10_takeSwinger 82 = .ok (.aload_n 0, 1) := by decide +kernel
theorem dX10_takeSwinger_83 : decode cX10_takeSwinger 83 = .ok (.getfield 131, 3) := by decide +kernel
theorem dX10_takeSwinger_86 : decode cX10_takeSwinger 86 = .ok (.iastore, 1) := by decide +kernel
theorem dX10_takeSwinger_87 : decode cX10_takeSwinger 87 = .ok (.iload_n 2, 1) := by decide +kernel
theorem dX10_takeSwinger_88 : decode cX10_takeSwinger 88 = .ok (.ifCond .le 7, 3) := by decide +kernel
theorem dX10_takeSwinger_91 : decode cX10_takeSwinger 91 = .ok (.iload_n 2, 1) := by decide +kernel
theorem dX10_takeSwinger_92 : decode cX10_takeSwinger 92 = .ok (.goto 10, 3) := by decide +kernel
theorem dX10_takeSwinger_95 : decode cX10_takeSwinger 95 = .ok (.aload_n 0, 1) := by decide +kernel
theorem dX10_takeSwinger_96 : decode cX10_takeSwinger 96 = .ok (.iconst 0, 1) := by decide +kernel
theorem dX10_takeSwinger_97 : decode cX10_takeSwinger 97 = .ok (.bipush 20, 2) := by decide +kernel
theorem dX10_takeSwinger_99 : decode cX10_takeSwinger 99 = .ok (.invokevirtual 144, 3) := by decide +kernel
theorem dX10_takeSwinger_102 : decode cX10_takeSwinger 102 = .ok (.istore_n 2, 1) := by decide +kernel
theorem dX10_takeSwinger_103 : decode cX10_takeSwinger 103 = .ok (.aload_n 0, 1) := by decide +kernel
theorem dX10_takeSwinger_104 : decode cX10_takeSwinger 104 = .ok (.getfield 23, 3) := by decide +kernel
theorem dX10_takeSwinger_107 : decode cX10_takeSwinger 107 = .ok (.iload_n 1, 1) := by decide +kernel
theorem dX10_takeSwinger_108 : decode cX10_takeSwinger 108 = .ok (.iconst 3, 1) := by decide +kernel
theorem dX10_takeSwinger_109 : decode cX10_takeSwinger 109 = .ok (.iadd, 1) := by decide +kernel
theorem dX10_takeSwinger_110 : decode cX10_takeSwinger 110 = .ok (.aload_n 0, 1) := by decide +kernel
theorem dX10_takeSwinger_111 : decode cX10_takeSwinger 111 = .ok (.getfield 131, 3) := by decide +kernel
theorem dX10_takeSwinger_114 : decode cX10_takeSwinger 114 = .ok (.iastore, 1) := by decide +kernel
theorem dX10_takeSwinger_115 : decode cX10_takeSwinger 115 = .ok (.iload_n 2, 1) := by decide +kernel
theorem dX10_takeSwinger_116 : decode cX10_takeSwinger 116 = .ok (.ifCond .le 7, 3) := by decide +kernel
theorem dX10_takeSwinger_119 : decode cX10_takeSwinger 119 = .ok (.iload_n 2, 1) := by decide +kernel
theorem dX10_takeSwinger_120 : decode cX10_takeSwinger 120 = .ok (.goto 10, 3) := by decide +kernel
theorem dX10_takeSwinger_123 : decode cX10_takeSwinger 123 = .ok (.aload_n 0, 1) := by decide +kernel
theorem dX10_takeSwinger_124 : decode cX10_takeSwinger 124 = .ok (.iconst 0, 1) := by decide +kernel
theorem dX10_takeSwinger_125 : decode cX10_takeSwinger 125 = .ok (.bipush 36, 2) := by decide +kernel
theorem dX10_takeSwinger_127 : decode cX10_takeSwinger 127 = .ok (.invokevirtual 144, 3) := by decide +kernel
theorem dX10_takeSwinger_130 : decode cX10_takeSwinger 130 = .ok (.istore_n 2, 1) := by decide +kernel
theorem dX10_takeSwinger_131 : decode cX10_takeSwinger 131 = .ok (.aload_n 0, 1) := by decide +kernel
theorem dX10_takeSwinger_132 : decode cX10_takeSwinger 132 = .ok (.getfield 23, 3) := by decide +kernel
theorem dX10_takeSwinger_135 : decode cX10_takeSwinger 135 = .ok (.iload_n 1, 1) := by decide +kernel
theorem dX10_takeSwinger_136 : decode cX10_takeSwinger 136 = .ok (.iconst 4, 1) := by decide +kernel
theorem dX10_takeSwinger_137 : decode cX10_takeSwinger 137 = .ok (.iadd, 1) := by decide +kernel
theorem dX10_takeSwinger_138 : decode cX10_takeSwinger 138 = .ok (.aload_n 0, 1) := by decide +kernel
theorem dX10_takeSwinger_139 : decode cX10_takeSwinger 139 = .ok (.getfield 131, 3) := by decide +kernel
theorem dX10_takeSwinger_142 : decode cX10_takeSwinger 142 = .ok (.iastore, 1) := by decide +kernel
theorem dX10_takeSwinger_143 : decode cX10_takeSwinger 143 = .ok (.iload_n 2, 1) := by decide +kernel
theorem dX10_takeSwinger_144 : decode cX10_takeSwinger 144 = .ok (.ifCond .ne 22, 3) := by decide +kernel
theorem dX10_takeSwinger_147 : decode cX10_takeSwinger 147 = .ok (.aload_n 0, 1) := by decide +kernel
theorem dX10_takeSwinger_148 : decode cX10_takeSwinger 148 = .ok (.invokevirtual 97, 3) := by decide +kernel
theorem dX10_takeSwinger_151 : decode cX10_takeSwinger 151 = .ok (.ifCond .lt 15, 3) := by decide +kernel
theorem dX10_takeSwinger_154 : decode cX10_takeSwinger 154 = .ok (.aload_n 0, 1) := by decide +kernel
theorem dX10_takeSwinger_155 : decode cX10_takeSwinger 155 = .ok (.iconst 1, 1) := by decide +kernel
theorem dX10_takeSwinger_156 : decode cX10_takeSwinger 156 = .ok (.aload_n 0, 1) := by decide +kernel
theorem dX10_takeSwinger_157 : decode cX10_takeSwinger 157 = .ok (.getfield 94, 3) := by decide +kernel
theorem dX10_takeSwinger_160 : decode cX10_takeSwinger 160 = .ok (.invokevirtual 124, 3) := by decide +kernel
theorem dX10_takeSwinger_163 : decode cX10_takeSwinger 163 = .ok (.goto 4, 3) := by decide +kernel
theorem dX10_takeSwinger_166 : decode cX10_takeSwinger 166 = .ok (.iload_n 2, 1) := by decide +kernel
theorem dX10_takeSwinger_167 : decode cX10_takeSwinger 167 = .ok (.ireturn, 1) := by decide +kernel
theorem dX10_swinger_0 : decode cX10_swinger 0 = .ok (.aload_n 0, 1) := by decide +kernel
theorem dX10_swinger_1 : decode cX10_swinger 1 = .ok (.getfield 88, 3) := by decide +kernel
theorem dX10_swinger_4 : decode cX10_swinger 4 = .ok (.bipush 40, 2) := by decide +kernel
theorem dX10_swinger_6 : decode cX10_swinger 6 = .ok (.if_icmp .le 6, 3) := by decide +kernel
theorem dX10_swinger_9 : decode cX10_swinger 9 = .ok (.ldc 188, 2) := by decide +kernel
theorem dX10_swinger_11 : decode cX10_swinger 11 = .ok (.ireturn, 1) := by decide +kernel
theorem dX10_swinger_12 : decode cX10_swinger 12 = .ok (.aload_n 0, 1) := by decide +kernel
theorem dX10_swinger_13 : decode cX10_swinger 13 = .ok (.getfield 78, 3) := by decide +kernel
theorem dX10_swinger_16 : decode cX10_swinger 16 = .ok (.bipush 8, 2) := by decide +kernel
theorem dX10_swinger_18 : decode cX10_swinger 18 = .ok (.if_icmp .ne 6, 3) := by decide +kernel
theorem dX10_swinger_21 : decode cX10_swinger 21 = .ok (.ldc 91, 2) := by decide +kernel
theorem dX10_swinger_23 : decode cX10_swinger 23 = .ok (.ireturn, 1) := by decide +kernel
theorem dX10_swinger_24 : decode cX10_swinger 24 = .ok (.aload_n 0, 1) := by decide +kernel
theorem dX10_swinger_25 : decode cX10_swinger 25 = .ok (.iconst (-1), 1) := by decide +kernel
theorem dX10_swinger_26 : decode cX10_swinger 26 = .ok (.putfield 32, 3) := by decide +kernel
theorem dX10_swinger_29 : decode cX10_swinger 29 = .ok (.aload_n 0, 1) := by decide +kernel
theorem dX10_swinger_30 : decode cX10_swinger 30 = .ok (.iconst 0, 1) := by decide +kernel
theorem dX10_swinger_31 : decode cX10_swinger 31 = .ok (.putfield 94, 3) := by decide +kernel
theorem dX10_swinger_34 : decode cX10_swinger 34 = .ok (.aload_n 0, 1) := by decide +kernel
theorem dX10_swinger_35 : decode cX10_swinger 35 = .ok (.invokevirtual 189, 3) := by decide +kernel
theorem dX10_swinger_38 : decode cX10_swinger 38 = .ok (.istore_n 1, 1) := by decide +kernel
theorem dX10_swinger_39 : decode cX10_swinger 39 = .ok (.aload_n 0, 1) := by decide +kernel
theorem dX10_swinger_40 : decode cX10_swinger 40 = .ok (.iconst 0, 1) := by decide +kernel
theorem dX10_swinger_41 : decode cX10_swinger 41 = .ok (.putfield 88, 3) := by decide +kernel
theorem dX10_swinger_44 : decode cX10_swinger 44 = .ok (.iload_n 1, 1) := by decide +kernel
theorem dX10_swinger_45 : decode cX10_swinger 45 = .ok (.ifCond .le 8, 3) := by decide +kernel
theorem dX10_swinger_48 : decode cX10_swinger 48 = .ok (.bipush (-10), 2) := by decide +kernel
theorem dX10_swinger_50 : decode cX10_swinger 50 = .ok (.iload_n 1, 1) := by decide +kernel
theorem dX10_swinger_51 : decode cX10_swinger 51 = .ok (.isub, 1) := by decide +kernel
theorem dX10_swinger_52 : decode cX10_swinger 52 = .ok (.ireturn, 1) := by decide +kernel
theorem dX10_swinger_53 : decode cX10_swinger 53 = .ok (.aload_n 0, 1) := by decide +kernel
theorem dX10_swinger_54 : decode cX10_swinger 54 = .ok (.dup, 1) := by decide +kernel
theorem dX10_swinger_55 : decode cX10_swinger 55 = .ok (.getfield 78, 3) := by decide +kernel
theorem dX10_swinger_58 : decode cX10_swinger 58 = .ok (.iconst 1, 1) := by decide +kernel
theorem dX10_swinger_59 : decode cX10_swinger 59 = .ok (.iadd, 1) := by decide +kernel
theorem dX10_swinger_60 : decode cX10_swinger 60 = .ok (.putfield 78, 3) := by decide +kernel
theorem dX10_swinger_63 : decode cX10_swinger 63 = .ok (.aload_n 0, 1) := by decide +kernel
theorem dX10_swinger_64 : decode cX10_swinger 64 = .ok (.getfield 78, 3) := by decide +kernel
theorem dX10_swinger_67 : decode cX10_swinger 67 = .ok (.iconst 1, 1) := by decide +kernel
theorem dX10_swinger_68 : decode cX10_swinger 68 = .ok (.isub, 1) := by decide +kernel
theorem dX10_swinger_69 : decode cX10_swinger 69 = .ok (.ireturn, 1) := by decide +kernel
theorem dX10_fault_0 : decode cX10_fault 0 = .ok (.aload_n 0, 1) := by decide +kernel
theorem dX10_fault_1 : decode cX10_fault 1 = .ok (.getfield 32, 3) := by decide +kernel
theorem dX10_fault_4 : decode cX10_fault 4 = .ok (.ireturn, 1) := by decide +kernel
theorem dX10_told_0 : decode cX10_told 0 = .ok (.iload_n 1, 1) := by decide +kernel
theorem dX10_told_1 : decode cX10_told 1 = .ok (.i2l, 1) := by decide +kernel
theorem dX10_told_2 : decode cX10_told 2 = .ok (.lconst 0, 1) := by decide +kernel
theorem dX10_told_3 : decode cX10_told 3 = .ok (.ldc2_w 85, 3) := by decide +kernel
theorem dX10_told_6 : decode cX10_told 6 = .ok (.invokestatic 81, 3) := by decide +kernel
theorem dX10_told_9 : decode cX10_told 9 = .ok (.ifCond .eq 12, 3) := by decide +kernel
theorem dX10_told_12 : decode cX10_told 12 = .ok (.aload_n 0, 1) := by decide +kernel
theorem dX10_told_13 : decode cX10_told 13 = .ok (.getfield 7, 3) := by decide +kernel
theorem dX10_told_16 : decode cX10_told 16 = .ok (.iload_n 1, 1) := by decide +kernel
theorem dX10_told_17 : decode cX10_told 17 = .ok (.iaload, 1) := by decide +kernel
theorem dX10_told_18 : decode cX10_told 18 = .ok (.goto 31, 3) := by decide +kernel
theorem dX10_told_21 : decode cX10_told 21 = .ok (.iload_n 1, 1) := by decide +kernel
theorem dX10_told_22 : decode cX10_told 22 = .ok (.bipush 9, 2) := by decide +kernel
theorem dX10_told_24 : decode cX10_told 24 = .ok (.if_icmp .ne 10, 3) := by decide +kernel
theorem dX10_told_27 : decode cX10_told 27 = .ok (.aload_n 0, 1) := by decide +kernel
theorem dX10_told_28 : decode cX10_told 28 = .ok (.getfield 78, 3) := by decide +kernel
theorem dX10_told_31 : decode cX10_told 31 = .ok (.goto 18, 3) := by decide +kernel
theorem dX10_told_34 : decode cX10_told 34 = .ok (.iload_n 1, 1) := by decide +kernel
theorem dX10_told_35 : decode cX10_told 35 = .ok (.bipush 10, 2) := by decide +kernel
theorem dX10_told_37 : decode cX10_told 37 = .ok (.if_icmp .ne 10, 3) := by decide +kernel
theorem dX10_told_40 : decode cX10_told 40 = .ok (.aload_n 0, 1) := by decide +kernel
theorem dX10_told_41 : decode cX10_told 41 = .ok (.getfield 88, 3) := by decide +kernel
theorem dX10_told_44 : decode cX10_told 44 = .ok (.goto 5, 3) := by decide +kernel
theorem dX10_told_47 : decode cX10_told 47 = .ok (.ldc 87, 2) := by decide +kernel
theorem dX10_told_49 : decode cX10_told 49 = .ok (.ireturn, 1) := by decide +kernel
theorem dX10_lower_0 : decode cX10_lower 0 = .ok (.aload_n 0, 1) := by decide +kernel
theorem dX10_lower_1 : decode cX10_lower 1 = .ok (.getfield 20, 3) := by decide +kernel
theorem dX10_lower_4 : decode cX10_lower 4 = .ok (.aload_n 0, 1) := by decide +kernel
theorem dX10_lower_5 : decode cX10_lower 5 = .ok (.getfield 26, 3) := by decide +kernel
theorem dX10_lower_8 : decode cX10_lower 8 = .ok (.iconst 0, 1) := by decide +kernel
theorem dX10_lower_9 : decode cX10_lower 9 = .ok (.iaload, 1) := by decide +kernel
theorem dX10_lower_10 : decode cX10_lower 10 = .ok (.iaload, 1) := by decide +kernel
theorem dX10_lower_11 : decode cX10_lower 11 = .ok (.ireturn, 1) := by decide +kernel
theorem dX10_depthOf_0 : decode cX10_depthOf 0 = .ok (.aload_n 0, 1) := by decide +kernel
theorem dX10_depthOf_1 : decode cX10_depthOf 1 = .ok (.getfield 13, 3) := by decide +kernel
theorem dX10_depthOf_4 : decode cX10_depthOf 4 = .ok (.iload_n 1, 1) := by decide +kernel
theorem dX10_depthOf_5 : decode cX10_depthOf 5 = .ok (.iaload, 1) := by decide +kernel
theorem dX10_depthOf_6 : decode cX10_depthOf 6 = .ok (.aload_n 0, 1) := by decide +kernel
theorem dX10_depthOf_7 : decode cX10_depthOf 7 = .ok (.invokevirtual 192, 3) := by decide +kernel
theorem dX10_depthOf_10 : decode cX10_depthOf 10 = .ok (.if_icmp .ge 7, 3) := by decide +kernel
theorem dX10_depthOf_13 : decode cX10_depthOf 13 = .ok (.iconst 0, 1) := by decide +kernel
theorem dX10_depthOf_14 : decode cX10_depthOf 14 = .ok (.goto 14, 3) := by decide +kernel
theorem dX10_depthOf_17 : decode cX10_depthOf 17 = .ok (.aload_n 0, 1) := by decide +kernel
theorem dX10_depthOf_18 : decode cX10_depthOf 18 = .ok (.getfield 13, 3) := by decide +kernel
theorem dX10_depthOf_21 : decode cX10_depthOf 21 = .ok (.iload_n 1, 1) := by decide +kernel
theorem dX10_depthOf_22 : decode cX10_depthOf 22 = .ok (.iaload, 1) := by decide +kernel
theorem dX10_depthOf_23 : decode cX10_depthOf 23 = .ok (.aload_n 0, 1) := by decide +kernel
theorem dX10_depthOf_24 : decode cX10_depthOf 24 = .ok (.invokevirtual 192, 3) := by decide +kernel
theorem dX10_depthOf_27 : decode cX10_depthOf 27 = .ok (.isub, 1) := by decide +kernel
theorem dX10_depthOf_28 : decode cX10_depthOf 28 = .ok (.ireturn, 1) := by decide +kernel
theorem dX10_kindOf_0 : decode cX10_kindOf 0 = .ok (.iload_n 1, 1) := by decide +kernel
theorem dX10_kindOf_1 : decode cX10_kindOf 1 = .ok (.aload_n 0, 1) := by decide +kernel
theorem dX10_kindOf_2 : decode cX10_kindOf 2 = .ok (.getfield 7, 3) := by decide +kernel
theorem dX10_kindOf_5 : decode cX10_kindOf 5 = .ok (.bipush 8, 2) := by decide +kernel
theorem dX10_kindOf_7 : decode cX10_kindOf 7 = .ok (.iaload, 1) := by decide +kernel
theorem dX10_kindOf_8 : decode cX10_kindOf 8 = .ok (.if_icmp .lt 7, 3) := by decide +kernel
theorem dX10_kindOf_11 : decode cX10_kindOf 11 = .ok (.iconst 2, 1) := by decide +kernel
theorem dX10_kindOf_12 : decode cX10_kindOf 12 = .ok (.goto 17, 3) := by decide +kernel
theorem dX10_kindOf_15 : decode cX10_kindOf 15 = .ok (.aload_n 0, 1) := by decide +kernel
theorem dX10_kindOf_16 : decode cX10_kindOf 16 = .ok (.getfield 16, 3) := by decide +kernel
theorem dX10_kindOf_19 : decode cX10_kindOf 19 = .ok (.iload_n 1, 1) := by decide +kernel
theorem dX10_kindOf_20 : decode cX10_kindOf 20 = .ok (.baload, 1) := by decide +kernel
theorem dX10_kindOf_21 : decode cX10_kindOf 21 = .ok (.ifCond .eq 7, 3) := by decide +kernel
theorem dX10_kindOf_24 : decode cX10_kindOf 24 = .ok (.iconst 1, 1) := by decide +kernel
theorem dX10_kindOf_25 : decode cX10_kindOf 25 = .ok (.goto 4, 3) := by decide +kernel
theorem dX10_kindOf_28 : decode cX10_kindOf 28 = .ok (.iconst 0, 1) := by decide +kernel
theorem dX10_kindOf_29 : decode cX10_kindOf 29 = .ok (.ireturn, 1) := by decide +kernel
theorem dX10_cell_0 : decode cX10_cell 0 = .ok (.iload_n 1, 1) := by decide +kernel
theorem dX10_cell_1 : decode cX10_cell 1 = .ok (.i2l, 1) := by decide +kernel
theorem dX10_cell_2 : decode cX10_cell 2 = .ok (.lconst 0, 1) := by decide +kernel
theorem dX10_cell_3 : decode cX10_cell 3 = .ok (.ldc2_w 195, 3) := by decide +kernel
theorem dX10_cell_6 : decode cX10_cell 6 = .ok (.invokestatic 81, 3) := by decide +kernel
theorem dX10_cell_9 : decode cX10_cell 9 = .ok (.ifCond .ne 6, 3) := by decide +kernel
theorem dX10_cell_12 : decode cX10_cell 12 = .ok (.ldc 197, 2) := by decide +kernel
theorem dX10_cell_14 : decode cX10_cell 14 = .ok (.ireturn, 1) := by decide +kernel
theorem dX10_cell_15 : decode cX10_cell 15 = .ok (.iload_n 2, 1) := by decide +kernel
theorem dX10_cell_16 : decode cX10_cell 16 = .ok (.ifCond .ne 12, 3) := by decide +kernel
theorem dX10_cell_19 : decode cX10_cell 19 = .ok (.aload_n 0, 1) := by decide +kernel
theorem dX10_cell_20 : decode cX10_cell 20 = .ok (.getfield 13, 3) := by decide +kernel
theorem dX10_cell_23 : decode cX10_cell 23 = .ok (.iload_n 1, 1) := by decide +kernel
theorem dX10_cell_24 : decode cX10_cell 24 = .ok (.iaload, 1) := by decide +kernel
theorem dX10_cell_25 : decode cX10_cell 25 = .ok (.goto 31, 3) := by decide +kernel
theorem dX10_cell_28 : decode cX10_cell 28 = .ok (.iload_n 2, 1) := by decide +kernel
theorem dX10_cell_29 : decode cX10_cell 29 = .ok (.iconst 1, 1) := by decide +kernel
theorem dX10_cell_30 : decode cX10_cell 30 = .ok (.if_icmp .ne 11, 3) := by decide +kernel
theorem dX10_cell_33 : decode cX10_cell 33 = .ok (.aload_n 0, 1) := by decide +kernel
theorem dX10_cell_34 : decode cX10_cell 34 = .ok (.iload_n 1, 1) := by decide +kernel
theorem dX10_cell_35 : decode cX10_cell 35 = .ok (.invokevirtual 198, 3) := by decide +kernel
theorem dX10_cell_38 : decode cX10_cell 38 = .ok (.goto 18, 3) := by decide +kernel
theorem dX10_cell_41 : decode cX10_cell 41 = .ok (.iload_n 2, 1) := by decide +kernel
theorem dX10_cell_42 : decode cX10_cell 42 = .ok (.iconst 2, 1) := by decide +kernel
theorem dX10_cell_43 : decode cX10_cell 43 = .ok (.if_icmp .ne 11, 3) := by decide +kernel
theorem dX10_cell_46 : decode cX10_cell 46 = .ok (.aload_n 0, 1) := by decide +kernel
theorem dX10_cell_47 : decode cX10_cell 47 = .ok (.iload_n 1, 1) := by decide +kernel
theorem dX10_cell_48 : decode cX10_cell 48 = .ok (.invokevirtual 201, 3) := by decide +kernel
theorem dX10_cell_51 : decode cX10_cell 51 = .ok (.goto 5, 3) := by decide +kernel
theorem dX10_cell_54 : decode cX10_cell 54 = .ok (.ldc 87, 2) := by decide +kernel
theorem dX10_cell_56 : decode cX10_cell 56 = .ok (.ireturn, 1) := by decide +kernel
theorem dX10_who_0 : decode cX10_who 0 = .ok (.aload_n 0, 1) := by decide +kernel
theorem dX10_who_1 : decode cX10_who 1 = .ok (.iload_n 1, 1) := by decide +kernel
theorem dX10_who_2 : decode cX10_who 2 = .ok (.invokevirtual 204, 3) := by decide +kernel
theorem dX10_who_5 : decode cX10_who 5 = .ok (.ifCond .ne 6, 3) := by decide +kernel
theorem dX10_who_8 : decode cX10_who 8 = .ok (.ldc 197, 2) := by decide +kernel
theorem dX10_who_10 : decode cX10_who 10 = .ok (.ireturn, 1) := by decide +kernel
theorem dX10_who_11 : decode cX10_who 11 = .ok (.iload_n 2, 1) := by decide +kernel
theorem dX10_who_12 : decode cX10_who 12 = .ok (.i2l, 1) := by decide +kernel
theorem dX10_who_13 : decode cX10_who 13 = .ok (.lconst 0, 1) := by decide +kernel
theorem dX10_who_14 : decode cX10_who 14 = .ok (.ldc2_w 208, 3) := by decide +kernel
theorem dX10_who_17 : decode cX10_who 17 = .ok (.invokestatic 81, 3) := by decide +kernel
theorem dX10_who_20 : decode cX10_who 20 = .ok (.ifCond .eq 16, 3) := by decide +kernel
theorem dX10_who_23 : decode cX10_who 23 = .ok (.aload_n 0, 1) := by decide +kernel
theorem dX10_who_24 : decode cX10_who 24 = .ok (.getfield 23, 3) := by decide +kernel
theorem dX10_who_27 : decode cX10_who 27 = .ok (.iconst 5, 1) := by decide +kernel
theorem dX10_who_28 : decode cX10_who 28 = .ok (.iload_n 1, 1) := by decide +kernel
theorem dX10_who_29 : decode cX10_who 29 = .ok (.imul, 1) := by decide +kernel
theorem dX10_who_30 : decode cX10_who 30 = .ok (.iload_n 2, 1) := by decide +kernel
theorem dX10_who_31 : decode cX10_who 31 = .ok (.iadd, 1) := by decide +kernel
theorem dX10_who_32 : decode cX10_who 32 = .ok (.iaload, 1) := by decide +kernel
theorem dX10_who_33 : decode cX10_who 33 = .ok (.goto 5, 3) := by decide +kernel
theorem dX10_who_36 : decode cX10_who 36 = .ok (.ldc 87, 2) := by decide +kernel
theorem dX10_who_38 : decode cX10_who 38 = .ok (.ireturn, 1) := by decide +kernel
theorem dX10_mostOf_0 : decode cX10_mostOf 0 = .ok (.iload_n 0, 1) := by decide +kernel
theorem dX10_mostOf_1 : decode cX10_mostOf 1 = .ok (.ifCond .ne 8, 3) := by decide +kernel
theorem dX10_mostOf_4 : decode cX10_mostOf 4 = .ok (.bipush 11, 2) := by decide +kernel
theorem dX10_mostOf_6 : decode cX10_mostOf 6 = .ok (.goto 37, 3) := by decide +kernel
theorem dX10_mostOf_9 : decode cX10_mostOf 9 = .ok (.iload_n 0, 1) := by decide +kernel
theorem dX10_mostOf_10 : decode cX10_mostOf 10 = .ok (.iconst 1, 1) := by decide +kernel
theorem dX10_mostOf_11 : decode cX10_mostOf 11 = .ok (.if_icmp .ne 9, 3) := by decide +kernel
theorem dX10_mostOf_14 : decode cX10_mostOf 14 = .ok (.sipush 300, 3) := by decide +kernel
theorem dX10_mostOf_17 : decode cX10_mostOf 17 = .ok (.goto 26, 3) := by decide +kernel
theorem dX10_mostOf_20 : decode cX10_mostOf 20 = .ok (.iload_n 0, 1) := by decide +kernel
theorem dX10_mostOf_21 : decode cX10_mostOf 21 = .ok (.iconst 2, 1) := by decide +kernel
theorem dX10_mostOf_22 : decode cX10_mostOf 22 = .ok (.if_icmp .ne 8, 3) := by decide +kernel
theorem dX10_mostOf_25 : decode cX10_mostOf 25 = .ok (.bipush 40, 2) := by decide +kernel
theorem dX10_mostOf_27 : decode cX10_mostOf 27 = .ok (.goto 16, 3) := by decide +kernel
theorem dX10_mostOf_30 : decode cX10_mostOf 30 = .ok (.iload_n 0, 1) := by decide +kernel
theorem dX10_mostOf_31 : decode cX10_mostOf 31 = .ok (.iconst 3, 1) := by decide +kernel
theorem dX10_mostOf_32 : decode cX10_mostOf 32 = .ok (.if_icmp .ne 8, 3) := by decide +kernel
theorem dX10_mostOf_35 : decode cX10_mostOf 35 = .ok (.bipush 80, 2) := by decide +kernel
theorem dX10_mostOf_37 : decode cX10_mostOf 37 = .ok (.goto 6, 3) := by decide +kernel
theorem dX10_mostOf_40 : decode cX10_mostOf 40 = .ok (.sipush 600, 3) := by decide +kernel
theorem dX10_mostOf_43 : decode cX10_mostOf 43 = .ok (.ireturn, 1) := by decide +kernel
theorem dX10_set_0 : decode cX10_set 0 = .ok (.iload_n 1, 1) := by decide +kernel
theorem dX10_set_1 : decode cX10_set 1 = .ok (.i2l, 1) := by decide +kernel
theorem dX10_set_2 : decode cX10_set 2 = .ok (.lconst 0, 1) := by decide +kernel
theorem dX10_set_3 : decode cX10_set 3 = .ok (.ldc2_w 208, 3) := by decide +kernel
theorem dX10_set_6 : decode cX10_set 6 = .ok (.invokestatic 81, 3) := by decide +kernel
theorem dX10_set_9 : decode cX10_set 9 = .ok (.ifCond .eq 35, 3) := by decide +kernel
theorem dX10_set_12 : decode cX10_set 12 = .ok (.iload_n 2, 1) := by decide +kernel
theorem dX10_set_13 : decode cX10_set 13 = .ok (.i2l, 1) := by decide +kernel
theorem dX10_set_14 : decode cX10_set 14 = .ok (.lconst 0, 1) := by decide +kernel
theorem dX10_set_15 : decode cX10_set 15 = .ok (.iload_n 1, 1) := by decide +kernel
theorem dX10_set_16 : decode cX10_set 16 = .ok (.invokestatic 210, 3) := by decide +kernel
theorem dX10_set_19 : decode cX10_set 19 = .ok (.i2l, 1) := by decide +kernel
theorem dX10_set_20 : decode cX10_set 20 = .ok (.invokestatic 81, 3) := by decide +kernel
theorem dX10_set_23 : decode cX10_set 23 = .ok (.ifCond .eq 21, 3) := by decide +kernel
theorem dX10_set_26 : decode cX10_set 26 = .ok (.iload_n 1, 1) := by decide +kernel
theorem dX10_set_27 : decode cX10_set 27 = .ok (.iconst 1, 1) := by decide +kernel
theorem dX10_set_28 : decode cX10_set 28 = .ok (.if_icmp .ne 19, 3) := by decide +kernel
theorem dX10_set_31 : decode cX10_set 31 = .ok (.iload_n 2, 1) := by decide +kernel
theorem dX10_set_32 : decode cX10_set 32 = .ok (.aload_n 0, 1) := by decide +kernel
theorem dX10_set_33 : decode cX10_set 33 = .ok (.getfield 7, 3) := by decide +kernel
theorem dX10_set_36 : decode cX10_set 36 = .ok (.iconst 1, 1) := by decide +kernel
theorem dX10_set_37 : decode cX10_set 37 = .ok (.iaload, 1) := by decide +kernel
theorem dX10_set_38 : decode cX10_set 38 = .ok (.bipush 50, 2) := by decide +kernel
theorem dX10_set_40 : decode cX10_set 40 = .ok (.isub, 1) := by decide +kernel
theorem dX10_set_41 : decode cX10_set 41 = .ok (.if_icmp .le 6, 3) := by decide +kernel
theorem dX10_set_44 : decode cX10_set 44 = .ok (.ldc 87, 2) := by decide +kernel
theorem dX10_set_46 : decode cX10_set 46 = .ok (.ireturn, 1) := by decide +kernel
theorem dX10_set_47 : decode cX10_set 47 = .ok (.aload_n 0, 1) := by decide +kernel
theorem dX10_set_48 : decode cX10_set 48 = .ok (.getfield 26, 3) := by decide +kernel
theorem dX10_set_51 : decode cX10_set 51 = .ok (.iload_n 1, 1) := by decide +kernel
theorem dX10_set_52 : decode cX10_set 52 = .ok (.iaload, 1) := by decide +kernel
theorem dX10_set_53 : decode cX10_set 53 = .ok (.istore_n 3, 1) := by decide +kernel
theorem dX10_set_54 : decode cX10_set 54 = .ok (.aload_n 0, 1) := by decide +kernel
theorem dX10_set_55 : decode cX10_set 55 = .ok (.getfield 26, 3) := by decide +kernel
theorem dX10_set_58 : decode cX10_set 58 = .ok (.iload_n 1, 1) := by decide +kernel
theorem dX10_set_59 : decode cX10_set 59 = .ok (.iload_n 2, 1) := by decide +kernel
theorem dX10_set_60 : decode cX10_set 60 = .ok (.iastore, 1) := by decide +kernel
theorem dX10_set_61 : decode cX10_set 61 = .ok (.iload_n 3, 1) := by decide +kernel
theorem dX10_set_62 : decode cX10_set 62 = .ok (.ireturn, 1) := by decide +kernel
theorem dX10_strengthIn_0 : decode cX10_strengthIn 0 = .ok (.aload_n 0, 1) := by decide +kernel
theorem dX10_strengthIn_1 : decode cX10_strengthIn 1 = .ok (.getfield 7, 3) := by decide +kernel
theorem dX10_strengthIn_4 : decode cX10_strengthIn 4 = .ok (.iconst 2, 1) := by decide +kernel
theorem dX10_strengthIn_5 : decode cX10_strengthIn 5 = .ok (.iaload, 1) := by decide +kernel
theorem dX10_strengthIn_6 : decode cX10_strengthIn 6 = .ok (.istore_n 2, 1) := by decide +kernel
theorem dX10_strengthIn_7 : decode cX10_strengthIn 7 = .ok (.iconst 0, 1) := by decide +kernel
theorem dX10_strengthIn_8 : decode cX10_strengthIn 8 = .ok (.istore_n 3, 1) := by decide +kernel
theorem dX10_strengthIn_9 : decode cX10_strengthIn 9 = .ok (.iload_n 3, 1) := by decide +kernel
theorem dX10_strengthIn_10 : decode cX10_strengthIn 10 = .ok (.iload_n 1, 1) := by decide +kernel
theorem dX10_strengthIn_11 : decode cX10_strengthIn 11 = .ok (.if_icmp .ge 23, 3) := by decide +kernel
theorem dX10_strengthIn_14 : decode cX10_strengthIn 14 = .ok (.iload_n 2, 1) := by decide +kernel
theorem dX10_strengthIn_15 : decode cX10_strengthIn 15 = .ok (.iload_n 2, 1) := by decide +kernel
theorem dX10_strengthIn_16 : decode cX10_strengthIn 16 = .ok (.aload_n 0, 1) := by decide +kernel
theorem dX10_strengthIn_17 : decode cX10_strengthIn 17 = .ok (.getfield 7, 3) := by decide +kernel
theorem dX10_strengthIn_20 : decode cX10_strengthIn 20 = .ok (.iconst 3, 1) := by decide +kernel
theorem dX10_strengthIn_21 : decode cX10_strengthIn 21 = .ok (.iaload, 1) := by decide +kernel
theorem dX10_strengthIn_22 : decode cX10_strengthIn 22 = .ok (.imul, 1) := by decide +kernel
theorem dX10_strengthIn_23 : decode cX10_strengthIn 23 = .ok (.bipush 100, 2) := by decide +kernel
theorem dX10_strengthIn_25 : decode cX10_strengthIn 25 = .ok (.idiv, 1) := by decide +kernel
theorem dX10_strengthIn_26 : decode cX10_strengthIn 26 = .ok (.isub, 1) := by decide +kernel
theorem dX10_strengthIn_27 : decode cX10_strengthIn 27 = .ok (.istore_n 2, 1) := by decide +kernel
theorem dX10_strengthIn_28 : decode cX10_strengthIn 28 = .ok (.iinc 3 1, 3) := by decide +kernel
theorem dX10_strengthIn_31 : decode cX10_strengthIn 31 = .ok (.goto (-22), 3) := by decide +kernel
theorem dX10_strengthIn_34 : decode cX10_strengthIn 34 = .ok (.iload_n 2, 1) := by decide +kernel
theorem dX10_strengthIn_35 : decode cX10_strengthIn 35 = .ok (.ireturn, 1) := by decide +kernel
theorem dX10_now_0 : decode cX10_now 0 = .ok (.iload_n 1, 1) := by decide +kernel
theorem dX10_now_1 : decode cX10_now 1 = .ok (.i2l, 1) := by decide +kernel
theorem dX10_now_2 : decode cX10_now 2 = .ok (.lconst 0, 1) := by decide +kernel
theorem dX10_now_3 : decode cX10_now 3 = .ok (.ldc2_w 208, 3) := by decide +kernel
theorem dX10_now_6 : decode cX10_now 6 = .ok (.invokestatic 81, 3) := by decide +kernel
theorem dX10_now_9 : decode cX10_now 9 = .ok (.ifCond .eq 10, 3) := by decide +kernel
theorem dX10_now_12 : decode cX10_now 12 = .ok (.aload_n 0, 1) := by decide +kernel
theorem dX10_now_13 : decode cX10_now 13 = .ok (.getfield 26, 3) := by decide +kernel
theorem dX10_now_16 : decode cX10_now 16 = .ok (.iload_n 1, 1) := by decide +kernel
theorem dX10_now_17 : decode cX10_now 17 = .ok (.iaload, 1) := by decide +kernel
theorem dX10_now_18 : decode cX10_now 18 = .ok (.ireturn, 1) := by decide +kernel
theorem dX10_now_19 : decode cX10_now 19 = .ok (.iload_n 1, 1) := by decide +kernel
theorem dX10_now_20 : decode cX10_now 20 = .ok (.iconst 5, 1) := by decide +kernel
theorem dX10_now_21 : decode cX10_now 21 = .ok (.if_icmp .ne 19, 3) := by decide +kernel
theorem dX10_now_24 : decode cX10_now 24 = .ok (.aload_n 0, 1) := by decide +kernel
theorem dX10_now_25 : decode cX10_now 25 = .ok (.getfield 7, 3) := by decide +kernel
theorem dX10_now_28 : decode cX10_now 28 = .ok (.iconst 1, 1) := by decide +kernel
theorem dX10_now_29 : decode cX10_now 29 = .ok (.iaload, 1) := by decide +kernel
theorem dX10_now_30 : decode cX10_now 30 = .ok (.aload_n 0, 1) := by decide +kernel
theorem dX10_now_31 : decode cX10_now 31 = .ok (.getfield 26, 3) := by decide +kernel
theorem dX10_now_34 : decode cX10_now 34 = .ok (.iconst 1, 1) := by decide +kernel
theorem dX10_now_35 : decode cX10_now 35 = .ok (.iaload, 1) := by decide +kernel
theorem dX10_now_36 : decode cX10_now 36 = .ok (.isub, 1) := by decide +kernel
theorem dX10_now_37 : decode cX10_now 37 = .ok (.goto 37, 3) := by decide +kernel
theorem dX10_now_40 : decode cX10_now 40 = .ok (.iload_n 1, 1) := by decide +kernel
theorem dX10_now_41 : decode cX10_now 41 = .ok (.bipush 6, 2) := by decide +kernel
theorem dX10_now_43 : decode cX10_now 43 = .ok (.if_icmp .ne 16, 3) := by decide +kernel
theorem dX10_now_46 : decode cX10_now 46 = .ok (.aload_n 0, 1) := by decide +kernel
theorem dX10_now_47 : decode cX10_now 47 = .ok (.aload_n 0, 1) := by decide +kernel
theorem dX10_now_48 : decode cX10_now 48 = .ok (.getfield 26, 3) := by decide +kernel
theorem dX10_now_51 : decode cX10_now 51 = .ok (.iconst 2, 1) := by decide +kernel
theorem dX10_now_52 : decode cX10_now 52 = .ok (.iaload, 1) := by decide +kernel
theorem dX10_now_53 : decode cX10_now 53 = .ok (.invokevirtual 213, 3) := by decide +kernel
theorem dX10_now_56 : decode cX10_now 56 = .ok (.goto 18, 3) := by decide +kernel
theorem dX10_now_59 : decode cX10_now 59 = .ok (.iload_n 1, 1) := by decide +kernel
theorem dX10_now_60 : decode cX10_now 60 = .ok (.bipush 7, 2) := by decide +kernel
theorem dX10_now_62 : decode cX10_now 62 = .ok (.if_icmp .ne 10, 3) := by decide +kernel
theorem dX10_now_65 : decode cX10_now 65 = .ok (.aload_n 0, 1) := by decide +kernel
theorem dX10_now_66 : decode cX10_now 66 = .ok (.invokevirtual 192, 3) := by decide +kernel
theorem dX10_now_69 : decode cX10_now 69 = .ok (.goto 5, 3) := by decide +kernel
theorem dX10_now_72 : decode cX10_now 72 = .ok (.ldc 87, 2) := by decide +kernel
theorem dX10_now_74 : decode cX10_now 74 = .ok (.ireturn, 1) := by decide +kernel
theorem dX10_size_0 : decode cX10_size 0 = .ok (.iload_n 0, 1) := by decide +kernel
theorem dX10_size_1 : decode cX10_size 1 = .ok (.ifCond .ge 8, 3) := by decide +kernel
theorem dX10_size_4 : decode cX10_size 4 = .ok (.iload_n 0, 1) := by decide +kernel
theorem dX10_size_5 : decode cX10_size 5 = .ok (.ineg, 1) := by decide +kernel
theorem dX10_size_6 : decode cX10_size 6 = .ok (.goto 4, 3) := by decide +kernel
theorem dX10_size_9 : decode cX10_size 9 = .ok (.iload_n 0, 1) := by decide +kernel
theorem dX10_size_10 : decode cX10_size 10 = .ok (.ireturn, 1) := by decide +kernel
theorem dX10_sineOf_0 : decode cX10_sineOf 0 = .ok (.iload_n 0, 1) := by decide +kernel
theorem dX10_sineOf_1 : decode cX10_sineOf 1 = .ok (.invokestatic 216, 3) := by decide +kernel
theorem dX10_sineOf_4 : decode cX10_sineOf 4 = .ok (.sipush 1800, 3) := by decide +kernel
theorem dX10_sineOf_7 : decode cX10_sineOf 7 = .ok (.if_icmp .le 9, 3) := by decide +kernel
theorem dX10_sineOf_10 : decode cX10_sineOf 10 = .ok (.sipush 1800, 3) := by decide +kernel
theorem dX10_sineOf_13 : decode cX10_sineOf 13 = .ok (.goto 7, 3) := by decide +kernel
theorem dX10_sineOf_16 : decode cX10_sineOf 16 = .ok (.iload_n 0, 1) := by decide +kernel
theorem dX10_sineOf_17 : decode cX10_sineOf 17 = .ok (.invokestatic 216, 3) := by decide +kernel
theorem dX10_sineOf_20 : decode cX10_sineOf 20 = .ok (.istore_n 1, 1) := by decide +kernel
theorem dX10_sineOf_21 : decode cX10_sineOf 21 = .ok (.iload_n 1, 1) := by decide +kernel
theorem dX10_sineOf_22 : decode cX10_sineOf 22 = .ok (.i2l, 1) := by decide +kernel
theorem dX10_sineOf_23 : decode cX10_sineOf 23 = .ok (.sipush 1800, 3) := by decide +kernel
theorem dX10_sineOf_26 : decode cX10_sineOf 26 = .ok (.iload_n 1, 1) := by decide +kernel
theorem dX10_sineOf_27 : decode cX10_sineOf 27 = .ok (.isub, 1) := by decide +kernel
theorem dX10_sineOf_28 : decode cX10_sineOf 28 = .ok (.i2l, 1) := by decide +kernel
theorem dX10_sineOf_29 : decode cX10_sineOf 29 = .ok (.lmul, 1) := by decide +kernel
theorem dX10_sineOf_30 : decode cX10_sineOf 30 = .ok (.lstore_n 2, 1) := by decide +kernel
theorem dX10_sineOf_31 : decode cX10_sineOf 31 = .ok (.ldc2_w 219, 3) := by decide +kernel
theorem dX10_sineOf_34 : decode cX10_sineOf 34 = .ok (.lload_n 2, 1) := by decide +kernel
theorem dX10_sineOf_35 : decode cX10_sineOf 35 = .ok (.lmul, 1) := by decide +kernel
theorem dX10_sineOf_36 : decode cX10_sineOf 36 = .ok (.ldc2_w 221, 3) := by decide +kernel
theorem dX10_sineOf_39 : decode cX10_sineOf 39 = .ok (.lload_n 2, 1) := by decide +kernel
theorem dX10_sineOf_40 : decode cX10_sineOf 40 = .ok (.lsub, 1) := by decide +kernel
theorem dX10_sineOf_41 : decode cX10_sineOf 41 = .ok (.ldiv, 1) := by decide +kernel
theorem dX10_sineOf_42 : decode cX10_sineOf 42 = .ok (.l2i, 1) := by decide +kernel
theorem dX10_sineOf_43 : decode cX10_sineOf 43 = .ok (.istore 4, 2) := by decide +kernel
theorem dX10_sineOf_45 : decode cX10_sineOf 45 = .ok (.iload_n 0, 1) := by decide +kernel
theorem dX10_sineOf_46 : decode cX10_sineOf 46 = .ok (.ifCond .ge 9, 3) := by decide +kernel
theorem dX10_sineOf_49 : decode cX10_sineOf 49 = .ok (.iload 4, 2) := by decide +kernel
theorem dX10_sineOf_51 : decode cX10_sineOf 51 = .ok (.ineg, 1) := by decide +kernel
theorem dX10_sineOf_52 : decode cX10_sineOf 52 = .ok (.goto 5, 3) := by decide +kernel
theorem dX10_sineOf_55 : decode cX10_sineOf 55 = .ok (.iload 4, 2) := by decide +kernel
theorem dX10_sineOf_57 : decode cX10_sineOf 57 = .ok (.ireturn, 1) := by decide +kernel
theorem dX10_cosineOf_0 : decode cX10_cosineOf 0 = .ok (.sipush 900, 3) := by decide +kernel
theorem dX10_cosineOf_3 : decode cX10_cosineOf 3 = .ok (.iload_n 0, 1) := by decide +kernel
theorem dX10_cosineOf_4 : decode cX10_cosineOf 4 = .ok (.invokestatic 216, 3) := by decide +kernel
theorem dX10_cosineOf_7 : decode cX10_cosineOf 7 = .ok (.sipush 1800, 3) := by decide +kernel
theorem dX10_cosineOf_10 : decode cX10_cosineOf 10 = .ok (.if_icmp .le 9, 3) := by decide +kernel
theorem dX10_cosineOf_13 : decode cX10_cosineOf 13 = .ok (.sipush 1800, 3) := by decide +kernel
theorem dX10_cosineOf_16 : decode cX10_cosineOf 16 = .ok (.goto 7, 3) := by decide +kernel
theorem dX10_cosineOf_19 : decode cX10_cosineOf 19 = .ok (.iload_n 0, 1) := by decide +kernel
theorem dX10_cosineOf_20 : decode cX10_cosineOf 20 = .ok (.invokestatic 216, 3) := by decide +kernel
theorem dX10_cosineOf_23 : decode cX10_cosineOf 23 = .ok (.isub, 1) := by decide +kernel
theorem dX10_cosineOf_24 : decode cX10_cosineOf 24 = .ok (.invokestatic 223, 3) := by decide +kernel
theorem dX10_cosineOf_27 : decode cX10_cosineOf 27 = .ok (.ireturn, 1) := by decide +kernel
theorem dX10_sine_0 : decode cX10_sine 0 = .ok (.iload_n 1, 1) := by decide +kernel
theorem dX10_sine_1 : decode cX10_sine 1 = .ok (.i2l, 1) := by decide +kernel
theorem dX10_sine_2 : decode cX10_sine 2 = .ok (.ldc2_w 226, 3) := by decide +kernel
theorem dX10_sine_5 : decode cX10_sine 5 = .ok (.ldc2_w 228, 3) := by decide +kernel
theorem dX10_sine_8 : decode cX10_sine 8 = .ok (.invokestatic 81, 3) := by decide +kernel
theorem dX10_sine_11 : decode cX10_sine 11 = .ok (.ifCond .eq 10, 3) := by decide +kernel
theorem dX10_sine_14 : decode cX10_sine 14 = .ok (.iload_n 1, 1) := by decide +kernel
theorem dX10_sine_15 : decode cX10_sine 15 = .ok (.invokestatic 223, 3) := by decide +kernel
theorem dX10_sine_18 : decode cX10_sine 18 = .ok (.goto 5, 3) := by decide +kernel
theorem dX10_sine_21 : decode cX10_sine 21 = .ok (.ldc 87, 2) := by decide +kernel
theorem dX10_sine_23 : decode cX10_sine 23 = .ok (.ireturn, 1) := by decide +kernel
theorem dX10_useHand_0 : decode cX10_useHand 0 = .ok (.aload_n 0, 1) := by decide +kernel
theorem dX10_useHand_1 : decode cX10_useHand 1 = .ok (.aload_n 0, 1) := by decide +kernel
theorem dX10_useHand_2 : decode cX10_useHand 2 = .ok (.getfield 7, 3) := by decide +kernel
theorem dX10_useHand_5 : decode cX10_useHand 5 = .ok (.iconst 1, 1) := by decide +kernel
theorem dX10_useHand_6 : decode cX10_useHand 6 = .ok (.iaload, 1) := by decide +kernel
theorem dX10_useHand_7 : decode cX10_useHand 7 = .ok (.aload_n 0, 1) := by decide +kernel
theorem dX10_useHand_8 : decode cX10_useHand 8 = .ok (.getfield 26, 3) := by decide +kernel
theorem dX10_useHand_11 : decode cX10_useHand 11 = .ok (.iconst 1, 1) := by decide +kernel
theorem dX10_useHand_12 : decode cX10_useHand 12 = .ok (.iaload, 1) := by decide +kernel
theorem dX10_useHand_13 : decode cX10_useHand 13 = .ok (.isub, 1) := by decide +kernel
theorem dX10_useHand_14 : decode cX10_useHand 14 = .ok (.putfield 230, 3) := by decide +kernel
theorem dX10_useHand_17 : decode cX10_useHand 17 = .ok (.aload_n 0, 1) := by decide +kernel
theorem dX10_useHand_18 : decode cX10_useHand 18 = .ok (.aload_n 0, 1) := by decide +kernel
theorem dX10_useHand_19 : decode cX10_useHand 19 = .ok (.getfield 26, 3) := by decide +kernel
theorem dX10_useHand_22 : decode cX10_useHand 22 = .ok (.iconst 4, 1) := by decide +kernel
theorem dX10_useHand_23 : decode cX10_useHand 23 = .ok (.iaload, 1) := by decide +kernel
theorem dX10_useHand_24 : decode cX10_useHand 24 = .ok (.putfield 233, 3) := by decide +kernel
theorem dX10_useHand_27 : decode cX10_useHand 27 = .ok (.aload_n 0, 1) := by decide +kernel
theorem dX10_useHand_28 : decode cX10_useHand 28 = .ok (.aload_n 0, 1) := by decide +kernel
theorem dX10_useHand_29 : decode cX10_useHand 29 = .ok (.aload_n 0, 1) := by decide +kernel
theorem dX10_useHand_30 : decode cX10_useHand 30 = .ok (.getfield 26, 3) := by decide +kernel
theorem dX10_useHand_33 : decode cX10_useHand 33 = .ok (.iconst 2, 1) := by decide +kernel
theorem dX10_useHand_34 : decode cX10_useHand 34 = .ok (.iaload, 1) := by decide +kernel
theorem dX10_useHand_35 : decode cX10_useHand 35 = .ok (.invokevirtual 213, 3) := by decide +kernel
theorem dX10_useHand_38 : decode cX10_useHand 38 = .ok (.putfield 236, 3) := by decide +kernel
theorem dX10_useHand_41 : decode cX10_useHand 41 = .ok (.return_, 1) := by decide +kernel
theorem dX10_usePerson_0 : decode cX10_usePerson 0 = .ok (.aload_n 0, 1) := by decide +kernel
theorem dX10_usePerson_1 : decode cX10_usePerson 1 = .ok (.aload_n 0, 1) := by decide +kernel
theorem dX10_usePerson_2 : decode cX10_usePerson 2 = .ok (.getfield 23, 3) := by decide +kernel
theorem dX10_usePerson_5 : decode cX10_usePerson 5 = .ok (.iconst 5, 1) := by decide +kernel
theorem dX10_usePerson_6 : decode cX10_usePerson 6 = .ok (.iload_n 1, 1) := by decide +kernel
theorem dX10_usePerson_7 : decode cX10_usePerson 7 = .ok (.imul, 1) := by decide +kernel
theorem dX10_usePerson_8 : decode cX10_usePerson 8 = .ok (.iaload, 1) := by decide +kernel
theorem dX10_usePerson_9 : decode cX10_usePerson 9 = .ok (.putfield 239, 3) := by decide +kernel
theorem dX10_usePerson_12 : decode cX10_usePerson 12 = .ok (.aload_n 0, 1) := by decide +kernel
theorem dX10_usePerson_13 : decode cX10_usePerson 13 = .ok (.aload_n 0, 1) := by decide +kernel
theorem dX10_usePerson_14 : decode cX10_usePerson 14 = .ok (.getfield 23, 3) := by decide +kernel
theorem dX10_usePerson_17 : decode cX10_usePerson 17 = .ok (.iconst 5, 1) := by decide +kernel
theorem dX10_usePerson_18 : decode cX10_usePerson 18 = .ok (.iload_n 1, 1) := by decide +kernel
theorem dX10_usePerson_19 : decode cX10_usePerson 19 = .ok (.imul, 1) := by decide +kernel
theorem dX10_usePerson_20 : decode cX10_usePerson 20 = .ok (.iconst 1, 1) := by decide +kernel
theorem dX10_usePerson_21 : decode cX10_usePerson 21 = .ok (.iadd, 1) := by decide +kernel
theorem dX10_usePerson_22 : decode cX10_usePerson 22 = .ok (.iaload, 1) := by decide +kernel
theorem dX10_usePerson_23 : decode cX10_usePerson 23 = .ok (.putfield 242, 3) := by decide +kernel
theorem dX10_usePerson_26 : decode cX10_usePerson 26 = .ok (.aload_n 0, 1) := by decide +kernel
theorem dX10_usePerson_27 : decode cX10_usePerson 27 = .ok (.aload_n 0, 1) := by decide +kernel
theorem dX10_usePerson_28 : decode cX10_usePerson 28 = .ok (.getfield 23, 3) := by decide +kernel
theorem dX10_usePerson_31 : decode cX10_usePerson 31 = .ok (.iconst 5, 1) := by decide +kernel
theorem dX10_usePerson_32 : decode cX10_usePerson 32 = .ok (.iload_n 1, 1) := by decide +kernel
theorem dX10_usePerson_33 : decode cX10_usePerson 33 = .ok (.imul, 1) := by decide +kernel
theorem dX10_usePerson_34 : decode cX10_usePerson 34 = .ok (.iconst 2, 1) := by decide +kernel
theorem dX10_usePerson_35 : decode cX10_usePerson 35 = .ok (.iadd, 1) := by decide +kernel
theorem dX10_usePerson_36 : decode cX10_usePerson 36 = .ok (.iaload, 1) := by decide +kernel
theorem dX10_usePerson_37 : decode cX10_usePerson 37 = .ok (.putfield 245, 3) := by decide +kernel
theorem dX10_usePerson_40 : decode cX10_usePerson 40 = .ok (.aload_n 0, 1) := by decide +kernel
theorem dX10_usePerson_41 : decode cX10_usePerson 41 = .ok (.aload_n 0, 1) := by decide +kernel
theorem dX10_usePerson_42 : decode cX10_usePerson 42 = .ok (.getfield 23, 3) := by decide +kernel
theorem dX10_usePerson_45 : decode cX10_usePerson 45 = .ok (.iconst 5, 1) := by decide +kernel
theorem dX10_usePerson_46 : decode cX10_usePerson 46 = .ok (.iload_n 1, 1) := by decide +kernel
theorem dX10_usePerson_47 : decode cX10_usePerson 47 = .ok (.imul, 1) := by decide +kernel
theorem dX10_usePerson_48 : decode cX10_usePerson 48 = .ok (.iconst 3, 1) := by decide +kernel
theorem dX10_usePerson_49 : decode cX10_usePerson 49 = .ok (.iadd, 1) := by decide +kernel
theorem dX10_usePerson_50 : decode cX10_usePerson 50 = .ok (.iaload, 1) := by decide +kernel
theorem dX10_usePerson_51 : decode cX10_usePerson 51 = .ok (.putfield 248, 3) := by decide +kernel
theorem dX10_usePerson_54 : decode cX10_usePerson 54 = .ok (.aload_n 0, 1) := by decide +kernel
theorem dX10_usePerson_55 : decode cX10_usePerson 55 = .ok (.aload_n 0, 1) := by decide +kernel
theorem dX10_usePerson_56 : decode cX10_usePerson 56 = .ok (.getfield 23, 3) := by decide +kernel
theorem dX10_usePerson_59 : decode cX10_usePerson 59 = .ok (.iconst 5, 1) := by decide +kernel
theorem dX10_usePerson_60 : decode cX10_usePerson 60 = .ok (.iload_n 1, 1) := by decide +kernel
theorem dX10_usePerson_61 : decode cX10_usePerson 61 = .ok (.imul, 1) := by decide +kernel
theorem dX10_usePerson_62 : decode cX10_usePerson 62 = .ok (.iconst 4, 1) := by decide +kernel
theorem dX10_usePerson_63 : decode cX10_usePerson 63 = .ok (.iadd, 1) := by decide +kernel
theorem dX10_usePerson_64 : decode cX10_usePerson 64 = .ok (.iaload, 1) := by decide +kernel
theorem dX10_usePerson_65 : decode cX10_usePerson 65 = .ok (.putfield 251, 3) := by decide +kernel
theorem dX10_usePerson_68 : decode cX10_usePerson 68 = .ok (.return_, 1) := by decide +kernel
theorem dX10_pullOf_0 : decode cX10_pullOf 0 = .ok (.iload_n 1, 1) := by decide +kernel
theorem dX10_pullOf_1 : decode cX10_pullOf 1 = .ok (.i2l, 1) := by decide +kernel
theorem dX10_pullOf_2 : decode cX10_pullOf 2 = .ok (.iload_n 2, 1) := by decide +kernel
theorem dX10_pullOf_3 : decode cX10_pullOf 3 = .ok (.bipush 100, 2) := by decide +kernel
theorem dX10_pullOf_5 : decode cX10_pullOf 5 = .ok (.idiv, 1) := by decide +kernel
theorem dX10_pullOf_6 : decode cX10_pullOf 6 = .ok (.invokestatic 254, 3) := by decide +kernel
theorem dX10_pullOf_9 : decode cX10_pullOf 9 = .ok (.bipush 10, 2) := by decide +kernel
theorem dX10_pullOf_11 : decode cX10_pullOf 11 = .ok (.idiv, 1) := by decide +kernel
theorem dX10_pullOf_12 : decode cX10_pullOf 12 = .ok (.i2l, 1) := by decide +kernel
theorem dX10_pullOf_13 : decode cX10_pullOf 13 = .ok (.iload_n 3, 1) := by decide +kernel
theorem dX10_pullOf_14 : decode cX10_pullOf 14 = .ok (.i2l, 1) := by decide +kernel
theorem dX10_pullOf_15 : decode cX10_pullOf 15 = .ok (.iload_n 3, 1) := by decide +kernel
theorem dX10_pullOf_16 : decode cX10_pullOf 16 = .ok (.i2l, 1) := by decide +kernel
theorem dX10_pullOf_17 : decode cX10_pullOf 17 = .ok (.lmul, 1) := by decide +kernel
theorem dX10_pullOf_18 : decode cX10_pullOf 18 = .ok (.aload_n 0, 1) := by decide +kernel
theorem dX10_pullOf_19 : decode cX10_pullOf 19 = .ok (.getfield 230, 3) := by decide +kernel
theorem dX10_pullOf_22 : decode cX10_pullOf 22 = .ok (.i2l, 1) := by decide +kernel
theorem dX10_pullOf_23 : decode cX10_pullOf 23 = .ok (.lmul, 1) := by decide +kernel
theorem dX10_pullOf_24 : decode cX10_pullOf 24 = .ok (.ldc2_w 257, 3) := by decide +kernel
theorem dX10_pullOf_27 : decode cX10_pullOf 27 = .ok (.ldiv, 1) := by decide +kernel
theorem dX10_pullOf_28 : decode cX10_pullOf 28 = .ok (.ladd, 1) := by decide +kernel
theorem dX10_pullOf_29 : decode cX10_pullOf 29 = .ok (.lmul, 1) := by decide +kernel
theorem dX10_pullOf_30 : decode cX10_pullOf 30 = .ok (.ldc2_w 259, 3) := by decide +kernel
theorem dX10_pullOf_33 : decode cX10_pullOf 33 = .ok (.ldiv, 1) := by decide +kernel
theorem dX10_pullOf_34 : decode cX10_pullOf 34 = .ok (.lstore 4, 2) := by decide +kernel
theorem dX10_pullOf_36 : decode cX10_pullOf 36 = .ok (.lload 4, 2) := by decide +kernel
theorem dX10_pullOf_38 : decode cX10_pullOf 38 = .ok (.lconst 0, 1) := by decide +kernel
theorem dX10_pullOf_39 : decode cX10_pullOf 39 = .ok (.lcmp, 1) := by decide +kernel
theorem dX10_pullOf_40 : decode cX10_pullOf 40 = .ok (.ifCond .ge 7, 3) := by decide +kernel
theorem dX10_pullOf_43 : decode cX10_pullOf 43 = .ok (.iconst 0, 1) := by decide +kernel
theorem dX10_pullOf_44 : decode cX10_pullOf 44 = .ok (.goto 6, 3) := by decide +kernel
theorem dX10_pullOf_47 : decode cX10_pullOf 47 = .ok (.lload 4, 2) := by decide +kernel
theorem dX10_pullOf_49 : decode cX10_pullOf 49 = .ok (.l2i, 1) := by decide +kernel
theorem dX10_pullOf_50 : decode cX10_pullOf 50 = .ok (.ireturn, 1) := by decide +kernel
theorem dX10_swing_0 : decode cX10_swing 0 = .ok (.aload_n 0, 1) := by decide +kernel
theorem dX10_swing_1 : decode cX10_swing 1 = .ok (.getfield 48, 3) := by decide +kernel
theorem dX10_swing_4 : decode cX10_swing 4 = .ok (.iconst 0, 1) := by decide +kernel
theorem dX10_swing_5 : decode cX10_swing 5 = .ok (.sipush (-1000), 3) := by decide +kernel
theorem dX10_swing_8 : decode cX10_swing 8 = .ok (.aload_n 0, 1) := by decide +kernel
theorem dX10_swing_9 : decode cX10_swing 9 = .ok (.getfield 26, 3) := by decide +kernel
theorem dX10_swing_12 : decode cX10_swing 12 = .ok (.iconst 3, 1) := by decide +kernel
theorem dX10_swing_13 : decode cX10_swing 13 = .ok (.iaload, 1) := by decide +kernel
theorem dX10_swing_14 : decode cX10_swing 14 = .ok (.imul, 1) := by decide +kernel
theorem dX10_swing_15 : decode cX10_swing 15 = .ok (.iastore, 1) := by decide +kernel
theorem dX10_swing_16 : decode cX10_swing 16 = .ok (.aload_n 0, 1) := by decide +kernel
theorem dX10_swing_17 : decode cX10_swing 17 = .ok (.getfield 51, 3) := by decide +kernel
theorem dX10_swing_20 : decode cX10_swing 20 = .ok (.iconst 0, 1) := by decide +kernel
theorem dX10_swing_21 : decode cX10_swing 21 = .ok (.sipush 2865, 3) := by decide +kernel
theorem dX10_swing_24 : decode cX10_swing 24 = .ok (.aload_n 0, 1) := by decide +kernel
theorem dX10_swing_25 : decode cX10_swing 25 = .ok (.getfield 233, 3) := by decide +kernel
theorem dX10_swing_28 : decode cX10_swing 28 = .ok (.imul, 1) := by decide +kernel
theorem dX10_swing_29 : decode cX10_swing 29 = .ok (.aload_n 0, 1) := by decide +kernel
theorem dX10_swing_30 : decode cX10_swing 30 = .ok (.getfield 230, 3) := by decide +kernel
theorem dX10_swing_33 : decode cX10_swing 33 = .ok (.idiv, 1) := by decide +kernel
theorem dX10_swing_34 : decode cX10_swing 34 = .ok (.iastore, 1) := by decide +kernel
theorem dX10_swing_35 : decode cX10_swing 35 = .ok (.aload_n 0, 1) := by decide +kernel
theorem dX10_swing_36 : decode cX10_swing 36 = .ok (.getfield 54, 3) := by decide +kernel
theorem dX10_swing_39 : decode cX10_swing 39 = .ok (.iconst 0, 1) := by decide +kernel
theorem dX10_swing_40 : decode cX10_swing 40 = .ok (.iconst 0, 1) := by decide +kernel
theorem dX10_swing_41 : decode cX10_swing 41 = .ok (.iastore, 1) := by decide +kernel
theorem dX10_swing_42 : decode cX10_swing 42 = .ok (.aload_n 0, 1) := by decide +kernel
theorem dX10_swing_43 : decode cX10_swing 43 = .ok (.getfield 57, 3) := by decide +kernel
theorem dX10_swing_46 : decode cX10_swing 46 = .ok (.iconst 0, 1) := by decide +kernel
theorem dX10_swing_47 : decode cX10_swing 47 = .ok (.sipush 1000, 3) := by decide +kernel
theorem dX10_swing_50 : decode cX10_swing 50 = .ok (.iastore, 1) := by decide +kernel
theorem dX10_swing_51 : decode cX10_swing 51 = .ok (.iconst 1, 1) := by decide +kernel
theorem dX10_swing_52 : decode cX10_swing 52 = .ok (.istore_n 1, 1) := by decide +kernel
theorem dX10_swing_53 : decode cX10_swing 53 = .ok (.iload_n 1, 1) := by decide +kernel
theorem dX10_swing_54 : decode cX10_swing 54 = .ok (.sipush 200, 3) := by decide +kernel
theorem dX10_swing_57 : decode cX10_swing 57 = .ok (.if_icmp .gt 123, 3) := by decide +kernel
theorem dX10_swing_60 : decode cX10_swing 60 = .ok (.aload_n 0, 1) := by decide +kernel
theorem dX10_swing_61 : decode cX10_swing 61 = .ok (.getfield 51, 3) := by decide +kernel
theorem dX10_swing_64 : decode cX10_swing 64 = .ok (.iload_n 1, 1) := by decide +kernel
theorem dX10_swing_65 : decode cX10_swing 65 = .ok (.aload_n 0, 1) := by decide +kernel
theorem dX10_swing_66 : decode cX10_swing 66 = .ok (.getfield 51, 3) := by decide +kernel
theorem dX10_swing_69 : decode cX10_swing 69 = .ok (.iload_n 1, 1) := by decide +kernel
theorem dX10_swing_70 : decode cX10_swing 70 = .ok (.iconst 1, 1) := by decide +kernel
theorem dX10_swing_71 : decode cX10_swing 71 = .ok (.isub, 1) := by decide +kernel
theorem dX10_swing_72 : decode cX10_swing 72 = .ok (.iaload, 1) := by decide +kernel
theorem dX10_swing_73 : decode cX10_swing 73 = .ok (.sipush 140, 3) := by decide +kernel
theorem dX10_swing_76 : decode cX10_swing 76 = .ok (.aload_n 0, 1) := by decide +kernel
theorem dX10_swing_77 : decode cX10_swing 77 = .ok (.getfield 48, 3) := by decide +kernel
theorem dX10_swing_80 : decode cX10_swing 80 = .ok (.iload_n 1, 1) := by decide +kernel
theorem dX10_swing_81 : decode cX10_swing 81 = .ok (.iconst 1, 1) := by decide +kernel
theorem dX10_swing_82 : decode cX10_swing 82 = .ok (.isub, 1) := by decide +kernel
theorem dX10_swing_83 : decode cX10_swing 83 = .ok (.iaload, 1) := by decide +kernel
theorem dX10_swing_84 : decode cX10_swing 84 = .ok (.bipush 100, 2) := by decide +kernel
theorem dX10_swing_86 : decode cX10_swing 86 = .ok (.idiv, 1) := by decide +kernel
theorem dX10_swing_87 : decode cX10_swing 87 = .ok (.invokestatic 223, 3) := by decide +kernel
theorem dX10_swing_90 : decode cX10_swing 90 = .ok (.imul, 1) := by decide +kernel
theorem dX10_swing_91 : decode cX10_swing 91 = .ok (.aload_n 0, 1) := by decide +kernel
theorem dX10_swing_92 : decode cX10_swing 92 = .ok (.getfield 230, 3) := by decide +kernel
theorem dX10_swing_95 : decode cX10_swing 95 = .ok (.idiv, 1) := by decide +kernel
theorem dX10_swing_96 : decode cX10_swing 96 = .ok (.isub, 1) := by decide +kernel
theorem dX10_swing_97 : decode cX10_swing 97 = .ok (.iastore, 1) := by decide +kernel
theorem dX10_swing_98 : decode cX10_swing 98 = .ok (.aload_n 0, 1) := by decide +kernel
theorem dX10_swing_99 : decode cX10_swing 99 = .ok (.getfield 48, 3) := by decide +kernel
theorem dX10_swing_102 : decode cX10_swing 102 = .ok (.iload_n 1, 1) := by decide +kernel
theorem dX10_swing_103 : decode cX10_swing 103 = .ok (.aload_n 0, 1) := by decide +kernel
theorem dX10_swing_104 : decode cX10_swing 104 = .ok (.getfield 48, 3) := by decide +kernel
theorem dX10_swing_107 : decode cX10_swing 107 = .ok (.iload_n 1, 1) := by decide +kernel
theorem dX10_swing_108 : decode cX10_swing 108 = .ok (.iconst 1, 1) := by decide +kernel
theorem dX10_swing_109 : decode cX10_swing 109 = .ok (.isub, 1) := by decide +kernel
theorem dX10_swing_110 : decode cX10_swing 110 = .ok (.iaload, 1) := by decide +kernel
theorem dX10_swing_111 : decode cX10_swing 111 = .ok (.aload_n 0, 1) := by decide +kernel
theorem dX10_swing_112 : decode cX10_swing 112 = .ok (.getfield 51, 3) := by decide +kernel
theorem dX10_swing_115 : decode cX10_swing 115 = .ok (.iload_n 1, 1) := by decide +kernel
theorem dX10_swing_116 : decode cX10_swing 116 = .ok (.iaload, 1) := by decide +kernel
theorem dX10_swing_117 : decode cX10_swing 117 = .ok (.iadd, 1) := by decide +kernel
theorem dX10_swing_118 : decode cX10_swing 118 = .ok (.iastore, 1) := by decide +kernel
theorem dX10_swing_119 : decode cX10_swing 119 = .ok (.aload_n 0, 1) := by decide +kernel
theorem dX10_swing_120 : decode cX10_swing 120 = .ok (.getfield 54, 3) := by decide +kernel
theorem dX10_swing_123 : decode cX10_swing 123 = .ok (.iload_n 1, 1) := by decide +kernel
theorem dX10_swing_124 : decode cX10_swing 124 = .ok (.aload_n 0, 1) := by decide +kernel
theorem dX10_swing_125 : decode cX10_swing 125 = .ok (.aload_n 0, 1) := by decide +kernel
theorem dX10_swing_126 : decode cX10_swing 126 = .ok (.getfield 239, 3) := by decide +kernel
theorem dX10_swing_129 : decode cX10_swing 129 = .ok (.aload_n 0, 1) := by decide +kernel
theorem dX10_swing_130 : decode cX10_swing 130 = .ok (.getfield 48, 3) := by decide +kernel
theorem dX10_swing_133 : decode cX10_swing 133 = .ok (.iload_n 1, 1) := by decide +kernel
theorem dX10_swing_134 : decode cX10_swing 134 = .ok (.iaload, 1) := by decide +kernel
theorem dX10_swing_135 : decode cX10_swing 135 = .ok (.aload_n 0, 1) := by decide +kernel
theorem dX10_swing_136 : decode cX10_swing 136 = .ok (.getfield 51, 3) := by decide +kernel
theorem dX10_swing_139 : decode cX10_swing 139 = .ok (.iload_n 1, 1) := by decide +kernel
theorem dX10_swing_140 : decode cX10_swing 140 = .ok (.iaload, 1) := by decide +kernel
theorem dX10_swing_141 : decode cX10_swing 141 = .ok (.invokevirtual 261, 3) := by decide +kernel
theorem dX10_swing_144 : decode cX10_swing 144 = .ok (.iastore, 1) := by decide +kernel
theorem dX10_swing_145 : decode cX10_swing 145 = .ok (.aload_n 0, 1) := by decide +kernel
theorem dX10_swing_146 : decode cX10_swing 146 = .ok (.getfield 57, 3) := by decide +kernel
theorem dX10_swing_149 : decode cX10_swing 149 = .ok (.iload_n 1, 1) := by decide +kernel
theorem dX10_swing_150 : decode cX10_swing 150 = .ok (.aload_n 0, 1) := by decide +kernel
theorem dX10_swing_151 : decode cX10_swing 151 = .ok (.getfield 57, 3) := by decide +kernel
theorem dX10_swing_154 : decode cX10_swing 154 = .ok (.iload_n 1, 1) := by decide +kernel
theorem dX10_swing_155 : decode cX10_swing 155 = .ok (.iconst 1, 1) := by decide +kernel
theorem dX10_swing_156 : decode cX10_swing 156 = .ok (.isub, 1) := by decide +kernel
theorem dX10_swing_157 : decode cX10_swing 157 = .ok (.iaload, 1) := by decide +kernel
theorem dX10_swing_158 : decode cX10_swing 158 = .ok (.aload_n 0, 1) := by decide +kernel
theorem dX10_swing_159 : decode cX10_swing 159 = .ok (.getfield 54, 3) := by decide +kernel
theorem dX10_swing_162 : decode cX10_swing 162 = .ok (.iload_n 1, 1) := by decide +kernel
theorem dX10_swing_163 : decode cX10_swing 163 = .ok (.iaload, 1) := by decide +kernel
theorem dX10_swing_164 : decode cX10_swing 164 = .ok (.bipush 20, 2) := by decide +kernel
theorem dX10_swing_166 : decode cX10_swing 166 = .ok (.imul, 1) := by decide +kernel
theorem dX10_swing_167 : decode cX10_swing 167 = .ok (.aload_n 0, 1) := by decide +kernel
theorem dX10_swing_168 : decode cX10_swing 168 = .ok (.getfield 245, 3) := by decide +kernel
theorem dX10_swing_171 : decode cX10_swing 171 = .ok (.idiv, 1) := by decide +kernel
theorem dX10_swing_172 : decode cX10_swing 172 = .ok (.isub, 1) := by decide +kernel
theorem dX10_swing_173 : decode cX10_swing 173 = .ok (.iastore, 1) := by decide +kernel
theorem dX10_swing_174 : decode cX10_swing 174 = .ok (.iinc 1 1, 3) := by decide +kernel
theorem dX10_swing_177 : decode cX10_swing 177 = .ok (.goto (-124), 3) := by decide +kernel
theorem dX10_swing_180 : decode cX10_swing 180 = .ok (.return_, 1) := by decide +kernel
theorem dX10_handsX_0 : decode cX10_handsX 0 = .ok (.aload_n 0, 1) := by decide +kernel
theorem dX10_handsX_1 : decode cX10_handsX 1 = .ok (.getfield 230, 3) := by decide +kernel
theorem dX10_handsX_4 : decode cX10_handsX 4 = .ok (.aload_n 0, 1) := by decide +kernel
theorem dX10_handsX_5 : decode cX10_handsX 5 = .ok (.getfield 48, 3) := by decide +kernel
theorem dX10_handsX_8 : decode cX10_handsX 8 = .ok (.iload_n 1, 1) := by decide +kernel
theorem dX10_handsX_9 : decode cX10_handsX 9 = .ok (.iaload, 1) := by decide +kernel
theorem dX10_handsX_10 : decode cX10_handsX 10 = .ok (.bipush 100, 2) := by decide +kernel
theorem dX10_handsX_12 : decode cX10_handsX 12 = .ok (.idiv, 1) := by decide +kernel
theorem dX10_handsX_13 : decode cX10_handsX 13 = .ok (.invokestatic 223, 3) := by decide +kernel
theorem dX10_handsX_16 : decode cX10_handsX 16 = .ok (.imul, 1) := by decide +kernel
theorem dX10_handsX_17 : decode cX10_handsX 17 = .ok (.sipush 1000, 3) := by decide +kernel
theorem dX10_handsX_20 : decode cX10_handsX 20 = .ok (.idiv, 1) := by decide +kernel
theorem dX10_handsX_21 : decode cX10_handsX 21 = .ok (.ireturn, 1) := by decide +kernel
theorem dX10_handsHeight_0 : decode cX10_handsHeight 0 = .ok (.aload_n 0, 1) := by decide +kernel
theorem dX10_handsHeight_1 : decode cX10_handsHeight 1 = .ok (.getfield 7, 3) := by decide +kernel
theorem dX10_handsHeight_4 : decode cX10_handsHeight 4 = .ok (.iconst 0, 1) := by decide +kernel
theorem dX10_handsHeight_5 : decode cX10_handsHeight 5 = .ok (.iaload, 1) := by decide +kernel
theorem dX10_handsHeight_6 : decode cX10_handsHeight 6 = .ok (.aload_n 0, 1) := by decide +kernel
theorem dX10_handsHeight_7 : decode cX10_handsHeight 7 = .ok (.getfield 230, 3) := by decide +kernel
theorem dX10_handsHeight_10 : decode cX10_handsHeight 10 = .ok (.aload_n 0, 1) := by decide +kernel
theorem dX10_handsHeight_11 : decode cX10_handsHeight 11 = .ok (.getfield 48, 3) := by decide +kernel
theorem dX10_handsHeight_14 : decode cX10_handsHeight 14 = .ok (.iload_n 1, 1) := by decide +kernel
theorem dX10_handsHeight_15 : decode cX10_handsHeight 15 = .ok (.iaload, 1) := by decide +kernel
theorem dX10_handsHeight_16 : decode cX10_handsHeight 16 = .ok (.bipush 100, 2) := by decide +kernel
theorem dX10_handsHeight_18 : decode cX10_handsHeight 18 = .ok (.idiv, 1) := by decide +kernel
theorem dX10_handsHeight_19 : decode cX10_handsHeight 19 = .ok (.invokestatic 254, 3) := by decide +kernel
theorem dX10_handsHeight_22 : decode cX10_handsHeight 22 = .ok (.imul, 1) := by decide +kernel
theorem dX10_handsHeight_23 : decode cX10_handsHeight 23 = .ok (.sipush 1000, 3) := by decide +kernel
theorem dX10_handsHeight_26 : decode cX10_handsHeight 26 = .ok (.idiv, 1) := by decide +kernel
theorem dX10_handsHeight_27 : decode cX10_handsHeight 27 = .ok (.isub, 1) := by decide +kernel
theorem dX10_handsHeight_28 : decode cX10_handsHeight 28 = .ok (.ireturn, 1) := by decide +kernel
theorem dX10_holds_0 : decode cX10_holds 0 = .ok (.aload_n 0, 1) := by decide +kernel
theorem dX10_holds_1 : decode cX10_holds 1 = .ok (.iload_n 1, 1) := by decide +kernel
theorem dX10_holds_2 : decode cX10_holds 2 = .ok (.invokevirtual 204, 3) := by decide +kernel
theorem dX10_holds_5 : decode cX10_holds 5 = .ok (.ifCond .ne 6, 3) := by decide +kernel
theorem dX10_holds_8 : decode cX10_holds 8 = .ok (.ldc 197, 2) := by decide +kernel
theorem dX10_holds_10 : decode cX10_holds 10 = .ok (.ireturn, 1) := by decide +kernel
theorem dX10_holds_11 : decode cX10_holds 11 = .ok (.iload_n 2, 1) := by decide +kernel
theorem dX10_holds_12 : decode cX10_holds 12 = .ok (.i2l, 1) := by decide +kernel
theorem dX10_holds_13 : decode cX10_holds 13 = .ok (.lconst 0, 1) := by decide +kernel
theorem dX10_holds_14 : decode cX10_holds 14 = .ok (.ldc2_w 264, 3) := by decide +kernel
theorem dX10_holds_17 : decode cX10_holds 17 = .ok (.invokestatic 81, 3) := by decide +kernel
theorem dX10_holds_20 : decode cX10_holds 20 = .ok (.ifCond .eq 15, 3) := by decide +kernel
theorem dX10_holds_23 : decode cX10_holds 23 = .ok (.iload_n 3, 1) := by decide +kernel
theorem dX10_holds_24 : decode cX10_holds 24 = .ok (.i2l, 1) := by decide +kernel
theorem dX10_holds_25 : decode cX10_holds 25 = .ok (.lconst 0, 1) := by decide +kernel
theorem dX10_holds_26 : decode cX10_holds 26 = .ok (.ldc2_w 266, 3) := by decide +kernel
theorem dX10_holds_29 : decode cX10_holds 29 = .ok (.invokestatic 81, 3) := by decide +kernel
theorem dX10_holds_32 : decode cX10_holds 32 = .ok (.ifCond .ne 6, 3) := by decide +kernel
theorem dX10_holds_35 : decode cX10_holds 35 = .ok (.ldc 87, 2) := by decide +kernel
theorem dX10_holds_37 : decode cX10_holds 37 = .ok (.ireturn, 1) := by decide +kernel
theorem dX10_holds_38 : decode cX10_holds 38 = .ok (.aload_n 0, 1) := by decide +kernel
theorem dX10_holds_39 : decode cX10_holds 39 = .ok (.invokevirtual 268, 3) := by decide +kernel
theorem dX10_holds_42 : decode cX10_holds 42 = .ok (.aload_n 0, 1) := by decide +kernel
theorem dX10_holds_43 : decode cX10_holds 43 = .ok (.iload_n 1, 1) := by decide +kernel
theorem dX10_holds_44 : decode cX10_holds 44 = .ok (.invokevirtual 271, 3) := by decide +kernel
theorem dX10_holds_47 : decode cX10_holds 47 = .ok (.aload_n 0, 1) := by decide +kernel
theorem dX10_holds_48 : decode cX10_holds 48 = .ok (.invokevirtual 275, 3) := by decide +kernel
theorem dX10_holds_51 : decode cX10_holds 51 = .ok (.iload_n 3, 1) := by decide +kernel
theorem dX10_holds_52 : decode cX10_holds 52 = .ok (.tableswitch 69 0 4 #[36, 43, 50, 56, 62], 36) := by decide +kernel
theorem dX10_holds_88 : decode cX10_holds 88 = .ok (.aload_n 0, 1) := by decide +kernel
theorem dX10_holds_89 : decode cX10_holds 89 = .ok (.getfield 48, 3) := by decide +kernel
theorem dX10_holds_92 : decode cX10_holds 92 = .ok (.iload_n 2, 1) := by decide +kernel
theorem dX10_holds_93 : decode cX10_holds 93 = .ok (.iaload, 1) := by decide +kernel
theorem dX10_holds_94 : decode cX10_holds 94 = .ok (.ireturn, 1) := by decide +kernel
theorem dX10_holds_95 : decode cX10_holds 95 = .ok (.aload_n 0, 1) := by decide +kernel
theorem dX10_holds_96 : decode cX10_holds 96 = .ok (.getfield 51, 3) := by decide +kernel
theorem dX10_holds_99 : decode cX10_holds 99 = .ok (.iload_n 2, 1) := by decide +kernel
theorem dX10_holds_100 : decode cX10_holds 100 = .ok (.iaload, 1) := by decide +kernel
theorem dX10_holds_101 : decode cX10_holds 101 = .ok (.ireturn, 1) := by decide +kernel
theorem dX10_holds_102 : decode cX10_holds 102 = .ok (.aload_n 0, 1) := by decide +kernel
theorem dX10_holds_103 : decode cX10_holds 103 = .ok (.iload_n 2, 1) := by decide +kernel
theorem dX10_holds_104 : decode cX10_holds 104 = .ok (.invokevirtual 278, 3) := by decide +kernel
theorem dX10_holds_107 : decode cX10_holds 107 = .ok (.ireturn, 1) := by decide +kernel
theorem dX10_holds_108 : decode cX10_holds 108 = .ok (.aload_n 0, 1) := by decide +kernel
theorem dX10_holds_109 : decode cX10_holds 109 = .ok (.iload_n 2, 1) := by decide +kernel
theorem dX10_holds_110 : decode cX10_holds 110 = .ok (.invokevirtual 281, 3) := by decide +kernel
theorem dX10_holds_113 : decode cX10_holds 113 = .ok (.ireturn, 1) := by decide +kernel
theorem dX10_holds_114 : decode cX10_holds 114 = .ok (.aload_n 0, 1) := by decide +kernel
theorem dX10_holds_115 : decode cX10_holds 115 = .ok (.getfield 54, 3) := by decide +kernel
theorem dX10_holds_118 : decode cX10_holds 118 = .ok (.iload_n 2, 1) := by decide +kernel
theorem dX10_holds_119 : decode cX10_holds 119 = .ok (.iaload, 1) := by decide +kernel
theorem dX10_holds_120 : decode cX10_holds 120 = .ok (.ireturn, 1) := by decide +kernel
theorem dX10_holds_121 : decode cX10_holds 121 = .ok (.aload_n 0, 1) := by decide +kernel
theorem dX10_holds_122 : decode cX10_holds 122 = .ok (.getfield 57, 3) := by decide +kernel
theorem dX10_holds_125 : decode cX10_holds 125 = .ok (.iload_n 2, 1) := by decide +kernel
theorem dX10_holds_126 : decode cX10_holds 126 = .ok (.iaload, 1) := by decide +kernel
theorem dX10_holds_127 : decode cX10_holds 127 = .ok (.ireturn, 1) := by decide +kernel
theorem dX10_cellOf_0 : decode cX10_cellOf 0 = .ok (.iload_n 0, 1) := by decide +kernel
theorem dX10_cellOf_1 : decode cX10_cellOf 1 = .ok (.sipush (-300), 3) := by decide +kernel
theorem dX10_cellOf_4 : decode cX10_cellOf 4 = .ok (.if_icmp .ge 7, 3) := by decide +kernel
theorem dX10_cellOf_7 : decode cX10_cellOf 7 = .ok (.iconst 0, 1) := by decide +kernel
theorem dX10_cellOf_8 : decode cX10_cellOf 8 = .ok (.goto 11, 3) := by decide +kernel
theorem dX10_cellOf_11 : decode cX10_cellOf 11 = .ok (.iload_n 0, 1) := by decide +kernel
theorem dX10_cellOf_12 : decode cX10_cellOf 12 = .ok (.sipush 300, 3) := by decide +kernel
theorem dX10_cellOf_15 : decode cX10_cellOf 15 = .ok (.iadd, 1) := by decide +kernel
theorem dX10_cellOf_16 : decode cX10_cellOf 16 = .ok (.bipush 50, 2) := by decide +kernel
theorem dX10_cellOf_18 : decode cX10_cellOf 18 = .ok (.idiv, 1) := by decide +kernel
theorem dX10_cellOf_19 : decode cX10_cellOf 19 = .ok (.istore_n 1, 1) := by decide +kernel
theorem dX10_cellOf_20 : decode cX10_cellOf 20 = .ok (.iload_n 1, 1) := by decide +kernel
theorem dX10_cellOf_21 : decode cX10_cellOf 21 = .ok (.bipush 23, 2) := by decide +kernel
theorem dX10_cellOf_23 : decode cX10_cellOf 23 = .ok (.if_icmp .le 8, 3) := by decide +kernel
theorem dX10_cellOf_26 : decode cX10_cellOf 26 = .ok (.bipush 23, 2) := by decide +kernel
theorem dX10_cellOf_28 : decode cX10_cellOf 28 = .ok (.goto 4, 3) := by decide +kernel
theorem dX10_cellOf_31 : decode cX10_cellOf 31 = .ok (.iload_n 1, 1) := by decide +kernel
theorem dX10_cellOf_32 : decode cX10_cellOf 32 = .ok (.ireturn, 1) := by decide +kernel
theorem dX10_isDown_0 : decode cX10_isDown 0 = .ok (.lload_n 1, 1) := by decide +kernel
theorem dX10_isDown_1 : decode cX10_isDown 1 = .ok (.ldc2_w 259, 3) := by decide +kernel
theorem dX10_isDown_4 : decode cX10_isDown 4 = .ok (.ldiv, 1) := by decide +kernel
theorem dX10_isDown_5 : decode cX10_isDown 5 = .ok (.l2i, 1) := by decide +kernel
theorem dX10_isDown_6 : decode cX10_isDown 6 = .ok (.invokestatic 284, 3) := by decide +kernel
theorem dX10_isDown_9 : decode cX10_isDown 9 = .ok (.istore 5, 2) := by decide +kernel
theorem dX10_isDown_11 : decode cX10_isDown 11 = .ok (.lload_n 3, 1) := by decide +kernel
theorem dX10_isDown_12 : decode cX10_isDown 12 = .ok (.aload_n 0, 1) := by decide +kernel
theorem dX10_isDown_13 : decode cX10_isDown 13 = .ok (.iload 5, 2) := by decide +kernel
theorem dX10_isDown_15 : decode cX10_isDown 15 = .ok (.invokevirtual 201, 3) := by decide +kernel
theorem dX10_isDown_18 : decode cX10_isDown 18 = .ok (.iconst 2, 1) := by decide +kernel
theorem dX10_isDown_19 : decode cX10_isDown 19 = .ok (.if_icmp .ne 7, 3) := by decide +kernel
theorem dX10_isDown_22 : decode cX10_isDown 22 = .ok (.lconst 0, 1) := by decide +kernel
theorem dX10_isDown_23 : decode cX10_isDown 23 = .ok (.goto 12, 3) := by decide +kernel
theorem dX10_isDown_26 : decode cX10_isDown 26 = .ok (.ldc2_w 287, 3) := by decide +kernel
theorem dX10_isDown_29 : decode cX10_isDown 29 = .ok (.aload_n 0, 1) := by decide +kernel
theorem dX10_isDown_30 : decode cX10_isDown 30 = .ok (.invokevirtual 192, 3) := by decide +kernel
theorem dX10_isDown_33 : decode cX10_isDown 33 = .ok (.i2l, 1) := by decide +kernel
theorem dX10_isDown_34 : decode cX10_isDown 34 = .ok (.lmul, 1) := by decide +kernel
theorem dX10_isDown_35 : decode cX10_isDown 35 = .ok (.lcmp, 1) := by decide +kernel
theorem dX10_isDown_36 : decode cX10_isDown 36 = .ok (.ifCond .gt 7, 3) := by decide +kernel
theorem dX10_isDown_39 : decode cX10_isDown 39 = .ok (.iconst 1, 1) := by decide +kernel
theorem dX10_isDown_40 : decode cX10_isDown 40 = .ok (.goto 4, 3) := by decide +kernel
theorem dX10_isDown_43 : decode cX10_isDown 43 = .ok (.iconst 0, 1) := by decide +kernel
theorem dX10_isDown_44 : decode cX10_isDown 44 = .ok (.ireturn, 1) := by decide +kernel
theorem dX10_land_0 : decode cX10_land 0 = .ok (.aload_n 0, 1) := by decide +kernel
theorem dX10_land_1 : decode cX10_land 1 = .ok (.getfield 289, 3) := by decide +kernel
theorem dX10_land_4 : decode cX10_land 4 = .ok (.bipush 30, 2) := by decide +kernel
theorem dX10_land_6 : decode cX10_land 6 = .ok (.if_icmp .le 13, 3) := by decide +kernel
theorem dX10_land_9 : decode cX10_land 9 = .ok (.aload_n 0, 1) := by decide +kernel
theorem dX10_land_10 : decode cX10_land 10 = .ok (.getfield 289, 3) := by decide +kernel
theorem dX10_land_13 : decode cX10_land 13 = .ok (.sipush 330, 3) := by decide +kernel
theorem dX10_land_16 : decode cX10_land 16 = .ok (.if_icmp .lt 7, 3) := by decide +kernel
theorem dX10_land_19 : decode cX10_land 19 = .ok (.iconst 1, 1) := by decide +kernel
theorem dX10_land_20 : decode cX10_land 20 = .ok (.goto 4, 3) := by decide +kernel
theorem dX10_land_23 : decode cX10_land 23 = .ok (.iconst 0, 1) := by decide +kernel
theorem dX10_land_24 : decode cX10_land 24 = .ok (.istore_n 3, 1) := by decide +kernel
theorem dX10_land_25 : decode cX10_land 25 = .ok (.aload_n 0, 1) := by decide +kernel
theorem dX10_land_26 : decode cX10_land 26 = .ok (.iload_n 1, 1) := by decide +kernel
theorem dX10_land_27 : decode cX10_land 27 = .ok (.invokevirtual 201, 3) := by decide +kernel
theorem dX10_land_30 : decode cX10_land 30 = .ok (.istore 4, 2) := by decide +kernel
theorem dX10_land_32 : decode cX10_land 32 = .ok (.iload 4, 2) := by decide +kernel
theorem dX10_land_34 : decode cX10_land 34 = .ok (.iconst 1, 1) := by decide +kernel
theorem dX10_land_35 : decode cX10_land 35 = .ok (.if_icmp .eq 18, 3) := by decide +kernel
theorem dX10_land_38 : decode cX10_land 38 = .ok (.aload_n 0, 1) := by decide +kernel
theorem dX10_land_39 : decode cX10_land 39 = .ok (.iload_n 1, 1) := by decide +kernel
theorem dX10_land_40 : decode cX10_land 40 = .ok (.invokevirtual 198, 3) := by decide +kernel
theorem dX10_land_43 : decode cX10_land 43 = .ok (.aload_n 0, 1) := by decide +kernel
theorem dX10_land_44 : decode cX10_land 44 = .ok (.getfield 7, 3) := by decide +kernel
theorem dX10_land_47 : decode cX10_land 47 = .ok (.bipush 7, 2) := by decide +kernel
theorem dX10_land_49 : decode cX10_land 49 = .ok (.iaload, 1) := by decide +kernel
theorem dX10_land_50 : decode cX10_land 50 = .ok (.if_icmp .ge 7, 3) := by decide +kernel
theorem dX10_land_53 : decode cX10_land 53 = .ok (.iconst 3, 1) := by decide +kernel
theorem dX10_land_54 : decode cX10_land 54 = .ok (.goto 12, 3) := by decide +kernel
theorem dX10_land_57 : decode cX10_land 57 = .ok (.iload_n 3, 1) := by decide +kernel
theorem dX10_land_58 : decode cX10_land 58 = .ok (.ifCond .eq 7, 3) := by decide +kernel
theorem dX10_land_61 : decode cX10_land 61 = .ok (.iconst 2, 1) := by decide +kernel
theorem dX10_land_62 : decode cX10_land 62 = .ok (.goto 4, 3) := by decide +kernel
theorem dX10_land_65 : decode cX10_land 65 = .ok (.iconst 4, 1) := by decide +kernel
theorem dX10_land_66 : decode cX10_land 66 = .ok (.istore 5, 2) := by decide +kernel
theorem dX10_land_68 : decode cX10_land 68 = .ok (.aload_n 0, 1) := by decide +kernel
theorem dX10_land_69 : decode cX10_land 69 = .ok (.iload_n 2, 1) := by decide +kernel
theorem dX10_land_70 : decode cX10_land 70 = .ok (.ifCond .eq 7, 3) := by decide +kernel
theorem dX10_land_73 : decode cX10_land 73 = .ok (.iconst 5, 1) := by decide +kernel
theorem dX10_land_74 : decode cX10_land 74 = .ok (.goto 15, 3) := by decide +kernel
theorem dX10_land_77 : decode cX10_land 77 = .ok (.iload 4, 2) := by decide +kernel
theorem dX10_land_79 : decode cX10_land 79 = .ok (.iconst 2, 1) := by decide +kernel
theorem dX10_land_80 : decode cX10_land 80 = .ok (.if_icmp .ne 7, 3) := by decide +kernel
theorem dX10_land_83 : decode cX10_land 83 = .ok (.iconst 1, 1) := by decide +kernel
theorem dX10_land_84 : decode cX10_land 84 = .ok (.goto 5, 3) := by decide +kernel
theorem dX10_land_87 : decode cX10_land 87 = .ok (.iload 5, 2) := by decide +kernel
theorem dX10_land_89 : decode cX10_land 89 = .ok (.putfield 292, 3) := by decide +kernel
theorem dX10_land_92 : decode cX10_land 92 = .ok (.return_, 1) := by decide +kernel
theorem dX10_fly_0 : decode cX10_fly 0 = .ok (.aload_n 0, 1) := by decide +kernel
theorem dX10_fly_1 : decode cX10_fly 1 = .ok (.getfield 48, 3) := by decide +kernel
theorem dX10_fly_4 : decode cX10_fly 4 = .ok (.iload_n 1, 1) := by decide +kernel
theorem dX10_fly_5 : decode cX10_fly 5 = .ok (.iaload, 1) := by decide +kernel
theorem dX10_fly_6 : decode cX10_fly 6 = .ok (.bipush 100, 2) := by decide +kernel
theorem dX10_fly_8 : decode cX10_fly 8 = .ok (.idiv, 1) := by decide +kernel
theorem dX10_fly_9 : decode cX10_fly 9 = .ok (.istore_n 3, 1) := by decide +kernel
theorem dX10_fly_10 : decode cX10_fly 10 = .ok (.aload_n 0, 1) := by decide +kernel
theorem dX10_fly_11 : decode cX10_fly 11 = .ok (.getfield 51, 3) := by decide +kernel
theorem dX10_fly_14 : decode cX10_fly 14 = .ok (.iload_n 1, 1) := by decide +kernel
theorem dX10_fly_15 : decode cX10_fly 15 = .ok (.iaload, 1) := by decide +kernel
theorem dX10_fly_16 : decode cX10_fly 16 = .ok (.i2l, 1) := by decide +kernel
theorem dX10_fly_17 : decode cX10_fly 17 = .ok (.aload_n 0, 1) := by decide +kernel
theorem dX10_fly_18 : decode cX10_fly 18 = .ok (.getfield 230, 3) := by decide +kernel
theorem dX10_fly_21 : decode cX10_fly 21 = .ok (.i2l, 1) := by decide +kernel
theorem dX10_fly_22 : decode cX10_fly 22 = .ok (.lmul, 1) := by decide +kernel
theorem dX10_fly_23 : decode cX10_fly 23 = .ok (.ldc2_w 295, 3) := by decide +kernel
theorem dX10_fly_26 : decode cX10_fly 26 = .ok (.ldiv, 1) := by decide +kernel
theorem dX10_fly_27 : decode cX10_fly 27 = .ok (.lstore 4, 2) := by decide +kernel
theorem dX10_fly_29 : decode cX10_fly 29 = .ok (.lload 4, 2) := by decide +kernel
theorem dX10_fly_31 : decode cX10_fly 31 = .ok (.iload_n 3, 1) := by decide +kernel
theorem dX10_fly_32 : decode cX10_fly 32 = .ok (.invokestatic 254, 3) := by decide +kernel
theorem dX10_fly_35 : decode cX10_fly 35 = .ok (.i2l, 1) := by decide +kernel
theorem dX10_fly_36 : decode cX10_fly 36 = .ok (.lmul, 1) := by decide +kernel
theorem dX10_fly_37 : decode cX10_fly 37 = .ok (.ldc2_w 297, 3) := by decide +kernel
theorem dX10_fly_40 : decode cX10_fly 40 = .ok (.ldiv, 1) := by decide +kernel
theorem dX10_fly_41 : decode cX10_fly 41 = .ok (.lstore 6, 2) := by decide +kernel
theorem dX10_fly_43 : decode cX10_fly 43 = .ok (.lload 4, 2) := by decide +kernel
theorem dX10_fly_45 : decode cX10_fly 45 = .ok (.iload_n 3, 1) := by decide +kernel
theorem dX10_fly_46 : decode cX10_fly 46 = .ok (.invokestatic 223, 3) := by decide +kernel
theorem dX10_fly_49 : decode cX10_fly 49 = .ok (.i2l, 1) := by decide +kernel
theorem dX10_fly_50 : decode cX10_fly 50 = .ok (.lmul, 1) := by decide +kernel
theorem dX10_fly_51 : decode cX10_fly 51 = .ok (.ldc2_w 297, 3) := by decide +kernel
theorem dX10_fly_54 : decode cX10_fly 54 = .ok (.ldiv, 1) := by decide +kernel
theorem dX10_fly_55 : decode cX10_fly 55 = .ok (.lstore 8, 2) := by decide +kernel
theorem dX10_fly_57 : decode cX10_fly 57 = .ok (.ldc2_w 259, 3) := by decide +kernel
theorem dX10_fly_60 : decode cX10_fly 60 = .ok (.aload_n 0, 1) := by decide +kernel
theorem dX10_fly_61 : decode cX10_fly 61 = .ok (.iload_n 1, 1) := by decide +kernel
theorem dX10_fly_62 : decode cX10_fly 62 = .ok (.invokevirtual 278, 3) := by decide +kernel
theorem dX10_fly_65 : decode cX10_fly 65 = .ok (.i2l, 1) := by decide +kernel
theorem dX10_fly_66 : decode cX10_fly 66 = .ok (.lmul, 1) := by decide +kernel
theorem dX10_fly_67 : decode cX10_fly 67 = .ok (.lstore 10, 2) := by decide +kernel
theorem dX10_fly_69 : decode cX10_fly 69 = .ok (.ldc2_w 259, 3) := by decide +kernel
theorem dX10_fly_72 : decode cX10_fly 72 = .ok (.aload_n 0, 1) := by decide +kernel
theorem dX10_fly_73 : decode cX10_fly 73 = .ok (.iload_n 1, 1) := by decide +kernel
theorem dX10_fly_74 : decode cX10_fly 74 = .ok (.invokevirtual 281, 3) := by decide +kernel
theorem dX10_fly_77 : decode cX10_fly 77 = .ok (.aload_n 0, 1) := by decide +kernel
theorem dX10_fly_78 : decode cX10_fly 78 = .ok (.getfield 242, 3) := by decide +kernel
theorem dX10_fly_81 : decode cX10_fly 81 = .ok (.isub, 1) := by decide +kernel
theorem dX10_fly_82 : decode cX10_fly 82 = .ok (.i2l, 1) := by decide +kernel
theorem dX10_fly_83 : decode cX10_fly 83 = .ok (.lmul, 1) := by decide +kernel
theorem dX10_fly_84 : decode cX10_fly 84 = .ok (.lstore 12, 2) := by decide +kernel
theorem dX10_fly_86 : decode cX10_fly 86 = .ok (.lload 12, 2) := by decide +kernel
theorem dX10_fly_88 : decode cX10_fly 88 = .ok (.lstore 14, 2) := by decide +kernel
theorem dX10_fly_90 : decode cX10_fly 90 = .ok (.aload_n 0, 1) := by decide +kernel
theorem dX10_fly_91 : decode cX10_fly 91 = .ok (.iconst 0, 1) := by decide +kernel
theorem dX10_fly_92 : decode cX10_fly 92 = .ok (.putfield 299, 3) := by decide +kernel
theorem dX10_fly_95 : decode cX10_fly 95 = .ok (.iconst 0, 1) := by decide +kernel
theorem dX10_fly_96 : decode cX10_fly 96 = .ok (.istore 16, 2) := by decide +kernel
theorem dX10_fly_98 : decode cX10_fly 98 = .ok (.aload_n 0, 1) := by decide +kernel
theorem dX10_fly_99 : decode cX10_fly 99 = .ok (.getfield 299, 3) := by decide +kernel
theorem dX10_fly_102 : decode cX10_fly 102 = .ok (.sipush 400, 3) := by decide +kernel
theorem dX10_fly_105 : decode cX10_fly 105 = .ok (.if_icmp .ge 70, 3) := by decide +kernel
theorem dX10_fly_108 : decode cX10_fly 108 = .ok (.iload 16, 2) := by decide +kernel
theorem dX10_fly_110 : decode cX10_fly 110 = .ok (.ifCond .ne 65, 3) := by decide +kernel
theorem dX10_fly_113 : decode cX10_fly 113 = .ok (.lload 10, 2) := by decide +kernel
theorem dX10_fly_115 : decode cX10_fly 115 = .ok (.lload 6, 2) := by decide +kernel
theorem dX10_fly_117 : decode cX10_fly 117 = .ok (.ladd, 1) := by decide +kernel
theorem dX10_fly_118 : decode cX10_fly 118 = .ok (.lstore 10, 2) := by decide +kernel
theorem dX10_fly_120 : decode cX10_fly 120 = .ok (.lload 12, 2) := by decide +kernel
theorem dX10_fly_122 : decode cX10_fly 122 = .ok (.lload 8, 2) := by decide +kernel
theorem dX10_fly_124 : decode cX10_fly 124 = .ok (.ladd, 1) := by decide +kernel
theorem dX10_fly_125 : decode cX10_fly 125 = .ok (.lstore 12, 2) := by decide +kernel
theorem dX10_fly_127 : decode cX10_fly 127 = .ok (.lload 8, 2) := by decide +kernel
theorem dX10_fly_129 : decode cX10_fly 129 = .ok (.ldc2_w 302, 3) := by decide +kernel
theorem dX10_fly_132 : decode cX10_fly 132 = .ok (.lsub, 1) := by decide +kernel
theorem dX10_fly_133 : decode cX10_fly 133 = .ok (.lstore 8, 2) := by decide +kernel
theorem dX10_fly_135 : decode cX10_fly 135 = .ok (.lload 12, 2) := by decide +kernel
theorem dX10_fly_137 : decode cX10_fly 137 = .ok (.lload 14, 2) := by decide +kernel
theorem dX10_fly_139 : decode cX10_fly 139 = .ok (.lcmp, 1) := by decide +kernel
theorem dX10_fly_140 : decode cX10_fly 140 = .ok (.ifCond .le 8, 3) := by decide +kernel
theorem dX10_fly_143 : decode cX10_fly 143 = .ok (.lload 12, 2) := by decide +kernel
theorem dX10_fly_145 : decode cX10_fly 145 = .ok (.goto 5, 3) := by decide +kernel
theorem dX10_fly_148 : decode cX10_fly 148 = .ok (.lload 14, 2) := by decide +kernel
theorem dX10_fly_150 : decode cX10_fly 150 = .ok (.lstore 14, 2) := by decide +kernel
theorem dX10_fly_152 : decode cX10_fly 152 = .ok (.aload_n 0, 1) := by decide +kernel
theorem dX10_fly_153 : decode cX10_fly 153 = .ok (.dup, 1) := by decide +kernel
theorem dX10_fly_154 : decode cX10_fly 154 = .ok (.getfield 299, 3) := by decide +kernel
theorem dX10_fly_157 : decode cX10_fly 157 = .ok (.iconst 1, 1) := by decide +kernel
theorem dX10_fly_158 : decode cX10_fly 158 = .ok (.iadd, 1) := by decide +kernel
theorem dX10_fly_159 : decode cX10_fly 159 = .ok (.putfield 299, 3) := by decide +kernel
theorem dX10_fly_162 : decode cX10_fly 162 = .ok (.aload_n 0, 1) := by decide +kernel
theorem dX10_fly_163 : decode cX10_fly 163 = .ok (.lload 10, 2) := by decide +kernel
theorem dX10_fly_165 : decode cX10_fly 165 = .ok (.lload 12, 2) := by decide +kernel
theorem dX10_fly_167 : decode cX10_fly 167 = .ok (.invokevirtual 304, 3) := by decide +kernel
theorem dX10_fly_170 : decode cX10_fly 170 = .ok (.istore 16, 2) := by decide +kernel
theorem dX10_fly_172 : decode cX10_fly 172 = .ok (.goto (-74), 3) := by decide +kernel
theorem dX10_fly_175 : decode cX10_fly 175 = .ok (.aload_n 0, 1) := by decide +kernel
theorem dX10_fly_176 : decode cX10_fly 176 = .ok (.lload 14, 2) := by decide +kernel
theorem dX10_fly_178 : decode cX10_fly 178 = .ok (.ldc2_w 259, 3) := by decide +kernel
theorem dX10_fly_181 : decode cX10_fly 181 = .ok (.ldiv, 1) := by decide +kernel
theorem dX10_fly_182 : decode cX10_fly 182 = .ok (.l2i, 1) := by decide +kernel
theorem dX10_fly_183 : decode cX10_fly 183 = .ok (.putfield 308, 3) := by decide +kernel
theorem dX10_fly_186 : decode cX10_fly 186 = .ok (.aload_n 0, 1) := by decide +kernel
theorem dX10_fly_187 : decode cX10_fly 187 = .ok (.aload_n 0, 1) := by decide +kernel
theorem dX10_fly_188 : decode cX10_fly 188 = .ok (.getfield 251, 3) := by decide +kernel
theorem dX10_fly_191 : decode cX10_fly 191 = .ok (.aload_n 0, 1) := by decide +kernel
theorem dX10_fly_192 : decode cX10_fly 192 = .ok (.getfield 299, 3) := by decide +kernel
theorem dX10_fly_195 : decode cX10_fly 195 = .ok (.imul, 1) := by decide +kernel
theorem dX10_fly_196 : decode cX10_fly 196 = .ok (.sipush 360, 3) := by decide +kernel
theorem dX10_fly_199 : decode cX10_fly 199 = .ok (.irem, 1) := by decide +kernel
theorem dX10_fly_200 : decode cX10_fly 200 = .ok (.putfield 289, 3) := by decide +kernel
theorem dX10_fly_203 : decode cX10_fly 203 = .ok (.aload_n 0, 1) := by decide +kernel
theorem dX10_fly_204 : decode cX10_fly 204 = .ok (.iconst 0, 1) := by decide +kernel
theorem dX10_fly_205 : decode cX10_fly 205 = .ok (.putfield 292, 3) := by decide +kernel
theorem dX10_fly_208 : decode cX10_fly 208 = .ok (.aload_n 0, 1) := by decide +kernel
theorem dX10_fly_209 : decode cX10_fly 209 = .ok (.aload_n 0, 1) := by decide +kernel
theorem dX10_fly_210 : decode cX10_fly 210 = .ok (.iload_n 1, 1) := by decide +kernel
theorem dX10_fly_211 : decode cX10_fly 211 = .ok (.invokevirtual 278, 3) := by decide +kernel
theorem dX10_fly_214 : decode cX10_fly 214 = .ok (.putfield 311, 3) := by decide +kernel
theorem dX10_fly_217 : decode cX10_fly 217 = .ok (.iload 16, 2) := by decide +kernel
theorem dX10_fly_219 : decode cX10_fly 219 = .ok (.ifCond .eq 26, 3) := by decide +kernel
theorem dX10_fly_222 : decode cX10_fly 222 = .ok (.aload_n 0, 1) := by decide +kernel
theorem dX10_fly_223 : decode cX10_fly 223 = .ok (.lload 10, 2) := by decide +kernel
theorem dX10_fly_225 : decode cX10_fly 225 = .ok (.ldc2_w 259, 3) := by decide +kernel
theorem dX10_fly_228 : decode cX10_fly 228 = .ok (.ldiv, 1) := by decide +kernel
theorem dX10_fly_229 : decode cX10_fly 229 = .ok (.l2i, 1) := by decide +kernel
theorem dX10_fly_230 : decode cX10_fly 230 = .ok (.putfield 311, 3) := by decide +kernel
theorem dX10_fly_233 : decode cX10_fly 233 = .ok (.aload_n 0, 1) := by decide +kernel
theorem dX10_fly_234 : decode cX10_fly 234 = .ok (.aload_n 0, 1) := by decide +kernel
theorem dX10_fly_235 : decode cX10_fly 235 = .ok (.getfield 311, 3) := by decide +kernel
theorem dX10_fly_238 : decode cX10_fly 238 = .ok (.invokestatic 284, 3) := by decide +kernel
theorem dX10_fly_241 : decode cX10_fly 241 = .ok (.iload_n 2, 1) := by decide +kernel
theorem dX10_fly_242 : decode cX10_fly 242 = .ok (.invokevirtual 314, 3) := by decide +kernel
theorem dX10_fly_245 : decode cX10_fly 245 = .ok (.return_, 1) := by decide +kernel
theorem dX10_endAt_0 : decode cX10_endAt 0 = .ok (.aload_n 0, 1) := by decide +kernel
theorem dX10_endAt_1 : decode cX10_endAt 1 = .ok (.getfield 54, 3) := by decide +kernel
theorem dX10_endAt_4 : decode cX10_endAt 4 = .ok (.iload_n 1, 1) := by decide +kernel
theorem dX10_endAt_5 : decode cX10_endAt 5 = .ok (.iaload, 1) := by decide +kernel
theorem dX10_endAt_6 : decode cX10_endAt 6 = .ok (.aload_n 0, 1) := by decide +kernel
theorem dX10_endAt_7 : decode cX10_endAt 7 = .ok (.getfield 236, 3) := by decide +kernel
theorem dX10_endAt_10 : decode cX10_endAt 10 = .ok (.if_icmp .le 6, 3) := by decide +kernel
theorem dX10_endAt_13 : decode cX10_endAt 13 = .ok (.bipush 7, 2) := by decide +kernel
theorem dX10_endAt_15 : decode cX10_endAt 15 = .ok (.ireturn, 1) := by decide +kernel
theorem dX10_endAt_16 : decode cX10_endAt 16 = .ok (.aload_n 0, 1) := by decide +kernel
theorem dX10_endAt_17 : decode cX10_endAt 17 = .ok (.getfield 57, 3) := by decide +kernel
theorem dX10_endAt_20 : decode cX10_endAt 20 = .ok (.iload_n 1, 1) := by decide +kernel
theorem dX10_endAt_21 : decode cX10_endAt 21 = .ok (.iaload, 1) := by decide +kernel
theorem dX10_endAt_22 : decode cX10_endAt 22 = .ok (.ifCond .ge 5, 3) := by decide +kernel
theorem dX10_endAt_25 : decode cX10_endAt 25 = .ok (.iconst 5, 1) := by decide +kernel
theorem dX10_endAt_26 : decode cX10_endAt 26 = .ok (.ireturn, 1) := by decide +kernel
theorem dX10_endAt_27 : decode cX10_endAt 27 = .ok (.iload_n 1, 1) := by decide +kernel
theorem dX10_endAt_28 : decode cX10_endAt 28 = .ok (.iload_n 2, 1) := by decide +kernel
theorem dX10_endAt_29 : decode cX10_endAt 29 = .ok (.aload_n 0, 1) := by decide +kernel
theorem dX10_endAt_30 : decode cX10_endAt 30 = .ok (.getfield 248, 3) := by decide +kernel
theorem dX10_endAt_33 : decode cX10_endAt 33 = .ok (.iadd, 1) := by decide +kernel
theorem dX10_endAt_34 : decode cX10_endAt 34 = .ok (.if_icmp .lt 6, 3) := by decide +kernel
theorem dX10_endAt_37 : decode cX10_endAt 37 = .ok (.bipush 9, 2) := by decide +kernel
theorem dX10_endAt_39 : decode cX10_endAt 39 = .ok (.ireturn, 1) := by decide +kernel
theorem dX10_endAt_40 : decode cX10_endAt 40 = .ok (.aload_n 0, 1) := by decide +kernel
theorem dX10_endAt_41 : decode cX10_endAt 41 = .ok (.getfield 51, 3) := by decide +kernel
theorem dX10_endAt_44 : decode cX10_endAt 44 = .ok (.iload_n 1, 1) := by decide +kernel
theorem dX10_endAt_45 : decode cX10_endAt 45 = .ok (.iaload, 1) := by decide +kernel
theorem dX10_endAt_46 : decode cX10_endAt 46 = .ok (.ifCond .ge 22, 3) := by decide +kernel
theorem dX10_endAt_49 : decode cX10_endAt 49 = .ok (.aload_n 0, 1) := by decide +kernel
theorem dX10_endAt_50 : decode cX10_endAt 50 = .ok (.iload_n 1, 1) := by decide +kernel
theorem dX10_endAt_51 : decode cX10_endAt 51 = .ok (.invokevirtual 278, 3) := by decide +kernel
theorem dX10_endAt_54 : decode cX10_endAt 54 = .ok (.aload_n 0, 1) := by decide +kernel
theorem dX10_endAt_55 : decode cX10_endAt 55 = .ok (.getfield 7, 3) := by decide +kernel
theorem dX10_endAt_58 : decode cX10_endAt 58 = .ok (.bipush 6, 2) := by decide +kernel
theorem dX10_endAt_60 : decode cX10_endAt 60 = .ok (.iaload, 1) := by decide +kernel
theorem dX10_endAt_61 : decode cX10_endAt 61 = .ok (.ineg, 1) := by decide +kernel
theorem dX10_endAt_62 : decode cX10_endAt 62 = .ok (.if_icmp .ge 6, 3) := by decide +kernel
theorem dX10_endAt_65 : decode cX10_endAt 65 = .ok (.bipush 6, 2) := by decide +kernel
theorem dX10_endAt_67 : decode cX10_endAt 67 = .ok (.ireturn, 1) := by decide +kernel
theorem dX10_endAt_68 : decode cX10_endAt 68 = .ok (.aload_n 0, 1) := by decide +kernel
theorem dX10_endAt_69 : decode cX10_endAt 69 = .ok (.iload_n 1, 1) := by decide +kernel
theorem dX10_endAt_70 : decode cX10_endAt 70 = .ok (.invokevirtual 281, 3) := by decide +kernel
theorem dX10_endAt_73 : decode cX10_endAt 73 = .ok (.aload_n 0, 1) := by decide +kernel
theorem dX10_endAt_74 : decode cX10_endAt 74 = .ok (.getfield 242, 3) := by decide +kernel
theorem dX10_endAt_77 : decode cX10_endAt 77 = .ok (.isub, 1) := by decide +kernel
theorem dX10_endAt_78 : decode cX10_endAt 78 = .ok (.aload_n 0, 1) := by decide +kernel
theorem dX10_endAt_79 : decode cX10_endAt 79 = .ok (.invokevirtual 192, 3) := by decide +kernel
theorem dX10_endAt_82 : decode cX10_endAt 82 = .ok (.ineg, 1) := by decide +kernel
theorem dX10_endAt_83 : decode cX10_endAt 83 = .ok (.if_icmp .ge 22, 3) := by decide +kernel
theorem dX10_endAt_86 : decode cX10_endAt 86 = .ok (.aload_n 0, 1) := by decide +kernel
theorem dX10_endAt_87 : decode cX10_endAt 87 = .ok (.aload_n 0, 1) := by decide +kernel
theorem dX10_endAt_88 : decode cX10_endAt 88 = .ok (.iload_n 1, 1) := by decide +kernel
theorem dX10_endAt_89 : decode cX10_endAt 89 = .ok (.invokevirtual 278, 3) := by decide +kernel
theorem dX10_endAt_92 : decode cX10_endAt 92 = .ok (.invokestatic 284, 3) := by decide +kernel
theorem dX10_endAt_95 : decode cX10_endAt 95 = .ok (.invokevirtual 201, 3) := by decide +kernel
theorem dX10_endAt_98 : decode cX10_endAt 98 = .ok (.ifCond .ne 7, 3) := by decide +kernel
theorem dX10_endAt_101 : decode cX10_endAt 101 = .ok (.iconst 1, 1) := by decide +kernel
theorem dX10_endAt_102 : decode cX10_endAt 102 = .ok (.goto 4, 3) := by decide +kernel
theorem dX10_endAt_105 : decode cX10_endAt 105 = .ok (.iconst 0, 1) := by decide +kernel
theorem dX10_endAt_106 : decode cX10_endAt 106 = .ok (.istore_n 3, 1) := by decide +kernel
theorem dX10_endAt_107 : decode cX10_endAt 107 = .ok (.iload_n 3, 1) := by decide +kernel
theorem dX10_endAt_108 : decode cX10_endAt 108 = .ok (.ifCond .eq 8, 3) := by decide +kernel
theorem dX10_endAt_111 : decode cX10_endAt 111 = .ok (.bipush 8, 2) := by decide +kernel
theorem dX10_endAt_113 : decode cX10_endAt 113 = .ok (.goto 4, 3) := by decide +kernel
theorem dX10_endAt_116 : decode cX10_endAt 116 = .ok (.iconst (-1), 1) := by decide +kernel
theorem dX10_endAt_117 : decode cX10_endAt 117 = .ok (.ireturn, 1) := by decide +kernel
theorem dX10_letGo_0 : decode cX10_letGo 0 = .ok (.iconst 1, 1) := by decide +kernel
theorem dX10_letGo_1 : decode cX10_letGo 1 = .ok (.istore_n 2, 1) := by decide +kernel
theorem dX10_letGo_2 : decode cX10_letGo 2 = .ok (.aload_n 0, 1) := by decide +kernel
theorem dX10_letGo_3 : decode cX10_letGo 3 = .ok (.iconst 1, 1) := by decide +kernel
theorem dX10_letGo_4 : decode cX10_letGo 4 = .ok (.iload_n 1, 1) := by decide +kernel
theorem dX10_letGo_5 : decode cX10_letGo 5 = .ok (.invokevirtual 318, 3) := by decide +kernel
theorem dX10_letGo_8 : decode cX10_letGo 8 = .ok (.istore_n 3, 1) := by decide +kernel
theorem dX10_letGo_9 : decode cX10_letGo 9 = .ok (.iload_n 3, 1) := by decide +kernel
theorem dX10_letGo_10 : decode cX10_letGo 10 = .ok (.ifCond .ge 23, 3) := by decide +kernel
theorem dX10_letGo_13 : decode cX10_letGo 13 = .ok (.iload_n 2, 1) := by decide +kernel
theorem dX10_letGo_14 : decode cX10_letGo 14 = .ok (.sipush 200, 3) := by decide +kernel
theorem dX10_letGo_17 : decode cX10_letGo 17 = .ok (.if_icmp .ge 16, 3) := by decide +kernel
theorem dX10_letGo_20 : decode cX10_letGo 20 = .ok (.iinc 2 1, 3) := by decide +kernel
theorem dX10_letGo_23 : decode cX10_letGo 23 = .ok (.aload_n 0, 1) := by decide +kernel
theorem dX10_letGo_24 : decode cX10_letGo 24 = .ok (.iload_n 2, 1) := by decide +kernel
theorem dX10_letGo_25 : decode cX10_letGo 25 = .ok (.iload_n 1, 1) := by decide +kernel
theorem dX10_letGo_26 : decode cX10_letGo 26 = .ok (.invokevirtual 318, 3) := by decide +kernel
theorem dX10_letGo_29 : decode cX10_letGo 29 = .ok (.istore_n 3, 1) := by decide +kernel
theorem dX10_letGo_30 : decode cX10_letGo 30 = .ok (.goto (-21), 3) := by decide +kernel
theorem dX10_letGo_33 : decode cX10_letGo 33 = .ok (.aload_n 0, 1) := by decide +kernel
theorem dX10_letGo_34 : decode cX10_letGo 34 = .ok (.iload_n 2, 1) := by decide +kernel
theorem dX10_letGo_35 : decode cX10_letGo 35 = .ok (.putfield 321, 3) := by decide +kernel
theorem dX10_letGo_38 : decode cX10_letGo 38 = .ok (.aload_n 0, 1) := by decide +kernel
theorem dX10_letGo_39 : decode cX10_letGo 39 = .ok (.iconst 0, 1) := by decide +kernel
theorem dX10_letGo_40 : decode cX10_letGo 40 = .ok (.putfield 299, 3) := by decide +kernel
theorem dX10_letGo_43 : decode cX10_letGo 43 = .ok (.aload_n 0, 1) := by decide +kernel
theorem dX10_letGo_44 : decode cX10_letGo 44 = .ok (.iconst 0, 1) := by decide +kernel
theorem dX10_letGo_45 : decode cX10_letGo 45 = .ok (.putfield 308, 3) := by decide +kernel
theorem dX10_letGo_48 : decode cX10_letGo 48 = .ok (.aload_n 0, 1) := by decide +kernel
theorem dX10_letGo_49 : decode cX10_letGo 49 = .ok (.iconst 0, 1) := by decide +kernel
theorem dX10_letGo_50 : decode cX10_letGo 50 = .ok (.putfield 289, 3) := by decide +kernel
theorem dX10_letGo_53 : decode cX10_letGo 53 = .ok (.aload_n 0, 1) := by decide +kernel
theorem dX10_letGo_54 : decode cX10_letGo 54 = .ok (.aload_n 0, 1) := by decide +kernel
theorem dX10_letGo_55 : decode cX10_letGo 55 = .ok (.iload_n 2, 1) := by decide +kernel
theorem dX10_letGo_56 : decode cX10_letGo 56 = .ok (.invokevirtual 278, 3) := by decide +kernel
theorem dX10_letGo_59 : decode cX10_letGo 59 = .ok (.putfield 311, 3) := by decide +kernel
theorem dX10_letGo_62 : decode cX10_letGo 62 = .ok (.aload_n 0, 1) := by decide +kernel
theorem dX10_letGo_63 : decode cX10_letGo 63 = .ok (.iload_n 3, 1) := by decide +kernel
theorem dX10_letGo_64 : decode cX10_letGo 64 = .ok (.ifCond .ge 7, 3) := by decide +kernel
theorem dX10_letGo_67 : decode cX10_letGo 67 = .ok (.iconst 0, 1) := by decide +kernel
theorem dX10_letGo_68 : decode cX10_letGo 68 = .ok (.goto 4, 3) := by decide +kernel
theorem dX10_letGo_71 : decode cX10_letGo 71 = .ok (.iload_n 3, 1) := by decide +kernel
theorem dX10_letGo_72 : decode cX10_letGo 72 = .ok (.putfield 292, 3) := by decide +kernel
theorem dX10_letGo_75 : decode cX10_letGo 75 = .ok (.iload_n 3, 1) := by decide +kernel
theorem dX10_letGo_76 : decode cX10_letGo 76 = .ok (.bipush 9, 2) := by decide +kernel
theorem dX10_letGo_78 : decode cX10_letGo 78 = .ok (.if_icmp .eq 8, 3) := by decide +kernel
theorem dX10_letGo_81 : decode cX10_letGo 81 = .ok (.iload_n 3, 1) := by decide +kernel
theorem dX10_letGo_82 : decode cX10_letGo 82 = .ok (.iconst 5, 1) := by decide +kernel
theorem dX10_letGo_83 : decode cX10_letGo 83 = .ok (.if_icmp .ne 18, 3) := by decide +kernel
theorem dX10_letGo_86 : decode cX10_letGo 86 = .ok (.aload_n 0, 1) := by decide +kernel
theorem dX10_letGo_87 : decode cX10_letGo 87 = .ok (.iload_n 2, 1) := by decide +kernel
theorem dX10_letGo_88 : decode cX10_letGo 88 = .ok (.iload_n 3, 1) := by decide +kernel
theorem dX10_letGo_89 : decode cX10_letGo 89 = .ok (.iconst 5, 1) := by decide +kernel
theorem dX10_letGo_90 : decode cX10_letGo 90 = .ok (.if_icmp .ne 7, 3) := by decide +kernel
theorem dX10_letGo_93 : decode cX10_letGo 93 = .ok (.iconst 1, 1) := by decide +kernel
theorem dX10_letGo_94 : decode cX10_letGo 94 = .ok (.goto 4, 3) := by decide +kernel
theorem dX10_letGo_97 : decode cX10_letGo 97 = .ok (.iconst 0, 1) := by decide +kernel
theorem dX10_letGo_98 : decode cX10_letGo 98 = .ok (.invokevirtual 324, 3) := by decide +kernel
theorem dX10_letGo_101 : decode cX10_letGo 101 = .ok (.return_, 1) := by decide +kernel
theorem dX10_isTime_0 : decode cX10_isTime 0 = .ok (.iload_n 0, 1) := by decide +kernel
theorem dX10_isTime_1 : decode cX10_isTime 1 = .ok (.i2l, 1) := by decide +kernel
theorem dX10_isTime_2 : decode cX10_isTime 2 = .ok (.lconst 1, 1) := by decide +kernel
theorem dX10_isTime_3 : decode cX10_isTime 3 = .ok (.ldc2_w 264, 3) := by decide +kernel
theorem dX10_isTime_6 : decode cX10_isTime 6 = .ok (.invokestatic 81, 3) := by decide +kernel
theorem dX10_isTime_9 : decode cX10_isTime 9 = .ok (.ireturn, 1) := by decide +kernel
theorem dX10_ready_0 : decode cX10_ready 0 = .ok (.aload_n 0, 1) := by decide +kernel
theorem dX10_ready_1 : decode cX10_ready 1 = .ok (.invokevirtual 268, 3) := by decide +kernel
theorem dX10_ready_4 : decode cX10_ready 4 = .ok (.aload_n 0, 1) := by decide +kernel
theorem dX10_ready_5 : decode cX10_ready 5 = .ok (.iload_n 1, 1) := by decide +kernel
theorem dX10_ready_6 : decode cX10_ready 6 = .ok (.invokevirtual 271, 3) := by decide +kernel
theorem dX10_ready_9 : decode cX10_ready 9 = .ok (.aload_n 0, 1) := by decide +kernel
theorem dX10_ready_10 : decode cX10_ready 10 = .ok (.invokevirtual 275, 3) := by decide +kernel
theorem dX10_ready_13 : decode cX10_ready 13 = .ok (.return_, 1) := by decide +kernel
theorem dX10_lands_0 : decode cX10_lands 0 = .ok (.aload_n 0, 1) := by decide +kernel
theorem dX10_lands_1 : decode cX10_lands 1 = .ok (.iload_n 1, 1) := by decide +kernel
theorem dX10_lands_2 : decode cX10_lands 2 = .ok (.invokevirtual 204, 3) := by decide +kernel
theorem dX10_lands_5 : decode cX10_lands 5 = .ok (.ifCond .ne 6, 3) := by decide +kernel
theorem dX10_lands_8 : decode cX10_lands 8 = .ok (.ldc 197, 2) := by decide +kernel
theorem dX10_lands_10 : decode cX10_lands 10 = .ok (.ireturn, 1) := by decide +kernel
theorem dX10_lands_11 : decode cX10_lands 11 = .ok (.iload_n 2, 1) := by decide +kernel
theorem dX10_lands_12 : decode cX10_lands 12 = .ok (.invokestatic 327, 3) := by decide +kernel
theorem dX10_lands_15 : decode cX10_lands 15 = .ok (.ifCond .eq 15, 3) := by decide +kernel
theorem dX10_lands_18 : decode cX10_lands 18 = .ok (.iload_n 3, 1) := by decide +kernel
theorem dX10_lands_19 : decode cX10_lands 19 = .ok (.i2l, 1) := by decide +kernel
theorem dX10_lands_20 : decode cX10_lands 20 = .ok (.lconst 0, 1) := by decide +kernel
theorem dX10_lands_21 : decode cX10_lands 21 = .ok (.ldc2_w 266, 3) := by decide +kernel
theorem dX10_lands_24 : decode cX10_lands 24 = .ok (.invokestatic 81, 3) := by decide +kernel
theorem dX10_lands_27 : decode cX10_lands 27 = .ok (.ifCond .ne 6, 3) := by decide +kernel
theorem dX10_lands_30 : decode cX10_lands 30 = .ok (.ldc 87, 2) := by decide +kernel
theorem dX10_lands_32 : decode cX10_lands 32 = .ok (.ireturn, 1) := by decide +kernel
theorem dX10_lands_33 : decode cX10_lands 33 = .ok (.aload_n 0, 1) := by decide +kernel
theorem dX10_lands_34 : decode cX10_lands 34 = .ok (.iload_n 1, 1) := by decide +kernel
theorem dX10_lands_35 : decode cX10_lands 35 = .ok (.invokevirtual 330, 3) := by decide +kernel
theorem dX10_lands_38 : decode cX10_lands 38 = .ok (.aload_n 0, 1) := by decide +kernel
theorem dX10_lands_39 : decode cX10_lands 39 = .ok (.iload_n 2, 1) := by decide +kernel
theorem dX10_lands_40 : decode cX10_lands 40 = .ok (.invokevirtual 333, 3) := by decide +kernel
theorem dX10_lands_43 : decode cX10_lands 43 = .ok (.iload_n 3, 1) := by decide +kernel
theorem dX10_lands_44 : decode cX10_lands 44 = .ok (.tableswitch 61 0 4 #[36, 41, 46, 51, 56], 36) := by decide +kernel
theorem dX10_lands_80 : decode cX10_lands 80 = .ok (.aload_n 0, 1) := by decide +kernel
theorem dX10_lands_81 : decode cX10_lands 81 = .ok (.getfield 292, 3) := by decide +kernel
theorem dX10_lands_84 : decode cX10_lands 84 = .ok (.ireturn, 1) := by decide +kernel
theorem dX10_lands_85 : decode cX10_lands 85 = .ok (.aload_n 0, 1) := by decide +kernel
theorem dX10_lands_86 : decode cX10_lands 86 = .ok (.getfield 311, 3) := by decide +kernel
theorem dX10_lands_89 : decode cX10_lands 89 = .ok (.ireturn, 1) := by decide +kernel
theorem dX10_lands_90 : decode cX10_lands 90 = .ok (.aload_n 0, 1) := by decide +kernel
theorem dX10_lands_91 : decode cX10_lands 91 = .ok (.getfield 321, 3) := by decide +kernel
theorem dX10_lands_94 : decode cX10_lands 94 = .ok (.ireturn, 1) := by decide +kernel
theorem dX10_lands_95 : decode cX10_lands 95 = .ok (.aload_n 0, 1) := by decide +kernel
theorem dX10_lands_96 : decode cX10_lands 96 = .ok (.getfield 299, 3) := by decide +kernel
theorem dX10_lands_99 : decode cX10_lands 99 = .ok (.ireturn, 1) := by decide +kernel
theorem dX10_lands_100 : decode cX10_lands 100 = .ok (.aload_n 0, 1) := by decide +kernel
theorem dX10_lands_101 : decode cX10_lands 101 = .ok (.getfield 308, 3) := by decide +kernel
theorem dX10_lands_104 : decode cX10_lands 104 = .ok (.ireturn, 1) := by decide +kernel
theorem dX10_lands_105 : decode cX10_lands 105 = .ok (.aload_n 0, 1) := by decide +kernel
theorem dX10_lands_106 : decode cX10_lands 106 = .ok (.getfield 289, 3) := by decide +kernel
theorem dX10_lands_109 : decode cX10_lands 109 = .ok (.ireturn, 1) := by decide +kernel
theorem dX10_isGood_0 : decode cX10_isGood 0 = .ok (.aload_n 0, 1) := by decide +kernel
theorem dX10_isGood_1 : decode cX10_isGood 1 = .ok (.iload_n 1, 1) := by decide +kernel
theorem dX10_isGood_2 : decode cX10_isGood 2 = .ok (.invokevirtual 333, 3) := by decide +kernel
theorem dX10_isGood_5 : decode cX10_isGood 5 = .ok (.aload_n 0, 1) := by decide +kernel
theorem dX10_isGood_6 : decode cX10_isGood 6 = .ok (.getfield 292, 3) := by decide +kernel
theorem dX10_isGood_9 : decode cX10_isGood 9 = .ok (.iconst 1, 1) := by decide +kernel
theorem dX10_isGood_10 : decode cX10_isGood 10 = .ok (.if_icmp .eq 11, 3) := by decide +kernel
theorem dX10_isGood_13 : decode cX10_isGood 13 = .ok (.aload_n 0, 1) := by decide +kernel
theorem dX10_isGood_14 : decode cX10_isGood 14 = .ok (.getfield 292, 3) := by decide +kernel
theorem dX10_isGood_17 : decode cX10_isGood 17 = .ok (.iconst 2, 1) := by decide +kernel
theorem dX10_isGood_18 : decode cX10_isGood 18 = .ok (.if_icmp .ne 7, 3) := by decide +kernel
theorem dX10_isGood_21 : decode cX10_isGood 21 = .ok (.iconst 1, 1) := by decide +kernel
theorem dX10_isGood_22 : decode cX10_isGood 22 = .ok (.goto 4, 3) := by decide +kernel
theorem dX10_isGood_25 : decode cX10_isGood 25 = .ok (.iconst 0, 1) := by decide +kernel
theorem dX10_isGood_26 : decode cX10_isGood 26 = .ok (.ireturn, 1) := by decide +kernel
theorem dX10_bestTime_0 : decode cX10_bestTime 0 = .ok (.iconst (-1), 1) := by decide +kernel
theorem dX10_bestTime_1 : decode cX10_bestTime 1 = .ok (.istore_n 2, 1) := by decide +kernel
theorem dX10_bestTime_2 : decode cX10_bestTime 2 = .ok (.iconst 0, 1) := by decide +kernel
theorem dX10_bestTime_3 : decode cX10_bestTime 3 = .ok (.istore_n 3, 1) := by decide +kernel
theorem dX10_bestTime_4 : decode cX10_bestTime 4 = .ok (.iconst 1, 1) := by decide +kernel
theorem dX10_bestTime_5 : decode cX10_bestTime 5 = .ok (.istore 4, 2) := by decide +kernel
theorem dX10_bestTime_7 : decode cX10_bestTime 7 = .ok (.iload 4, 2) := by decide +kernel
theorem dX10_bestTime_9 : decode cX10_bestTime 9 = .ok (.sipush 200, 3) := by decide +kernel
theorem dX10_bestTime_12 : decode cX10_bestTime 12 = .ok (.if_icmp .gt 76, 3) := by decide +kernel
theorem dX10_bestTime_15 : decode cX10_bestTime 15 = .ok (.aload_n 0, 1) := by decide +kernel
theorem dX10_bestTime_16 : decode cX10_bestTime 16 = .ok (.iload 4, 2) := by decide +kernel
theorem dX10_bestTime_18 : decode cX10_bestTime 18 = .ok (.invokevirtual 336, 3) := by decide +kernel
theorem dX10_bestTime_21 : decode cX10_bestTime 21 = .ok (.ifCond .eq 61, 3) := by decide +kernel
theorem dX10_bestTime_24 : decode cX10_bestTime 24 = .ok (.iload_n 1, 1) := by decide +kernel
theorem dX10_bestTime_25 : decode cX10_bestTime 25 = .ok (.ifCond .ne 10, 3) := by decide +kernel
theorem dX10_bestTime_28 : decode cX10_bestTime 28 = .ok (.aload_n 0, 1) := by decide +kernel
theorem dX10_bestTime_29 : decode cX10_bestTime 29 = .ok (.getfield 311, 3) := by decide +kernel
theorem dX10_bestTime_32 : decode cX10_bestTime 32 = .ok (.goto 7, 3) := by decide +kernel
theorem dX10_bestTime_35 : decode cX10_bestTime 35 = .ok (.aload_n 0, 1) := by decide +kernel
theorem dX10_bestTime_36 : decode cX10_bestTime 36 = .ok (.getfield 308, 3) := by decide +kernel
theorem dX10_bestTime_39 : decode cX10_bestTime 39 = .ok (.istore 5, 2) := by decide +kernel
theorem dX10_bestTime_41 : decode cX10_bestTime 41 = .ok (.iload_n 2, 1) := by decide +kernel
theorem dX10_bestTime_42 : decode cX10_bestTime 42 = .ok (.ifCond .lt 9, 3) := by decide +kernel
theorem dX10_bestTime_45 : decode cX10_bestTime 45 = .ok (.iload 5, 2) := by decide +kernel
theorem dX10_bestTime_47 : decode cX10_bestTime 47 = .ok (.iload_n 3, 1) := by decide +kernel
theorem dX10_bestTime_48 : decode cX10_bestTime 48 = .ok (.if_icmp .le 7, 3) := by decide +kernel
theorem dX10_bestTime_51 : decode cX10_bestTime 51 = .ok (.iconst 1, 1) := by decide +kernel
theorem dX10_bestTime_52 : decode cX10_bestTime 52 = .ok (.goto 4, 3) := by decide +kernel
theorem dX10_bestTime_55 : decode cX10_bestTime 55 = .ok (.iconst 0, 1) := by decide +kernel
theorem dX10_bestTime_56 : decode cX10_bestTime 56 = .ok (.istore 6, 2) := by decide +kernel
theorem dX10_bestTime_58 : decode cX10_bestTime 58 = .ok (.iload 6, 2) := by decide +kernel
theorem dX10_bestTime_60 : decode cX10_bestTime 60 = .ok (.ifCond .eq 8, 3) := by decide +kernel
theorem dX10_bestTime_63 : decode cX10_bestTime 63 = .ok (.iload 4, 2) := by decide +kernel
theorem dX10_bestTime_65 : decode cX10_bestTime 65 = .ok (.goto 4, 3) := by decide +kernel
theorem dX10_bestTime_68 : decode cX10_bestTime 68 = .ok (.iload_n 2, 1) := by decide +kernel
theorem dX10_bestTime_69 : decode cX10_bestTime 69 = .ok (.istore_n 2, 1) := by decide +kernel
theorem dX10_bestTime_70 : decode cX10_bestTime 70 = .ok (.iload 6, 2) := by decide +kernel
theorem dX10_bestTime_72 : decode cX10_bestTime 72 = .ok (.ifCond .eq 8, 3) := by decide +kernel
theorem dX10_bestTime_75 : decode cX10_bestTime 75 = .ok (.iload 5, 2) := by decide +kernel
theorem dX10_bestTime_77 : decode cX10_bestTime 77 = .ok (.goto 4, 3) := by decide +kernel
theorem dX10_bestTime_80 : decode cX10_bestTime 80 = .ok (.iload_n 3, 1) := by decide +kernel
theorem dX10_bestTime_81 : decode cX10_bestTime 81 = .ok (.istore_n 3, 1) := by decide +kernel
theorem dX10_bestTime_82 : decode cX10_bestTime 82 = .ok (.iinc 4 1, 3) := by decide +kernel
theorem dX10_bestTime_85 : decode cX10_bestTime 85 = .ok (.goto (-78), 3) := by decide +kernel
theorem dX10_bestTime_88 : decode cX10_bestTime 88 = .ok (.iload_n 2, 1) := by decide +kernel
theorem dX10_bestTime_89 : decode cX10_bestTime 89 = .ok (.ireturn, 1) := by decide +kernel
theorem dX10_best_0 : decode cX10_best 0 = .ok (.aload_n 0, 1) := by decide +kernel
theorem dX10_best_1 : decode cX10_best 1 = .ok (.iload_n 1, 1) := by decide +kernel
theorem dX10_best_2 : decode cX10_best 2 = .ok (.invokevirtual 204, 3) := by decide +kernel
theorem dX10_best_5 : decode cX10_best 5 = .ok (.ifCond .ne 6, 3) := by decide +kernel
theorem dX10_best_8 : decode cX10_best 8 = .ok (.ldc 197, 2) := by decide +kernel
theorem dX10_best_10 : decode cX10_best 10 = .ok (.ireturn, 1) := by decide +kernel
theorem dX10_best_11 : decode cX10_best 11 = .ok (.iload_n 2, 1) := by decide +kernel
theorem dX10_best_12 : decode cX10_best 12 = .ok (.i2l, 1) := by decide +kernel
theorem dX10_best_13 : decode cX10_best 13 = .ok (.lconst 0, 1) := by decide +kernel
theorem dX10_best_14 : decode cX10_best 14 = .ok (.lconst 1, 1) := by decide +kernel
theorem dX10_best_15 : decode cX10_best 15 = .ok (.invokestatic 81, 3) := by decide +kernel
theorem dX10_best_18 : decode cX10_best 18 = .ok (.ifCond .ne 6, 3) := by decide +kernel
theorem dX10_best_21 : decode cX10_best 21 = .ok (.ldc 87, 2) := by decide +kernel
theorem dX10_best_23 : decode cX10_best 23 = .ok (.ireturn, 1) := by decide +kernel
theorem dX10_best_24 : decode cX10_best 24 = .ok (.aload_n 0, 1) := by decide +kernel
theorem dX10_best_25 : decode cX10_best 25 = .ok (.iload_n 1, 1) := by decide +kernel
theorem dX10_best_26 : decode cX10_best 26 = .ok (.invokevirtual 330, 3) := by decide +kernel
theorem dX10_best_29 : decode cX10_best 29 = .ok (.aload_n 0, 1) := by decide +kernel
theorem dX10_best_30 : decode cX10_best 30 = .ok (.iload_n 2, 1) := by decide +kernel
theorem dX10_best_31 : decode cX10_best 31 = .ok (.invokevirtual 339, 3) := by decide +kernel
theorem dX10_best_34 : decode cX10_best 34 = .ok (.ireturn, 1) := by decide +kernel
theorem dX10_wideRow_0 : decode cX10_wideRow 0 = .ok (.iconst 0, 1) := by decide +kernel
theorem dX10_wideRow_1 : decode cX10_wideRow 1 = .ok (.istore_n 1, 1) := by decide +kernel
theorem dX10_wideRow_2 : decode cX10_wideRow 2 = .ok (.iconst 0, 1) := by decide +kernel
theorem dX10_wideRow_3 : decode cX10_wideRow 3 = .ok (.istore_n 2, 1) := by decide +kernel
theorem dX10_wideRow_4 : decode cX10_wideRow 4 = .ok (.aload_n 0, 1) := by decide +kernel
theorem dX10_wideRow_5 : decode cX10_wideRow 5 = .ok (.iconst (-1), 1) := by decide +kernel
theorem dX10_wideRow_6 : decode cX10_wideRow 6 = .ok (.putfield 342, 3) := by decide +kernel
theorem dX10_wideRow_9 : decode cX10_wideRow 9 = .ok (.aload_n 0, 1) := by decide +kernel
theorem dX10_wideRow_10 : decode cX10_wideRow 10 = .ok (.iconst 0, 1) := by decide +kernel
theorem dX10_wideRow_11 : decode cX10_wideRow 11 = .ok (.putfield 345, 3) := by decide +kernel
theorem dX10_wideRow_14 : decode cX10_wideRow 14 = .ok (.iconst 1, 1) := by decide +kernel
theorem dX10_wideRow_15 : decode cX10_wideRow 15 = .ok (.istore_n 3, 1) := by decide +kernel
theorem dX10_wideRow_16 : decode cX10_wideRow 16 = .ok (.iload_n 3, 1) := by decide +kernel
theorem dX10_wideRow_17 : decode cX10_wideRow 17 = .ok (.sipush 200, 3) := by decide +kernel
theorem dX10_wideRow_20 : decode cX10_wideRow 20 = .ok (.if_icmp .gt 80, 3) := by decide +kernel
theorem dX10_wideRow_23 : decode cX10_wideRow 23 = .ok (.aload_n 0, 1) := by decide +kernel
theorem dX10_wideRow_24 : decode cX10_wideRow 24 = .ok (.iload_n 3, 1) := by decide +kernel
theorem dX10_wideRow_25 : decode cX10_wideRow 25 = .ok (.invokevirtual 336, 3) := by decide +kernel
theorem dX10_wideRow_28 : decode cX10_wideRow 28 = .ok (.istore 4, 2) := by decide +kernel
theorem dX10_wideRow_30 : decode cX10_wideRow 30 = .ok (.iload 4, 2) := by decide +kernel
theorem dX10_wideRow_32 : decode cX10_wideRow 32 = .ok (.ifCond .eq 9, 3) := by decide +kernel
theorem dX10_wideRow_35 : decode cX10_wideRow 35 = .ok (.iload_n 2, 1) := by decide +kernel
theorem dX10_wideRow_36 : decode cX10_wideRow 36 = .ok (.iconst 1, 1) := by decide +kernel
theorem dX10_wideRow_37 : decode cX10_wideRow 37 = .ok (.iadd, 1) := by decide +kernel
theorem dX10_wideRow_38 : decode cX10_wideRow 38 = .ok (.goto 4, 3) := by decide +kernel
theorem dX10_wideRow_41 : decode cX10_wideRow 41 = .ok (.iconst 0, 1) := by decide +kernel
theorem dX10_wideRow_42 : decode cX10_wideRow 42 = .ok (.istore_n 2, 1) := by decide +kernel
theorem dX10_wideRow_43 : decode cX10_wideRow 43 = .ok (.aload_n 0, 1) := by decide +kernel
theorem dX10_wideRow_44 : decode cX10_wideRow 44 = .ok (.dup, 1) := by decide +kernel
theorem dX10_wideRow_45 : decode cX10_wideRow 45 = .ok (.getfield 345, 3) := by decide +kernel
theorem dX10_wideRow_48 : decode cX10_wideRow 48 = .ok (.iload 4, 2) := by decide +kernel
theorem dX10_wideRow_50 : decode cX10_wideRow 50 = .ok (.ifCond .eq 7, 3) := by decide +kernel
theorem dX10_wideRow_53 : decode cX10_wideRow 53 = .ok (.iconst 1, 1) := by decide +kernel
theorem dX10_wideRow_54 : decode cX10_wideRow 54 = .ok (.goto 4, 3) := by decide +kernel
theorem dX10_wideRow_57 : decode cX10_wideRow 57 = .ok (.iconst 0, 1) := by decide +kernel
theorem dX10_wideRow_58 : decode cX10_wideRow 58 = .ok (.iadd, 1) := by decide +kernel
theorem dX10_wideRow_59 : decode cX10_wideRow 59 = .ok (.putfield 345, 3) := by decide +kernel
theorem dX10_wideRow_62 : decode cX10_wideRow 62 = .ok (.aload_n 0, 1) := by decide +kernel
theorem dX10_wideRow_63 : decode cX10_wideRow 63 = .ok (.iload_n 2, 1) := by decide +kernel
theorem dX10_wideRow_64 : decode cX10_wideRow 64 = .ok (.iload_n 1, 1) := by decide +kernel
theorem dX10_wideRow_65 : decode cX10_wideRow 65 = .ok (.if_icmp .le 11, 3) := by decide +kernel
theorem dX10_wideRow_68 : decode cX10_wideRow 68 = .ok (.iload_n 3, 1) := by decide +kernel
theorem dX10_wideRow_69 : decode cX10_wideRow 69 = .ok (.iload_n 2, 1) := by decide +kernel
theorem dX10_wideRow_70 : decode cX10_wideRow 70 = .ok (.isub, 1) := by decide +kernel
theorem dX10_wideRow_71 : decode cX10_wideRow 71 = .ok (.iconst 1, 1) := by decide +kernel
theorem dX10_wideRow_72 : decode cX10_wideRow 72 = .ok (.iadd, 1) := by decide +kernel
theorem dX10_wideRow_73 : decode cX10_wideRow 73 = .ok (.goto 7, 3) := by decide +kernel
theorem dX10_wideRow_76 : decode cX10_wideRow 76 = .ok (.aload_n 0, 1) := by decide +kernel
theorem dX10_wideRow_77 : decode cX10_wideRow 77 = .ok (.getfield 342, 3) := by decide +kernel
theorem dX10_wideRow_80 : decode cX10_wideRow 80 = .ok (.putfield 342, 3) := by decide +kernel
theorem dX10_wideRow_83 : decode cX10_wideRow 83 = .ok (.iload_n 2, 1) := by decide +kernel
theorem dX10_wideRow_84 : decode cX10_wideRow 84 = .ok (.iload_n 1, 1) := by decide +kernel
theorem dX10_wideRow_85 : decode cX10_wideRow 85 = .ok (.if_icmp .le 7, 3) := by decide +kernel
theorem dX10_wideRow_88 : decode cX10_wideRow 88 = .ok (.iload_n 2, 1) := by decide +kernel
theorem dX10_wideRow_89 : decode cX10_wideRow 89 = .ok (.goto 4, 3) := by decide +kernel
theorem dX10_wideRow_92 : decode cX10_wideRow 92 = .ok (.iload_n 1, 1) := by decide +kernel
theorem dX10_wideRow_93 : decode cX10_wideRow 93 = .ok (.istore_n 1, 1) := by decide +kernel
theorem dX10_wideRow_94 : decode cX10_wideRow 94 = .ok (.iinc 3 1, 3) := by decide +kernel
theorem dX10_wideRow_97 : decode cX10_wideRow 97 = .ok (.goto (-81), 3) := by decide +kernel
theorem dX10_wideRow_100 : decode cX10_wideRow 100 = .ok (.iload_n 1, 1) := by decide +kernel
theorem dX10_wideRow_101 : decode cX10_wideRow 101 = .ok (.ireturn, 1) := by decide +kernel
theorem dX10_wide_0 : decode cX10_wide 0 = .ok (.aload_n 0, 1) := by decide +kernel
theorem dX10_wide_1 : decode cX10_wide 1 = .ok (.iload_n 1, 1) := by decide +kernel
theorem dX10_wide_2 : decode cX10_wide 2 = .ok (.invokevirtual 204, 3) := by decide +kernel
theorem dX10_wide_5 : decode cX10_wide 5 = .ok (.ifCond .ne 6, 3) := by decide +kernel
theorem dX10_wide_8 : decode cX10_wide 8 = .ok (.ldc 197, 2) := by decide +kernel
theorem dX10_wide_10 : decode cX10_wide 10 = .ok (.ireturn, 1) := by decide +kernel
theorem dX10_wide_11 : decode cX10_wide 11 = .ok (.iload_n 2, 1) := by decide +kernel
theorem dX10_wide_12 : decode cX10_wide 12 = .ok (.i2l, 1) := by decide +kernel
theorem dX10_wide_13 : decode cX10_wide 13 = .ok (.lconst 0, 1) := by decide +kernel
theorem dX10_wide_14 : decode cX10_wide 14 = .ok (.ldc2_w 348, 3) := by decide +kernel
theorem dX10_wide_17 : decode cX10_wide 17 = .ok (.invokestatic 81, 3) := by decide +kernel
theorem dX10_wide_20 : decode cX10_wide 20 = .ok (.ifCond .ne 6, 3) := by decide +kernel
theorem dX10_wide_23 : decode cX10_wide 23 = .ok (.ldc 87, 2) := by decide +kernel
theorem dX10_wide_25 : decode cX10_wide 25 = .ok (.ireturn, 1) := by decide +kernel
theorem dX10_wide_26 : decode cX10_wide 26 = .ok (.aload_n 0, 1) := by decide +kernel
theorem dX10_wide_27 : decode cX10_wide 27 = .ok (.iload_n 1, 1) := by decide +kernel
theorem dX10_wide_28 : decode cX10_wide 28 = .ok (.invokevirtual 330, 3) := by decide +kernel
theorem dX10_wide_31 : decode cX10_wide 31 = .ok (.aload_n 0, 1) := by decide +kernel
theorem dX10_wide_32 : decode cX10_wide 32 = .ok (.invokevirtual 350, 3) := by decide +kernel
theorem dX10_wide_35 : decode cX10_wide 35 = .ok (.istore_n 3, 1) := by decide +kernel
theorem dX10_wide_36 : decode cX10_wide 36 = .ok (.iload_n 2, 1) := by decide +kernel
theorem dX10_wide_37 : decode cX10_wide 37 = .ok (.ifCond .ne 7, 3) := by decide +kernel
theorem dX10_wide_40 : decode cX10_wide 40 = .ok (.iload_n 3, 1) := by decide +kernel
theorem dX10_wide_41 : decode cX10_wide 41 = .ok (.goto 19, 3) := by decide +kernel
theorem dX10_wide_44 : decode cX10_wide 44 = .ok (.iload_n 2, 1) := by decide +kernel
theorem dX10_wide_45 : decode cX10_wide 45 = .ok (.iconst 1, 1) := by decide +kernel
end
section
theorem dX10_wide_46 : decode cX10_wide 46 = .ok (.if_icmp .ne 10, 3) := by decide +kernel
theorem dX10_wide_49 : decode cX10_wide 49 = .ok (.aload_n 0, 1) := by decide +kernel
theorem dX10_wide_50 : decode cX10_wide 50 = .ok (.getfield 342, 3) := by decide +kernel
theorem dX10_wide_53 : decode cX10_wide 53 = .ok (.goto 7, 3) := by decide +kernel
theorem dX10_wide_56 : decode cX10_wide 56 = .ok (.aload_n 0, 1) := by decide +kernel
theorem dX10_wide_57 : decode cX10_wide 57 = .ok (.getfield 345, 3) := by decide +kernel
theorem dX10_wide_60 : decode cX10_wide 60 = .ok (.ireturn, 1) := by decide +kernel
theorem dX10_odds_0 : decode cX10_odds 0 = .ok (.aload_n 0, 1) := by decide +kernel
theorem dX10_odds_1 : decode cX10_odds 1 = .ok (.iload_n 1, 1) := by decide +kernel
theorem dX10_odds_2 : decode cX10_odds 2 = .ok (.invokevirtual 204, 3) := by decide +kernel
theorem dX10_odds_5 : decode cX10_odds 5 = .ok (.ifCond .ne 6, 3) := by decide +kernel
theorem dX10_odds_8 : decode cX10_odds 8 = .ok (.ldc 197, 2) := by decide +kernel
theorem dX10_odds_10 : decode cX10_odds 10 = .ok (.ireturn, 1) := by decide +kernel
theorem dX10_odds_11 : decode cX10_odds 11 = .ok (.iload_n 2, 1) := by decide +kernel
theorem dX10_odds_12 : decode cX10_odds 12 = .ok (.invokestatic 327, 3) := by decide +kernel
theorem dX10_odds_15 : decode cX10_odds 15 = .ok (.ifCond .eq 15, 3) := by decide +kernel
theorem dX10_odds_18 : decode cX10_odds 18 = .ok (.iload_n 3, 1) := by decide +kernel
theorem dX10_odds_19 : decode cX10_odds 19 = .ok (.i2l, 1) := by decide +kernel
theorem dX10_odds_20 : decode cX10_odds 20 = .ok (.lconst 0, 1) := by decide +kernel
theorem dX10_odds_21 : decode cX10_odds 21 = .ok (.ldc2_w 353, 3) := by decide +kernel
theorem dX10_odds_24 : decode cX10_odds 24 = .ok (.invokestatic 81, 3) := by decide +kernel
theorem dX10_odds_27 : decode cX10_odds 27 = .ok (.ifCond .ne 6, 3) := by decide +kernel
theorem dX10_odds_30 : decode cX10_odds 30 = .ok (.ldc 87, 2) := by decide +kernel
theorem dX10_odds_32 : decode cX10_odds 32 = .ok (.ireturn, 1) := by decide +kernel
theorem dX10_odds_33 : decode cX10_odds 33 = .ok (.aload_n 0, 1) := by decide +kernel
theorem dX10_odds_34 : decode cX10_odds 34 = .ok (.iload_n 1, 1) := by decide +kernel
theorem dX10_odds_35 : decode cX10_odds 35 = .ok (.invokevirtual 330, 3) := by decide +kernel
theorem dX10_odds_38 : decode cX10_odds 38 = .ok (.iconst 0, 1) := by decide +kernel
theorem dX10_odds_39 : decode cX10_odds 39 = .ok (.istore 4, 2) := by decide +kernel
theorem dX10_odds_41 : decode cX10_odds 41 = .ok (.iconst 0, 1) := by decide +kernel
theorem dX10_odds_42 : decode cX10_odds 42 = .ok (.istore 5, 2) := by decide +kernel
theorem dX10_odds_44 : decode cX10_odds 44 = .ok (.iload 5, 2) := by decide +kernel
theorem dX10_odds_46 : decode cX10_odds 46 = .ok (.iload_n 3, 1) := by decide +kernel
theorem dX10_odds_47 : decode cX10_odds 47 = .ok (.if_icmp .gt 37, 3) := by decide +kernel
theorem dX10_odds_50 : decode cX10_odds 50 = .ok (.iload 4, 2) := by decide +kernel
theorem dX10_odds_52 : decode cX10_odds 52 = .ok (.aload_n 0, 1) := by decide +kernel
theorem dX10_odds_53 : decode cX10_odds 53 = .ok (.iload_n 2, 1) := by decide +kernel
theorem dX10_odds_54 : decode cX10_odds 54 = .ok (.invokevirtual 336, 3) := by decide +kernel
theorem dX10_odds_57 : decode cX10_odds 57 = .ok (.ifCond .eq 7, 3) := by decide +kernel
theorem dX10_odds_60 : decode cX10_odds 60 = .ok (.iconst 1, 1) := by decide +kernel
theorem dX10_odds_61 : decode cX10_odds 61 = .ok (.goto 4, 3) := by decide +kernel
theorem dX10_odds_64 : decode cX10_odds 64 = .ok (.iconst 0, 1) := by decide +kernel
theorem dX10_odds_65 : decode cX10_odds 65 = .ok (.iadd, 1) := by decide +kernel
theorem dX10_odds_66 : decode cX10_odds 66 = .ok (.istore 4, 2) := by decide +kernel
theorem dX10_odds_68 : decode cX10_odds 68 = .ok (.aload_n 0, 1) := by decide +kernel
theorem dX10_odds_69 : decode cX10_odds 69 = .ok (.dup, 1) := by decide +kernel
theorem dX10_odds_70 : decode cX10_odds 70 = .ok (.getfield 248, 3) := by decide +kernel
theorem dX10_odds_73 : decode cX10_odds 73 = .ok (.iconst 1, 1) := by decide +kernel
theorem dX10_odds_74 : decode cX10_odds 74 = .ok (.iadd, 1) := by decide +kernel
theorem dX10_odds_75 : decode cX10_odds 75 = .ok (.putfield 248, 3) := by decide +kernel
theorem dX10_odds_78 : decode cX10_odds 78 = .ok (.iinc 5 1, 3) := by decide +kernel
theorem dX10_odds_81 : decode cX10_odds 81 = .ok (.goto (-37), 3) := by decide +kernel
theorem dX10_odds_84 : decode cX10_odds 84 = .ok (.ldc2_w 355, 3) := by decide +kernel
theorem dX10_odds_87 : decode cX10_odds 87 = .ok (.iload 4, 2) := by decide +kernel
theorem dX10_odds_89 : decode cX10_odds 89 = .ok (.i2l, 1) := by decide +kernel
theorem dX10_odds_90 : decode cX10_odds 90 = .ok (.lmul, 1) := by decide +kernel
theorem dX10_odds_91 : decode cX10_odds 91 = .ok (.iload_n 3, 1) := by decide +kernel
theorem dX10_odds_92 : decode cX10_odds 92 = .ok (.iconst 1, 1) := by decide +kernel
theorem dX10_odds_93 : decode cX10_odds 93 = .ok (.iadd, 1) := by decide +kernel
theorem dX10_odds_94 : decode cX10_odds 94 = .ok (.i2l, 1) := by decide +kernel
theorem dX10_odds_95 : decode cX10_odds 95 = .ok (.ldiv, 1) := by decide +kernel
theorem dX10_odds_96 : decode cX10_odds 96 = .ok (.l2i, 1) := by decide +kernel
theorem dX10_odds_97 : decode cX10_odds 97 = .ok (.ireturn, 1) := by decide +kernel
theorem dX10_strong_0 : decode cX10_strong 0 = .ok (.aload_n 0, 1) := by decide +kernel
theorem dX10_strong_1 : decode cX10_strong 1 = .ok (.iload_n 1, 1) := by decide +kernel
theorem dX10_strong_2 : decode cX10_strong 2 = .ok (.invokevirtual 204, 3) := by decide +kernel
theorem dX10_strong_5 : decode cX10_strong 5 = .ok (.ifCond .ne 6, 3) := by decide +kernel
theorem dX10_strong_8 : decode cX10_strong 8 = .ok (.ldc 197, 2) := by decide +kernel
theorem dX10_strong_10 : decode cX10_strong 10 = .ok (.ireturn, 1) := by decide +kernel
theorem dX10_strong_11 : decode cX10_strong 11 = .ok (.iload_n 2, 1) := by decide +kernel
theorem dX10_strong_12 : decode cX10_strong 12 = .ok (.invokestatic 327, 3) := by decide +kernel
theorem dX10_strong_15 : decode cX10_strong 15 = .ok (.ifCond .ne 6, 3) := by decide +kernel
theorem dX10_strong_18 : decode cX10_strong 18 = .ok (.ldc 87, 2) := by decide +kernel
theorem dX10_strong_20 : decode cX10_strong 20 = .ok (.ireturn, 1) := by decide +kernel
theorem dX10_strong_21 : decode cX10_strong 21 = .ok (.aload_n 0, 1) := by decide +kernel
theorem dX10_strong_22 : decode cX10_strong 22 = .ok (.iload_n 1, 1) := by decide +kernel
theorem dX10_strong_23 : decode cX10_strong 23 = .ok (.invokevirtual 330, 3) := by decide +kernel
theorem dX10_strong_26 : decode cX10_strong 26 = .ok (.bipush 10, 2) := by decide +kernel
theorem dX10_strong_28 : decode cX10_strong 28 = .ok (.istore_n 3, 1) := by decide +kernel
theorem dX10_strong_29 : decode cX10_strong 29 = .ok (.iload_n 3, 1) := by decide +kernel
theorem dX10_strong_30 : decode cX10_strong 30 = .ok (.sipush 300, 3) := by decide +kernel
theorem dX10_strong_33 : decode cX10_strong 33 = .ok (.if_icmp .gt 58, 3) := by decide +kernel
theorem dX10_strong_36 : decode cX10_strong 36 = .ok (.sipush 1000, 3) := by decide +kernel
theorem dX10_strong_39 : decode cX10_strong 39 = .ok (.istore 4, 2) := by decide +kernel
theorem dX10_strong_41 : decode cX10_strong 41 = .ok (.iconst 1, 1) := by decide +kernel
theorem dX10_strong_42 : decode cX10_strong 42 = .ok (.istore 5, 2) := by decide +kernel
theorem dX10_strong_44 : decode cX10_strong 44 = .ok (.iload 5, 2) := by decide +kernel
theorem dX10_strong_46 : decode cX10_strong 46 = .ok (.iload_n 2, 1) := by decide +kernel
theorem dX10_strong_47 : decode cX10_strong 47 = .ok (.if_icmp .gt 31, 3) := by decide +kernel
theorem dX10_strong_50 : decode cX10_strong 50 = .ok (.iload 4, 2) := by decide +kernel
theorem dX10_strong_52 : decode cX10_strong 52 = .ok (.ifCond .lt 26, 3) := by decide +kernel
theorem dX10_strong_55 : decode cX10_strong 55 = .ok (.iload 4, 2) := by decide +kernel
theorem dX10_strong_57 : decode cX10_strong 57 = .ok (.aload_n 0, 1) := by decide +kernel
theorem dX10_strong_58 : decode cX10_strong 58 = .ok (.getfield 54, 3) := by decide +kernel
theorem dX10_strong_61 : decode cX10_strong 61 = .ok (.iload 5, 2) := by decide +kernel
theorem dX10_strong_63 : decode cX10_strong 63 = .ok (.iaload, 1) := by decide +kernel
theorem dX10_strong_64 : decode cX10_strong 64 = .ok (.bipush 20, 2) := by decide +kernel
theorem dX10_strong_66 : decode cX10_strong 66 = .ok (.imul, 1) := by decide +kernel
theorem dX10_strong_67 : decode cX10_strong 67 = .ok (.iload_n 3, 1) := by decide +kernel
theorem dX10_strong_68 : decode cX10_strong 68 = .ok (.idiv, 1) := by decide +kernel
theorem dX10_strong_69 : decode cX10_strong 69 = .ok (.isub, 1) := by decide +kernel
theorem dX10_strong_70 : decode cX10_strong 70 = .ok (.istore 4, 2) := by decide +kernel
theorem dX10_strong_72 : decode cX10_strong 72 = .ok (.iinc 5 1, 3) := by decide +kernel
theorem dX10_strong_75 : decode cX10_strong 75 = .ok (.goto (-31), 3) := by decide +kernel
theorem dX10_strong_78 : decode cX10_strong 78 = .ok (.iload 4, 2) := by decide +kernel
theorem dX10_strong_80 : decode cX10_strong 80 = .ok (.ifCond .lt 5, 3) := by decide +kernel
theorem dX10_strong_83 : decode cX10_strong 83 = .ok (.iload_n 3, 1) := by decide +kernel
theorem dX10_strong_84 : decode cX10_strong 84 = .ok (.ireturn, 1) := by decide +kernel
theorem dX10_strong_85 : decode cX10_strong 85 = .ok (.iinc 3 1, 3) := by decide +kernel
theorem dX10_strong_88 : decode cX10_strong 88 = .ok (.goto (-59), 3) := by decide +kernel
theorem dX10_strong_91 : decode cX10_strong 91 = .ok (.iconst (-1), 1) := by decide +kernel
theorem dX10_strong_92 : decode cX10_strong 92 = .ok (.ireturn, 1) := by decide +kernel
theorem dX10_heavy_0 : decode cX10_heavy 0 = .ok (.aload_n 0, 1) := by decide +kernel
theorem dX10_heavy_1 : decode cX10_heavy 1 = .ok (.invokevirtual 268, 3) := by decide +kernel
theorem dX10_heavy_4 : decode cX10_heavy 4 = .ok (.aload_n 0, 1) := by decide +kernel
theorem dX10_heavy_5 : decode cX10_heavy 5 = .ok (.bipush 10, 2) := by decide +kernel
theorem dX10_heavy_7 : decode cX10_heavy 7 = .ok (.putfield 239, 3) := by decide +kernel
theorem dX10_heavy_10 : decode cX10_heavy 10 = .ok (.aload_n 0, 1) := by decide +kernel
theorem dX10_heavy_11 : decode cX10_heavy 11 = .ok (.sipush 300, 3) := by decide +kernel
theorem dX10_heavy_14 : decode cX10_heavy 14 = .ok (.putfield 245, 3) := by decide +kernel
theorem dX10_heavy_17 : decode cX10_heavy 17 = .ok (.aload_n 0, 1) := by decide +kernel
theorem dX10_heavy_18 : decode cX10_heavy 18 = .ok (.invokevirtual 275, 3) := by decide +kernel
theorem dX10_heavy_21 : decode cX10_heavy 21 = .ok (.sipush 150, 3) := by decide +kernel
theorem dX10_heavy_24 : decode cX10_heavy 24 = .ok (.istore_n 1, 1) := by decide +kernel
theorem dX10_heavy_25 : decode cX10_heavy 25 = .ok (.iload_n 1, 1) := by decide +kernel
theorem dX10_heavy_26 : decode cX10_heavy 26 = .ok (.bipush 10, 2) := by decide +kernel
theorem dX10_heavy_28 : decode cX10_heavy 28 = .ok (.if_icmp .lt 66, 3) := by decide +kernel
theorem dX10_heavy_31 : decode cX10_heavy 31 = .ok (.iconst 1, 1) := by decide +kernel
theorem dX10_heavy_32 : decode cX10_heavy 32 = .ok (.istore_n 2, 1) := by decide +kernel
theorem dX10_heavy_33 : decode cX10_heavy 33 = .ok (.iconst 1, 1) := by decide +kernel
theorem dX10_heavy_34 : decode cX10_heavy 34 = .ok (.istore_n 3, 1) := by decide +kernel
theorem dX10_heavy_35 : decode cX10_heavy 35 = .ok (.iload_n 3, 1) := by decide +kernel
theorem dX10_heavy_36 : decode cX10_heavy 36 = .ok (.sipush 200, 3) := by decide +kernel
theorem dX10_heavy_39 : decode cX10_heavy 39 = .ok (.if_icmp .gt 43, 3) := by decide +kernel
theorem dX10_heavy_42 : decode cX10_heavy 42 = .ok (.iload_n 2, 1) := by decide +kernel
theorem dX10_heavy_43 : decode cX10_heavy 43 = .ok (.ifCond .eq 39, 3) := by decide +kernel
theorem dX10_heavy_46 : decode cX10_heavy 46 = .ok (.aload_n 0, 1) := by decide +kernel
theorem dX10_heavy_47 : decode cX10_heavy 47 = .ok (.iload_n 1, 1) := by decide +kernel
theorem dX10_heavy_48 : decode cX10_heavy 48 = .ok (.aload_n 0, 1) := by decide +kernel
theorem dX10_heavy_49 : decode cX10_heavy 49 = .ok (.getfield 48, 3) := by decide +kernel
theorem dX10_heavy_52 : decode cX10_heavy 52 = .ok (.iload_n 3, 1) := by decide +kernel
theorem dX10_heavy_53 : decode cX10_heavy 53 = .ok (.iaload, 1) := by decide +kernel
theorem dX10_heavy_54 : decode cX10_heavy 54 = .ok (.aload_n 0, 1) := by decide +kernel
theorem dX10_heavy_55 : decode cX10_heavy 55 = .ok (.getfield 51, 3) := by decide +kernel
theorem dX10_heavy_58 : decode cX10_heavy 58 = .ok (.iload_n 3, 1) := by decide +kernel
theorem dX10_heavy_59 : decode cX10_heavy 59 = .ok (.iaload, 1) := by decide +kernel
theorem dX10_heavy_60 : decode cX10_heavy 60 = .ok (.invokevirtual 261, 3) := by decide +kernel
theorem dX10_heavy_63 : decode cX10_heavy 63 = .ok (.aload_n 0, 1) := by decide +kernel
theorem dX10_heavy_64 : decode cX10_heavy 64 = .ok (.getfield 236, 3) := by decide +kernel
theorem dX10_heavy_67 : decode cX10_heavy 67 = .ok (.if_icmp .gt 7, 3) := by decide +kernel
theorem dX10_heavy_70 : decode cX10_heavy 70 = .ok (.iconst 1, 1) := by decide +kernel
theorem dX10_heavy_71 : decode cX10_heavy 71 = .ok (.goto 4, 3) := by decide +kernel
theorem dX10_heavy_74 : decode cX10_heavy 74 = .ok (.iconst 0, 1) := by decide +kernel
theorem dX10_heavy_75 : decode cX10_heavy 75 = .ok (.istore_n 2, 1) := by decide +kernel
theorem dX10_heavy_76 : decode cX10_heavy 76 = .ok (.iinc 3 1, 3) := by decide +kernel
theorem dX10_heavy_79 : decode cX10_heavy 79 = .ok (.goto (-44), 3) := by decide +kernel
theorem dX10_heavy_82 : decode cX10_heavy 82 = .ok (.iload_n 2, 1) := by decide +kernel
theorem dX10_heavy_83 : decode cX10_heavy 83 = .ok (.ifCond .eq 5, 3) := by decide +kernel
theorem dX10_heavy_86 : decode cX10_heavy 86 = .ok (.iload_n 1, 1) := by decide +kernel
theorem dX10_heavy_87 : decode cX10_heavy 87 = .ok (.ireturn, 1) := by decide +kernel
theorem dX10_heavy_88 : decode cX10_heavy 88 = .ok (.iinc 1 (-1), 3) := by decide +kernel
theorem dX10_heavy_91 : decode cX10_heavy 91 = .ok (.goto (-66), 3) := by decide +kernel
theorem dX10_heavy_94 : decode cX10_heavy 94 = .ok (.iconst (-1), 1) := by decide +kernel
theorem dX10_heavy_95 : decode cX10_heavy 95 = .ok (.ireturn, 1) := by decide +kernel
theorem dX10_hasGood_0 : decode cX10_hasGood 0 = .ok (.iconst 0, 1) := by decide +kernel
theorem dX10_hasGood_1 : decode cX10_hasGood 1 = .ok (.istore_n 1, 1) := by decide +kernel
theorem dX10_hasGood_2 : decode cX10_hasGood 2 = .ok (.iconst 1, 1) := by decide +kernel
theorem dX10_hasGood_3 : decode cX10_hasGood 3 = .ok (.istore_n 2, 1) := by decide +kernel
theorem dX10_hasGood_4 : decode cX10_hasGood 4 = .ok (.iload_n 2, 1) := by decide +kernel
theorem dX10_hasGood_5 : decode cX10_hasGood 5 = .ok (.sipush 200, 3) := by decide +kernel
theorem dX10_hasGood_8 : decode cX10_hasGood 8 = .ok (.if_icmp .gt 19, 3) := by decide +kernel
theorem dX10_hasGood_11 : decode cX10_hasGood 11 = .ok (.iload_n 1, 1) := by decide +kernel
theorem dX10_hasGood_12 : decode cX10_hasGood 12 = .ok (.ifCond .ne 15, 3) := by decide +kernel
theorem dX10_hasGood_15 : decode cX10_hasGood 15 = .ok (.aload_n 0, 1) := by decide +kernel
theorem dX10_hasGood_16 : decode cX10_hasGood 16 = .ok (.iload_n 2, 1) := by decide +kernel
theorem dX10_hasGood_17 : decode cX10_hasGood 17 = .ok (.invokevirtual 336, 3) := by decide +kernel
theorem dX10_hasGood_20 : decode cX10_hasGood 20 = .ok (.istore_n 1, 1) := by decide +kernel
theorem dX10_hasGood_21 : decode cX10_hasGood 21 = .ok (.iinc 2 1, 3) := by decide +kernel
theorem dX10_hasGood_24 : decode cX10_hasGood 24 = .ok (.goto (-20), 3) := by decide +kernel
theorem dX10_hasGood_27 : decode cX10_hasGood 27 = .ok (.iload_n 1, 1) := by decide +kernel
theorem dX10_hasGood_28 : decode cX10_hasGood 28 = .ok (.ireturn, 1) := by decide +kernel
theorem dX10_may_0 : decode cX10_may 0 = .ok (.iconst 0, 1) := by decide +kernel
theorem dX10_may_1 : decode cX10_may 1 = .ok (.istore_n 1, 1) := by decide +kernel
theorem dX10_may_2 : decode cX10_may 2 = .ok (.iconst 0, 1) := by decide +kernel
theorem dX10_may_3 : decode cX10_may 3 = .ok (.istore_n 2, 1) := by decide +kernel
theorem dX10_may_4 : decode cX10_may 4 = .ok (.iload_n 2, 1) := by decide +kernel
theorem dX10_may_5 : decode cX10_may 5 = .ok (.aload_n 0, 1) := by decide +kernel
theorem dX10_may_6 : decode cX10_may 6 = .ok (.getfield 78, 3) := by decide +kernel
theorem dX10_may_9 : decode cX10_may 9 = .ok (.if_icmp .ge 31, 3) := by decide +kernel
theorem dX10_may_12 : decode cX10_may 12 = .ok (.aload_n 0, 1) := by decide +kernel
theorem dX10_may_13 : decode cX10_may 13 = .ok (.iload_n 2, 1) := by decide +kernel
theorem dX10_may_14 : decode cX10_may 14 = .ok (.invokevirtual 330, 3) := by decide +kernel
theorem dX10_may_17 : decode cX10_may 17 = .ok (.iload_n 1, 1) := by decide +kernel
theorem dX10_may_18 : decode cX10_may 18 = .ok (.aload_n 0, 1) := by decide +kernel
theorem dX10_may_19 : decode cX10_may 19 = .ok (.invokevirtual 357, 3) := by decide +kernel
theorem dX10_may_22 : decode cX10_may 22 = .ok (.ifCond .eq 9, 3) := by decide +kernel
theorem dX10_may_25 : decode cX10_may 25 = .ok (.iconst 1, 1) := by decide +kernel
theorem dX10_may_26 : decode cX10_may 26 = .ok (.iload_n 2, 1) := by decide +kernel
theorem dX10_may_27 : decode cX10_may 27 = .ok (.ishl, 1) := by decide +kernel
theorem dX10_may_28 : decode cX10_may 28 = .ok (.goto 4, 3) := by decide +kernel
theorem dX10_may_31 : decode cX10_may 31 = .ok (.iconst 0, 1) := by decide +kernel
theorem dX10_may_32 : decode cX10_may 32 = .ok (.ior, 1) := by decide +kernel
theorem dX10_may_33 : decode cX10_may 33 = .ok (.istore_n 1, 1) := by decide +kernel
theorem dX10_may_34 : decode cX10_may 34 = .ok (.iinc 2 1, 3) := by decide +kernel
theorem dX10_may_37 : decode cX10_may 37 = .ok (.goto (-33), 3) := by decide +kernel
theorem dX10_may_40 : decode cX10_may 40 = .ok (.iload_n 1, 1) := by decide +kernel
theorem dX10_may_41 : decode cX10_may 41 = .ok (.ireturn, 1) := by decide +kernel
theorem dX10_months_0 : decode cX10_months 0 = .ok (.aload_n 0, 1) := by decide +kernel
theorem dX10_months_1 : decode cX10_months 1 = .ok (.iload_n 1, 1) := by decide +kernel
theorem dX10_months_2 : decode cX10_months 2 = .ok (.invokevirtual 204, 3) := by decide +kernel
theorem dX10_months_5 : decode cX10_months 5 = .ok (.ifCond .ne 6, 3) := by decide +kernel
theorem dX10_months_8 : decode cX10_months 8 = .ok (.ldc 197, 2) := by decide +kernel
theorem dX10_months_10 : decode cX10_months 10 = .ok (.ireturn, 1) := by decide +kernel
theorem dX10_months_11 : decode cX10_months 11 = .ok (.aload_n 0, 1) := by decide +kernel
theorem dX10_months_12 : decode cX10_months 12 = .ok (.iload_n 1, 1) := by decide +kernel
theorem dX10_months_13 : decode cX10_months 13 = .ok (.invokevirtual 330, 3) := by decide +kernel
theorem dX10_months_16 : decode cX10_months 16 = .ok (.aload_n 0, 1) := by decide +kernel
theorem dX10_months_17 : decode cX10_months 17 = .ok (.getfield 26, 3) := by decide +kernel
theorem dX10_months_20 : decode cX10_months 20 = .ok (.iconst 0, 1) := by decide +kernel
theorem dX10_months_21 : decode cX10_months 21 = .ok (.iaload, 1) := by decide +kernel
theorem dX10_months_22 : decode cX10_months 22 = .ok (.istore_n 2, 1) := by decide +kernel
theorem dX10_months_23 : decode cX10_months 23 = .ok (.iconst 0, 1) := by decide +kernel
theorem dX10_months_24 : decode cX10_months 24 = .ok (.istore_n 3, 1) := by decide +kernel
theorem dX10_months_25 : decode cX10_months 25 = .ok (.iconst 0, 1) := by decide +kernel
theorem dX10_months_26 : decode cX10_months 26 = .ok (.istore 4, 2) := by decide +kernel
theorem dX10_months_28 : decode cX10_months 28 = .ok (.iload 4, 2) := by decide +kernel
theorem dX10_months_30 : decode cX10_months 30 = .ok (.bipush 12, 2) := by decide +kernel
theorem dX10_months_32 : decode cX10_months 32 = .ok (.if_icmp .ge 35, 3) := by decide +kernel
theorem dX10_months_35 : decode cX10_months 35 = .ok (.aload_n 0, 1) := by decide +kernel
theorem dX10_months_36 : decode cX10_months 36 = .ok (.getfield 26, 3) := by decide +kernel
theorem dX10_months_39 : decode cX10_months 39 = .ok (.iconst 0, 1) := by decide +kernel
theorem dX10_months_40 : decode cX10_months 40 = .ok (.iload 4, 2) := by decide +kernel
theorem dX10_months_42 : decode cX10_months 42 = .ok (.iastore, 1) := by decide +kernel
theorem dX10_months_43 : decode cX10_months 43 = .ok (.iload_n 3, 1) := by decide +kernel
theorem dX10_months_44 : decode cX10_months 44 = .ok (.aload_n 0, 1) := by decide +kernel
theorem dX10_months_45 : decode cX10_months 45 = .ok (.invokevirtual 357, 3) := by decide +kernel
theorem dX10_months_48 : decode cX10_months 48 = .ok (.ifCond .eq 10, 3) := by decide +kernel
theorem dX10_months_51 : decode cX10_months 51 = .ok (.iconst 1, 1) := by decide +kernel
theorem dX10_months_52 : decode cX10_months 52 = .ok (.iload 4, 2) := by decide +kernel
theorem dX10_months_54 : decode cX10_months 54 = .ok (.ishl, 1) := by decide +kernel
theorem dX10_months_55 : decode cX10_months 55 = .ok (.goto 4, 3) := by decide +kernel
theorem dX10_months_58 : decode cX10_months 58 = .ok (.iconst 0, 1) := by decide +kernel
theorem dX10_months_59 : decode cX10_months 59 = .ok (.ior, 1) := by decide +kernel
theorem dX10_months_60 : decode cX10_months 60 = .ok (.istore_n 3, 1) := by decide +kernel
theorem dX10_months_61 : decode cX10_months 61 = .ok (.iinc 4 1, 3) := by decide +kernel
theorem dX10_months_64 : decode cX10_months 64 = .ok (.goto (-36), 3) := by decide +kernel
theorem dX10_months_67 : decode cX10_months 67 = .ok (.aload_n 0, 1) := by decide +kernel
theorem dX10_months_68 : decode cX10_months 68 = .ok (.getfield 26, 3) := by decide +kernel
theorem dX10_months_71 : decode cX10_months 71 = .ok (.iconst 0, 1) := by decide +kernel
theorem dX10_months_72 : decode cX10_months 72 = .ok (.iload_n 2, 1) := by decide +kernel
theorem dX10_months_73 : decode cX10_months 73 = .ok (.iastore, 1) := by decide +kernel
theorem dX10_months_74 : decode cX10_months 74 = .ok (.iload_n 3, 1) := by decide +kernel
theorem dX10_months_75 : decode cX10_months 75 = .ok (.ireturn, 1) := by decide +kernel
theorem dX10_rope_0 : decode cX10_rope 0 = .ok (.aload_n 0, 1) := by decide +kernel
theorem dX10_rope_1 : decode cX10_rope 1 = .ok (.iload_n 1, 1) := by decide +kernel
theorem dX10_rope_2 : decode cX10_rope 2 = .ok (.invokevirtual 204, 3) := by decide +kernel
theorem dX10_rope_5 : decode cX10_rope 5 = .ok (.ifCond .ne 6, 3) := by decide +kernel
theorem dX10_rope_8 : decode cX10_rope 8 = .ok (.ldc 197, 2) := by decide +kernel
theorem dX10_rope_10 : decode cX10_rope 10 = .ok (.ireturn, 1) := by decide +kernel
theorem dX10_rope_11 : decode cX10_rope 11 = .ok (.iload_n 2, 1) := by decide +kernel
theorem dX10_rope_12 : decode cX10_rope 12 = .ok (.i2l, 1) := by decide +kernel
theorem dX10_rope_13 : decode cX10_rope 13 = .ok (.lconst 0, 1) := by decide +kernel
theorem dX10_rope_14 : decode cX10_rope 14 = .ok (.ldc2_w 348, 3) := by decide +kernel
theorem dX10_rope_17 : decode cX10_rope 17 = .ok (.invokestatic 81, 3) := by decide +kernel
theorem dX10_rope_20 : decode cX10_rope 20 = .ok (.ifCond .ne 6, 3) := by decide +kernel
theorem dX10_rope_23 : decode cX10_rope 23 = .ok (.ldc 87, 2) := by decide +kernel
theorem dX10_rope_25 : decode cX10_rope 25 = .ok (.ireturn, 1) := by decide +kernel
theorem dX10_rope_26 : decode cX10_rope 26 = .ok (.aload_n 0, 1) := by decide +kernel
theorem dX10_rope_27 : decode cX10_rope 27 = .ok (.invokevirtual 268, 3) := by decide +kernel
theorem dX10_rope_30 : decode cX10_rope 30 = .ok (.aload_n 0, 1) := by decide +kernel
theorem dX10_rope_31 : decode cX10_rope 31 = .ok (.iload_n 1, 1) := by decide +kernel
theorem dX10_rope_32 : decode cX10_rope 32 = .ok (.invokevirtual 271, 3) := by decide +kernel
theorem dX10_rope_35 : decode cX10_rope 35 = .ok (.iconst (-1), 1) := by decide +kernel
theorem dX10_rope_36 : decode cX10_rope 36 = .ok (.istore_n 3, 1) := by decide +kernel
theorem dX10_rope_37 : decode cX10_rope 37 = .ok (.iconst 0, 1) := by decide +kernel
theorem dX10_rope_38 : decode cX10_rope 38 = .ok (.istore 4, 2) := by decide +kernel
theorem dX10_rope_40 : decode cX10_rope 40 = .ok (.bipush 100, 2) := by decide +kernel
theorem dX10_rope_42 : decode cX10_rope 42 = .ok (.istore 5, 2) := by decide +kernel
theorem dX10_rope_44 : decode cX10_rope 44 = .ok (.iload 5, 2) := by decide +kernel
theorem dX10_rope_46 : decode cX10_rope 46 = .ok (.sipush 900, 3) := by decide +kernel
theorem dX10_rope_49 : decode cX10_rope 49 = .ok (.if_icmp .gt 90, 3) := by decide +kernel
theorem dX10_rope_52 : decode cX10_rope 52 = .ok (.iconst 0, 1) := by decide +kernel
theorem dX10_rope_53 : decode cX10_rope 53 = .ok (.istore 6, 2) := by decide +kernel
theorem dX10_rope_55 : decode cX10_rope 55 = .ok (.iload 6, 2) := by decide +kernel
theorem dX10_rope_57 : decode cX10_rope 57 = .ok (.sipush 300, 3) := by decide +kernel
theorem dX10_rope_60 : decode cX10_rope 60 = .ok (.if_icmp .gt 73, 3) := by decide +kernel
theorem dX10_rope_63 : decode cX10_rope 63 = .ok (.iload 5, 2) := by decide +kernel
theorem dX10_rope_65 : decode cX10_rope 65 = .ok (.iload 6, 2) := by decide +kernel
theorem dX10_rope_67 : decode cX10_rope 67 = .ok (.isub, 1) := by decide +kernel
theorem dX10_rope_68 : decode cX10_rope 68 = .ok (.bipush 50, 2) := by decide +kernel
theorem dX10_rope_70 : decode cX10_rope 70 = .ok (.if_icmp .lt 63, 3) := by decide +kernel
theorem dX10_rope_73 : decode cX10_rope 73 = .ok (.aload_n 0, 1) := by decide +kernel
theorem dX10_rope_74 : decode cX10_rope 74 = .ok (.iload 5, 2) := by decide +kernel
theorem dX10_rope_76 : decode cX10_rope 76 = .ok (.iload 6, 2) := by decide +kernel
theorem dX10_rope_78 : decode cX10_rope 78 = .ok (.isub, 1) := by decide +kernel
theorem dX10_rope_79 : decode cX10_rope 79 = .ok (.putfield 230, 3) := by decide +kernel
theorem dX10_rope_82 : decode cX10_rope 82 = .ok (.aload_n 0, 1) := by decide +kernel
theorem dX10_rope_83 : decode cX10_rope 83 = .ok (.invokevirtual 275, 3) := by decide +kernel
theorem dX10_rope_86 : decode cX10_rope 86 = .ok (.aload_n 0, 1) := by decide +kernel
theorem dX10_rope_87 : decode cX10_rope 87 = .ok (.invokevirtual 350, 3) := by decide +kernel
theorem dX10_rope_90 : decode cX10_rope 90 = .ok (.istore 7, 2) := by decide +kernel
theorem dX10_rope_92 : decode cX10_rope 92 = .ok (.iload 7, 2) := by decide +kernel
theorem dX10_rope_94 : decode cX10_rope 94 = .ok (.iload_n 3, 1) := by decide +kernel
theorem dX10_rope_95 : decode cX10_rope 95 = .ok (.if_icmp .le 15, 3) := by decide +kernel
theorem dX10_rope_98 : decode cX10_rope 98 = .ok (.sipush 1000, 3) := by decide +kernel
theorem dX10_rope_101 : decode cX10_rope 101 = .ok (.iload 5, 2) := by decide +kernel
theorem dX10_rope_103 : decode cX10_rope 103 = .ok (.imul, 1) := by decide +kernel
theorem dX10_rope_104 : decode cX10_rope 104 = .ok (.iload 6, 2) := by decide +kernel
theorem dX10_rope_106 : decode cX10_rope 106 = .ok (.iadd, 1) := by decide +kernel
theorem dX10_rope_107 : decode cX10_rope 107 = .ok (.goto 5, 3) := by decide +kernel
theorem dX10_rope_110 : decode cX10_rope 110 = .ok (.iload 4, 2) := by decide +kernel
theorem dX10_rope_112 : decode cX10_rope 112 = .ok (.istore 4, 2) := by decide +kernel
theorem dX10_rope_114 : decode cX10_rope 114 = .ok (.iload 7, 2) := by decide +kernel
theorem dX10_rope_116 : decode cX10_rope 116 = .ok (.iload_n 3, 1) := by decide +kernel
theorem dX10_rope_117 : decode cX10_rope 117 = .ok (.if_icmp .le 8, 3) := by decide +kernel
theorem dX10_rope_120 : decode cX10_rope 120 = .ok (.iload 7, 2) := by decide +kernel
theorem dX10_rope_122 : decode cX10_rope 122 = .ok (.goto 4, 3) := by decide +kernel
theorem dX10_rope_125 : decode cX10_rope 125 = .ok (.iload_n 3, 1) := by decide +kernel
theorem dX10_rope_126 : decode cX10_rope 126 = .ok (.istore_n 3, 1) := by decide +kernel
theorem dX10_rope_127 : decode cX10_rope 127 = .ok (.iinc 6 50, 3) := by decide +kernel
theorem dX10_rope_130 : decode cX10_rope 130 = .ok (.goto (-75), 3) := by decide +kernel
theorem dX10_rope_133 : decode cX10_rope 133 = .ok (.iinc 5 50, 3) := by decide +kernel
theorem dX10_rope_136 : decode cX10_rope 136 = .ok (.goto (-92), 3) := by decide +kernel
theorem dX10_rope_139 : decode cX10_rope 139 = .ok (.iload_n 2, 1) := by decide +kernel
theorem dX10_rope_140 : decode cX10_rope 140 = .ok (.ifCond .ne 12, 3) := by decide +kernel
theorem dX10_rope_143 : decode cX10_rope 143 = .ok (.iload 4, 2) := by decide +kernel
theorem dX10_rope_145 : decode cX10_rope 145 = .ok (.sipush 1000, 3) := by decide +kernel
theorem dX10_rope_148 : decode cX10_rope 148 = .ok (.idiv, 1) := by decide +kernel
theorem dX10_rope_149 : decode cX10_rope 149 = .ok (.goto 18, 3) := by decide +kernel
theorem dX10_rope_152 : decode cX10_rope 152 = .ok (.iload_n 2, 1) := by decide +kernel
theorem dX10_rope_153 : decode cX10_rope 153 = .ok (.iconst 1, 1) := by decide +kernel
theorem dX10_rope_154 : decode cX10_rope 154 = .ok (.if_icmp .ne 12, 3) := by decide +kernel
theorem dX10_rope_157 : decode cX10_rope 157 = .ok (.iload 4, 2) := by decide +kernel
theorem dX10_rope_159 : decode cX10_rope 159 = .ok (.sipush 1000, 3) := by decide +kernel
theorem dX10_rope_162 : decode cX10_rope 162 = .ok (.irem, 1) := by decide +kernel
theorem dX10_rope_163 : decode cX10_rope 163 = .ok (.goto 4, 3) := by decide +kernel
theorem dX10_rope_166 : decode cX10_rope 166 = .ok (.iload_n 3, 1) := by decide +kernel
theorem dX10_rope_167 : decode cX10_rope 167 = .ok (.ireturn, 1) := by decide +kernel
theorem dX10_turn_0 : decode cX10_turn 0 = .ok (.aload_n 0, 1) := by decide +kernel
theorem dX10_turn_1 : decode cX10_turn 1 = .ok (.iload_n 1, 1) := by decide +kernel
theorem dX10_turn_2 : decode cX10_turn 2 = .ok (.invokevirtual 204, 3) := by decide +kernel
theorem dX10_turn_5 : decode cX10_turn 5 = .ok (.ifCond .ne 6, 3) := by decide +kernel
theorem dX10_turn_8 : decode cX10_turn 8 = .ok (.ldc 197, 2) := by decide +kernel
theorem dX10_turn_10 : decode cX10_turn 10 = .ok (.ireturn, 1) := by decide +kernel
theorem dX10_turn_11 : decode cX10_turn 11 = .ok (.iload_n 2, 1) := by decide +kernel
theorem dX10_turn_12 : decode cX10_turn 12 = .ok (.invokestatic 327, 3) := by decide +kernel
theorem dX10_turn_15 : decode cX10_turn 15 = .ok (.ifCond .ne 6, 3) := by decide +kernel
theorem dX10_turn_18 : decode cX10_turn 18 = .ok (.ldc 87, 2) := by decide +kernel
theorem dX10_turn_20 : decode cX10_turn 20 = .ok (.ireturn, 1) := by decide +kernel
theorem dX10_turn_21 : decode cX10_turn 21 = .ok (.aload_n 0, 1) := by decide +kernel
theorem dX10_turn_22 : decode cX10_turn 22 = .ok (.iload_n 1, 1) := by decide +kernel
theorem dX10_turn_23 : decode cX10_turn 23 = .ok (.invokevirtual 330, 3) := by decide +kernel
theorem dX10_turn_26 : decode cX10_turn 26 = .ok (.iconst 0, 1) := by decide +kernel
theorem dX10_turn_27 : decode cX10_turn 27 = .ok (.istore_n 3, 1) := by decide +kernel
theorem dX10_turn_28 : decode cX10_turn 28 = .ok (.iload_n 3, 1) := by decide +kernel
theorem dX10_turn_29 : decode cX10_turn 29 = .ok (.bipush 36, 2) := by decide +kernel
theorem dX10_turn_31 : decode cX10_turn 31 = .ok (.if_icmp .gt 29, 3) := by decide +kernel
theorem dX10_turn_34 : decode cX10_turn 34 = .ok (.aload_n 0, 1) := by decide +kernel
theorem dX10_turn_35 : decode cX10_turn 35 = .ok (.iload_n 3, 1) := by decide +kernel
theorem dX10_turn_36 : decode cX10_turn 36 = .ok (.putfield 251, 3) := by decide +kernel
theorem dX10_turn_39 : decode cX10_turn 39 = .ok (.aload_n 0, 1) := by decide +kernel
theorem dX10_turn_40 : decode cX10_turn 40 = .ok (.iload_n 2, 1) := by decide +kernel
theorem dX10_turn_41 : decode cX10_turn 41 = .ok (.invokevirtual 333, 3) := by decide +kernel
theorem dX10_turn_44 : decode cX10_turn 44 = .ok (.aload_n 0, 1) := by decide +kernel
theorem dX10_turn_45 : decode cX10_turn 45 = .ok (.getfield 292, 3) := by decide +kernel
theorem dX10_turn_48 : decode cX10_turn 48 = .ok (.iconst 2, 1) := by decide +kernel
theorem dX10_turn_49 : decode cX10_turn 49 = .ok (.if_icmp .ne 5, 3) := by decide +kernel
theorem dX10_turn_52 : decode cX10_turn 52 = .ok (.iload_n 3, 1) := by decide +kernel
theorem dX10_turn_53 : decode cX10_turn 53 = .ok (.ireturn, 1) := by decide +kernel
theorem dX10_turn_54 : decode cX10_turn 54 = .ok (.iinc 3 1, 3) := by decide +kernel
theorem dX10_turn_57 : decode cX10_turn 57 = .ok (.goto (-29), 3) := by decide +kernel
theorem dX10_turn_60 : decode cX10_turn 60 = .ok (.iconst (-1), 1) := by decide +kernel
theorem dX10_turn_61 : decode cX10_turn 61 = .ok (.ireturn, 1) := by decide +kernel
theorem dX10_film_0 : decode cX10_film 0 = .ok (.iload_n 1, 1) := by decide +kernel
theorem dX10_film_1 : decode cX10_film 1 = .ok (.invokestatic 327, 3) := by decide +kernel
theorem dX10_film_4 : decode cX10_film 4 = .ok (.ifCond .eq 17, 3) := by decide +kernel
theorem dX10_film_7 : decode cX10_film 7 = .ok (.iload_n 2, 1) := by decide +kernel
theorem dX10_film_8 : decode cX10_film 8 = .ok (.i2l, 1) := by decide +kernel
theorem dX10_film_9 : decode cX10_film 9 = .ok (.ldc2_w 360, 3) := by decide +kernel
theorem dX10_film_12 : decode cX10_film 12 = .ok (.ldc2_w 362, 3) := by decide +kernel
theorem dX10_film_15 : decode cX10_film 15 = .ok (.invokestatic 81, 3) := by decide +kernel
theorem dX10_film_18 : decode cX10_film 18 = .ok (.ifCond .ne 6, 3) := by decide +kernel
theorem dX10_film_21 : decode cX10_film 21 = .ok (.ldc 87, 2) := by decide +kernel
theorem dX10_film_23 : decode cX10_film 23 = .ok (.ireturn, 1) := by decide +kernel
theorem dX10_film_24 : decode cX10_film 24 = .ok (.aload_n 0, 1) := by decide +kernel
theorem dX10_film_25 : decode cX10_film 25 = .ok (.invokevirtual 268, 3) := by decide +kernel
theorem dX10_film_28 : decode cX10_film 28 = .ok (.aload_n 0, 1) := by decide +kernel
theorem dX10_film_29 : decode cX10_film 29 = .ok (.bipush 10, 2) := by decide +kernel
theorem dX10_film_31 : decode cX10_film 31 = .ok (.putfield 239, 3) := by decide +kernel
theorem dX10_film_34 : decode cX10_film 34 = .ok (.aload_n 0, 1) := by decide +kernel
theorem dX10_film_35 : decode cX10_film 35 = .ok (.sipush 300, 3) := by decide +kernel
theorem dX10_film_38 : decode cX10_film 38 = .ok (.putfield 245, 3) := by decide +kernel
theorem dX10_film_41 : decode cX10_film 41 = .ok (.iconst (-1), 1) := by decide +kernel
theorem dX10_film_42 : decode cX10_film 42 = .ok (.istore_n 3, 1) := by decide +kernel
theorem dX10_film_43 : decode cX10_film 43 = .ok (.iconst 0, 1) := by decide +kernel
theorem dX10_film_44 : decode cX10_film 44 = .ok (.istore 4, 2) := by decide +kernel
theorem dX10_film_46 : decode cX10_film 46 = .ok (.iconst 0, 1) := by decide +kernel
theorem dX10_film_47 : decode cX10_film 47 = .ok (.istore 5, 2) := by decide +kernel
theorem dX10_film_49 : decode cX10_film 49 = .ok (.iload 5, 2) := by decide +kernel
theorem dX10_film_51 : decode cX10_film 51 = .ok (.sipush 600, 3) := by decide +kernel
theorem dX10_film_54 : decode cX10_film 54 = .ok (.if_icmp .gt 80, 3) := by decide +kernel
theorem dX10_film_57 : decode cX10_film 57 = .ok (.aload_n 0, 1) := by decide +kernel
theorem dX10_film_58 : decode cX10_film 58 = .ok (.iload 5, 2) := by decide +kernel
theorem dX10_film_60 : decode cX10_film 60 = .ok (.putfield 233, 3) := by decide +kernel
theorem dX10_film_63 : decode cX10_film 63 = .ok (.aload_n 0, 1) := by decide +kernel
theorem dX10_film_64 : decode cX10_film 64 = .ok (.invokevirtual 275, 3) := by decide +kernel
theorem dX10_film_67 : decode cX10_film 67 = .ok (.aload_n 0, 1) := by decide +kernel
theorem dX10_film_68 : decode cX10_film 68 = .ok (.getfield 48, 3) := by decide +kernel
theorem dX10_film_71 : decode cX10_film 71 = .ok (.iload_n 1, 1) := by decide +kernel
theorem dX10_film_72 : decode cX10_film 72 = .ok (.iaload, 1) := by decide +kernel
theorem dX10_film_73 : decode cX10_film 73 = .ok (.sipush 1000, 3) := by decide +kernel
theorem dX10_film_76 : decode cX10_film 76 = .ok (.idiv, 1) := by decide +kernel
theorem dX10_film_77 : decode cX10_film 77 = .ok (.iload_n 2, 1) := by decide +kernel
theorem dX10_film_78 : decode cX10_film 78 = .ok (.isub, 1) := by decide +kernel
theorem dX10_film_79 : decode cX10_film 79 = .ok (.invokestatic 216, 3) := by decide +kernel
theorem dX10_film_82 : decode cX10_film 82 = .ok (.istore 6, 2) := by decide +kernel
theorem dX10_film_84 : decode cX10_film 84 = .ok (.iload_n 3, 1) := by decide +kernel
theorem dX10_film_85 : decode cX10_film 85 = .ok (.ifCond .lt 10, 3) := by decide +kernel
theorem dX10_film_88 : decode cX10_film 88 = .ok (.iload 6, 2) := by decide +kernel
theorem dX10_film_90 : decode cX10_film 90 = .ok (.iload 4, 2) := by decide +kernel
theorem dX10_film_92 : decode cX10_film 92 = .ok (.if_icmp .ge 7, 3) := by decide +kernel
theorem dX10_film_95 : decode cX10_film 95 = .ok (.iconst 1, 1) := by decide +kernel
theorem dX10_film_96 : decode cX10_film 96 = .ok (.goto 4, 3) := by decide +kernel
theorem dX10_film_99 : decode cX10_film 99 = .ok (.iconst 0, 1) := by decide +kernel
theorem dX10_film_100 : decode cX10_film 100 = .ok (.istore 7, 2) := by decide +kernel
theorem dX10_film_102 : decode cX10_film 102 = .ok (.iload 7, 2) := by decide +kernel
theorem dX10_film_104 : decode cX10_film 104 = .ok (.ifCond .eq 8, 3) := by decide +kernel
theorem dX10_film_107 : decode cX10_film 107 = .ok (.iload 5, 2) := by decide +kernel
theorem dX10_film_109 : decode cX10_film 109 = .ok (.goto 4, 3) := by decide +kernel
theorem dX10_film_112 : decode cX10_film 112 = .ok (.iload_n 3, 1) := by decide +kernel
theorem dX10_film_113 : decode cX10_film 113 = .ok (.istore_n 3, 1) := by decide +kernel
theorem dX10_film_114 : decode cX10_film 114 = .ok (.iload 7, 2) := by decide +kernel
theorem dX10_film_116 : decode cX10_film 116 = .ok (.ifCond .eq 8, 3) := by decide +kernel
theorem dX10_film_119 : decode cX10_film 119 = .ok (.iload 6, 2) := by decide +kernel
theorem dX10_film_121 : decode cX10_film 121 = .ok (.goto 5, 3) := by decide +kernel
theorem dX10_film_124 : decode cX10_film 124 = .ok (.iload 4, 2) := by decide +kernel
theorem dX10_film_126 : decode cX10_film 126 = .ok (.istore 4, 2) := by decide +kernel
theorem dX10_film_128 : decode cX10_film 128 = .ok (.iinc 5 1, 3) := by decide +kernel
theorem dX10_film_131 : decode cX10_film 131 = .ok (.goto (-82), 3) := by decide +kernel
theorem dX10_film_134 : decode cX10_film 134 = .ok (.iload_n 3, 1) := by decide +kernel
theorem dX10_film_135 : decode cX10_film 135 = .ok (.ireturn, 1) := by decide +kernel
theorem dX10_age_0 : decode cX10_age 0 = .ok (.aload_n 0, 1) := by decide +kernel
theorem dX10_age_1 : decode cX10_age 1 = .ok (.iload_n 1, 1) := by decide +kernel
theorem dX10_age_2 : decode cX10_age 2 = .ok (.invokevirtual 204, 3) := by decide +kernel
theorem dX10_age_5 : decode cX10_age 5 = .ok (.ifCond .ne 6, 3) := by decide +kernel
theorem dX10_age_8 : decode cX10_age 8 = .ok (.ldc 197, 2) := by decide +kernel
theorem dX10_age_10 : decode cX10_age 10 = .ok (.ireturn, 1) := by decide +kernel
theorem dX10_age_11 : decode cX10_age 11 = .ok (.aload_n 0, 1) := by decide +kernel
theorem dX10_age_12 : decode cX10_age 12 = .ok (.iload_n 1, 1) := by decide +kernel
theorem dX10_age_13 : decode cX10_age 13 = .ok (.invokevirtual 330, 3) := by decide +kernel
theorem dX10_age_16 : decode cX10_age 16 = .ok (.iconst 0, 1) := by decide +kernel
theorem dX10_age_17 : decode cX10_age 17 = .ok (.istore_n 2, 1) := by decide +kernel
theorem dX10_age_18 : decode cX10_age 18 = .ok (.iload_n 2, 1) := by decide +kernel
theorem dX10_age_19 : decode cX10_age 19 = .ok (.bipush 40, 2) := by decide +kernel
theorem dX10_age_21 : decode cX10_age 21 = .ok (.if_icmp .gt 27, 3) := by decide +kernel
theorem dX10_age_24 : decode cX10_age 24 = .ok (.aload_n 0, 1) := by decide +kernel
theorem dX10_age_25 : decode cX10_age 25 = .ok (.aload_n 0, 1) := by decide +kernel
theorem dX10_age_26 : decode cX10_age 26 = .ok (.iload_n 2, 1) := by decide +kernel
theorem dX10_age_27 : decode cX10_age 27 = .ok (.invokevirtual 213, 3) := by decide +kernel
theorem dX10_age_30 : decode cX10_age 30 = .ok (.putfield 236, 3) := by decide +kernel
theorem dX10_age_33 : decode cX10_age 33 = .ok (.aload_n 0, 1) := by decide +kernel
theorem dX10_age_34 : decode cX10_age 34 = .ok (.invokevirtual 357, 3) := by decide +kernel
theorem dX10_age_37 : decode cX10_age 37 = .ok (.ifCond .ne 5, 3) := by decide +kernel
theorem dX10_age_40 : decode cX10_age 40 = .ok (.iload_n 2, 1) := by decide +kernel
theorem dX10_age_41 : decode cX10_age 41 = .ok (.ireturn, 1) := by decide +kernel
theorem dX10_age_42 : decode cX10_age 42 = .ok (.iinc 2 1, 3) := by decide +kernel
theorem dX10_age_45 : decode cX10_age 45 = .ok (.goto (-27), 3) := by decide +kernel
theorem dX10_age_48 : decode cX10_age 48 = .ok (.iconst (-1), 1) := by decide +kernel
theorem dX10_age_49 : decode cX10_age 49 = .ok (.ireturn, 1) := by decide +kernel
theorem dX10_isOut_0 : decode cX10_isOut 0 = .ok (.iload_n 2, 1) := by decide +kernel
theorem dX10_isOut_1 : decode cX10_isOut 1 = .ok (.iconst 1, 1) := by decide +kernel
theorem dX10_isOut_2 : decode cX10_isOut 2 = .ok (.iand, 1) := by decide +kernel
theorem dX10_isOut_3 : decode cX10_isOut 3 = .ok (.iconst 1, 1) := by decide +kernel
theorem dX10_isOut_4 : decode cX10_isOut 4 = .ok (.if_icmp .ne 20, 3) := by decide +kernel
theorem dX10_isOut_7 : decode cX10_isOut 7 = .ok (.aload_n 0, 1) := by decide +kernel
theorem dX10_isOut_8 : decode cX10_isOut 8 = .ok (.getfield 23, 3) := by decide +kernel
theorem dX10_isOut_11 : decode cX10_isOut 11 = .ok (.iconst 5, 1) := by decide +kernel
theorem dX10_isOut_12 : decode cX10_isOut 12 = .ok (.iload_n 1, 1) := by decide +kernel
theorem dX10_isOut_13 : decode cX10_isOut 13 = .ok (.imul, 1) := by decide +kernel
theorem dX10_isOut_14 : decode cX10_isOut 14 = .ok (.iaload, 1) := by decide +kernel
theorem dX10_isOut_15 : decode cX10_isOut 15 = .ok (.bipush 30, 2) := by decide +kernel
theorem dX10_isOut_17 : decode cX10_isOut 17 = .ok (.if_icmp .ge 7, 3) := by decide +kernel
theorem dX10_isOut_20 : decode cX10_isOut 20 = .ok (.iconst 1, 1) := by decide +kernel
theorem dX10_isOut_21 : decode cX10_isOut 21 = .ok (.goto 4, 3) := by decide +kernel
theorem dX10_isOut_24 : decode cX10_isOut 24 = .ok (.iconst 0, 1) := by decide +kernel
theorem dX10_isOut_25 : decode cX10_isOut 25 = .ok (.istore_n 3, 1) := by decide +kernel
theorem dX10_isOut_26 : decode cX10_isOut 26 = .ok (.iload_n 2, 1) := by decide +kernel
theorem dX10_isOut_27 : decode cX10_isOut 27 = .ok (.iconst 2, 1) := by decide +kernel
theorem dX10_isOut_28 : decode cX10_isOut 28 = .ok (.iand, 1) := by decide +kernel
theorem dX10_isOut_29 : decode cX10_isOut 29 = .ok (.iconst 2, 1) := by decide +kernel
theorem dX10_isOut_30 : decode cX10_isOut 30 = .ok (.if_icmp .ne 20, 3) := by decide +kernel
theorem dX10_isOut_33 : decode cX10_isOut 33 = .ok (.aload_n 0, 1) := by decide +kernel
theorem dX10_isOut_34 : decode cX10_isOut 34 = .ok (.getfield 23, 3) := by decide +kernel
theorem dX10_isOut_37 : decode cX10_isOut 37 = .ok (.iconst 5, 1) := by decide +kernel
theorem dX10_isOut_38 : decode cX10_isOut 38 = .ok (.iload_n 1, 1) := by decide +kernel
theorem dX10_isOut_39 : decode cX10_isOut 39 = .ok (.imul, 1) := by decide +kernel
theorem dX10_isOut_40 : decode cX10_isOut 40 = .ok (.iaload, 1) := by decide +kernel
theorem dX10_isOut_41 : decode cX10_isOut 41 = .ok (.bipush 90, 2) := by decide +kernel
theorem dX10_isOut_43 : decode cX10_isOut 43 = .ok (.if_icmp .le 7, 3) := by decide +kernel
theorem dX10_isOut_46 : decode cX10_isOut 46 = .ok (.iconst 1, 1) := by decide +kernel
theorem dX10_isOut_47 : decode cX10_isOut 47 = .ok (.goto 4, 3) := by decide +kernel
theorem dX10_isOut_50 : decode cX10_isOut 50 = .ok (.iconst 0, 1) := by decide +kernel
theorem dX10_isOut_51 : decode cX10_isOut 51 = .ok (.istore 4, 2) := by decide +kernel
theorem dX10_isOut_53 : decode cX10_isOut 53 = .ok (.iload_n 3, 1) := by decide +kernel
theorem dX10_isOut_54 : decode cX10_isOut 54 = .ok (.ifCond .ne 26, 3) := by decide +kernel
theorem dX10_isOut_57 : decode cX10_isOut 57 = .ok (.iload 4, 2) := by decide +kernel
theorem dX10_isOut_59 : decode cX10_isOut 59 = .ok (.ifCond .ne 21, 3) := by decide +kernel
theorem dX10_isOut_62 : decode cX10_isOut 62 = .ok (.iload_n 2, 1) := by decide +kernel
theorem dX10_isOut_63 : decode cX10_isOut 63 = .ok (.bipush 32, 2) := by decide +kernel
theorem dX10_isOut_65 : decode cX10_isOut 65 = .ok (.iand, 1) := by decide +kernel
theorem dX10_isOut_66 : decode cX10_isOut 66 = .ok (.bipush 32, 2) := by decide +kernel
theorem dX10_isOut_68 : decode cX10_isOut 68 = .ok (.if_icmp .ne 16, 3) := by decide +kernel
theorem dX10_isOut_71 : decode cX10_isOut 71 = .ok (.aload_n 0, 1) := by decide +kernel
theorem dX10_isOut_72 : decode cX10_isOut 72 = .ok (.invokevirtual 192, 3) := by decide +kernel
theorem dX10_isOut_75 : decode cX10_isOut 75 = .ok (.bipush 50, 2) := by decide +kernel
theorem dX10_isOut_77 : decode cX10_isOut 77 = .ok (.if_icmp .lt 7, 3) := by decide +kernel
theorem dX10_isOut_80 : decode cX10_isOut 80 = .ok (.iconst 1, 1) := by decide +kernel
theorem dX10_isOut_81 : decode cX10_isOut 81 = .ok (.goto 4, 3) := by decide +kernel
theorem dX10_isOut_84 : decode cX10_isOut 84 = .ok (.iconst 0, 1) := by decide +kernel
theorem dX10_isOut_85 : decode cX10_isOut 85 = .ok (.ireturn, 1) := by decide +kernel
theorem dX10_findFarthest_0 : decode cX10_findFarthest 0 = .ok (.iconst 0, 1) := by decide +kernel
theorem dX10_findFarthest_1 : decode cX10_findFarthest 1 = .ok (.istore_n 1, 1) := by decide +kernel
theorem dX10_findFarthest_2 : decode cX10_findFarthest 2 = .ok (.iload_n 1, 1) := by decide +kernel
theorem dX10_findFarthest_3 : decode cX10_findFarthest 3 = .ok (.aload_n 0, 1) := by decide +kernel
theorem dX10_findFarthest_4 : decode cX10_findFarthest 4 = .ok (.getfield 78, 3) := by decide +kernel
theorem dX10_findFarthest_7 : decode cX10_findFarthest 7 = .ok (.if_icmp .ge 36, 3) := by decide +kernel
theorem dX10_findFarthest_10 : decode cX10_findFarthest 10 = .ok (.aload_n 0, 1) := by decide +kernel
theorem dX10_findFarthest_11 : decode cX10_findFarthest 11 = .ok (.iload_n 1, 1) := by decide +kernel
theorem dX10_findFarthest_12 : decode cX10_findFarthest 12 = .ok (.invokevirtual 330, 3) := by decide +kernel
theorem dX10_findFarthest_15 : decode cX10_findFarthest 15 = .ok (.aload_n 0, 1) := by decide +kernel
theorem dX10_findFarthest_16 : decode cX10_findFarthest 16 = .ok (.iconst 0, 1) := by decide +kernel
theorem dX10_findFarthest_17 : decode cX10_findFarthest 17 = .ok (.invokevirtual 339, 3) := by decide +kernel
theorem dX10_findFarthest_20 : decode cX10_findFarthest 20 = .ok (.istore_n 2, 1) := by decide +kernel
theorem dX10_findFarthest_21 : decode cX10_findFarthest 21 = .ok (.aload_n 0, 1) := by decide +kernel
theorem dX10_findFarthest_22 : decode cX10_findFarthest 22 = .ok (.getfield 60, 3) := by decide +kernel
theorem dX10_findFarthest_25 : decode cX10_findFarthest 25 = .ok (.iload_n 1, 1) := by decide +kernel
theorem dX10_findFarthest_26 : decode cX10_findFarthest 26 = .ok (.iload_n 2, 1) := by decide +kernel
theorem dX10_findFarthest_27 : decode cX10_findFarthest 27 = .ok (.ifCond .ge 8, 3) := by decide +kernel
theorem dX10_findFarthest_30 : decode cX10_findFarthest 30 = .ok (.bipush 20, 2) := by decide +kernel
theorem dX10_findFarthest_32 : decode cX10_findFarthest 32 = .ok (.goto 4, 3) := by decide +kernel
theorem dX10_findFarthest_35 : decode cX10_findFarthest 35 = .ok (.iload_n 2, 1) := by decide +kernel
theorem dX10_findFarthest_36 : decode cX10_findFarthest 36 = .ok (.iastore, 1) := by decide +kernel
theorem dX10_findFarthest_37 : decode cX10_findFarthest 37 = .ok (.iinc 1 1, 3) := by decide +kernel
theorem dX10_findFarthest_40 : decode cX10_findFarthest 40 = .ok (.goto (-38), 3) := by decide +kernel
theorem dX10_findFarthest_43 : decode cX10_findFarthest 43 = .ok (.return_, 1) := by decide +kernel
theorem dX10_harmedBy_0 : decode cX10_harmedBy 0 = .ok (.iconst 0, 1) := by decide +kernel
theorem dX10_harmedBy_1 : decode cX10_harmedBy 1 = .ok (.istore_n 2, 1) := by decide +kernel
theorem dX10_harmedBy_2 : decode cX10_harmedBy 2 = .ok (.iconst 0, 1) := by decide +kernel
theorem dX10_harmedBy_3 : decode cX10_harmedBy 3 = .ok (.istore_n 3, 1) := by decide +kernel
theorem dX10_harmedBy_4 : decode cX10_harmedBy 4 = .ok (.iload_n 3, 1) := by decide +kernel
theorem dX10_harmedBy_5 : decode cX10_harmedBy 5 = .ok (.aload_n 0, 1) := by decide +kernel
theorem dX10_harmedBy_6 : decode cX10_harmedBy 6 = .ok (.getfield 78, 3) := by decide +kernel
theorem dX10_harmedBy_9 : decode cX10_harmedBy 9 = .ok (.if_icmp .ge 119, 3) := by decide +kernel
theorem dX10_harmedBy_12 : decode cX10_harmedBy 12 = .ok (.aload_n 0, 1) := by decide +kernel
theorem dX10_harmedBy_13 : decode cX10_harmedBy 13 = .ok (.invokevirtual 268, 3) := by decide +kernel
theorem dX10_harmedBy_16 : decode cX10_harmedBy 16 = .ok (.aload_n 0, 1) := by decide +kernel
theorem dX10_harmedBy_17 : decode cX10_harmedBy 17 = .ok (.iload_n 3, 1) := by decide +kernel
theorem dX10_harmedBy_18 : decode cX10_harmedBy 18 = .ok (.invokevirtual 271, 3) := by decide +kernel
theorem dX10_harmedBy_21 : decode cX10_harmedBy 21 = .ok (.aload_n 0, 1) := by decide +kernel
theorem dX10_harmedBy_22 : decode cX10_harmedBy 22 = .ok (.iload_n 1, 1) := by decide +kernel
theorem dX10_harmedBy_23 : decode cX10_harmedBy 23 = .ok (.iconst 4, 1) := by decide +kernel
theorem dX10_harmedBy_24 : decode cX10_harmedBy 24 = .ok (.iand, 1) := by decide +kernel
theorem dX10_harmedBy_25 : decode cX10_harmedBy 25 = .ok (.iconst 4, 1) := by decide +kernel
theorem dX10_harmedBy_26 : decode cX10_harmedBy 26 = .ok (.if_icmp .ne 7, 3) := by decide +kernel
theorem dX10_harmedBy_29 : decode cX10_harmedBy 29 = .ok (.iconst 0, 1) := by decide +kernel
theorem dX10_harmedBy_30 : decode cX10_harmedBy 30 = .ok (.goto 7, 3) := by decide +kernel
theorem dX10_harmedBy_33 : decode cX10_harmedBy 33 = .ok (.aload_n 0, 1) := by decide +kernel
theorem dX10_harmedBy_34 : decode cX10_harmedBy 34 = .ok (.getfield 233, 3) := by decide +kernel
theorem dX10_harmedBy_37 : decode cX10_harmedBy 37 = .ok (.putfield 233, 3) := by decide +kernel
theorem dX10_harmedBy_40 : decode cX10_harmedBy 40 = .ok (.aload_n 0, 1) := by decide +kernel
theorem dX10_harmedBy_41 : decode cX10_harmedBy 41 = .ok (.iload_n 1, 1) := by decide +kernel
theorem dX10_harmedBy_42 : decode cX10_harmedBy 42 = .ok (.bipush 8, 2) := by decide +kernel
theorem dX10_harmedBy_44 : decode cX10_harmedBy 44 = .ok (.iand, 1) := by decide +kernel
theorem dX10_harmedBy_45 : decode cX10_harmedBy 45 = .ok (.bipush 8, 2) := by decide +kernel
theorem dX10_harmedBy_47 : decode cX10_harmedBy 47 = .ok (.if_icmp .ne 11, 3) := by decide +kernel
theorem dX10_harmedBy_50 : decode cX10_harmedBy 50 = .ok (.aload_n 0, 1) := by decide +kernel
theorem dX10_harmedBy_51 : decode cX10_harmedBy 51 = .ok (.iconst 0, 1) := by decide +kernel
theorem dX10_harmedBy_52 : decode cX10_harmedBy 52 = .ok (.invokevirtual 213, 3) := by decide +kernel
theorem dX10_harmedBy_55 : decode cX10_harmedBy 55 = .ok (.goto 7, 3) := by decide +kernel
theorem dX10_harmedBy_58 : decode cX10_harmedBy 58 = .ok (.aload_n 0, 1) := by decide +kernel
theorem dX10_harmedBy_59 : decode cX10_harmedBy 59 = .ok (.getfield 236, 3) := by decide +kernel
theorem dX10_harmedBy_62 : decode cX10_harmedBy 62 = .ok (.putfield 236, 3) := by decide +kernel
theorem dX10_harmedBy_65 : decode cX10_harmedBy 65 = .ok (.aload_n 0, 1) := by decide +kernel
theorem dX10_harmedBy_66 : decode cX10_harmedBy 66 = .ok (.iload_n 1, 1) := by decide +kernel
theorem dX10_harmedBy_67 : decode cX10_harmedBy 67 = .ok (.bipush 16, 2) := by decide +kernel
theorem dX10_harmedBy_69 : decode cX10_harmedBy 69 = .ok (.iand, 1) := by decide +kernel
theorem dX10_harmedBy_70 : decode cX10_harmedBy 70 = .ok (.bipush 16, 2) := by decide +kernel
theorem dX10_harmedBy_72 : decode cX10_harmedBy 72 = .ok (.if_icmp .ne 7, 3) := by decide +kernel
theorem dX10_harmedBy_75 : decode cX10_harmedBy 75 = .ok (.iconst 0, 1) := by decide +kernel
theorem dX10_harmedBy_76 : decode cX10_harmedBy 76 = .ok (.goto 7, 3) := by decide +kernel
theorem dX10_harmedBy_79 : decode cX10_harmedBy 79 = .ok (.aload_n 0, 1) := by decide +kernel
theorem dX10_harmedBy_80 : decode cX10_harmedBy 80 = .ok (.getfield 248, 3) := by decide +kernel
theorem dX10_harmedBy_83 : decode cX10_harmedBy 83 = .ok (.putfield 248, 3) := by decide +kernel
theorem dX10_harmedBy_86 : decode cX10_harmedBy 86 = .ok (.aload_n 0, 1) := by decide +kernel
theorem dX10_harmedBy_87 : decode cX10_harmedBy 87 = .ok (.invokevirtual 275, 3) := by decide +kernel
theorem dX10_harmedBy_90 : decode cX10_harmedBy 90 = .ok (.iload_n 2, 1) := by decide +kernel
theorem dX10_harmedBy_91 : decode cX10_harmedBy 91 = .ok (.aload_n 0, 1) := by decide +kernel
theorem dX10_harmedBy_92 : decode cX10_harmedBy 92 = .ok (.iload_n 3, 1) := by decide +kernel
theorem dX10_harmedBy_93 : decode cX10_harmedBy 93 = .ok (.iload_n 1, 1) := by decide +kernel
theorem dX10_harmedBy_94 : decode cX10_harmedBy 94 = .ok (.invokevirtual 364, 3) := by decide +kernel
theorem dX10_harmedBy_97 : decode cX10_harmedBy 97 = .ok (.ifCond .ne 16, 3) := by decide +kernel
theorem dX10_harmedBy_100 : decode cX10_harmedBy 100 = .ok (.aload_n 0, 1) := by decide +kernel
theorem dX10_harmedBy_101 : decode cX10_harmedBy 101 = .ok (.aload_n 0, 1) := by decide +kernel
theorem dX10_harmedBy_102 : decode cX10_harmedBy 102 = .ok (.getfield 60, 3) := by decide +kernel
theorem dX10_harmedBy_105 : decode cX10_harmedBy 105 = .ok (.iload_n 3, 1) := by decide +kernel
theorem dX10_harmedBy_106 : decode cX10_harmedBy 106 = .ok (.iaload, 1) := by decide +kernel
theorem dX10_harmedBy_107 : decode cX10_harmedBy 107 = .ok (.invokevirtual 336, 3) := by decide +kernel
theorem dX10_harmedBy_110 : decode cX10_harmedBy 110 = .ok (.ifCond .eq 7, 3) := by decide +kernel
theorem dX10_harmedBy_113 : decode cX10_harmedBy 113 = .ok (.iconst 0, 1) := by decide +kernel
theorem dX10_harmedBy_114 : decode cX10_harmedBy 114 = .ok (.goto 6, 3) := by decide +kernel
theorem dX10_harmedBy_117 : decode cX10_harmedBy 117 = .ok (.iconst 1, 1) := by decide +kernel
theorem dX10_harmedBy_118 : decode cX10_harmedBy 118 = .ok (.iload_n 3, 1) := by decide +kernel
theorem dX10_harmedBy_119 : decode cX10_harmedBy 119 = .ok (.ishl, 1) := by decide +kernel
theorem dX10_harmedBy_120 : decode cX10_harmedBy 120 = .ok (.ior, 1) := by decide +kernel
theorem dX10_harmedBy_121 : decode cX10_harmedBy 121 = .ok (.istore_n 2, 1) := by decide +kernel
theorem dX10_harmedBy_122 : decode cX10_harmedBy 122 = .ok (.iinc 3 1, 3) := by decide +kernel
theorem dX10_harmedBy_125 : decode cX10_harmedBy 125 = .ok (.goto (-121), 3) := by decide +kernel
theorem dX10_harmedBy_128 : decode cX10_harmedBy 128 = .ok (.iload_n 2, 1) := by decide +kernel
theorem dX10_harmedBy_129 : decode cX10_harmedBy 129 = .ok (.ireturn, 1) := by decide +kernel
theorem dX10_harmed_0 : decode cX10_harmed 0 = .ok (.iload_n 1, 1) := by decide +kernel
theorem dX10_harmed_1 : decode cX10_harmed 1 = .ok (.i2l, 1) := by decide +kernel
theorem dX10_harmed_2 : decode cX10_harmed 2 = .ok (.lconst 0, 1) := by decide +kernel
theorem dX10_harmed_3 : decode cX10_harmed 3 = .ok (.ldc2_w 368, 3) := by decide +kernel
theorem dX10_harmed_6 : decode cX10_harmed 6 = .ok (.invokestatic 81, 3) := by decide +kernel
theorem dX10_harmed_9 : decode cX10_harmed 9 = .ok (.ifCond .ne 6, 3) := by decide +kernel
theorem dX10_harmed_12 : decode cX10_harmed 12 = .ok (.ldc 87, 2) := by decide +kernel
theorem dX10_harmed_14 : decode cX10_harmed 14 = .ok (.ireturn, 1) := by decide +kernel
theorem dX10_harmed_15 : decode cX10_harmed 15 = .ok (.aload_n 0, 1) := by decide +kernel
theorem dX10_harmed_16 : decode cX10_harmed 16 = .ok (.invokevirtual 370, 3) := by decide +kernel
theorem dX10_harmed_19 : decode cX10_harmed 19 = .ok (.aload_n 0, 1) := by decide +kernel
theorem dX10_harmed_20 : decode cX10_harmed 20 = .ok (.iload_n 1, 1) := by decide +kernel
theorem dX10_harmed_21 : decode cX10_harmed 21 = .ok (.invokevirtual 373, 3) := by decide +kernel
theorem dX10_harmed_24 : decode cX10_harmed 24 = .ok (.ireturn, 1) := by decide +kernel
theorem dX10_bits_0 : decode cX10_bits 0 = .ok (.iconst 0, 1) := by decide +kernel
theorem dX10_bits_1 : decode cX10_bits 1 = .ok (.istore_n 1, 1) := by decide +kernel
theorem dX10_bits_2 : decode cX10_bits 2 = .ok (.iconst 0, 1) := by decide +kernel
theorem dX10_bits_3 : decode cX10_bits 3 = .ok (.istore_n 2, 1) := by decide +kernel
theorem dX10_bits_4 : decode cX10_bits 4 = .ok (.iload_n 2, 1) := by decide +kernel
theorem dX10_bits_5 : decode cX10_bits 5 = .ok (.bipush 6, 2) := by decide +kernel
theorem dX10_bits_7 : decode cX10_bits 7 = .ok (.if_icmp .ge 17, 3) := by decide +kernel
theorem dX10_bits_10 : decode cX10_bits 10 = .ok (.iload_n 1, 1) := by decide +kernel
theorem dX10_bits_11 : decode cX10_bits 11 = .ok (.iload_n 0, 1) := by decide +kernel
theorem dX10_bits_12 : decode cX10_bits 12 = .ok (.iload_n 2, 1) := by decide +kernel
theorem dX10_bits_13 : decode cX10_bits 13 = .ok (.ishr, 1) := by decide +kernel
theorem dX10_bits_14 : decode cX10_bits 14 = .ok (.iconst 1, 1) := by decide +kernel
theorem dX10_bits_15 : decode cX10_bits 15 = .ok (.iand, 1) := by decide +kernel
theorem dX10_bits_16 : decode cX10_bits 16 = .ok (.iadd, 1) := by decide +kernel
theorem dX10_bits_17 : decode cX10_bits 17 = .ok (.istore_n 1, 1) := by decide +kernel
theorem dX10_bits_18 : decode cX10_bits 18 = .ok (.iinc 2 1, 3) := by decide +kernel
theorem dX10_bits_21 : decode cX10_bits 21 = .ok (.goto (-17), 3) := by decide +kernel
theorem dX10_bits_24 : decode cX10_bits 24 = .ok (.iload_n 1, 1) := by decide +kernel
theorem dX10_bits_25 : decode cX10_bits 25 = .ok (.ireturn, 1) := by decide +kernel
theorem dX10_enough_0 : decode cX10_enough 0 = .ok (.aload_n 0, 1) := by decide +kernel
theorem dX10_enough_1 : decode cX10_enough 1 = .ok (.invokevirtual 370, 3) := by decide +kernel
theorem dX10_enough_4 : decode cX10_enough 4 = .ok (.iconst (-1), 1) := by decide +kernel
theorem dX10_enough_5 : decode cX10_enough 5 = .ok (.istore_n 1, 1) := by decide +kernel
theorem dX10_enough_6 : decode cX10_enough 6 = .ok (.iconst 0, 1) := by decide +kernel
theorem dX10_enough_7 : decode cX10_enough 7 = .ok (.istore_n 2, 1) := by decide +kernel
theorem dX10_enough_8 : decode cX10_enough 8 = .ok (.iload_n 2, 1) := by decide +kernel
theorem dX10_enough_9 : decode cX10_enough 9 = .ok (.bipush 64, 2) := by decide +kernel
theorem dX10_enough_11 : decode cX10_enough 11 = .ok (.if_icmp .ge 48, 3) := by decide +kernel
theorem dX10_enough_14 : decode cX10_enough 14 = .ok (.iload_n 1, 1) := by decide +kernel
theorem dX10_enough_15 : decode cX10_enough 15 = .ok (.ifCond .lt 14, 3) := by decide +kernel
theorem dX10_enough_18 : decode cX10_enough 18 = .ok (.iload_n 2, 1) := by decide +kernel
theorem dX10_enough_19 : decode cX10_enough 19 = .ok (.invokestatic 376, 3) := by decide +kernel
theorem dX10_enough_22 : decode cX10_enough 22 = .ok (.iload_n 1, 1) := by decide +kernel
theorem dX10_enough_23 : decode cX10_enough 23 = .ok (.invokestatic 376, 3) := by decide +kernel
theorem dX10_enough_26 : decode cX10_enough 26 = .ok (.if_icmp .ge 7, 3) := by decide +kernel
theorem dX10_enough_29 : decode cX10_enough 29 = .ok (.iconst 1, 1) := by decide +kernel
theorem dX10_enough_30 : decode cX10_enough 30 = .ok (.goto 4, 3) := by decide +kernel
theorem dX10_enough_33 : decode cX10_enough 33 = .ok (.iconst 0, 1) := by decide +kernel
theorem dX10_enough_34 : decode cX10_enough 34 = .ok (.istore_n 3, 1) := by decide +kernel
theorem dX10_enough_35 : decode cX10_enough 35 = .ok (.iload_n 3, 1) := by decide +kernel
theorem dX10_enough_36 : decode cX10_enough 36 = .ok (.ifCond .eq 15, 3) := by decide +kernel
theorem dX10_enough_39 : decode cX10_enough 39 = .ok (.aload_n 0, 1) := by decide +kernel
theorem dX10_enough_40 : decode cX10_enough 40 = .ok (.iload_n 2, 1) := by decide +kernel
theorem dX10_enough_41 : decode cX10_enough 41 = .ok (.invokevirtual 373, 3) := by decide +kernel
theorem dX10_enough_44 : decode cX10_enough 44 = .ok (.ifCond .ne 7, 3) := by decide +kernel
theorem dX10_enough_47 : decode cX10_enough 47 = .ok (.iload_n 2, 1) := by decide +kernel
theorem dX10_enough_48 : decode cX10_enough 48 = .ok (.goto 4, 3) := by decide +kernel
theorem dX10_enough_51 : decode cX10_enough 51 = .ok (.iload_n 1, 1) := by decide +kernel
theorem dX10_enough_52 : decode cX10_enough 52 = .ok (.istore_n 1, 1) := by decide +kernel
theorem dX10_enough_53 : decode cX10_enough 53 = .ok (.iinc 2 1, 3) := by decide +kernel
theorem dX10_enough_56 : decode cX10_enough 56 = .ok (.goto (-48), 3) := by decide +kernel
theorem dX10_enough_59 : decode cX10_enough 59 = .ok (.iload_n 1, 1) := by decide +kernel
theorem dX10_enough_60 : decode cX10_enough 60 = .ok (.ireturn, 1) := by decide +kernel
theorem dX10_seed_0 : decode cX10_seed 0 = .ok (.iload_n 1, 1) := by decide +kernel
theorem dX10_seed_1 : decode cX10_seed 1 = .ok (.ifCond .ge 6, 3) := by decide +kernel
theorem dX10_seed_4 : decode cX10_seed 4 = .ok (.ldc 87, 2) := by decide +kernel
theorem dX10_seed_6 : decode cX10_seed 6 = .ok (.ireturn, 1) := by decide +kernel
theorem dX10_seed_7 : decode cX10_seed 7 = .ok (.aload_n 0, 1) := by decide +kernel
theorem dX10_seed_8 : decode cX10_seed 8 = .ok (.getfield 379, 3) := by decide +kernel
theorem dX10_seed_11 : decode cX10_seed 11 = .ok (.istore_n 2, 1) := by decide +kernel
theorem dX10_seed_12 : decode cX10_seed 12 = .ok (.aload_n 0, 1) := by decide +kernel
theorem dX10_seed_13 : decode cX10_seed 13 = .ok (.iload_n 1, 1) := by decide +kernel
theorem dX10_seed_14 : decode cX10_seed 14 = .ok (.putfield 379, 3) := by decide +kernel
theorem dX10_seed_17 : decode cX10_seed 17 = .ok (.iload_n 2, 1) := by decide +kernel
theorem dX10_seed_18 : decode cX10_seed 18 = .ok (.ireturn, 1) := by decide +kernel
theorem dX10_draw_0 : decode cX10_draw 0 = .ok (.aload_n 0, 1) := by decide +kernel
theorem dX10_draw_1 : decode cX10_draw 1 = .ok (.aload_n 0, 1) := by decide +kernel
theorem dX10_draw_2 : decode cX10_draw 2 = .ok (.getfield 379, 3) := by decide +kernel
theorem dX10_draw_5 : decode cX10_draw 5 = .ok (.i2l, 1) := by decide +kernel
theorem dX10_draw_6 : decode cX10_draw 6 = .ok (.ldc2_w 382, 3) := by decide +kernel
theorem dX10_draw_9 : decode cX10_draw 9 = .ok (.lmul, 1) := by decide +kernel
theorem dX10_draw_10 : decode cX10_draw 10 = .ok (.ldc2_w 384, 3) := by decide +kernel
theorem dX10_draw_13 : decode cX10_draw 13 = .ok (.ladd, 1) := by decide +kernel
theorem dX10_draw_14 : decode cX10_draw 14 = .ok (.ldc2_w 386, 3) := by decide +kernel
theorem dX10_draw_17 : decode cX10_draw 17 = .ok (.lrem, 1) := by decide +kernel
theorem dX10_draw_18 : decode cX10_draw 18 = .ok (.l2i, 1) := by decide +kernel
theorem dX10_draw_19 : decode cX10_draw 19 = .ok (.putfield 379, 3) := by decide +kernel
theorem dX10_draw_22 : decode cX10_draw 22 = .ok (.aload_n 0, 1) := by decide +kernel
theorem dX10_draw_23 : decode cX10_draw 23 = .ok (.getfield 379, 3) := by decide +kernel
theorem dX10_draw_26 : decode cX10_draw 26 = .ok (.ldc_w 388, 3) := by decide +kernel
theorem dX10_draw_29 : decode cX10_draw 29 = .ok (.idiv, 1) := by decide +kernel
theorem dX10_draw_30 : decode cX10_draw 30 = .ok (.iload_n 1, 1) := by decide +kernel
theorem dX10_draw_31 : decode cX10_draw 31 = .ok (.irem, 1) := by decide +kernel
theorem dX10_draw_32 : decode cX10_draw 32 = .ok (.ireturn, 1) := by decide +kernel
theorem dX10_afternoon_0 : decode cX10_afternoon 0 = .ok (.iload_n 1, 1) := by decide +kernel
theorem dX10_afternoon_1 : decode cX10_afternoon 1 = .ok (.i2l, 1) := by decide +kernel
theorem dX10_afternoon_2 : decode cX10_afternoon 2 = .ok (.lconst 1, 1) := by decide +kernel
theorem dX10_afternoon_3 : decode cX10_afternoon 3 = .ok (.ldc2_w 353, 3) := by decide +kernel
theorem dX10_afternoon_6 : decode cX10_afternoon 6 = .ok (.invokestatic 81, 3) := by decide +kernel
theorem dX10_afternoon_9 : decode cX10_afternoon 9 = .ok (.ifCond .ne 6, 3) := by decide +kernel
theorem dX10_afternoon_12 : decode cX10_afternoon 12 = .ok (.ldc 87, 2) := by decide +kernel
theorem dX10_afternoon_14 : decode cX10_afternoon 14 = .ok (.ireturn, 1) := by decide +kernel
theorem dX10_afternoon_15 : decode cX10_afternoon 15 = .ok (.aload_n 0, 1) := by decide +kernel
theorem dX10_afternoon_16 : decode cX10_afternoon 16 = .ok (.getfield 78, 3) := by decide +kernel
theorem dX10_afternoon_19 : decode cX10_afternoon 19 = .ok (.ifCond .ne 6, 3) := by decide +kernel
theorem dX10_afternoon_22 : decode cX10_afternoon 22 = .ok (.ldc 188, 2) := by decide +kernel
theorem dX10_afternoon_24 : decode cX10_afternoon 24 = .ok (.ireturn, 1) := by decide +kernel
theorem dX10_afternoon_25 : decode cX10_afternoon 25 = .ok (.iconst 0, 1) := by decide +kernel
theorem dX10_afternoon_26 : decode cX10_afternoon 26 = .ok (.istore_n 2, 1) := by decide +kernel
theorem dX10_afternoon_27 : decode cX10_afternoon 27 = .ok (.iconst 0, 1) := by decide +kernel
theorem dX10_afternoon_28 : decode cX10_afternoon 28 = .ok (.istore_n 3, 1) := by decide +kernel
theorem dX10_afternoon_29 : decode cX10_afternoon 29 = .ok (.iload_n 3, 1) := by decide +kernel
theorem dX10_afternoon_30 : decode cX10_afternoon 30 = .ok (.iload_n 1, 1) := by decide +kernel
theorem dX10_afternoon_31 : decode cX10_afternoon 31 = .ok (.if_icmp .ge 57, 3) := by decide +kernel
theorem dX10_afternoon_34 : decode cX10_afternoon 34 = .ok (.aload_n 0, 1) := by decide +kernel
theorem dX10_afternoon_35 : decode cX10_afternoon 35 = .ok (.aload_n 0, 1) := by decide +kernel
theorem dX10_afternoon_36 : decode cX10_afternoon 36 = .ok (.aload_n 0, 1) := by decide +kernel
theorem dX10_afternoon_37 : decode cX10_afternoon 37 = .ok (.getfield 78, 3) := by decide +kernel
theorem dX10_afternoon_40 : decode cX10_afternoon 40 = .ok (.invokevirtual 389, 3) := by decide +kernel
theorem dX10_afternoon_43 : decode cX10_afternoon 43 = .ok (.invokevirtual 330, 3) := by decide +kernel
theorem dX10_afternoon_46 : decode cX10_afternoon 46 = .ok (.iload_n 2, 1) := by decide +kernel
theorem dX10_afternoon_47 : decode cX10_afternoon 47 = .ok (.aload_n 0, 1) := by decide +kernel
theorem dX10_afternoon_48 : decode cX10_afternoon 48 = .ok (.iconst 1, 1) := by decide +kernel
theorem dX10_afternoon_49 : decode cX10_afternoon 49 = .ok (.aload_n 0, 1) := by decide +kernel
theorem dX10_afternoon_50 : decode cX10_afternoon 50 = .ok (.bipush 60, 2) := by decide +kernel
theorem dX10_afternoon_52 : decode cX10_afternoon 52 = .ok (.invokevirtual 389, 3) := by decide +kernel
theorem dX10_afternoon_55 : decode cX10_afternoon 55 = .ok (.iadd, 1) := by decide +kernel
theorem dX10_afternoon_56 : decode cX10_afternoon 56 = .ok (.invokevirtual 336, 3) := by decide +kernel
theorem dX10_afternoon_59 : decode cX10_afternoon 59 = .ok (.ifCond .eq 7, 3) := by decide +kernel
theorem dX10_afternoon_62 : decode cX10_afternoon 62 = .ok (.iconst 1, 1) := by decide +kernel
theorem dX10_afternoon_63 : decode cX10_afternoon 63 = .ok (.goto 4, 3) := by decide +kernel
theorem dX10_afternoon_66 : decode cX10_afternoon 66 = .ok (.iconst 0, 1) := by decide +kernel
theorem dX10_afternoon_67 : decode cX10_afternoon 67 = .ok (.iadd, 1) := by decide +kernel
theorem dX10_afternoon_68 : decode cX10_afternoon 68 = .ok (.istore_n 2, 1) := by decide +kernel
theorem dX10_afternoon_69 : decode cX10_afternoon 69 = .ok (.aload_n 0, 1) := by decide +kernel
theorem dX10_afternoon_70 : decode cX10_afternoon 70 = .ok (.getfield 63, 3) := by decide +kernel
theorem dX10_afternoon_73 : decode cX10_afternoon 73 = .ok (.aload_n 0, 1) := by decide +kernel
theorem dX10_afternoon_74 : decode cX10_afternoon 74 = .ok (.getfield 292, 3) := by decide +kernel
theorem dX10_afternoon_77 : decode cX10_afternoon 77 = .ok (.dup2, 1) := by decide +kernel
theorem dX10_afternoon_78 : decode cX10_afternoon 78 = .ok (.iaload, 1) := by decide +kernel
theorem dX10_afternoon_79 : decode cX10_afternoon 79 = .ok (.iconst 1, 1) := by decide +kernel
theorem dX10_afternoon_80 : decode cX10_afternoon 80 = .ok (.iadd, 1) := by decide +kernel
theorem dX10_afternoon_81 : decode cX10_afternoon 81 = .ok (.iastore, 1) := by decide +kernel
theorem dX10_afternoon_82 : decode cX10_afternoon 82 = .ok (.iinc 3 1, 3) := by decide +kernel
theorem dX10_afternoon_85 : decode cX10_afternoon 85 = .ok (.goto (-56), 3) := by decide +kernel
theorem dX10_afternoon_88 : decode cX10_afternoon 88 = .ok (.iload_n 2, 1) := by decide +kernel
theorem dX10_afternoon_89 : decode cX10_afternoon 89 = .ok (.ireturn, 1) := by decide +kernel
theorem dX10_ends_0 : decode cX10_ends 0 = .ok (.iload_n 1, 1) := by decide +kernel
theorem dX10_ends_1 : decode cX10_ends 1 = .ok (.i2l, 1) := by decide +kernel
theorem dX10_ends_2 : decode cX10_ends 2 = .ok (.lconst 0, 1) := by decide +kernel
theorem dX10_ends_3 : decode cX10_ends 3 = .ok (.ldc2_w 85, 3) := by decide +kernel
theorem dX10_ends_6 : decode cX10_ends 6 = .ok (.invokestatic 81, 3) := by decide +kernel
theorem dX10_ends_9 : decode cX10_ends 9 = .ok (.ifCond .eq 12, 3) := by decide +kernel
theorem dX10_ends_12 : decode cX10_ends 12 = .ok (.aload_n 0, 1) := by decide +kernel
theorem dX10_ends_13 : decode cX10_ends 13 = .ok (.getfield 63, 3) := by decide +kernel
theorem dX10_ends_16 : decode cX10_ends 16 = .ok (.iload_n 1, 1) := by decide +kernel
theorem dX10_ends_17 : decode cX10_ends 17 = .ok (.iaload, 1) := by decide +kernel
theorem dX10_ends_18 : decode cX10_ends 18 = .ok (.goto 5, 3) := by decide +kernel
theorem dX10_ends_21 : decode cX10_ends 21 = .ok (.ldc 87, 2) := by decide +kernel
theorem dX10_ends_23 : decode cX10_ends 23 = .ok (.ireturn, 1) := by decide +kernel
theorem dX10_keep_0 : decode cX10_keep 0 = .ok (.iload_n 1, 1) := by decide +kernel
theorem dX10_keep_1 : decode cX10_keep 1 = .ok (.i2l, 1) := by decide +kernel
theorem dX10_keep_2 : decode cX10_keep 2 = .ok (.lconst 0, 1) := by decide +kernel
theorem dX10_keep_3 : decode cX10_keep 3 = .ok (.lconst 1, 1) := by decide +kernel
theorem dX10_keep_4 : decode cX10_keep 4 = .ok (.invokestatic 81, 3) := by decide +kernel
theorem dX10_keep_7 : decode cX10_keep 7 = .ok (.ifCond .ne 6, 3) := by decide +kernel
theorem dX10_keep_10 : decode cX10_keep 10 = .ok (.ldc 197, 2) := by decide +kernel
theorem dX10_keep_12 : decode cX10_keep 12 = .ok (.ireturn, 1) := by decide +kernel
theorem dX10_keep_13 : decode cX10_keep 13 = .ok (.bipush 20, 2) := by decide +kernel
theorem dX10_keep_15 : decode cX10_keep 15 = .ok (.iload_n 1, 1) := by decide +kernel
theorem dX10_keep_16 : decode cX10_keep 16 = .ok (.imul, 1) := by decide +kernel
theorem dX10_keep_17 : decode cX10_keep 17 = .ok (.istore_n 2, 1) := by decide +kernel
theorem dX10_keep_18 : decode cX10_keep 18 = .ok (.iconst 0, 1) := by decide +kernel
theorem dX10_keep_19 : decode cX10_keep 19 = .ok (.istore_n 3, 1) := by decide +kernel
theorem dX10_keep_20 : decode cX10_keep 20 = .ok (.iload_n 3, 1) := by decide +kernel
theorem dX10_keep_21 : decode cX10_keep 21 = .ok (.iconst 5, 1) := by decide +kernel
theorem dX10_keep_22 : decode cX10_keep 22 = .ok (.if_icmp .ge 23, 3) := by decide +kernel
theorem dX10_keep_25 : decode cX10_keep 25 = .ok (.aload_n 0, 1) := by decide +kernel
theorem dX10_keep_26 : decode cX10_keep 26 = .ok (.getfield 66, 3) := by decide +kernel
theorem dX10_keep_29 : decode cX10_keep 29 = .ok (.iload_n 2, 1) := by decide +kernel
theorem dX10_keep_30 : decode cX10_keep 30 = .ok (.iload_n 3, 1) := by decide +kernel
theorem dX10_keep_31 : decode cX10_keep 31 = .ok (.iadd, 1) := by decide +kernel
theorem dX10_keep_32 : decode cX10_keep 32 = .ok (.aload_n 0, 1) := by decide +kernel
theorem dX10_keep_33 : decode cX10_keep 33 = .ok (.getfield 26, 3) := by decide +kernel
theorem dX10_keep_36 : decode cX10_keep 36 = .ok (.iload_n 3, 1) := by decide +kernel
theorem dX10_keep_37 : decode cX10_keep 37 = .ok (.iaload, 1) := by decide +kernel
theorem dX10_keep_38 : decode cX10_keep 38 = .ok (.iastore, 1) := by decide +kernel
theorem dX10_keep_39 : decode cX10_keep 39 = .ok (.iinc 3 1, 3) := by decide +kernel
theorem dX10_keep_42 : decode cX10_keep 42 = .ok (.goto (-22), 3) := by decide +kernel
theorem dX10_keep_45 : decode cX10_keep 45 = .ok (.aload_n 0, 1) := by decide +kernel
theorem dX10_keep_46 : decode cX10_keep 46 = .ok (.getfield 66, 3) := by decide +kernel
theorem dX10_keep_49 : decode cX10_keep 49 = .ok (.iload_n 2, 1) := by decide +kernel
theorem dX10_keep_50 : decode cX10_keep 50 = .ok (.iconst 5, 1) := by decide +kernel
theorem dX10_keep_51 : decode cX10_keep 51 = .ok (.iadd, 1) := by decide +kernel
theorem dX10_keep_52 : decode cX10_keep 52 = .ok (.aload_n 0, 1) := by decide +kernel
theorem dX10_keep_53 : decode cX10_keep 53 = .ok (.getfield 379, 3) := by decide +kernel
theorem dX10_keep_56 : decode cX10_keep 56 = .ok (.iastore, 1) := by decide +kernel
theorem dX10_keep_57 : decode cX10_keep 57 = .ok (.iconst 0, 1) := by decide +kernel
theorem dX10_keep_58 : decode cX10_keep 58 = .ok (.istore_n 3, 1) := by decide +kernel
theorem dX10_keep_59 : decode cX10_keep 59 = .ok (.iload_n 3, 1) := by decide +kernel
theorem dX10_keep_60 : decode cX10_keep 60 = .ok (.bipush 9, 2) := by decide +kernel
theorem dX10_keep_62 : decode cX10_keep 62 = .ok (.if_icmp .ge 26, 3) := by decide +kernel
theorem dX10_keep_65 : decode cX10_keep 65 = .ok (.aload_n 0, 1) := by decide +kernel
theorem dX10_keep_66 : decode cX10_keep 66 = .ok (.getfield 66, 3) := by decide +kernel
theorem dX10_keep_69 : decode cX10_keep 69 = .ok (.iload_n 2, 1) := by decide +kernel
theorem dX10_keep_70 : decode cX10_keep 70 = .ok (.bipush 6, 2) := by decide +kernel
theorem dX10_keep_72 : decode cX10_keep 72 = .ok (.iadd, 1) := by decide +kernel
theorem dX10_keep_73 : decode cX10_keep 73 = .ok (.iload_n 3, 1) := by decide +kernel
theorem dX10_keep_74 : decode cX10_keep 74 = .ok (.iadd, 1) := by decide +kernel
theorem dX10_keep_75 : decode cX10_keep 75 = .ok (.aload_n 0, 1) := by decide +kernel
theorem dX10_keep_76 : decode cX10_keep 76 = .ok (.getfield 63, 3) := by decide +kernel
theorem dX10_keep_79 : decode cX10_keep 79 = .ok (.iload_n 3, 1) := by decide +kernel
theorem dX10_keep_80 : decode cX10_keep 80 = .ok (.iaload, 1) := by decide +kernel
theorem dX10_keep_81 : decode cX10_keep 81 = .ok (.iastore, 1) := by decide +kernel
theorem dX10_keep_82 : decode cX10_keep 82 = .ok (.iinc 3 1, 3) := by decide +kernel
theorem dX10_keep_85 : decode cX10_keep 85 = .ok (.goto (-26), 3) := by decide +kernel
theorem dX10_keep_88 : decode cX10_keep 88 = .ok (.aload_n 0, 1) := by decide +kernel
theorem dX10_keep_89 : decode cX10_keep 89 = .ok (.getfield 69, 3) := by decide +kernel
theorem dX10_keep_92 : decode cX10_keep 92 = .ok (.iload_n 1, 1) := by decide +kernel
theorem dX10_keep_93 : decode cX10_keep 93 = .ok (.iconst 1, 1) := by decide +kernel
theorem dX10_keep_94 : decode cX10_keep 94 = .ok (.bastore, 1) := by decide +kernel
theorem dX10_keep_95 : decode cX10_keep 95 = .ok (.iconst 1, 1) := by decide +kernel
theorem dX10_keep_96 : decode cX10_keep 96 = .ok (.ireturn, 1) := by decide +kernel
theorem dX10_goBack_0 : decode cX10_goBack 0 = .ok (.iload_n 1, 1) := by decide +kernel
theorem dX10_goBack_1 : decode cX10_goBack 1 = .ok (.i2l, 1) := by decide +kernel
theorem dX10_goBack_2 : decode cX10_goBack 2 = .ok (.lconst 0, 1) := by decide +kernel
theorem dX10_goBack_3 : decode cX10_goBack 3 = .ok (.lconst 1, 1) := by decide +kernel
theorem dX10_goBack_4 : decode cX10_goBack 4 = .ok (.invokestatic 81, 3) := by decide +kernel
theorem dX10_goBack_7 : decode cX10_goBack 7 = .ok (.ifCond .ne 6, 3) := by decide +kernel
theorem dX10_goBack_10 : decode cX10_goBack 10 = .ok (.ldc 197, 2) := by decide +kernel
theorem dX10_goBack_12 : decode cX10_goBack 12 = .ok (.ireturn, 1) := by decide +kernel
theorem dX10_goBack_13 : decode cX10_goBack 13 = .ok (.aload_n 0, 1) := by decide +kernel
theorem dX10_goBack_14 : decode cX10_goBack 14 = .ok (.getfield 69, 3) := by decide +kernel
theorem dX10_goBack_17 : decode cX10_goBack 17 = .ok (.iload_n 1, 1) := by decide +kernel
theorem dX10_goBack_18 : decode cX10_goBack 18 = .ok (.baload, 1) := by decide +kernel
theorem dX10_goBack_19 : decode cX10_goBack 19 = .ok (.ifCond .ne 6, 3) := by decide +kernel
theorem dX10_goBack_22 : decode cX10_goBack 22 = .ok (.ldc 188, 2) := by decide +kernel
theorem dX10_goBack_24 : decode cX10_goBack 24 = .ok (.ireturn, 1) := by decide +kernel
theorem dX10_goBack_25 : decode cX10_goBack 25 = .ok (.bipush 20, 2) := by decide +kernel
theorem dX10_goBack_27 : decode cX10_goBack 27 = .ok (.iload_n 1, 1) := by decide +kernel
theorem dX10_goBack_28 : decode cX10_goBack 28 = .ok (.imul, 1) := by decide +kernel
theorem dX10_goBack_29 : decode cX10_goBack 29 = .ok (.istore_n 2, 1) := by decide +kernel
theorem dX10_goBack_30 : decode cX10_goBack 30 = .ok (.iconst 0, 1) := by decide +kernel
theorem dX10_goBack_31 : decode cX10_goBack 31 = .ok (.istore_n 3, 1) := by decide +kernel
theorem dX10_goBack_32 : decode cX10_goBack 32 = .ok (.iload_n 3, 1) := by decide +kernel
theorem dX10_goBack_33 : decode cX10_goBack 33 = .ok (.iconst 5, 1) := by decide +kernel
theorem dX10_goBack_34 : decode cX10_goBack 34 = .ok (.if_icmp .ge 23, 3) := by decide +kernel
theorem dX10_goBack_37 : decode cX10_goBack 37 = .ok (.aload_n 0, 1) := by decide +kernel
theorem dX10_goBack_38 : decode cX10_goBack 38 = .ok (.getfield 26, 3) := by decide +kernel
theorem dX10_goBack_41 : decode cX10_goBack 41 = .ok (.iload_n 3, 1) := by decide +kernel
theorem dX10_goBack_42 : decode cX10_goBack 42 = .ok (.aload_n 0, 1) := by decide +kernel
theorem dX10_goBack_43 : decode cX10_goBack 43 = .ok (.getfield 66, 3) := by decide +kernel
theorem dX10_goBack_46 : decode cX10_goBack 46 = .ok (.iload_n 2, 1) := by decide +kernel
theorem dX10_goBack_47 : decode cX10_goBack 47 = .ok (.iload_n 3, 1) := by decide +kernel
theorem dX10_goBack_48 : decode cX10_goBack 48 = .ok (.iadd, 1) := by decide +kernel
theorem dX10_goBack_49 : decode cX10_goBack 49 = .ok (.iaload, 1) := by decide +kernel
theorem dX10_goBack_50 : decode cX10_goBack 50 = .ok (.iastore, 1) := by decide +kernel
theorem dX10_goBack_51 : decode cX10_goBack 51 = .ok (.iinc 3 1, 3) := by decide +kernel
theorem dX10_goBack_54 : decode cX10_goBack 54 = .ok (.goto (-22), 3) := by decide +kernel
theorem dX10_goBack_57 : decode cX10_goBack 57 = .ok (.aload_n 0, 1) := by decide +kernel
theorem dX10_goBack_58 : decode cX10_goBack 58 = .ok (.getfield 26, 3) := by decide +kernel
theorem dX10_goBack_61 : decode cX10_goBack 61 = .ok (.iconst 1, 1) := by decide +kernel
theorem dX10_goBack_62 : decode cX10_goBack 62 = .ok (.aload_n 0, 1) := by decide +kernel
theorem dX10_goBack_63 : decode cX10_goBack 63 = .ok (.getfield 26, 3) := by decide +kernel
theorem dX10_goBack_66 : decode cX10_goBack 66 = .ok (.iconst 1, 1) := by decide +kernel
theorem dX10_goBack_67 : decode cX10_goBack 67 = .ok (.iaload, 1) := by decide +kernel
theorem dX10_goBack_68 : decode cX10_goBack 68 = .ok (.aload_n 0, 1) := by decide +kernel
theorem dX10_goBack_69 : decode cX10_goBack 69 = .ok (.getfield 7, 3) := by decide +kernel
theorem dX10_goBack_72 : decode cX10_goBack 72 = .ok (.iconst 1, 1) := by decide +kernel
theorem dX10_goBack_73 : decode cX10_goBack 73 = .ok (.iaload, 1) := by decide +kernel
theorem dX10_goBack_74 : decode cX10_goBack 74 = .ok (.bipush 50, 2) := by decide +kernel
theorem dX10_goBack_76 : decode cX10_goBack 76 = .ok (.isub, 1) := by decide +kernel
theorem dX10_goBack_77 : decode cX10_goBack 77 = .ok (.if_icmp .le 15, 3) := by decide +kernel
theorem dX10_goBack_80 : decode cX10_goBack 80 = .ok (.aload_n 0, 1) := by decide +kernel
theorem dX10_goBack_81 : decode cX10_goBack 81 = .ok (.getfield 7, 3) := by decide +kernel
theorem dX10_goBack_84 : decode cX10_goBack 84 = .ok (.iconst 1, 1) := by decide +kernel
theorem dX10_goBack_85 : decode cX10_goBack 85 = .ok (.iaload, 1) := by decide +kernel
theorem dX10_goBack_86 : decode cX10_goBack 86 = .ok (.bipush 50, 2) := by decide +kernel
theorem dX10_goBack_88 : decode cX10_goBack 88 = .ok (.isub, 1) := by decide +kernel
theorem dX10_goBack_89 : decode cX10_goBack 89 = .ok (.goto 9, 3) := by decide +kernel
theorem dX10_goBack_92 : decode cX10_goBack 92 = .ok (.aload_n 0, 1) := by decide +kernel
theorem dX10_goBack_93 : decode cX10_goBack 93 = .ok (.getfield 26, 3) := by decide +kernel
theorem dX10_goBack_96 : decode cX10_goBack 96 = .ok (.iconst 1, 1) := by decide +kernel
theorem dX10_goBack_97 : decode cX10_goBack 97 = .ok (.iaload, 1) := by decide +kernel
theorem dX10_goBack_98 : decode cX10_goBack 98 = .ok (.iastore, 1) := by decide +kernel
theorem dX10_goBack_99 : decode cX10_goBack 99 = .ok (.aload_n 0, 1) := by decide +kernel
theorem dX10_goBack_100 : decode cX10_goBack 100 = .ok (.aload_n 0, 1) := by decide +kernel
theorem dX10_goBack_101 : decode cX10_goBack 101 = .ok (.getfield 66, 3) := by decide +kernel
theorem dX10_goBack_104 : decode cX10_goBack 104 = .ok (.iload_n 2, 1) := by decide +kernel
theorem dX10_goBack_105 : decode cX10_goBack 105 = .ok (.iconst 5, 1) := by decide +kernel
theorem dX10_goBack_106 : decode cX10_goBack 106 = .ok (.iadd, 1) := by decide +kernel
theorem dX10_goBack_107 : decode cX10_goBack 107 = .ok (.iaload, 1) := by decide +kernel
theorem dX10_goBack_108 : decode cX10_goBack 108 = .ok (.putfield 379, 3) := by decide +kernel
theorem dX10_goBack_111 : decode cX10_goBack 111 = .ok (.iconst 0, 1) := by decide +kernel
theorem dX10_goBack_112 : decode cX10_goBack 112 = .ok (.istore_n 3, 1) := by decide +kernel
theorem dX10_goBack_113 : decode cX10_goBack 113 = .ok (.iload_n 3, 1) := by decide +kernel
theorem dX10_goBack_114 : decode cX10_goBack 114 = .ok (.bipush 9, 2) := by decide +kernel
theorem dX10_goBack_116 : decode cX10_goBack 116 = .ok (.if_icmp .ge 26, 3) := by decide +kernel
theorem dX10_goBack_119 : decode cX10_goBack 119 = .ok (.aload_n 0, 1) := by decide +kernel
theorem dX10_goBack_120 : decode cX10_goBack 120 = .ok (.getfield 63, 3) := by decide +kernel
theorem dX10_goBack_123 : decode cX10_goBack 123 = .ok (.iload_n 3, 1) := by decide +kernel
theorem dX10_goBack_124 : decode cX10_goBack 124 = .ok (.aload_n 0, 1) := by decide +kernel
theorem dX10_goBack_125 : decode cX10_goBack 125 = .ok (.getfield 66, 3) := by decide +kernel
theorem dX10_goBack_128 : decode cX10_goBack 128 = .ok (.iload_n 2, 1) := by decide +kernel
theorem dX10_goBack_129 : decode cX10_goBack 129 = .ok (.bipush 6, 2) := by decide +kernel
theorem dX10_goBack_131 : decode cX10_goBack 131 = .ok (.iadd, 1) := by decide +kernel
theorem dX10_goBack_132 : decode cX10_goBack 132 = .ok (.iload_n 3, 1) := by decide +kernel
theorem dX10_goBack_133 : decode cX10_goBack 133 = .ok (.iadd, 1) := by decide +kernel
theorem dX10_goBack_134 : decode cX10_goBack 134 = .ok (.iaload, 1) := by decide +kernel
theorem dX10_goBack_135 : decode cX10_goBack 135 = .ok (.iastore, 1) := by decide +kernel
theorem dX10_goBack_136 : decode cX10_goBack 136 = .ok (.iinc 3 1, 3) := by decide +kernel
theorem dX10_goBack_139 : decode cX10_goBack 139 = .ok (.goto (-26), 3) := by decide +kernel
theorem dX10_goBack_142 : decode cX10_goBack 142 = .ok (.iconst 1, 1) := by decide +kernel
theorem dX10_goBack_143 : decode cX10_goBack 143 = .ok (.ireturn, 1) := by decide +kernel
theorem dJ6_bitCount_0f7a4_0 : decode cJ6_bitCount_0f7a4 0 = .ok (.iload_n 0, 1) := by decide +kernel
theorem dJ6_bitCount_0f7a4_1 : decode cJ6_bitCount_0f7a4 1 = .ok (.iload_n 0, 1) := by decide +kernel
theorem dJ6_bitCount_0f7a4_2 : decode cJ6_bitCount_0f7a4 2 = .ok (.iconst 1, 1) := by decide +kernel
theorem dJ6_bitCount_0f7a4_3 : decode cJ6_bitCount_0f7a4 3 = .ok (.iushr, 1) := by decide +kernel
theorem dJ6_bitCount_0f7a4_4 : decode cJ6_bitCount_0f7a4 4 = .ok (.ldc_w 265, 3) := by decide +kernel
theorem dJ6_bitCount_0f7a4_7 : decode cJ6_bitCount_0f7a4 7 = .ok (.iand, 1) := by decide +kernel
theorem dJ6_bitCount_0f7a4_8 : decode cJ6_bitCount_0f7a4 8 = .ok (.isub, 1) := by decide +kernel
theorem dJ6_bitCount_0f7a4_9 : decode cJ6_bitCount_0f7a4 9 = .ok (.istore_n 0, 1) := by decide +kernel
theorem dJ6_bitCount_0f7a4_10 : decode cJ6_bitCount_0f7a4 10 = .ok (.iload_n 0, 1) := by decide +kernel
theorem dJ6_bitCount_0f7a4_11 : decode cJ6_bitCount_0f7a4 11 = .ok (.ldc_w 266, 3) := by decide +kernel
theorem dJ6_bitCount_0f7a4_14 : decode cJ6_bitCount_0f7a4 14 = .ok (.iand, 1) := by decide +kernel
theorem dJ6_bitCount_0f7a4_15 : decode cJ6_bitCount_0f7a4 15 = .ok (.iload_n 0, 1) := by decide +kernel
theorem dJ6_bitCount_0f7a4_16 : decode cJ6_bitCount_0f7a4 16 = .ok (.iconst 2, 1) := by decide +kernel
theorem dJ6_bitCount_0f7a4_17 : decode cJ6_bitCount_0f7a4 17 = .ok (.iushr, 1) := by decide +kernel
theorem dJ6_bitCount_0f7a4_18 : decode cJ6_bitCount_0f7a4 18 = .ok (.ldc_w 266, 3) := by decide +kernel
theorem dJ6_bitCount_0f7a4_21 : decode cJ6_bitCount_0f7a4 21 = .ok (.iand, 1) := by decide +kernel
theorem dJ6_bitCount_0f7a4_22 : decode cJ6_bitCount_0f7a4 22 = .ok (.iadd, 1) := by decide +kernel
theorem dJ6_bitCount_0f7a4_23 : decode cJ6_bitCount_0f7a4 23 = .ok (.istore_n 0, 1) := by decide +kernel
theorem dJ6_bitCount_0f7a4_24 : decode cJ6_bitCount_0f7a4 24 = .ok (.iload_n 0, 1) := by decide +kernel
theorem dJ6_bitCount_0f7a4_25 : decode cJ6_bitCount_0f7a4 25 = .ok (.iload_n 0, 1) := by decide +kernel
theorem dJ6_bitCount_0f7a4_26 : decode cJ6_bitCount_0f7a4 26 = .ok (.iconst 4, 1) := by decide +kernel
theorem dJ6_bitCount_0f7a4_27 : decode cJ6_bitCount_0f7a4 27 = .ok (.iushr, 1) := by decide +kernel
theorem dJ6_bitCount_0f7a4_28 : decode cJ6_bitCount_0f7a4 28 = .ok (.iadd, 1) := by decide +kernel
theorem dJ6_bitCount_0f7a4_29 : decode cJ6_bitCount_0f7a4 29 = .ok (.ldc_w 267, 3) := by decide +kernel
theorem dJ6_bitCount_0f7a4_32 : decode cJ6_bitCount_0f7a4 32 = .ok (.iand, 1) := by decide +kernel
theorem dJ6_bitCount_0f7a4_33 : decode cJ6_bitCount_0f7a4 33 = .ok (.istore_n 0, 1) := by decide +kernel
theorem dJ6_bitCount_0f7a4_34 : decode cJ6_bitCount_0f7a4 34 = .ok (.iload_n 0, 1) := by decide +kernel
theorem dJ6_bitCount_0f7a4_35 : decode cJ6_bitCount_0f7a4 35 = .ok (.iload_n 0, 1) := by decide +kernel
theorem dJ6_bitCount_0f7a4_36 : decode cJ6_bitCount_0f7a4 36 = .ok (.bipush 8, 2) := by decide +kernel
theorem dJ6_bitCount_0f7a4_38 : decode cJ6_bitCount_0f7a4 38 = .ok (.iushr, 1) := by decide +kernel
theorem dJ6_bitCount_0f7a4_39 : decode cJ6_bitCount_0f7a4 39 = .ok (.iadd, 1) := by decide +kernel
theorem dJ6_bitCount_0f7a4_40 : decode cJ6_bitCount_0f7a4 40 = .ok (.istore_n 0, 1) := by decide +kernel
theorem dJ6_bitCount_0f7a4_41 : decode cJ6_bitCount_0f7a4 41 = .ok (.iload_n 0, 1) := by decide +kernel
theorem dJ6_bitCount_0f7a4_42 : decode cJ6_bitCount_0f7a4 42 = .ok (.iload_n 0, 1) := by decide +kernel
theorem dJ6_bitCount_0f7a4_43 : decode cJ6_bitCount_0f7a4 43 = .ok (.bipush 16, 2) := by decide +kernel
theorem dJ6_bitCount_0f7a4_45 : decode cJ6_bitCount_0f7a4 45 = .ok (.iushr, 1) := by decide +kernel
theorem dJ6_bitCount_0f7a4_46 : decode cJ6_bitCount_0f7a4 46 = .ok (.iadd, 1) := by decide +kernel
theorem dJ6_bitCount_0f7a4_47 : decode cJ6_bitCount_0f7a4 47 = .ok (.istore_n 0, 1) := by decide +kernel
theorem dJ6_bitCount_0f7a4_48 : decode cJ6_bitCount_0f7a4 48 = .ok (.iload_n 0, 1) := by decide +kernel
theorem dJ6_bitCount_0f7a4_49 : decode cJ6_bitCount_0f7a4 49 = .ok (.bipush 63, 2) := by decide +kernel
theorem dJ6_bitCount_0f7a4_51 : decode cJ6_bitCount_0f7a4 51 = .ok (.iand, 1) := by decide +kernel
theorem dJ6_bitCount_0f7a4_52 : decode cJ6_bitCount_0f7a4 52 = .ok (.ireturn, 1) := by decide +kernel
theorem dJ9_abs_0f7a4_0 : decode cJ9_abs_0f7a4 0 = .ok (.iload_n 0, 1) := by decide +kernel
theorem dJ9_abs_0f7a4_1 : decode cJ9_abs_0f7a4 1 = .ok (.ifCond .ge 8, 3) := by decide +kernel
theorem dJ9_abs_0f7a4_4 : decode cJ9_abs_0f7a4 4 = .ok (.iload_n 0, 1) := by decide +kernel
theorem dJ9_abs_0f7a4_5 : decode cJ9_abs_0f7a4 5 = .ok (.ineg, 1) := by decide +kernel
theorem dJ9_abs_0f7a4_6 : decode cJ9_abs_0f7a4 6 = .ok (.goto 4, 3) := by decide +kernel
theorem dJ9_abs_0f7a4_9 : decode cJ9_abs_0f7a4 9 = .ok (.iload_n 0, 1) := by decide +kernel
theorem dJ9_abs_0f7a4_10 : decode cJ9_abs_0f7a4 10 = .ok (.ireturn, 1) := by decide +kernel
theorem dJ9_max_7cf53_0 : decode cJ9_max_7cf53 0 = .ok (.iload_n 0, 1) := by decide +kernel
theorem dJ9_max_7cf53_1 : decode cJ9_max_7cf53 1 = .ok (.iload_n 1, 1) := by decide +kernel
theorem dJ9_max_7cf53_2 : decode cJ9_max_7cf53 2 = .ok (.if_icmp .lt 7, 3) := by decide +kernel
theorem dJ9_max_7cf53_5 : decode cJ9_max_7cf53 5 = .ok (.iload_n 0, 1) := by decide +kernel
theorem dJ9_max_7cf53_6 : decode cJ9_max_7cf53 6 = .ok (.goto 4, 3) := by decide +kernel
theorem dJ9_max_7cf53_9 : decode cJ9_max_7cf53 9 = .ok (.iload_n 1, 1) := by decide +kernel
theorem dJ9_max_7cf53_10 : decode cJ9_max_7cf53 10 = .ok (.ireturn, 1) := by decide +kernel
theorem dJ9_min_7cf53_0 : decode cJ9_min_7cf53 0 = .ok (.iload_n 0, 1) := by decide +kernel
theorem dJ9_min_7cf53_1 : decode cJ9_min_7cf53 1 = .ok (.iload_n 1, 1) := by decide +kernel
theorem dJ9_min_7cf53_2 : decode cJ9_min_7cf53 2 = .ok (.if_icmp .gt 7, 3) := by decide +kernel
theorem dJ9_min_7cf53_5 : decode cJ9_min_7cf53 5 = .ok (.iload_n 0, 1) := by decide +kernel
theorem dJ9_min_7cf53_6 : decode cJ9_min_7cf53 6 = .ok (.goto 4, 3) := by decide +kernel
theorem dJ9_min_7cf53_9 : decode cJ9_min_7cf53 9 = .ok (.iload_n 1, 1) := by decide +kernel
theorem dJ9_min_7cf53_10 : decode cJ9_min_7cf53 10 = .ok (.ireturn, 1) := by decide +kernel
theorem dJ0_length_8abf5_0 : decode cJ0_length_8abf5 0 = .ok (.aload_n 0, 1) := by decide +kernel
theorem dJ0_length_8abf5_1 : decode cJ0_length_8abf5 1 = .ok (.getfield 9, 3) := by decide +kernel
theorem dJ0_length_8abf5_4 : decode cJ0_length_8abf5 4 = .ok (.arraylength, 1) := by decide +kernel
theorem dJ0_length_8abf5_5 : decode cJ0_length_8abf5 5 = .ok (.aload_n 0, 1) := by decide +kernel
theorem dJ0_length_8abf5_6 : decode cJ0_length_8abf5 6 = .ok (.invokevirtual 335, 3) := by decide +kernel
theorem dJ0_length_8abf5_9 : decode cJ0_length_8abf5 9 = .ok (.ishr, 1) := by decide +kernel
theorem dJ0_length_8abf5_10 : decode cJ0_length_8abf5 10 = .ok (.ireturn, 1) := by decide +kernel
theorem dJ0_charAt_5068e_0 : decode cJ0_charAt_5068e 0 = .ok (.aload_n 0, 1) := by decide +kernel
theorem dJ0_charAt_5068e_1 : decode cJ0_charAt_5068e 1 = .ok (.invokevirtual 492, 3) := by decide +kernel
theorem dJ0_charAt_5068e_4 : decode cJ0_charAt_5068e 4 = .ok (.ifCond .eq 12, 3) := by decide +kernel
theorem dJ0_charAt_5068e_7 : decode cJ0_charAt_5068e 7 = .ok (.aload_n 0, 1) := by decide +kernel
theorem dJ0_charAt_5068e_8 : decode cJ0_charAt_5068e 8 = .ok (.getfield 9, 3) := by decide +kernel
theorem dJ0_charAt_5068e_11 : decode cJ0_charAt_5068e 11 = .ok (.iload_n 1, 1) := by decide +kernel
theorem dJ0_charAt_5068e_12 : decode cJ0_charAt_5068e 12 = .ok (.invokestatic 495, 3) := by decide +kernel
theorem dJ0_charAt_5068e_15 : decode cJ0_charAt_5068e 15 = .ok (.ireturn, 1) := by decide +kernel
theorem dJ0_charAt_5068e_16 : decode cJ0_charAt_5068e 16 = .ok (.aload_n 0, 1) := by decide +kernel
theorem dJ0_charAt_5068e_17 : decode cJ0_charAt_5068e 17 = .ok (.getfield 9, 3) := by decide +kernel
theorem dJ0_charAt_5068e_20 : decode cJ0_charAt_5068e 20 = .ok (.iload_n 1, 1) := by decide +kernel
theorem dJ0_charAt_5068e_21 : decode cJ0_charAt_5068e 21 = .ok (.invokestatic 498, 3) := by decide +kernel
theorem dJ0_charAt_5068e_24 : decode cJ0_charAt_5068e 24 = .ok (.ireturn, 1) := by decide +kernel
theorem dJ0_coder_7d493_0 : decode cJ0_coder_7d493 0 = .ok (.getstatic 38, 3) := by decide +kernel
theorem dJ0_coder_7d493_3 : decode cJ0_coder_7d493 3 = .ok (.ifCond .eq 10, 3) := by decide +kernel
theorem dJ0_coder_7d493_6 : decode cJ0_coder_7d493 6 = .ok (.aload_n 0, 1) := by decide +kernel
theorem dJ0_coder_7d493_7 : decode cJ0_coder_7d493 7 = .ok (.getfield 15, 3) := by decide +kernel
theorem dJ0_coder_7d493_10 : decode cJ0_coder_7d493 10 = .ok (.goto 4, 3) := by decide +kernel
theorem dJ0_coder_7d493_13 : decode cJ0_coder_7d493 13 = .ok (.iconst 1, 1) := by decide +kernel
theorem dJ0_coder_7d493_14 : decode cJ0_coder_7d493 14 = .ok (.ireturn, 1) := by decide +kernel
theorem dJ0_isLatin1_aae02_0 : decode cJ0_isLatin1_aae02 0 = .ok (.getstatic 38, 3) := by decide +kernel
theorem dJ0_isLatin1_aae02_3 : decode cJ0_isLatin1_aae02 3 = .ok (.ifCond .eq 14, 3) := by decide +kernel
theorem dJ0_isLatin1_aae02_6 : decode cJ0_isLatin1_aae02 6 = .ok (.aload_n 0, 1) := by decide +kernel
theorem dJ0_isLatin1_aae02_7 : decode cJ0_isLatin1_aae02 7 = .ok (.getfield 15, 3) := by decide +kernel
theorem dJ0_isLatin1_aae02_10 : decode cJ0_isLatin1_aae02 10 = .ok (.ifCond .ne 7, 3) := by decide +kernel
theorem dJ0_isLatin1_aae02_13 : decode cJ0_isLatin1_aae02 13 = .ok (.iconst 1, 1) := by decide +kernel
theorem dJ0_isLatin1_aae02_14 : decode cJ0_isLatin1_aae02 14 = .ok (.goto 4, 3) := by decide +kernel
theorem dJ0_isLatin1_aae02_17 : decode cJ0_isLatin1_aae02 17 = .ok (.iconst 0, 1) := by decide +kernel
theorem dJ0_isLatin1_aae02_18 : decode cJ0_isLatin1_aae02 18 = .ok (.ireturn, 1) := by decide +kernel
theorem dJ0_checkIndex_df160_0 : decode cJ0_checkIndex_df160 0 = .ok (.iload_n 0, 1) := by decide +kernel
theorem dJ0_checkIndex_df160_1 : decode cJ0_checkIndex_df160 1 = .ok (.iload_n 1, 1) := by decide +kernel
theorem dJ0_checkIndex_df160_2 : decode cJ0_checkIndex_df160 2 = .ok (.getstatic 1053, 3) := by decide +kernel
theorem dJ0_checkIndex_df160_5 : decode cJ0_checkIndex_df160 5 = .ok (.invokestatic 1059, 3) := by decide +kernel
theorem dJ0_checkIndex_df160_8 : decode cJ0_checkIndex_df160 8 = .ok (.pop, 1) := by decide +kernel
theorem dJ0_checkIndex_df160_9 : decode cJ0_checkIndex_df160 9 = .ok (.return_, 1) := by decide +kernel
theorem dJ1_charAt_3b067_0 : decode cJ1_charAt_3b067 0 = .ok (.iload_n 1, 1) := by decide +kernel
theorem dJ1_charAt_3b067_1 : decode cJ1_charAt_3b067 1 = .ok (.aload_n 0, 1) := by decide +kernel
theorem dJ1_charAt_3b067_2 : decode cJ1_charAt_3b067 2 = .ok (.arraylength, 1) := by decide +kernel
theorem dJ1_charAt_3b067_3 : decode cJ1_charAt_3b067 3 = .ok (.invokestatic 9, 3) := by decide +kernel
theorem dJ1_charAt_3b067_6 : decode cJ1_charAt_3b067 6 = .ok (.aload_n 0, 1) := by decide +kernel
theorem dJ1_charAt_3b067_7 : decode cJ1_charAt_3b067 7 = .ok (.iload_n 1, 1) := by decide +kernel
theorem dJ1_charAt_3b067_8 : decode cJ1_charAt_3b067 8 = .ok (.baload, 1) := by decide +kernel
theorem dJ1_charAt_3b067_9 : decode cJ1_charAt_3b067 9 = .ok (.sipush 255, 3) := by decide +kernel
theorem dJ1_charAt_3b067_12 : decode cJ1_charAt_3b067 12 = .ok (.iand, 1) := by decide +kernel
theorem dJ1_charAt_3b067_13 : decode cJ1_charAt_3b067 13 = .ok (.i2c, 1) := by decide +kernel
theorem dJ1_charAt_3b067_14 : decode cJ1_charAt_3b067 14 = .ok (.ireturn, 1) := by decide +kernel
theorem dJ2_getChar_3b067_0 : decode cJ2_getChar_3b067 0 = .ok (.getstatic 44, 3) := by decide +kernel
theorem dJ2_getChar_3b067_3 : decode cJ2_getChar_3b067 3 = .ok (.ifCond .ne 25, 3) := by decide +kernel
theorem dJ2_getChar_3b067_6 : decode cJ2_getChar_3b067 6 = .ok (.iload_n 1, 1) := by decide +kernel
theorem dJ2_getChar_3b067_7 : decode cJ2_getChar_3b067 7 = .ok (.ifCond .lt 11, 3) := by decide +kernel
theorem dJ2_getChar_3b067_10 : decode cJ2_getChar_3b067 10 = .ok (.iload_n 1, 1) := by decide +kernel
theorem dJ2_getChar_3b067_11 : decode cJ2_getChar_3b067 11 = .ok (.aload_n 0, 1) := by decide +kernel
theorem dJ2_getChar_3b067_12 : decode cJ2_getChar_3b067 12 = .ok (.invokestatic 48, 3) := by decide +kernel
theorem dJ2_getChar_3b067_15 : decode cJ2_getChar_3b067 15 = .ok (.if_icmp .lt 13, 3) := by decide +kernel
theorem dJ2_getChar_3b067_18 : decode cJ2_getChar_3b067 18 = .ok (.new 52, 3) := by decide +kernel
theorem dJ2_getChar_3b067_21 : decode cJ2_getChar_3b067 21 = .ok (.dup, 1) := by decide +kernel
theorem dJ2_getChar_3b067_22 : decode cJ2_getChar_3b067 22 = .ok (.ldc 54, 2) := by decide +kernel
theorem dJ2_getChar_3b067_24 : decode cJ2_getChar_3b067 24 = .ok (.invokespecial 56, 3) := by decide +kernel
theorem dJ2_getChar_3b067_27 : decode cJ2_getChar_3b067 27 = .ok (.athrow, 1) := by decide +kernel
theorem dJ2_getChar_3b067_28 : decode cJ2_getChar_3b067 28 = .ok (.iload_n 1, 1) := by decide +kernel
theorem dJ2_getChar_3b067_29 : decode cJ2_getChar_3b067 29 = .ok (.iconst 1, 1) := by decide +kernel
theorem dJ2_getChar_3b067_30 : decode cJ2_getChar_3b067 30 = .ok (.ishl, 1) := by decide +kernel
theorem dJ2_getChar_3b067_31 : decode cJ2_getChar_3b067 31 = .ok (.istore_n 1, 1) := by decide +kernel
theorem dJ2_getChar_3b067_32 : decode cJ2_getChar_3b067 32 = .ok (.aload_n 0, 1) := by decide +kernel
theorem dJ2_getChar_3b067_33 : decode cJ2_getChar_3b067 33 = .ok (.iload_n 1, 1) := by decide +kernel
theorem dJ2_getChar_3b067_34 : decode cJ2_getChar_3b067 34 = .ok (.iinc 1 1, 3) := by decide +kernel
theorem dJ2_getChar_3b067_37 : decode cJ2_getChar_3b067 37 = .ok (.baload, 1) := by decide +kernel
theorem dJ2_getChar_3b067_38 : decode cJ2_getChar_3b067 38 = .ok (.sipush 255, 3) := by decide +kernel
theorem dJ2_getChar_3b067_41 : decode cJ2_getChar_3b067 41 = .ok (.iand, 1) := by decide +kernel
theorem dJ2_getChar_3b067_42 : decode cJ2_getChar_3b067 42 = .ok (.getstatic 59, 3) := by decide +kernel
theorem dJ2_getChar_3b067_45 : decode cJ2_getChar_3b067 45 = .ok (.ishl, 1) := by decide +kernel
theorem dJ2_getChar_3b067_46 : decode cJ2_getChar_3b067 46 = .ok (.aload_n 0, 1) := by decide +kernel
theorem dJ2_getChar_3b067_47 : decode cJ2_getChar_3b067 47 = .ok (.iload_n 1, 1) := by decide +kernel
theorem dJ2_getChar_3b067_48 : decode cJ2_getChar_3b067 48 = .ok (.baload, 1) := by decide +kernel
theorem dJ2_getChar_3b067_49 : decode cJ2_getChar_3b067 49 = .ok (.sipush 255, 3) := by decide +kernel
theorem dJ2_getChar_3b067_52 : decode cJ2_getChar_3b067 52 = .ok (.iand, 1) := by decide +kernel
theorem dJ2_getChar_3b067_53 : decode cJ2_getChar_3b067 53 = .ok (.getstatic 63, 3) := by decide +kernel
theorem dJ2_getChar_3b067_56 : decode cJ2_getChar_3b067 56 = .ok (.ishl, 1) := by decide +kernel
theorem dJ2_getChar_3b067_57 : decode cJ2_getChar_3b067 57 = .ok (.ior, 1) := by decide +kernel
theorem dJ2_getChar_3b067_58 : decode cJ2_getChar_3b067 58 = .ok (.i2c, 1) := by decide +kernel
theorem dJ2_getChar_3b067_59 : decode cJ2_getChar_3b067 59 = .ok (.ireturn, 1) := by decide +kernel
theorem dJ2_length_9d52b_0 : decode cJ2_length_9d52b 0 = .ok (.aload_n 0, 1) := by decide +kernel
theorem dJ2_length_9d52b_1 : decode cJ2_length_9d52b 1 = .ok (.arraylength, 1) := by decide +kernel
theorem dJ2_length_9d52b_2 : decode cJ2_length_9d52b 2 = .ok (.iconst 1, 1) := by decide +kernel
theorem dJ2_length_9d52b_3 : decode cJ2_length_9d52b 3 = .ok (.ishr, 1) := by decide +kernel
theorem dJ2_length_9d52b_4 : decode cJ2_length_9d52b 4 = .ok (.ireturn, 1) := by decide +kernel
theorem dJ2_charAt_3b067_0 : decode cJ2_charAt_3b067 0 = .ok (.iload_n 1, 1) := by decide +kernel
theorem dJ2_charAt_3b067_1 : decode cJ2_charAt_3b067 1 = .ok (.aload_n 0, 1) := by decide +kernel
theorem dJ2_charAt_3b067_2 : decode cJ2_charAt_3b067 2 = .ok (.invokestatic 67, 3) := by decide +kernel
theorem dJ2_charAt_3b067_5 : decode cJ2_charAt_3b067 5 = .ok (.aload_n 0, 1) := by decide +kernel
theorem dJ2_charAt_3b067_6 : decode cJ2_charAt_3b067 6 = .ok (.iload_n 1, 1) := by decide +kernel
theorem dJ2_charAt_3b067_7 : decode cJ2_charAt_3b067 7 = .ok (.invokestatic 71, 3) := by decide +kernel
theorem dJ2_charAt_3b067_10 : decode cJ2_charAt_3b067 10 = .ok (.ireturn, 1) := by decide +kernel
theorem dJ2_checkIndex_2214a_0 : decode cJ2_checkIndex_2214a 0 = .ok (.iload_n 0, 1) := by decide +kernel
theorem dJ2_checkIndex_2214a_1 : decode cJ2_checkIndex_2214a 1 = .ok (.aload_n 1, 1) := by decide +kernel
theorem dJ2_checkIndex_2214a_2 : decode cJ2_checkIndex_2214a 2 = .ok (.invokestatic 48, 3) := by decide +kernel
theorem dJ2_checkIndex_2214a_5 : decode cJ2_checkIndex_2214a 5 = .ok (.invokestatic 414, 3) := by decide +kernel
theorem dJ2_checkIndex_2214a_8 : decode cJ2_checkIndex_2214a 8 = .ok (.return_, 1) := by decide +kernel
theorem dJ7_fill_53178_0 : decode cJ7_fill_53178 0 = .ok (.iconst 0, 1) := by decide +kernel
theorem dJ7_fill_53178_1 : decode cJ7_fill_53178 1 = .ok (.istore_n 2, 1) := by decide +kernel
theorem dJ7_fill_53178_2 : decode cJ7_fill_53178 2 = .ok (.aload_n 0, 1) := by decide +kernel
theorem dJ7_fill_53178_3 : decode cJ7_fill_53178 3 = .ok (.arraylength, 1) := by decide +kernel
theorem dJ7_fill_53178_4 : decode cJ7_fill_53178 4 = .ok (.istore_n 3, 1) := by decide +kernel
theorem dJ7_fill_53178_5 : decode cJ7_fill_53178 5 = .ok (.iload_n 2, 1) := by decide +kernel
theorem dJ7_fill_53178_6 : decode cJ7_fill_53178 6 = .ok (.iload_n 3, 1) := by decide +kernel
theorem dJ7_fill_53178_7 : decode cJ7_fill_53178 7 = .ok (.if_icmp .ge 13, 3) := by decide +kernel
theorem dJ7_fill_53178_10 : decode cJ7_fill_53178 10 = .ok (.aload_n 0, 1) := by decide +kernel
theorem dJ7_fill_53178_11 : decode cJ7_fill_53178 11 = .ok (.iload_n 2, 1) := by decide +kernel
theorem dJ7_fill_53178_12 : decode cJ7_fill_53178 12 = .ok (.iload_n 1, 1) := by decide +kernel
theorem dJ7_fill_53178_13 : decode cJ7_fill_53178 13 = .ok (.iastore, 1) := by decide +kernel
theorem dJ7_fill_53178_14 : decode cJ7_fill_53178 14 = .ok (.iinc 2 1, 3) := by decide +kernel
theorem dJ7_fill_53178_17 : decode cJ7_fill_53178 17 = .ok (.goto (-12), 3) := by decide +kernel
theorem dJ7_fill_53178_20 : decode cJ7_fill_53178 20 = .ok (.return_, 1) := by decide +kernel
theorem dJ3_checkIndex_8e157_0 : decode cJ3_checkIndex_8e157 0 = .ok (.iload_n 0, 1) := by decide +kernel
theorem dJ3_checkIndex_8e157_1 : decode cJ3_checkIndex_8e157 1 = .ok (.ifCond .lt 8, 3) := by decide +kernel
theorem dJ3_checkIndex_8e157_4 : decode cJ3_checkIndex_8e157 4 = .ok (.iload_n 0, 1) := by decide +kernel
theorem dJ3_checkIndex_8e157_5 : decode cJ3_checkIndex_8e157 5 = .ok (.iload_n 1, 1) := by decide +kernel
theorem dJ3_checkIndex_8e157_6 : decode cJ3_checkIndex_8e157 6 = .ok (.if_icmp .lt 10, 3) := by decide +kernel
theorem dJ3_checkIndex_8e157_9 : decode cJ3_checkIndex_8e157 9 = .ok (.aload_n 2, 1) := by decide +kernel
theorem dJ3_checkIndex_8e157_10 : decode cJ3_checkIndex_8e157 10 = .ok (.iload_n 0, 1) := by decide +kernel
theorem dJ3_checkIndex_8e157_11 : decode cJ3_checkIndex_8e157 11 = .ok (.iload_n 1, 1) := by decide +kernel
theorem dJ3_checkIndex_8e157_12 : decode cJ3_checkIndex_8e157 12 = .ok (.invokestatic 95, 3) := by decide +kernel
theorem dJ3_checkIndex_8e157_15 : decode cJ3_checkIndex_8e157 15 = .ok (.athrow, 1) := by decide +kernel
theorem dJ3_checkIndex_8e157_16 : decode cJ3_checkIndex_8e157 16 = .ok (.iload_n 0, 1) := by decide +kernel
theorem dJ3_checkIndex_8e157_17 : decode cJ3_checkIndex_8e157 17 = .ok (.ireturn, 1) := by decide +kernel
theorem dL_law_0 : decode cL_law 0 = .ok (.new 7, 3) := by decide +kernel
theorem dL_law_3 : decode cL_law 3 = .ok (.dup, 1) := by decide +kernel
theorem dL_law_4 : decode cL_law 4 = .ok (.invokespecial 9, 3) := by decide +kernel
theorem dL_law_7 : decode cL_law 7 = .ok (.astore_n 1, 1) := by decide +kernel
theorem dL_law_8 : decode cL_law 8 = .ok (.new 10, 3) := by decide +kernel
theorem dL_law_11 : decode cL_law 11 = .ok (.dup, 1) := by decide +kernel
theorem dL_law_12 : decode cL_law 12 = .ok (.invokespecial 12, 3) := by decide +kernel
theorem dL_law_15 : decode cL_law 15 = .ok (.astore_n 2, 1) := by decide +kernel
theorem dL_law_16 : decode cL_law 16 = .ok (.iconst 0, 1) := by decide +kernel
theorem dL_law_17 : decode cL_law 17 = .ok (.istore_n 3, 1) := by decide +kernel
theorem dL_law_18 : decode cL_law 18 = .ok (.iload_n 3, 1) := by decide +kernel
theorem dL_law_19 : decode cL_law 19 = .ok (.aload_n 0, 1) := by decide +kernel
theorem dL_law_20 : decode cL_law 20 = .ok (.arraylength, 1) := by decide +kernel
theorem dL_law_21 : decode cL_law 21 = .ok (.iconst 4, 1) := by decide +kernel
theorem dL_law_22 : decode cL_law 22 = .ok (.isub, 1) := by decide +kernel
theorem dL_law_23 : decode cL_law 23 = .ok (.if_icmp .gt 971, 3) := by decide +kernel
theorem dL_law_26 : decode cL_law 26 = .ok (.aload_n 0, 1) := by decide +kernel
theorem dL_law_27 : decode cL_law 27 = .ok (.iload_n 3, 1) := by decide +kernel
theorem dL_law_28 : decode cL_law 28 = .ok (.iaload, 1) := by decide +kernel
theorem dL_law_29 : decode cL_law 29 = .ok (.bipush 31, 2) := by decide +kernel
theorem dL_law_31 : decode cL_law 31 = .ok (.iand, 1) := by decide +kernel
theorem dL_law_32 : decode cL_law 32 = .ok (.tableswitch 956 0 29 #[136, 199, 212, 225, 238, 261, 294, 327, 360, 383, 406, 449, 492, 525, 558, 601, 634, 647, 660, 683, 716, 749, 782, 805, 828, 841, 864, 887, 910, 933], 136) := by decide +kernel
theorem dL_law_168 : decode cL_law 168 = .ok (.aload_n 1, 1) := by decide +kernel
theorem dL_law_169 : decode cL_law 169 = .ok (.aload_n 0, 1) := by decide +kernel
theorem dL_law_170 : decode cL_law 170 = .ok (.iload_n 3, 1) := by decide +kernel
theorem dL_law_171 : decode cL_law 171 = .ok (.iconst 1, 1) := by decide +kernel
theorem dL_law_172 : decode cL_law 172 = .ok (.iadd, 1) := by decide +kernel
theorem dL_law_173 : decode cL_law 173 = .ok (.iaload, 1) := by decide +kernel
theorem dL_law_174 : decode cL_law 174 = .ok (.aload_n 0, 1) := by decide +kernel
theorem dL_law_175 : decode cL_law 175 = .ok (.iload_n 3, 1) := by decide +kernel
theorem dL_law_176 : decode cL_law 176 = .ok (.iconst 2, 1) := by decide +kernel
theorem dL_law_177 : decode cL_law 177 = .ok (.iadd, 1) := by decide +kernel
theorem dL_law_178 : decode cL_law 178 = .ok (.iaload, 1) := by decide +kernel
theorem dL_law_179 : decode cL_law 179 = .ok (.i2l, 1) := by decide +kernel
theorem dL_law_180 : decode cL_law 180 = .ok (.bipush 32, 2) := by decide +kernel
theorem dL_law_182 : decode cL_law 182 = .ok (.lshl, 1) := by decide +kernel
theorem dL_law_183 : decode cL_law 183 = .ok (.aload_n 0, 1) := by decide +kernel
theorem dL_law_184 : decode cL_law 184 = .ok (.iload_n 3, 1) := by decide +kernel
theorem dL_law_185 : decode cL_law 185 = .ok (.iconst 3, 1) := by decide +kernel
theorem dL_law_186 : decode cL_law 186 = .ok (.iadd, 1) := by decide +kernel
theorem dL_law_187 : decode cL_law 187 = .ok (.iaload, 1) := by decide +kernel
theorem dL_law_188 : decode cL_law 188 = .ok (.i2l, 1) := by decide +kernel
theorem dL_law_189 : decode cL_law 189 = .ok (.ldc2_w 13, 3) := by decide +kernel
theorem dL_law_192 : decode cL_law 192 = .ok (.land, 1) := by decide +kernel
theorem dL_law_193 : decode cL_law 193 = .ok (.lor, 1) := by decide +kernel
theorem dL_law_194 : decode cL_law 194 = .ok (.invokevirtual 15, 3) := by decide +kernel
theorem dL_law_197 : decode cL_law 197 = .ok (.aload_n 2, 1) := by decide +kernel
theorem dL_law_198 : decode cL_law 198 = .ok (.aload_n 0, 1) := by decide +kernel
theorem dL_law_199 : decode cL_law 199 = .ok (.iload_n 3, 1) := by decide +kernel
theorem dL_law_200 : decode cL_law 200 = .ok (.iconst 1, 1) := by decide +kernel
theorem dL_law_201 : decode cL_law 201 = .ok (.iadd, 1) := by decide +kernel
theorem dL_law_202 : decode cL_law 202 = .ok (.iaload, 1) := by decide +kernel
theorem dL_law_203 : decode cL_law 203 = .ok (.aload_n 0, 1) := by decide +kernel
theorem dL_law_204 : decode cL_law 204 = .ok (.iload_n 3, 1) := by decide +kernel
theorem dL_law_205 : decode cL_law 205 = .ok (.iconst 2, 1) := by decide +kernel
theorem dL_law_206 : decode cL_law 206 = .ok (.iadd, 1) := by decide +kernel
theorem dL_law_207 : decode cL_law 207 = .ok (.iaload, 1) := by decide +kernel
theorem dL_law_208 : decode cL_law 208 = .ok (.i2l, 1) := by decide +kernel
theorem dL_law_209 : decode cL_law 209 = .ok (.bipush 32, 2) := by decide +kernel
theorem dL_law_211 : decode cL_law 211 = .ok (.lshl, 1) := by decide +kernel
theorem dL_law_212 : decode cL_law 212 = .ok (.aload_n 0, 1) := by decide +kernel
theorem dL_law_213 : decode cL_law 213 = .ok (.iload_n 3, 1) := by decide +kernel
theorem dL_law_214 : decode cL_law 214 = .ok (.iconst 3, 1) := by decide +kernel
theorem dL_law_215 : decode cL_law 215 = .ok (.iadd, 1) := by decide +kernel
theorem dL_law_216 : decode cL_law 216 = .ok (.iaload, 1) := by decide +kernel
theorem dL_law_217 : decode cL_law 217 = .ok (.i2l, 1) := by decide +kernel
theorem dL_law_218 : decode cL_law 218 = .ok (.ldc2_w 13, 3) := by decide +kernel
theorem dL_law_221 : decode cL_law 221 = .ok (.land, 1) := by decide +kernel
theorem dL_law_222 : decode cL_law 222 = .ok (.lor, 1) := by decide +kernel
theorem dL_law_223 : decode cL_law 223 = .ok (.invokevirtual 19, 3) := by decide +kernel
theorem dL_law_226 : decode cL_law 226 = .ok (.if_icmp .eq 762, 3) := by decide +kernel
theorem dL_law_229 : decode cL_law 229 = .ok (.iconst 0, 1) := by decide +kernel
theorem dL_law_230 : decode cL_law 230 = .ok (.ireturn, 1) := by decide +kernel
theorem dL_law_231 : decode cL_law 231 = .ok (.aload_n 1, 1) := by decide +kernel
theorem dL_law_232 : decode cL_law 232 = .ok (.invokevirtual 20, 3) := by decide +kernel
theorem dL_law_235 : decode cL_law 235 = .ok (.aload_n 2, 1) := by decide +kernel
theorem dL_law_236 : decode cL_law 236 = .ok (.invokevirtual 24, 3) := by decide +kernel
theorem dL_law_239 : decode cL_law 239 = .ok (.if_icmp .eq 749, 3) := by decide +kernel
theorem dL_law_242 : decode cL_law 242 = .ok (.iconst 0, 1) := by decide +kernel
theorem dL_law_243 : decode cL_law 243 = .ok (.ireturn, 1) := by decide +kernel
theorem dL_law_244 : decode cL_law 244 = .ok (.aload_n 1, 1) := by decide +kernel
theorem dL_law_245 : decode cL_law 245 = .ok (.invokevirtual 25, 3) := by decide +kernel
theorem dL_law_248 : decode cL_law 248 = .ok (.aload_n 2, 1) := by decide +kernel
theorem dL_law_249 : decode cL_law 249 = .ok (.invokevirtual 28, 3) := by decide +kernel
theorem dL_law_252 : decode cL_law 252 = .ok (.if_icmp .eq 736, 3) := by decide +kernel
theorem dL_law_255 : decode cL_law 255 = .ok (.iconst 0, 1) := by decide +kernel
theorem dL_law_256 : decode cL_law 256 = .ok (.ireturn, 1) := by decide +kernel
theorem dL_law_257 : decode cL_law 257 = .ok (.aload_n 1, 1) := by decide +kernel
theorem dL_law_258 : decode cL_law 258 = .ok (.invokevirtual 29, 3) := by decide +kernel
theorem dL_law_261 : decode cL_law 261 = .ok (.aload_n 2, 1) := by decide +kernel
theorem dL_law_262 : decode cL_law 262 = .ok (.invokevirtual 32, 3) := by decide +kernel
theorem dL_law_265 : decode cL_law 265 = .ok (.if_icmp .eq 723, 3) := by decide +kernel
theorem dL_law_268 : decode cL_law 268 = .ok (.iconst 0, 1) := by decide +kernel
theorem dL_law_269 : decode cL_law 269 = .ok (.ireturn, 1) := by decide +kernel
theorem dL_law_270 : decode cL_law 270 = .ok (.aload_n 1, 1) := by decide +kernel
theorem dL_law_271 : decode cL_law 271 = .ok (.aload_n 0, 1) := by decide +kernel
theorem dL_law_272 : decode cL_law 272 = .ok (.iload_n 3, 1) := by decide +kernel
theorem dL_law_273 : decode cL_law 273 = .ok (.iconst 1, 1) := by decide +kernel
theorem dL_law_274 : decode cL_law 274 = .ok (.iadd, 1) := by decide +kernel
theorem dL_law_275 : decode cL_law 275 = .ok (.iaload, 1) := by decide +kernel
theorem dL_law_276 : decode cL_law 276 = .ok (.invokevirtual 33, 3) := by decide +kernel
theorem dL_law_279 : decode cL_law 279 = .ok (.aload_n 2, 1) := by decide +kernel
theorem dL_law_280 : decode cL_law 280 = .ok (.aload_n 0, 1) := by decide +kernel
theorem dL_law_281 : decode cL_law 281 = .ok (.iload_n 3, 1) := by decide +kernel
theorem dL_law_282 : decode cL_law 282 = .ok (.iconst 1, 1) := by decide +kernel
theorem dL_law_283 : decode cL_law 283 = .ok (.iadd, 1) := by decide +kernel
theorem dL_law_284 : decode cL_law 284 = .ok (.iaload, 1) := by decide +kernel
theorem dL_law_285 : decode cL_law 285 = .ok (.invokevirtual 37, 3) := by decide +kernel
theorem dL_law_288 : decode cL_law 288 = .ok (.if_icmp .eq 700, 3) := by decide +kernel
theorem dL_law_291 : decode cL_law 291 = .ok (.iconst 0, 1) := by decide +kernel
theorem dL_law_292 : decode cL_law 292 = .ok (.ireturn, 1) := by decide +kernel
theorem dL_law_293 : decode cL_law 293 = .ok (.aload_n 1, 1) := by decide +kernel
theorem dL_law_294 : decode cL_law 294 = .ok (.aload_n 0, 1) := by decide +kernel
theorem dL_law_295 : decode cL_law 295 = .ok (.iload_n 3, 1) := by decide +kernel
theorem dL_law_296 : decode cL_law 296 = .ok (.iconst 1, 1) := by decide +kernel
theorem dL_law_297 : decode cL_law 297 = .ok (.iadd, 1) := by decide +kernel
theorem dL_law_298 : decode cL_law 298 = .ok (.iaload, 1) := by decide +kernel
theorem dL_law_299 : decode cL_law 299 = .ok (.aload_n 0, 1) := by decide +kernel
theorem dL_law_300 : decode cL_law 300 = .ok (.iload_n 3, 1) := by decide +kernel
theorem dL_law_301 : decode cL_law 301 = .ok (.iconst 2, 1) := by decide +kernel
theorem dL_law_302 : decode cL_law 302 = .ok (.iadd, 1) := by decide +kernel
theorem dL_law_303 : decode cL_law 303 = .ok (.iaload, 1) := by decide +kernel
theorem dL_law_304 : decode cL_law 304 = .ok (.invokevirtual 38, 3) := by decide +kernel
theorem dL_law_307 : decode cL_law 307 = .ok (.aload_n 2, 1) := by decide +kernel
theorem dL_law_308 : decode cL_law 308 = .ok (.aload_n 0, 1) := by decide +kernel
theorem dL_law_309 : decode cL_law 309 = .ok (.iload_n 3, 1) := by decide +kernel
theorem dL_law_310 : decode cL_law 310 = .ok (.iconst 1, 1) := by decide +kernel
theorem dL_law_311 : decode cL_law 311 = .ok (.iadd, 1) := by decide +kernel
theorem dL_law_312 : decode cL_law 312 = .ok (.iaload, 1) := by decide +kernel
theorem dL_law_313 : decode cL_law 313 = .ok (.aload_n 0, 1) := by decide +kernel
theorem dL_law_314 : decode cL_law 314 = .ok (.iload_n 3, 1) := by decide +kernel
theorem dL_law_315 : decode cL_law 315 = .ok (.iconst 2, 1) := by decide +kernel
theorem dL_law_316 : decode cL_law 316 = .ok (.iadd, 1) := by decide +kernel
theorem dL_law_317 : decode cL_law 317 = .ok (.iaload, 1) := by decide +kernel
theorem dL_law_318 : decode cL_law 318 = .ok (.invokevirtual 42, 3) := by decide +kernel
theorem dL_law_321 : decode cL_law 321 = .ok (.if_icmp .eq 667, 3) := by decide +kernel
theorem dL_law_324 : decode cL_law 324 = .ok (.iconst 0, 1) := by decide +kernel
theorem dL_law_325 : decode cL_law 325 = .ok (.ireturn, 1) := by decide +kernel
theorem dL_law_326 : decode cL_law 326 = .ok (.aload_n 1, 1) := by decide +kernel
theorem dL_law_327 : decode cL_law 327 = .ok (.aload_n 0, 1) := by decide +kernel
theorem dL_law_328 : decode cL_law 328 = .ok (.iload_n 3, 1) := by decide +kernel
theorem dL_law_329 : decode cL_law 329 = .ok (.iconst 1, 1) := by decide +kernel
theorem dL_law_330 : decode cL_law 330 = .ok (.iadd, 1) := by decide +kernel
theorem dL_law_331 : decode cL_law 331 = .ok (.iaload, 1) := by decide +kernel
theorem dL_law_332 : decode cL_law 332 = .ok (.aload_n 0, 1) := by decide +kernel
theorem dL_law_333 : decode cL_law 333 = .ok (.iload_n 3, 1) := by decide +kernel
theorem dL_law_334 : decode cL_law 334 = .ok (.iconst 2, 1) := by decide +kernel
theorem dL_law_335 : decode cL_law 335 = .ok (.iadd, 1) := by decide +kernel
theorem dL_law_336 : decode cL_law 336 = .ok (.iaload, 1) := by decide +kernel
theorem dL_law_337 : decode cL_law 337 = .ok (.invokevirtual 43, 3) := by decide +kernel
theorem dL_law_340 : decode cL_law 340 = .ok (.aload_n 2, 1) := by decide +kernel
theorem dL_law_341 : decode cL_law 341 = .ok (.aload_n 0, 1) := by decide +kernel
theorem dL_law_342 : decode cL_law 342 = .ok (.iload_n 3, 1) := by decide +kernel
theorem dL_law_343 : decode cL_law 343 = .ok (.iconst 1, 1) := by decide +kernel
theorem dL_law_344 : decode cL_law 344 = .ok (.iadd, 1) := by decide +kernel
theorem dL_law_345 : decode cL_law 345 = .ok (.iaload, 1) := by decide +kernel
theorem dL_law_346 : decode cL_law 346 = .ok (.aload_n 0, 1) := by decide +kernel
theorem dL_law_347 : decode cL_law 347 = .ok (.iload_n 3, 1) := by decide +kernel
theorem dL_law_348 : decode cL_law 348 = .ok (.iconst 2, 1) := by decide +kernel
theorem dL_law_349 : decode cL_law 349 = .ok (.iadd, 1) := by decide +kernel
theorem dL_law_350 : decode cL_law 350 = .ok (.iaload, 1) := by decide +kernel
theorem dL_law_351 : decode cL_law 351 = .ok (.invokevirtual 46, 3) := by decide +kernel
theorem dL_law_354 : decode cL_law 354 = .ok (.if_icmp .eq 634, 3) := by decide +kernel
theorem dL_law_357 : decode cL_law 357 = .ok (.iconst 0, 1) := by decide +kernel
theorem dL_law_358 : decode cL_law 358 = .ok (.ireturn, 1) := by decide +kernel
theorem dL_law_359 : decode cL_law 359 = .ok (.aload_n 1, 1) := by decide +kernel
theorem dL_law_360 : decode cL_law 360 = .ok (.aload_n 0, 1) := by decide +kernel
theorem dL_law_361 : decode cL_law 361 = .ok (.iload_n 3, 1) := by decide +kernel
theorem dL_law_362 : decode cL_law 362 = .ok (.iconst 1, 1) := by decide +kernel
theorem dL_law_363 : decode cL_law 363 = .ok (.iadd, 1) := by decide +kernel
theorem dL_law_364 : decode cL_law 364 = .ok (.iaload, 1) := by decide +kernel
theorem dL_law_365 : decode cL_law 365 = .ok (.aload_n 0, 1) := by decide +kernel
theorem dL_law_366 : decode cL_law 366 = .ok (.iload_n 3, 1) := by decide +kernel
theorem dL_law_367 : decode cL_law 367 = .ok (.iconst 2, 1) := by decide +kernel
theorem dL_law_368 : decode cL_law 368 = .ok (.iadd, 1) := by decide +kernel
theorem dL_law_369 : decode cL_law 369 = .ok (.iaload, 1) := by decide +kernel
theorem dL_law_370 : decode cL_law 370 = .ok (.invokevirtual 47, 3) := by decide +kernel
theorem dL_law_373 : decode cL_law 373 = .ok (.aload_n 2, 1) := by decide +kernel
theorem dL_law_374 : decode cL_law 374 = .ok (.aload_n 0, 1) := by decide +kernel
theorem dL_law_375 : decode cL_law 375 = .ok (.iload_n 3, 1) := by decide +kernel
theorem dL_law_376 : decode cL_law 376 = .ok (.iconst 1, 1) := by decide +kernel
theorem dL_law_377 : decode cL_law 377 = .ok (.iadd, 1) := by decide +kernel
theorem dL_law_378 : decode cL_law 378 = .ok (.iaload, 1) := by decide +kernel
theorem dL_law_379 : decode cL_law 379 = .ok (.aload_n 0, 1) := by decide +kernel
theorem dL_law_380 : decode cL_law 380 = .ok (.iload_n 3, 1) := by decide +kernel
theorem dL_law_381 : decode cL_law 381 = .ok (.iconst 2, 1) := by decide +kernel
theorem dL_law_382 : decode cL_law 382 = .ok (.iadd, 1) := by decide +kernel
theorem dL_law_383 : decode cL_law 383 = .ok (.iaload, 1) := by decide +kernel
theorem dL_law_384 : decode cL_law 384 = .ok (.invokevirtual 50, 3) := by decide +kernel
theorem dL_law_387 : decode cL_law 387 = .ok (.if_icmp .eq 601, 3) := by decide +kernel
theorem dL_law_390 : decode cL_law 390 = .ok (.iconst 0, 1) := by decide +kernel
theorem dL_law_391 : decode cL_law 391 = .ok (.ireturn, 1) := by decide +kernel
theorem dL_law_392 : decode cL_law 392 = .ok (.aload_n 1, 1) := by decide +kernel
theorem dL_law_393 : decode cL_law 393 = .ok (.aload_n 0, 1) := by decide +kernel
theorem dL_law_394 : decode cL_law 394 = .ok (.iload_n 3, 1) := by decide +kernel
theorem dL_law_395 : decode cL_law 395 = .ok (.iconst 1, 1) := by decide +kernel
theorem dL_law_396 : decode cL_law 396 = .ok (.iadd, 1) := by decide +kernel
theorem dL_law_397 : decode cL_law 397 = .ok (.iaload, 1) := by decide +kernel
theorem dL_law_398 : decode cL_law 398 = .ok (.invokevirtual 51, 3) := by decide +kernel
theorem dL_law_401 : decode cL_law 401 = .ok (.aload_n 2, 1) := by decide +kernel
theorem dL_law_402 : decode cL_law 402 = .ok (.aload_n 0, 1) := by decide +kernel
theorem dL_law_403 : decode cL_law 403 = .ok (.iload_n 3, 1) := by decide +kernel
theorem dL_law_404 : decode cL_law 404 = .ok (.iconst 1, 1) := by decide +kernel
theorem dL_law_405 : decode cL_law 405 = .ok (.iadd, 1) := by decide +kernel
theorem dL_law_406 : decode cL_law 406 = .ok (.iaload, 1) := by decide +kernel
theorem dL_law_407 : decode cL_law 407 = .ok (.invokevirtual 54, 3) := by decide +kernel
theorem dL_law_410 : decode cL_law 410 = .ok (.if_icmp .eq 578, 3) := by decide +kernel
theorem dL_law_413 : decode cL_law 413 = .ok (.iconst 0, 1) := by decide +kernel
theorem dL_law_414 : decode cL_law 414 = .ok (.ireturn, 1) := by decide +kernel
theorem dL_law_415 : decode cL_law 415 = .ok (.aload_n 1, 1) := by decide +kernel
theorem dL_law_416 : decode cL_law 416 = .ok (.aload_n 0, 1) := by decide +kernel
theorem dL_law_417 : decode cL_law 417 = .ok (.iload_n 3, 1) := by decide +kernel
theorem dL_law_418 : decode cL_law 418 = .ok (.iconst 1, 1) := by decide +kernel
theorem dL_law_419 : decode cL_law 419 = .ok (.iadd, 1) := by decide +kernel
theorem dL_law_420 : decode cL_law 420 = .ok (.iaload, 1) := by decide +kernel
theorem dL_law_421 : decode cL_law 421 = .ok (.invokevirtual 55, 3) := by decide +kernel
theorem dL_law_424 : decode cL_law 424 = .ok (.aload_n 2, 1) := by decide +kernel
theorem dL_law_425 : decode cL_law 425 = .ok (.aload_n 0, 1) := by decide +kernel
theorem dL_law_426 : decode cL_law 426 = .ok (.iload_n 3, 1) := by decide +kernel
theorem dL_law_427 : decode cL_law 427 = .ok (.iconst 1, 1) := by decide +kernel
theorem dL_law_428 : decode cL_law 428 = .ok (.iadd, 1) := by decide +kernel
theorem dL_law_429 : decode cL_law 429 = .ok (.iaload, 1) := by decide +kernel
theorem dL_law_430 : decode cL_law 430 = .ok (.invokevirtual 58, 3) := by decide +kernel
theorem dL_law_433 : decode cL_law 433 = .ok (.if_icmp .eq 555, 3) := by decide +kernel
theorem dL_law_436 : decode cL_law 436 = .ok (.iconst 0, 1) := by decide +kernel
theorem dL_law_437 : decode cL_law 437 = .ok (.ireturn, 1) := by decide +kernel
theorem dL_law_438 : decode cL_law 438 = .ok (.aload_n 1, 1) := by decide +kernel
theorem dL_law_439 : decode cL_law 439 = .ok (.aload_n 0, 1) := by decide +kernel
theorem dL_law_440 : decode cL_law 440 = .ok (.iload_n 3, 1) := by decide +kernel
theorem dL_law_441 : decode cL_law 441 = .ok (.iconst 1, 1) := by decide +kernel
theorem dL_law_442 : decode cL_law 442 = .ok (.iadd, 1) := by decide +kernel
theorem dL_law_443 : decode cL_law 443 = .ok (.iaload, 1) := by decide +kernel
theorem dL_law_444 : decode cL_law 444 = .ok (.aload_n 0, 1) := by decide +kernel
theorem dL_law_445 : decode cL_law 445 = .ok (.iload_n 3, 1) := by decide +kernel
theorem dL_law_446 : decode cL_law 446 = .ok (.iconst 2, 1) := by decide +kernel
theorem dL_law_447 : decode cL_law 447 = .ok (.iadd, 1) := by decide +kernel
theorem dL_law_448 : decode cL_law 448 = .ok (.iaload, 1) := by decide +kernel
theorem dL_law_449 : decode cL_law 449 = .ok (.aload_n 0, 1) := by decide +kernel
theorem dL_law_450 : decode cL_law 450 = .ok (.iload_n 3, 1) := by decide +kernel
theorem dL_law_451 : decode cL_law 451 = .ok (.iconst 3, 1) := by decide +kernel
theorem dL_law_452 : decode cL_law 452 = .ok (.iadd, 1) := by decide +kernel
theorem dL_law_453 : decode cL_law 453 = .ok (.iaload, 1) := by decide +kernel
theorem dL_law_454 : decode cL_law 454 = .ok (.invokevirtual 59, 3) := by decide +kernel
theorem dL_law_457 : decode cL_law 457 = .ok (.aload_n 2, 1) := by decide +kernel
theorem dL_law_458 : decode cL_law 458 = .ok (.aload_n 0, 1) := by decide +kernel
theorem dL_law_459 : decode cL_law 459 = .ok (.iload_n 3, 1) := by decide +kernel
theorem dL_law_460 : decode cL_law 460 = .ok (.iconst 1, 1) := by decide +kernel
theorem dL_law_461 : decode cL_law 461 = .ok (.iadd, 1) := by decide +kernel
theorem dL_law_462 : decode cL_law 462 = .ok (.iaload, 1) := by decide +kernel
theorem dL_law_463 : decode cL_law 463 = .ok (.aload_n 0, 1) := by decide +kernel
theorem dL_law_464 : decode cL_law 464 = .ok (.iload_n 3, 1) := by decide +kernel
theorem dL_law_465 : decode cL_law 465 = .ok (.iconst 2, 1) := by decide +kernel
theorem dL_law_466 : decode cL_law 466 = .ok (.iadd, 1) := by decide +kernel
theorem dL_law_467 : decode cL_law 467 = .ok (.iaload, 1) := by decide +kernel
theorem dL_law_468 : decode cL_law 468 = .ok (.aload_n 0, 1) := by decide +kernel
theorem dL_law_469 : decode cL_law 469 = .ok (.iload_n 3, 1) := by decide +kernel
theorem dL_law_470 : decode cL_law 470 = .ok (.iconst 3, 1) := by decide +kernel
theorem dL_law_471 : decode cL_law 471 = .ok (.iadd, 1) := by decide +kernel
theorem dL_law_472 : decode cL_law 472 = .ok (.iaload, 1) := by decide +kernel
theorem dL_law_473 : decode cL_law 473 = .ok (.invokevirtual 63, 3) := by decide +kernel
theorem dL_law_476 : decode cL_law 476 = .ok (.if_icmp .eq 512, 3) := by decide +kernel
theorem dL_law_479 : decode cL_law 479 = .ok (.iconst 0, 1) := by decide +kernel
theorem dL_law_480 : decode cL_law 480 = .ok (.ireturn, 1) := by decide +kernel
theorem dL_law_481 : decode cL_law 481 = .ok (.aload_n 1, 1) := by decide +kernel
theorem dL_law_482 : decode cL_law 482 = .ok (.aload_n 0, 1) := by decide +kernel
theorem dL_law_483 : decode cL_law 483 = .ok (.iload_n 3, 1) := by decide +kernel
theorem dL_law_484 : decode cL_law 484 = .ok (.iconst 1, 1) := by decide +kernel
theorem dL_law_485 : decode cL_law 485 = .ok (.iadd, 1) := by decide +kernel
theorem dL_law_486 : decode cL_law 486 = .ok (.iaload, 1) := by decide +kernel
theorem dL_law_487 : decode cL_law 487 = .ok (.aload_n 0, 1) := by decide +kernel
theorem dL_law_488 : decode cL_law 488 = .ok (.iload_n 3, 1) := by decide +kernel
theorem dL_law_489 : decode cL_law 489 = .ok (.iconst 2, 1) := by decide +kernel
theorem dL_law_490 : decode cL_law 490 = .ok (.iadd, 1) := by decide +kernel
theorem dL_law_491 : decode cL_law 491 = .ok (.iaload, 1) := by decide +kernel
theorem dL_law_492 : decode cL_law 492 = .ok (.aload_n 0, 1) := by decide +kernel
theorem dL_law_493 : decode cL_law 493 = .ok (.iload_n 3, 1) := by decide +kernel
theorem dL_law_494 : decode cL_law 494 = .ok (.iconst 3, 1) := by decide +kernel
theorem dL_law_495 : decode cL_law 495 = .ok (.iadd, 1) := by decide +kernel
theorem dL_law_496 : decode cL_law 496 = .ok (.iaload, 1) := by decide +kernel
theorem dL_law_497 : decode cL_law 497 = .ok (.invokevirtual 64, 3) := by decide +kernel
theorem dL_law_500 : decode cL_law 500 = .ok (.aload_n 2, 1) := by decide +kernel
theorem dL_law_501 : decode cL_law 501 = .ok (.aload_n 0, 1) := by decide +kernel
theorem dL_law_502 : decode cL_law 502 = .ok (.iload_n 3, 1) := by decide +kernel
theorem dL_law_503 : decode cL_law 503 = .ok (.iconst 1, 1) := by decide +kernel
theorem dL_law_504 : decode cL_law 504 = .ok (.iadd, 1) := by decide +kernel
theorem dL_law_505 : decode cL_law 505 = .ok (.iaload, 1) := by decide +kernel
theorem dL_law_506 : decode cL_law 506 = .ok (.aload_n 0, 1) := by decide +kernel
theorem dL_law_507 : decode cL_law 507 = .ok (.iload_n 3, 1) := by decide +kernel
theorem dL_law_508 : decode cL_law 508 = .ok (.iconst 2, 1) := by decide +kernel
theorem dL_law_509 : decode cL_law 509 = .ok (.iadd, 1) := by decide +kernel
theorem dL_law_510 : decode cL_law 510 = .ok (.iaload, 1) := by decide +kernel
theorem dL_law_511 : decode cL_law 511 = .ok (.aload_n 0, 1) := by decide +kernel
theorem dL_law_512 : decode cL_law 512 = .ok (.iload_n 3, 1) := by decide +kernel
theorem dL_law_513 : decode cL_law 513 = .ok (.iconst 3, 1) := by decide +kernel
theorem dL_law_514 : decode cL_law 514 = .ok (.iadd, 1) := by decide +kernel
theorem dL_law_515 : decode cL_law 515 = .ok (.iaload, 1) := by decide +kernel
theorem dL_law_516 : decode cL_law 516 = .ok (.invokevirtual 67, 3) := by decide +kernel
theorem dL_law_519 : decode cL_law 519 = .ok (.if_icmp .eq 469, 3) := by decide +kernel
theorem dL_law_522 : decode cL_law 522 = .ok (.iconst 0, 1) := by decide +kernel
theorem dL_law_523 : decode cL_law 523 = .ok (.ireturn, 1) := by decide +kernel
theorem dL_law_524 : decode cL_law 524 = .ok (.aload_n 1, 1) := by decide +kernel
theorem dL_law_525 : decode cL_law 525 = .ok (.aload_n 0, 1) := by decide +kernel
theorem dL_law_526 : decode cL_law 526 = .ok (.iload_n 3, 1) := by decide +kernel
theorem dL_law_527 : decode cL_law 527 = .ok (.iconst 1, 1) := by decide +kernel
theorem dL_law_528 : decode cL_law 528 = .ok (.iadd, 1) := by decide +kernel
theorem dL_law_529 : decode cL_law 529 = .ok (.iaload, 1) := by decide +kernel
theorem dL_law_530 : decode cL_law 530 = .ok (.aload_n 0, 1) := by decide +kernel
theorem dL_law_531 : decode cL_law 531 = .ok (.iload_n 3, 1) := by decide +kernel
theorem dL_law_532 : decode cL_law 532 = .ok (.iconst 2, 1) := by decide +kernel
theorem dL_law_533 : decode cL_law 533 = .ok (.iadd, 1) := by decide +kernel
theorem dL_law_534 : decode cL_law 534 = .ok (.iaload, 1) := by decide +kernel
theorem dL_law_535 : decode cL_law 535 = .ok (.invokevirtual 68, 3) := by decide +kernel
theorem dL_law_538 : decode cL_law 538 = .ok (.aload_n 2, 1) := by decide +kernel
theorem dL_law_539 : decode cL_law 539 = .ok (.aload_n 0, 1) := by decide +kernel
theorem dL_law_540 : decode cL_law 540 = .ok (.iload_n 3, 1) := by decide +kernel
theorem dL_law_541 : decode cL_law 541 = .ok (.iconst 1, 1) := by decide +kernel
theorem dL_law_542 : decode cL_law 542 = .ok (.iadd, 1) := by decide +kernel
theorem dL_law_543 : decode cL_law 543 = .ok (.iaload, 1) := by decide +kernel
theorem dL_law_544 : decode cL_law 544 = .ok (.aload_n 0, 1) := by decide +kernel
theorem dL_law_545 : decode cL_law 545 = .ok (.iload_n 3, 1) := by decide +kernel
theorem dL_law_546 : decode cL_law 546 = .ok (.iconst 2, 1) := by decide +kernel
theorem dL_law_547 : decode cL_law 547 = .ok (.iadd, 1) := by decide +kernel
theorem dL_law_548 : decode cL_law 548 = .ok (.iaload, 1) := by decide +kernel
theorem dL_law_549 : decode cL_law 549 = .ok (.invokevirtual 71, 3) := by decide +kernel
theorem dL_law_552 : decode cL_law 552 = .ok (.if_icmp .eq 436, 3) := by decide +kernel
theorem dL_law_555 : decode cL_law 555 = .ok (.iconst 0, 1) := by decide +kernel
theorem dL_law_556 : decode cL_law 556 = .ok (.ireturn, 1) := by decide +kernel
theorem dL_law_557 : decode cL_law 557 = .ok (.aload_n 1, 1) := by decide +kernel
theorem dL_law_558 : decode cL_law 558 = .ok (.aload_n 0, 1) := by decide +kernel
theorem dL_law_559 : decode cL_law 559 = .ok (.iload_n 3, 1) := by decide +kernel
theorem dL_law_560 : decode cL_law 560 = .ok (.iconst 1, 1) := by decide +kernel
theorem dL_law_561 : decode cL_law 561 = .ok (.iadd, 1) := by decide +kernel
theorem dL_law_562 : decode cL_law 562 = .ok (.iaload, 1) := by decide +kernel
theorem dL_law_563 : decode cL_law 563 = .ok (.aload_n 0, 1) := by decide +kernel
theorem dL_law_564 : decode cL_law 564 = .ok (.iload_n 3, 1) := by decide +kernel
theorem dL_law_565 : decode cL_law 565 = .ok (.iconst 2, 1) := by decide +kernel
theorem dL_law_566 : decode cL_law 566 = .ok (.iadd, 1) := by decide +kernel
theorem dL_law_567 : decode cL_law 567 = .ok (.iaload, 1) := by decide +kernel
theorem dL_law_568 : decode cL_law 568 = .ok (.invokevirtual 72, 3) := by decide +kernel
theorem dL_law_571 : decode cL_law 571 = .ok (.aload_n 2, 1) := by decide +kernel
theorem dL_law_572 : decode cL_law 572 = .ok (.aload_n 0, 1) := by decide +kernel
theorem dL_law_573 : decode cL_law 573 = .ok (.iload_n 3, 1) := by decide +kernel
theorem dL_law_574 : decode cL_law 574 = .ok (.iconst 1, 1) := by decide +kernel
theorem dL_law_575 : decode cL_law 575 = .ok (.iadd, 1) := by decide +kernel
theorem dL_law_576 : decode cL_law 576 = .ok (.iaload, 1) := by decide +kernel
theorem dL_law_577 : decode cL_law 577 = .ok (.aload_n 0, 1) := by decide +kernel
theorem dL_law_578 : decode cL_law 578 = .ok (.iload_n 3, 1) := by decide +kernel
theorem dL_law_579 : decode cL_law 579 = .ok (.iconst 2, 1) := by decide +kernel
theorem dL_law_580 : decode cL_law 580 = .ok (.iadd, 1) := by decide +kernel
theorem dL_law_581 : decode cL_law 581 = .ok (.iaload, 1) := by decide +kernel
theorem dL_law_582 : decode cL_law 582 = .ok (.invokevirtual 75, 3) := by decide +kernel
theorem dL_law_585 : decode cL_law 585 = .ok (.if_icmp .eq 403, 3) := by decide +kernel
theorem dL_law_588 : decode cL_law 588 = .ok (.iconst 0, 1) := by decide +kernel
theorem dL_law_589 : decode cL_law 589 = .ok (.ireturn, 1) := by decide +kernel
theorem dL_law_590 : decode cL_law 590 = .ok (.aload_n 1, 1) := by decide +kernel
theorem dL_law_591 : decode cL_law 591 = .ok (.aload_n 0, 1) := by decide +kernel
theorem dL_law_592 : decode cL_law 592 = .ok (.iload_n 3, 1) := by decide +kernel
theorem dL_law_593 : decode cL_law 593 = .ok (.iconst 1, 1) := by decide +kernel
theorem dL_law_594 : decode cL_law 594 = .ok (.iadd, 1) := by decide +kernel
theorem dL_law_595 : decode cL_law 595 = .ok (.iaload, 1) := by decide +kernel
theorem dL_law_596 : decode cL_law 596 = .ok (.aload_n 0, 1) := by decide +kernel
theorem dL_law_597 : decode cL_law 597 = .ok (.iload_n 3, 1) := by decide +kernel
theorem dL_law_598 : decode cL_law 598 = .ok (.iconst 2, 1) := by decide +kernel
theorem dL_law_599 : decode cL_law 599 = .ok (.iadd, 1) := by decide +kernel
theorem dL_law_600 : decode cL_law 600 = .ok (.iaload, 1) := by decide +kernel
theorem dL_law_601 : decode cL_law 601 = .ok (.aload_n 0, 1) := by decide +kernel
theorem dL_law_602 : decode cL_law 602 = .ok (.iload_n 3, 1) := by decide +kernel
theorem dL_law_603 : decode cL_law 603 = .ok (.iconst 3, 1) := by decide +kernel
theorem dL_law_604 : decode cL_law 604 = .ok (.iadd, 1) := by decide +kernel
theorem dL_law_605 : decode cL_law 605 = .ok (.iaload, 1) := by decide +kernel
theorem dL_law_606 : decode cL_law 606 = .ok (.invokevirtual 76, 3) := by decide +kernel
theorem dL_law_609 : decode cL_law 609 = .ok (.aload_n 2, 1) := by decide +kernel
theorem dL_law_610 : decode cL_law 610 = .ok (.aload_n 0, 1) := by decide +kernel
theorem dL_law_611 : decode cL_law 611 = .ok (.iload_n 3, 1) := by decide +kernel
theorem dL_law_612 : decode cL_law 612 = .ok (.iconst 1, 1) := by decide +kernel
theorem dL_law_613 : decode cL_law 613 = .ok (.iadd, 1) := by decide +kernel
theorem dL_law_614 : decode cL_law 614 = .ok (.iaload, 1) := by decide +kernel
theorem dL_law_615 : decode cL_law 615 = .ok (.aload_n 0, 1) := by decide +kernel
theorem dL_law_616 : decode cL_law 616 = .ok (.iload_n 3, 1) := by decide +kernel
theorem dL_law_617 : decode cL_law 617 = .ok (.iconst 2, 1) := by decide +kernel
theorem dL_law_618 : decode cL_law 618 = .ok (.iadd, 1) := by decide +kernel
theorem dL_law_619 : decode cL_law 619 = .ok (.iaload, 1) := by decide +kernel
theorem dL_law_620 : decode cL_law 620 = .ok (.aload_n 0, 1) := by decide +kernel
theorem dL_law_621 : decode cL_law 621 = .ok (.iload_n 3, 1) := by decide +kernel
theorem dL_law_622 : decode cL_law 622 = .ok (.iconst 3, 1) := by decide +kernel
theorem dL_law_623 : decode cL_law 623 = .ok (.iadd, 1) := by decide +kernel
theorem dL_law_624 : decode cL_law 624 = .ok (.iaload, 1) := by decide +kernel
theorem dL_law_625 : decode cL_law 625 = .ok (.invokevirtual 79, 3) := by decide +kernel
theorem dL_law_628 : decode cL_law 628 = .ok (.if_icmp .eq 360, 3) := by decide +kernel
theorem dL_law_631 : decode cL_law 631 = .ok (.iconst 0, 1) := by decide +kernel
theorem dL_law_632 : decode cL_law 632 = .ok (.ireturn, 1) := by decide +kernel
theorem dL_law_633 : decode cL_law 633 = .ok (.aload_n 1, 1) := by decide +kernel
theorem dL_law_634 : decode cL_law 634 = .ok (.aload_n 0, 1) := by decide +kernel
theorem dL_law_635 : decode cL_law 635 = .ok (.iload_n 3, 1) := by decide +kernel
theorem dL_law_636 : decode cL_law 636 = .ok (.iconst 1, 1) := by decide +kernel
theorem dL_law_637 : decode cL_law 637 = .ok (.iadd, 1) := by decide +kernel
theorem dL_law_638 : decode cL_law 638 = .ok (.iaload, 1) := by decide +kernel
theorem dL_law_639 : decode cL_law 639 = .ok (.aload_n 0, 1) := by decide +kernel
theorem dL_law_640 : decode cL_law 640 = .ok (.iload_n 3, 1) := by decide +kernel
theorem dL_law_641 : decode cL_law 641 = .ok (.iconst 2, 1) := by decide +kernel
theorem dL_law_642 : decode cL_law 642 = .ok (.iadd, 1) := by decide +kernel
theorem dL_law_643 : decode cL_law 643 = .ok (.iaload, 1) := by decide +kernel
theorem dL_law_644 : decode cL_law 644 = .ok (.invokevirtual 80, 3) := by decide +kernel
theorem dL_law_647 : decode cL_law 647 = .ok (.aload_n 2, 1) := by decide +kernel
theorem dL_law_648 : decode cL_law 648 = .ok (.aload_n 0, 1) := by decide +kernel
theorem dL_law_649 : decode cL_law 649 = .ok (.iload_n 3, 1) := by decide +kernel
theorem dL_law_650 : decode cL_law 650 = .ok (.iconst 1, 1) := by decide +kernel
theorem dL_law_651 : decode cL_law 651 = .ok (.iadd, 1) := by decide +kernel
theorem dL_law_652 : decode cL_law 652 = .ok (.iaload, 1) := by decide +kernel
theorem dL_law_653 : decode cL_law 653 = .ok (.aload_n 0, 1) := by decide +kernel
theorem dL_law_654 : decode cL_law 654 = .ok (.iload_n 3, 1) := by decide +kernel
theorem dL_law_655 : decode cL_law 655 = .ok (.iconst 2, 1) := by decide +kernel
theorem dL_law_656 : decode cL_law 656 = .ok (.iadd, 1) := by decide +kernel
theorem dL_law_657 : decode cL_law 657 = .ok (.iaload, 1) := by decide +kernel
theorem dL_law_658 : decode cL_law 658 = .ok (.invokevirtual 83, 3) := by decide +kernel
theorem dL_law_661 : decode cL_law 661 = .ok (.if_icmp .eq 327, 3) := by decide +kernel
theorem dL_law_664 : decode cL_law 664 = .ok (.iconst 0, 1) := by decide +kernel
theorem dL_law_665 : decode cL_law 665 = .ok (.ireturn, 1) := by decide +kernel
theorem dL_law_666 : decode cL_law 666 = .ok (.aload_n 1, 1) := by decide +kernel
theorem dL_law_667 : decode cL_law 667 = .ok (.invokevirtual 84, 3) := by decide +kernel
theorem dL_law_670 : decode cL_law 670 = .ok (.aload_n 2, 1) := by decide +kernel
theorem dL_law_671 : decode cL_law 671 = .ok (.invokevirtual 87, 3) := by decide +kernel
theorem dL_law_674 : decode cL_law 674 = .ok (.if_icmp .eq 314, 3) := by decide +kernel
theorem dL_law_677 : decode cL_law 677 = .ok (.iconst 0, 1) := by decide +kernel
theorem dL_law_678 : decode cL_law 678 = .ok (.ireturn, 1) := by decide +kernel
theorem dL_law_679 : decode cL_law 679 = .ok (.aload_n 1, 1) := by decide +kernel
theorem dL_law_680 : decode cL_law 680 = .ok (.invokevirtual 88, 3) := by decide +kernel
theorem dL_law_683 : decode cL_law 683 = .ok (.aload_n 2, 1) := by decide +kernel
theorem dL_law_684 : decode cL_law 684 = .ok (.invokevirtual 91, 3) := by decide +kernel
theorem dL_law_687 : decode cL_law 687 = .ok (.if_icmp .eq 301, 3) := by decide +kernel
theorem dL_law_690 : decode cL_law 690 = .ok (.iconst 0, 1) := by decide +kernel
theorem dL_law_691 : decode cL_law 691 = .ok (.ireturn, 1) := by decide +kernel
theorem dL_law_692 : decode cL_law 692 = .ok (.aload_n 1, 1) := by decide +kernel
theorem dL_law_693 : decode cL_law 693 = .ok (.aload_n 0, 1) := by decide +kernel
theorem dL_law_694 : decode cL_law 694 = .ok (.iload_n 3, 1) := by decide +kernel
theorem dL_law_695 : decode cL_law 695 = .ok (.iconst 1, 1) := by decide +kernel
theorem dL_law_696 : decode cL_law 696 = .ok (.iadd, 1) := by decide +kernel
theorem dL_law_697 : decode cL_law 697 = .ok (.iaload, 1) := by decide +kernel
theorem dL_law_698 : decode cL_law 698 = .ok (.invokevirtual 92, 3) := by decide +kernel
theorem dL_law_701 : decode cL_law 701 = .ok (.aload_n 2, 1) := by decide +kernel
theorem dL_law_702 : decode cL_law 702 = .ok (.aload_n 0, 1) := by decide +kernel
theorem dL_law_703 : decode cL_law 703 = .ok (.iload_n 3, 1) := by decide +kernel
theorem dL_law_704 : decode cL_law 704 = .ok (.iconst 1, 1) := by decide +kernel
theorem dL_law_705 : decode cL_law 705 = .ok (.iadd, 1) := by decide +kernel
theorem dL_law_706 : decode cL_law 706 = .ok (.iaload, 1) := by decide +kernel
theorem dL_law_707 : decode cL_law 707 = .ok (.invokevirtual 95, 3) := by decide +kernel
theorem dL_law_710 : decode cL_law 710 = .ok (.if_icmp .eq 278, 3) := by decide +kernel
theorem dL_law_713 : decode cL_law 713 = .ok (.iconst 0, 1) := by decide +kernel
theorem dL_law_714 : decode cL_law 714 = .ok (.ireturn, 1) := by decide +kernel
theorem dL_law_715 : decode cL_law 715 = .ok (.aload_n 1, 1) := by decide +kernel
theorem dL_law_716 : decode cL_law 716 = .ok (.aload_n 0, 1) := by decide +kernel
theorem dL_law_717 : decode cL_law 717 = .ok (.iload_n 3, 1) := by decide +kernel
theorem dL_law_718 : decode cL_law 718 = .ok (.iconst 1, 1) := by decide +kernel
theorem dL_law_719 : decode cL_law 719 = .ok (.iadd, 1) := by decide +kernel
theorem dL_law_720 : decode cL_law 720 = .ok (.iaload, 1) := by decide +kernel
theorem dL_law_721 : decode cL_law 721 = .ok (.aload_n 0, 1) := by decide +kernel
theorem dL_law_722 : decode cL_law 722 = .ok (.iload_n 3, 1) := by decide +kernel
theorem dL_law_723 : decode cL_law 723 = .ok (.iconst 2, 1) := by decide +kernel
theorem dL_law_724 : decode cL_law 724 = .ok (.iadd, 1) := by decide +kernel
theorem dL_law_725 : decode cL_law 725 = .ok (.iaload, 1) := by decide +kernel
theorem dL_law_726 : decode cL_law 726 = .ok (.invokevirtual 96, 3) := by decide +kernel
theorem dL_law_729 : decode cL_law 729 = .ok (.aload_n 2, 1) := by decide +kernel
theorem dL_law_730 : decode cL_law 730 = .ok (.aload_n 0, 1) := by decide +kernel
theorem dL_law_731 : decode cL_law 731 = .ok (.iload_n 3, 1) := by decide +kernel
theorem dL_law_732 : decode cL_law 732 = .ok (.iconst 1, 1) := by decide +kernel
theorem dL_law_733 : decode cL_law 733 = .ok (.iadd, 1) := by decide +kernel
theorem dL_law_734 : decode cL_law 734 = .ok (.iaload, 1) := by decide +kernel
theorem dL_law_735 : decode cL_law 735 = .ok (.aload_n 0, 1) := by decide +kernel
theorem dL_law_736 : decode cL_law 736 = .ok (.iload_n 3, 1) := by decide +kernel
theorem dL_law_737 : decode cL_law 737 = .ok (.iconst 2, 1) := by decide +kernel
theorem dL_law_738 : decode cL_law 738 = .ok (.iadd, 1) := by decide +kernel
theorem dL_law_739 : decode cL_law 739 = .ok (.iaload, 1) := by decide +kernel
theorem dL_law_740 : decode cL_law 740 = .ok (.invokevirtual 99, 3) := by decide +kernel
theorem dL_law_743 : decode cL_law 743 = .ok (.if_icmp .eq 245, 3) := by decide +kernel
theorem dL_law_746 : decode cL_law 746 = .ok (.iconst 0, 1) := by decide +kernel
theorem dL_law_747 : decode cL_law 747 = .ok (.ireturn, 1) := by decide +kernel
theorem dL_law_748 : decode cL_law 748 = .ok (.aload_n 1, 1) := by decide +kernel
theorem dL_law_749 : decode cL_law 749 = .ok (.aload_n 0, 1) := by decide +kernel
theorem dL_law_750 : decode cL_law 750 = .ok (.iload_n 3, 1) := by decide +kernel
theorem dL_law_751 : decode cL_law 751 = .ok (.iconst 1, 1) := by decide +kernel
theorem dL_law_752 : decode cL_law 752 = .ok (.iadd, 1) := by decide +kernel
theorem dL_law_753 : decode cL_law 753 = .ok (.iaload, 1) := by decide +kernel
theorem dL_law_754 : decode cL_law 754 = .ok (.aload_n 0, 1) := by decide +kernel
theorem dL_law_755 : decode cL_law 755 = .ok (.iload_n 3, 1) := by decide +kernel
theorem dL_law_756 : decode cL_law 756 = .ok (.iconst 2, 1) := by decide +kernel
theorem dL_law_757 : decode cL_law 757 = .ok (.iadd, 1) := by decide +kernel
theorem dL_law_758 : decode cL_law 758 = .ok (.iaload, 1) := by decide +kernel
theorem dL_law_759 : decode cL_law 759 = .ok (.invokevirtual 100, 3) := by decide +kernel
theorem dL_law_762 : decode cL_law 762 = .ok (.aload_n 2, 1) := by decide +kernel
theorem dL_law_763 : decode cL_law 763 = .ok (.aload_n 0, 1) := by decide +kernel
theorem dL_law_764 : decode cL_law 764 = .ok (.iload_n 3, 1) := by decide +kernel
theorem dL_law_765 : decode cL_law 765 = .ok (.iconst 1, 1) := by decide +kernel
theorem dL_law_766 : decode cL_law 766 = .ok (.iadd, 1) := by decide +kernel
theorem dL_law_767 : decode cL_law 767 = .ok (.iaload, 1) := by decide +kernel
theorem dL_law_768 : decode cL_law 768 = .ok (.aload_n 0, 1) := by decide +kernel
theorem dL_law_769 : decode cL_law 769 = .ok (.iload_n 3, 1) := by decide +kernel
theorem dL_law_770 : decode cL_law 770 = .ok (.iconst 2, 1) := by decide +kernel
theorem dL_law_771 : decode cL_law 771 = .ok (.iadd, 1) := by decide +kernel
theorem dL_law_772 : decode cL_law 772 = .ok (.iaload, 1) := by decide +kernel
theorem dL_law_773 : decode cL_law 773 = .ok (.invokevirtual 103, 3) := by decide +kernel
theorem dL_law_776 : decode cL_law 776 = .ok (.if_icmp .eq 212, 3) := by decide +kernel
theorem dL_law_779 : decode cL_law 779 = .ok (.iconst 0, 1) := by decide +kernel
theorem dL_law_780 : decode cL_law 780 = .ok (.ireturn, 1) := by decide +kernel
theorem dL_law_781 : decode cL_law 781 = .ok (.aload_n 1, 1) := by decide +kernel
theorem dL_law_782 : decode cL_law 782 = .ok (.aload_n 0, 1) := by decide +kernel
theorem dL_law_783 : decode cL_law 783 = .ok (.iload_n 3, 1) := by decide +kernel
theorem dL_law_784 : decode cL_law 784 = .ok (.iconst 1, 1) := by decide +kernel
theorem dL_law_785 : decode cL_law 785 = .ok (.iadd, 1) := by decide +kernel
theorem dL_law_786 : decode cL_law 786 = .ok (.iaload, 1) := by decide +kernel
theorem dL_law_787 : decode cL_law 787 = .ok (.aload_n 0, 1) := by decide +kernel
theorem dL_law_788 : decode cL_law 788 = .ok (.iload_n 3, 1) := by decide +kernel
theorem dL_law_789 : decode cL_law 789 = .ok (.iconst 2, 1) := by decide +kernel
theorem dL_law_790 : decode cL_law 790 = .ok (.iadd, 1) := by decide +kernel
theorem dL_law_791 : decode cL_law 791 = .ok (.iaload, 1) := by decide +kernel
theorem dL_law_792 : decode cL_law 792 = .ok (.invokevirtual 104, 3) := by decide +kernel
theorem dL_law_795 : decode cL_law 795 = .ok (.aload_n 2, 1) := by decide +kernel
theorem dL_law_796 : decode cL_law 796 = .ok (.aload_n 0, 1) := by decide +kernel
theorem dL_law_797 : decode cL_law 797 = .ok (.iload_n 3, 1) := by decide +kernel
theorem dL_law_798 : decode cL_law 798 = .ok (.iconst 1, 1) := by decide +kernel
theorem dL_law_799 : decode cL_law 799 = .ok (.iadd, 1) := by decide +kernel
theorem dL_law_800 : decode cL_law 800 = .ok (.iaload, 1) := by decide +kernel
theorem dL_law_801 : decode cL_law 801 = .ok (.aload_n 0, 1) := by decide +kernel
theorem dL_law_802 : decode cL_law 802 = .ok (.iload_n 3, 1) := by decide +kernel
theorem dL_law_803 : decode cL_law 803 = .ok (.iconst 2, 1) := by decide +kernel
theorem dL_law_804 : decode cL_law 804 = .ok (.iadd, 1) := by decide +kernel
theorem dL_law_805 : decode cL_law 805 = .ok (.iaload, 1) := by decide +kernel
theorem dL_law_806 : decode cL_law 806 = .ok (.invokevirtual 107, 3) := by decide +kernel
theorem dL_law_809 : decode cL_law 809 = .ok (.if_icmp .eq 179, 3) := by decide +kernel
theorem dL_law_812 : decode cL_law 812 = .ok (.iconst 0, 1) := by decide +kernel
theorem dL_law_813 : decode cL_law 813 = .ok (.ireturn, 1) := by decide +kernel
theorem dL_law_814 : decode cL_law 814 = .ok (.aload_n 1, 1) := by decide +kernel
theorem dL_law_815 : decode cL_law 815 = .ok (.aload_n 0, 1) := by decide +kernel
theorem dL_law_816 : decode cL_law 816 = .ok (.iload_n 3, 1) := by decide +kernel
theorem dL_law_817 : decode cL_law 817 = .ok (.iconst 1, 1) := by decide +kernel
theorem dL_law_818 : decode cL_law 818 = .ok (.iadd, 1) := by decide +kernel
theorem dL_law_819 : decode cL_law 819 = .ok (.iaload, 1) := by decide +kernel
theorem dL_law_820 : decode cL_law 820 = .ok (.invokevirtual 108, 3) := by decide +kernel
theorem dL_law_823 : decode cL_law 823 = .ok (.aload_n 2, 1) := by decide +kernel
theorem dL_law_824 : decode cL_law 824 = .ok (.aload_n 0, 1) := by decide +kernel
theorem dL_law_825 : decode cL_law 825 = .ok (.iload_n 3, 1) := by decide +kernel
theorem dL_law_826 : decode cL_law 826 = .ok (.iconst 1, 1) := by decide +kernel
theorem dL_law_827 : decode cL_law 827 = .ok (.iadd, 1) := by decide +kernel
theorem dL_law_828 : decode cL_law 828 = .ok (.iaload, 1) := by decide +kernel
theorem dL_law_829 : decode cL_law 829 = .ok (.invokevirtual 111, 3) := by decide +kernel
theorem dL_law_832 : decode cL_law 832 = .ok (.if_icmp .eq 156, 3) := by decide +kernel
theorem dL_law_835 : decode cL_law 835 = .ok (.iconst 0, 1) := by decide +kernel
theorem dL_law_836 : decode cL_law 836 = .ok (.ireturn, 1) := by decide +kernel
theorem dL_law_837 : decode cL_law 837 = .ok (.aload_n 1, 1) := by decide +kernel
theorem dL_law_838 : decode cL_law 838 = .ok (.aload_n 0, 1) := by decide +kernel
theorem dL_law_839 : decode cL_law 839 = .ok (.iload_n 3, 1) := by decide +kernel
theorem dL_law_840 : decode cL_law 840 = .ok (.iconst 1, 1) := by decide +kernel
theorem dL_law_841 : decode cL_law 841 = .ok (.iadd, 1) := by decide +kernel
theorem dL_law_842 : decode cL_law 842 = .ok (.iaload, 1) := by decide +kernel
theorem dL_law_843 : decode cL_law 843 = .ok (.invokevirtual 112, 3) := by decide +kernel
theorem dL_law_846 : decode cL_law 846 = .ok (.aload_n 2, 1) := by decide +kernel
theorem dL_law_847 : decode cL_law 847 = .ok (.aload_n 0, 1) := by decide +kernel
theorem dL_law_848 : decode cL_law 848 = .ok (.iload_n 3, 1) := by decide +kernel
theorem dL_law_849 : decode cL_law 849 = .ok (.iconst 1, 1) := by decide +kernel
theorem dL_law_850 : decode cL_law 850 = .ok (.iadd, 1) := by decide +kernel
theorem dL_law_851 : decode cL_law 851 = .ok (.iaload, 1) := by decide +kernel
theorem dL_law_852 : decode cL_law 852 = .ok (.invokevirtual 115, 3) := by decide +kernel
theorem dL_law_855 : decode cL_law 855 = .ok (.if_icmp .eq 133, 3) := by decide +kernel
theorem dL_law_858 : decode cL_law 858 = .ok (.iconst 0, 1) := by decide +kernel
theorem dL_law_859 : decode cL_law 859 = .ok (.ireturn, 1) := by decide +kernel
theorem dL_law_860 : decode cL_law 860 = .ok (.aload_n 1, 1) := by decide +kernel
theorem dL_law_861 : decode cL_law 861 = .ok (.invokevirtual 116, 3) := by decide +kernel
theorem dL_law_864 : decode cL_law 864 = .ok (.aload_n 2, 1) := by decide +kernel
theorem dL_law_865 : decode cL_law 865 = .ok (.invokevirtual 119, 3) := by decide +kernel
theorem dL_law_868 : decode cL_law 868 = .ok (.if_icmp .eq 120, 3) := by decide +kernel
theorem dL_law_871 : decode cL_law 871 = .ok (.iconst 0, 1) := by decide +kernel
theorem dL_law_872 : decode cL_law 872 = .ok (.ireturn, 1) := by decide +kernel
theorem dL_law_873 : decode cL_law 873 = .ok (.aload_n 1, 1) := by decide +kernel
theorem dL_law_874 : decode cL_law 874 = .ok (.aload_n 0, 1) := by decide +kernel
theorem dL_law_875 : decode cL_law 875 = .ok (.iload_n 3, 1) := by decide +kernel
theorem dL_law_876 : decode cL_law 876 = .ok (.iconst 1, 1) := by decide +kernel
theorem dL_law_877 : decode cL_law 877 = .ok (.iadd, 1) := by decide +kernel
theorem dL_law_878 : decode cL_law 878 = .ok (.iaload, 1) := by decide +kernel
theorem dL_law_879 : decode cL_law 879 = .ok (.invokevirtual 120, 3) := by decide +kernel
theorem dL_law_882 : decode cL_law 882 = .ok (.aload_n 2, 1) := by decide +kernel
theorem dL_law_883 : decode cL_law 883 = .ok (.aload_n 0, 1) := by decide +kernel
theorem dL_law_884 : decode cL_law 884 = .ok (.iload_n 3, 1) := by decide +kernel
theorem dL_law_885 : decode cL_law 885 = .ok (.iconst 1, 1) := by decide +kernel
theorem dL_law_886 : decode cL_law 886 = .ok (.iadd, 1) := by decide +kernel
theorem dL_law_887 : decode cL_law 887 = .ok (.iaload, 1) := by decide +kernel
theorem dL_law_888 : decode cL_law 888 = .ok (.invokevirtual 123, 3) := by decide +kernel
theorem dL_law_891 : decode cL_law 891 = .ok (.if_icmp .eq 97, 3) := by decide +kernel
theorem dL_law_894 : decode cL_law 894 = .ok (.iconst 0, 1) := by decide +kernel
theorem dL_law_895 : decode cL_law 895 = .ok (.ireturn, 1) := by decide +kernel
theorem dL_law_896 : decode cL_law 896 = .ok (.aload_n 1, 1) := by decide +kernel
theorem dL_law_897 : decode cL_law 897 = .ok (.aload_n 0, 1) := by decide +kernel
theorem dL_law_898 : decode cL_law 898 = .ok (.iload_n 3, 1) := by decide +kernel
theorem dL_law_899 : decode cL_law 899 = .ok (.iconst 1, 1) := by decide +kernel
theorem dL_law_900 : decode cL_law 900 = .ok (.iadd, 1) := by decide +kernel
theorem dL_law_901 : decode cL_law 901 = .ok (.iaload, 1) := by decide +kernel
theorem dL_law_902 : decode cL_law 902 = .ok (.invokevirtual 124, 3) := by decide +kernel
theorem dL_law_905 : decode cL_law 905 = .ok (.aload_n 2, 1) := by decide +kernel
theorem dL_law_906 : decode cL_law 906 = .ok (.aload_n 0, 1) := by decide +kernel
theorem dL_law_907 : decode cL_law 907 = .ok (.iload_n 3, 1) := by decide +kernel
theorem dL_law_908 : decode cL_law 908 = .ok (.iconst 1, 1) := by decide +kernel
theorem dL_law_909 : decode cL_law 909 = .ok (.iadd, 1) := by decide +kernel
theorem dL_law_910 : decode cL_law 910 = .ok (.iaload, 1) := by decide +kernel
theorem dL_law_911 : decode cL_law 911 = .ok (.invokevirtual 127, 3) := by decide +kernel
theorem dL_law_914 : decode cL_law 914 = .ok (.if_icmp .eq 74, 3) := by decide +kernel
theorem dL_law_917 : decode cL_law 917 = .ok (.iconst 0, 1) := by decide +kernel
theorem dL_law_918 : decode cL_law 918 = .ok (.ireturn, 1) := by decide +kernel
theorem dL_law_919 : decode cL_law 919 = .ok (.aload_n 1, 1) := by decide +kernel
theorem dL_law_920 : decode cL_law 920 = .ok (.aload_n 0, 1) := by decide +kernel
theorem dL_law_921 : decode cL_law 921 = .ok (.iload_n 3, 1) := by decide +kernel
theorem dL_law_922 : decode cL_law 922 = .ok (.iconst 1, 1) := by decide +kernel
theorem dL_law_923 : decode cL_law 923 = .ok (.iadd, 1) := by decide +kernel
theorem dL_law_924 : decode cL_law 924 = .ok (.iaload, 1) := by decide +kernel
theorem dL_law_925 : decode cL_law 925 = .ok (.invokevirtual 128, 3) := by decide +kernel
theorem dL_law_928 : decode cL_law 928 = .ok (.aload_n 2, 1) := by decide +kernel
theorem dL_law_929 : decode cL_law 929 = .ok (.aload_n 0, 1) := by decide +kernel
theorem dL_law_930 : decode cL_law 930 = .ok (.iload_n 3, 1) := by decide +kernel
theorem dL_law_931 : decode cL_law 931 = .ok (.iconst 1, 1) := by decide +kernel
theorem dL_law_932 : decode cL_law 932 = .ok (.iadd, 1) := by decide +kernel
theorem dL_law_933 : decode cL_law 933 = .ok (.iaload, 1) := by decide +kernel
theorem dL_law_934 : decode cL_law 934 = .ok (.invokevirtual 131, 3) := by decide +kernel
theorem dL_law_937 : decode cL_law 937 = .ok (.if_icmp .eq 51, 3) := by decide +kernel
theorem dL_law_940 : decode cL_law 940 = .ok (.iconst 0, 1) := by decide +kernel
theorem dL_law_941 : decode cL_law 941 = .ok (.ireturn, 1) := by decide +kernel
theorem dL_law_942 : decode cL_law 942 = .ok (.aload_n 1, 1) := by decide +kernel
theorem dL_law_943 : decode cL_law 943 = .ok (.aload_n 0, 1) := by decide +kernel
theorem dL_law_944 : decode cL_law 944 = .ok (.iload_n 3, 1) := by decide +kernel
theorem dL_law_945 : decode cL_law 945 = .ok (.iconst 1, 1) := by decide +kernel
theorem dL_law_946 : decode cL_law 946 = .ok (.iadd, 1) := by decide +kernel
theorem dL_law_947 : decode cL_law 947 = .ok (.iaload, 1) := by decide +kernel
theorem dL_law_948 : decode cL_law 948 = .ok (.invokevirtual 132, 3) := by decide +kernel
theorem dL_law_951 : decode cL_law 951 = .ok (.aload_n 2, 1) := by decide +kernel
theorem dL_law_952 : decode cL_law 952 = .ok (.aload_n 0, 1) := by decide +kernel
theorem dL_law_953 : decode cL_law 953 = .ok (.iload_n 3, 1) := by decide +kernel
theorem dL_law_954 : decode cL_law 954 = .ok (.iconst 1, 1) := by decide +kernel
theorem dL_law_955 : decode cL_law 955 = .ok (.iadd, 1) := by decide +kernel
theorem dL_law_956 : decode cL_law 956 = .ok (.iaload, 1) := by decide +kernel
theorem dL_law_957 : decode cL_law 957 = .ok (.invokevirtual 135, 3) := by decide +kernel
theorem dL_law_960 : decode cL_law 960 = .ok (.if_icmp .eq 28, 3) := by decide +kernel
theorem dL_law_963 : decode cL_law 963 = .ok (.iconst 0, 1) := by decide +kernel
theorem dL_law_964 : decode cL_law 964 = .ok (.ireturn, 1) := by decide +kernel
theorem dL_law_965 : decode cL_law 965 = .ok (.aload_n 1, 1) := by decide +kernel
theorem dL_law_966 : decode cL_law 966 = .ok (.aload_n 0, 1) := by decide +kernel
theorem dL_law_967 : decode cL_law 967 = .ok (.iload_n 3, 1) := by decide +kernel
theorem dL_law_968 : decode cL_law 968 = .ok (.iconst 1, 1) := by decide +kernel
theorem dL_law_969 : decode cL_law 969 = .ok (.iadd, 1) := by decide +kernel
theorem dL_law_970 : decode cL_law 970 = .ok (.iaload, 1) := by decide +kernel
theorem dL_law_971 : decode cL_law 971 = .ok (.invokevirtual 136, 3) := by decide +kernel
theorem dL_law_974 : decode cL_law 974 = .ok (.aload_n 2, 1) := by decide +kernel
theorem dL_law_975 : decode cL_law 975 = .ok (.aload_n 0, 1) := by decide +kernel
theorem dL_law_976 : decode cL_law 976 = .ok (.iload_n 3, 1) := by decide +kernel
theorem dL_law_977 : decode cL_law 977 = .ok (.iconst 1, 1) := by decide +kernel
theorem dL_law_978 : decode cL_law 978 = .ok (.iadd, 1) := by decide +kernel
theorem dL_law_979 : decode cL_law 979 = .ok (.iaload, 1) := by decide +kernel
theorem dL_law_980 : decode cL_law 980 = .ok (.invokevirtual 139, 3) := by decide +kernel
theorem dL_law_983 : decode cL_law 983 = .ok (.if_icmp .eq 5, 3) := by decide +kernel
theorem dL_law_986 : decode cL_law 986 = .ok (.iconst 0, 1) := by decide +kernel
theorem dL_law_987 : decode cL_law 987 = .ok (.ireturn, 1) := by decide +kernel
theorem dL_law_988 : decode cL_law 988 = .ok (.iinc 3 4, 3) := by decide +kernel
theorem dL_law_991 : decode cL_law 991 = .ok (.goto (-973), 3) := by decide +kernel
theorem dL_law_994 : decode cL_law 994 = .ok (.iconst 1, 1) := by decide +kernel
theorem dL_law_995 : decode cL_law 995 = .ok (.ireturn, 1) := by decide +kernel
end
section
theorem zz_last : True := trivial
end
