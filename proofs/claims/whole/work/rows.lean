section
-- ===== PART A: goes FIRST, ahead of the names: the tables' words, and 'selects' of the private methods out of them =====
/-- a private method of a class that the tables say can be made, by its rows of tables_1 -/
def lw_okq (q : MethodName × Nat) : Prop := (q.1.cls ≠ "java/lang/invoke/MethodHandle" ∧ q.1.cls ≠ "java/lang/invoke/VarHandle") ∧ Cond.instantiable q.1.cls q.2 ∈ tables_1 ∧ Cond.privateMethod q.1 ∈ tables_1 ∧ Cond.instanceMethod q.1 ∈ tables_1
theorem lw_p0 : lw_okq (⟨"DesignDesk$RuleReader", "begin", "()V"⟩, 9) := ⟨⟨by decide +kernel, by decide +kernel⟩, List.mem_of_getElem? (i := 118) (by decide +kernel), List.mem_of_getElem? (i := 158) (by decide +kernel), List.mem_of_getElem? (i := 159) (by decide +kernel)⟩
theorem lw_p1 : lw_okq (⟨"DesignDesk$RuleReader", "beginComparison", "()V"⟩, 9) := ⟨⟨by decide +kernel, by decide +kernel⟩, List.mem_of_getElem? (i := 118) (by decide +kernel), List.mem_of_getElem? (i := 162) (by decide +kernel), List.mem_of_getElem? (i := 163) (by decide +kernel)⟩
theorem lw_p2 : lw_okq (⟨"DesignDesk", "putBytes", "(I)V"⟩, 14) := ⟨⟨by decide +kernel, by decide +kernel⟩, List.mem_of_getElem? (i := 28) (by decide +kernel), List.mem_of_getElem? (i := 348) (by decide +kernel), List.mem_of_getElem? (i := 349) (by decide +kernel)⟩
theorem lw_p3 : lw_okq (⟨"DesignDesk$Overlays", "seek", "(LDesignDesk$Best;)V"⟩, 9) := ⟨⟨by decide +kernel, by decide +kernel⟩, List.mem_of_getElem? (i := 202) (by decide +kernel), List.mem_of_getElem? (i := 394) (by decide +kernel), List.mem_of_getElem? (i := 395) (by decide +kernel)⟩
theorem lw_p4 : lw_okq (⟨"DesignDesk$Design", "columnBehind", "(III)I"⟩, 5) := ⟨⟨by decide +kernel, by decide +kernel⟩, List.mem_of_getElem? (i := 43) (by decide +kernel), List.mem_of_getElem? (i := 418) (by decide +kernel), List.mem_of_getElem? (i := 419) (by decide +kernel)⟩
theorem lw_p5 : lw_okq (⟨"DesignDesk$Design", "rowBehind", "(III)I"⟩, 5) := ⟨⟨by decide +kernel, by decide +kernel⟩, List.mem_of_getElem? (i := 43) (by decide +kernel), List.mem_of_getElem? (i := 422) (by decide +kernel), List.mem_of_getElem? (i := 423) (by decide +kernel)⟩
theorem lw_p6 : lw_okq (⟨"DesignDesk", "isInfringed", "(II)Z"⟩, 14) := ⟨⟨by decide +kernel, by decide +kernel⟩, List.mem_of_getElem? (i := 28) (by decide +kernel), List.mem_of_getElem? (i := 451) (by decide +kernel), List.mem_of_getElem? (i := 452) (by decide +kernel)⟩
theorem lw_p7 : lw_okq (⟨"DesignDesk", "priorThousandths", "(I)I"⟩, 14) := ⟨⟨by decide +kernel, by decide +kernel⟩, List.mem_of_getElem? (i := 28) (by decide +kernel), List.mem_of_getElem? (i := 468) (by decide +kernel), List.mem_of_getElem? (i := 469) (by decide +kernel)⟩
theorem lw_p8 : lw_okq (⟨"DesignDesk", "mostAlikeBefore", "(I)I"⟩, 14) := ⟨⟨by decide +kernel, by decide +kernel⟩, List.mem_of_getElem? (i := 28) (by decide +kernel), List.mem_of_getElem? (i := 472) (by decide +kernel), List.mem_of_getElem? (i := 473) (by decide +kernel)⟩
theorem lw_p9 : lw_okq (⟨"DesignDesk", "isMoreAlike", "(III)Z"⟩, 14) := ⟨⟨by decide +kernel, by decide +kernel⟩, List.mem_of_getElem? (i := 28) (by decide +kernel), List.mem_of_getElem? (i := 476) (by decide +kernel), List.mem_of_getElem? (i := 477) (by decide +kernel)⟩
theorem lw_p10 : lw_okq (⟨"DesignDesk", "joinGroups", "(II)V"⟩, 14) := ⟨⟨by decide +kernel, by decide +kernel⟩, List.mem_of_getElem? (i := 28) (by decide +kernel), List.mem_of_getElem? (i := 507) (by decide +kernel), List.mem_of_getElem? (i := 508) (by decide +kernel)⟩
theorem lw_p11 : lw_okq (⟨"DesignDesk", "needNumber", "(III)V"⟩, 14) := ⟨⟨by decide +kernel, by decide +kernel⟩, List.mem_of_getElem? (i := 28) (by decide +kernel), List.mem_of_getElem? (i := 529) (by decide +kernel), List.mem_of_getElem? (i := 530) (by decide +kernel)⟩
theorem lw_p12 : lw_okq (⟨"java/lang/Throwable", "fillInStackTrace", "(I)Ljava/lang/Throwable;"⟩, 6) := ⟨⟨by decide +kernel, by decide +kernel⟩, List.mem_of_getElem? (i := 570) (by decide +kernel), List.mem_of_getElem? (i := 568) (by decide +kernel), List.mem_of_getElem? (i := 569) (by decide +kernel)⟩
theorem lw_p13 : lw_okq (⟨"DesignDesk$TextReader", "readDesign", "(LDesignDesk$Book;)V"⟩, 2) := ⟨⟨by decide +kernel, by decide +kernel⟩, List.mem_of_getElem? (i := 112) (by decide +kernel), List.mem_of_getElem? (i := 670) (by decide +kernel), List.mem_of_getElem? (i := 671) (by decide +kernel)⟩
theorem lw_p14 : lw_okq (⟨"DesignDesk$TextReader", "readRow", "(LDesignDesk$Design;)Z"⟩, 2) := ⟨⟨by decide +kernel, by decide +kernel⟩, List.mem_of_getElem? (i := 112) (by decide +kernel), List.mem_of_getElem? (i := 696) (by decide +kernel), List.mem_of_getElem? (i := 697) (by decide +kernel)⟩
theorem lw_p15 : lw_okq (⟨"DesignDesk$RuleReader", "takesValue", "(I)Z"⟩, 9) := ⟨⟨by decide +kernel, by decide +kernel⟩, List.mem_of_getElem? (i := 118) (by decide +kernel), List.mem_of_getElem? (i := 715) (by decide +kernel), List.mem_of_getElem? (i := 716) (by decide +kernel)⟩
def lw_privs_1 : List (MethodName × Nat) := [(⟨"DesignDesk$RuleReader", "begin", "()V"⟩, 9), (⟨"DesignDesk$RuleReader", "beginComparison", "()V"⟩, 9), (⟨"DesignDesk", "putBytes", "(I)V"⟩, 14), (⟨"DesignDesk$Overlays", "seek", "(LDesignDesk$Best;)V"⟩, 9), (⟨"DesignDesk$Design", "columnBehind", "(III)I"⟩, 5), (⟨"DesignDesk$Design", "rowBehind", "(III)I"⟩, 5), (⟨"DesignDesk", "isInfringed", "(II)Z"⟩, 14), (⟨"DesignDesk", "priorThousandths", "(I)I"⟩, 14), (⟨"DesignDesk", "mostAlikeBefore", "(I)I"⟩, 14), (⟨"DesignDesk", "isMoreAlike", "(III)Z"⟩, 14), (⟨"DesignDesk", "joinGroups", "(II)V"⟩, 14), (⟨"DesignDesk", "needNumber", "(III)V"⟩, 14), (⟨"java/lang/Throwable", "fillInStackTrace", "(I)Ljava/lang/Throwable;"⟩, 6), (⟨"DesignDesk$TextReader", "readDesign", "(LDesignDesk$Book;)V"⟩, 2), (⟨"DesignDesk$TextReader", "readRow", "(LDesignDesk$Design;)Z"⟩, 2), (⟨"DesignDesk$RuleReader", "takesValue", "(I)Z"⟩, 9)]
theorem lw_r1 : ∀ q ∈ lw_privs_1, lw_okq q := List.forall_mem_cons.mpr ⟨lw_p0, List.forall_mem_cons.mpr ⟨lw_p1, List.forall_mem_cons.mpr ⟨lw_p2, List.forall_mem_cons.mpr ⟨lw_p3, List.forall_mem_cons.mpr ⟨lw_p4, List.forall_mem_cons.mpr ⟨lw_p5, List.forall_mem_cons.mpr ⟨lw_p6, List.forall_mem_cons.mpr ⟨lw_p7, List.forall_mem_cons.mpr ⟨lw_p8, List.forall_mem_cons.mpr ⟨lw_p9, List.forall_mem_cons.mpr ⟨lw_p10, List.forall_mem_cons.mpr ⟨lw_p11, List.forall_mem_cons.mpr ⟨lw_p12, List.forall_mem_cons.mpr ⟨lw_p13, List.forall_mem_cons.mpr ⟨lw_p14, List.forall_mem_cons.mpr ⟨lw_p15, fun _ h => absurd h List.not_mem_nil⟩⟩⟩⟩⟩⟩⟩⟩⟩⟩⟩⟩⟩⟩⟩⟩
theorem lw_p16 : lw_okq (⟨"DesignDesk$RuleReader", "openOne", "(I)V"⟩, 9) := ⟨⟨by decide +kernel, by decide +kernel⟩, List.mem_of_getElem? (i := 118) (by decide +kernel), List.mem_of_getElem? (i := 721) (by decide +kernel), List.mem_of_getElem? (i := 722) (by decide +kernel)⟩
theorem lw_p17 : lw_okq (⟨"DesignDesk$RuleReader", "pile", "(I)V"⟩, 9) := ⟨⟨by decide +kernel, by decide +kernel⟩, List.mem_of_getElem? (i := 118) (by decide +kernel), List.mem_of_getElem? (i := 728) (by decide +kernel), List.mem_of_getElem? (i := 729) (by decide +kernel)⟩
theorem lw_p18 : lw_okq (⟨"DesignDesk$RuleReader", "emit", "(I)V"⟩, 9) := ⟨⟨by decide +kernel, by decide +kernel⟩, List.mem_of_getElem? (i := 118) (by decide +kernel), List.mem_of_getElem? (i := 734) (by decide +kernel), List.mem_of_getElem? (i := 735) (by decide +kernel)⟩
theorem lw_p19 : lw_okq (⟨"DesignDesk$RuleReader", "takeFact", "()I"⟩, 9) := ⟨⟨by decide +kernel, by decide +kernel⟩, List.mem_of_getElem? (i := 118) (by decide +kernel), List.mem_of_getElem? (i := 738) (by decide +kernel), List.mem_of_getElem? (i := 739) (by decide +kernel)⟩
theorem lw_p20 : lw_okq (⟨"DesignDesk$RuleReader", "mayEnd", "()Z"⟩, 9) := ⟨⟨by decide +kernel, by decide +kernel⟩, List.mem_of_getElem? (i := 118) (by decide +kernel), List.mem_of_getElem? (i := 747) (by decide +kernel), List.mem_of_getElem? (i := 748) (by decide +kernel)⟩
theorem lw_p21 : lw_okq (⟨"DesignDesk$RuleReader", "release", "(I)V"⟩, 9) := ⟨⟨by decide +kernel, by decide +kernel⟩, List.mem_of_getElem? (i := 118) (by decide +kernel), List.mem_of_getElem? (i := 751) (by decide +kernel), List.mem_of_getElem? (i := 752) (by decide +kernel)⟩
theorem lw_p22 : lw_okq (⟨"DesignDesk$RuleReader", "takesSign", "(I)Z"⟩, 9) := ⟨⟨by decide +kernel, by decide +kernel⟩, List.mem_of_getElem? (i := 118) (by decide +kernel), List.mem_of_getElem? (i := 782) (by decide +kernel), List.mem_of_getElem? (i := 783) (by decide +kernel)⟩
theorem lw_p23 : lw_okq (⟨"DesignDesk$RuleReader", "closeBracket", "()V"⟩, 9) := ⟨⟨by decide +kernel, by decide +kernel⟩, List.mem_of_getElem? (i := 118) (by decide +kernel), List.mem_of_getElem? (i := 786) (by decide +kernel), List.mem_of_getElem? (i := 787) (by decide +kernel)⟩
theorem lw_p24 : lw_okq (⟨"DesignDesk$RuleReader", "takeJoint", "()I"⟩, 9) := ⟨⟨by decide +kernel, by decide +kernel⟩, List.mem_of_getElem? (i := 118) (by decide +kernel), List.mem_of_getElem? (i := 790) (by decide +kernel), List.mem_of_getElem? (i := 791) (by decide +kernel)⟩
theorem lw_p25 : lw_okq (⟨"DesignDesk$RuleReader", "addSign", "(I)V"⟩, 9) := ⟨⟨by decide +kernel, by decide +kernel⟩, List.mem_of_getElem? (i := 118) (by decide +kernel), List.mem_of_getElem? (i := 796) (by decide +kernel), List.mem_of_getElem? (i := 797) (by decide +kernel)⟩
theorem lw_p26 : lw_okq (⟨"DesignDesk$History", "forgetOldest", "()V"⟩, 2) := ⟨⟨by decide +kernel, by decide +kernel⟩, List.mem_of_getElem? (i := 95) (by decide +kernel), List.mem_of_getElem? (i := 811) (by decide +kernel), List.mem_of_getElem? (i := 812) (by decide +kernel)⟩
theorem lw_p27 : lw_okq (⟨"DesignDesk", "needCell", "(III)V"⟩, 14) := ⟨⟨by decide +kernel, by decide +kernel⟩, List.mem_of_getElem? (i := 28) (by decide +kernel), List.mem_of_getElem? (i := 832) (by decide +kernel), List.mem_of_getElem? (i := 833) (by decide +kernel)⟩
theorem lw_p28 : lw_okq (⟨"DesignDesk", "needDesign", "(I)V"⟩, 14) := ⟨⟨by decide +kernel, by decide +kernel⟩, List.mem_of_getElem? (i := 28) (by decide +kernel), List.mem_of_getElem? (i := 836) (by decide +kernel), List.mem_of_getElem? (i := 837) (by decide +kernel)⟩
theorem lw_p29 : lw_okq (⟨"DesignDesk$Shapes", "countSets", "(LDesignDesk$Design;Z)I"⟩, 4) := ⟨⟨by decide +kernel, by decide +kernel⟩, List.mem_of_getElem? (i := 279) (by decide +kernel), List.mem_of_getElem? (i := 907) (by decide +kernel), List.mem_of_getElem? (i := 908) (by decide +kernel)⟩
theorem lw_p30 : lw_okq (⟨"DesignDesk$Shapes", "isFresh", "(LDesignDesk$Design;IIZ)Z"⟩, 4) := ⟨⟨by decide +kernel, by decide +kernel⟩, List.mem_of_getElem? (i := 279) (by decide +kernel), List.mem_of_getElem? (i := 912) (by decide +kernel), List.mem_of_getElem? (i := 913) (by decide +kernel)⟩
theorem lw_p31 : lw_okq (⟨"DesignDesk$Shapes", "walkSet", "(LDesignDesk$Design;IIZ)Z"⟩, 4) := ⟨⟨by decide +kernel, by decide +kernel⟩, List.mem_of_getElem? (i := 279) (by decide +kernel), List.mem_of_getElem? (i := 917) (by decide +kernel), List.mem_of_getElem? (i := 918) (by decide +kernel)⟩
def lw_privs_2 : List (MethodName × Nat) := [(⟨"DesignDesk$RuleReader", "openOne", "(I)V"⟩, 9), (⟨"DesignDesk$RuleReader", "pile", "(I)V"⟩, 9), (⟨"DesignDesk$RuleReader", "emit", "(I)V"⟩, 9), (⟨"DesignDesk$RuleReader", "takeFact", "()I"⟩, 9), (⟨"DesignDesk$RuleReader", "mayEnd", "()Z"⟩, 9), (⟨"DesignDesk$RuleReader", "release", "(I)V"⟩, 9), (⟨"DesignDesk$RuleReader", "takesSign", "(I)Z"⟩, 9), (⟨"DesignDesk$RuleReader", "closeBracket", "()V"⟩, 9), (⟨"DesignDesk$RuleReader", "takeJoint", "()I"⟩, 9), (⟨"DesignDesk$RuleReader", "addSign", "(I)V"⟩, 9), (⟨"DesignDesk$History", "forgetOldest", "()V"⟩, 2), (⟨"DesignDesk", "needCell", "(III)V"⟩, 14), (⟨"DesignDesk", "needDesign", "(I)V"⟩, 14), (⟨"DesignDesk$Shapes", "countSets", "(LDesignDesk$Design;Z)I"⟩, 4), (⟨"DesignDesk$Shapes", "isFresh", "(LDesignDesk$Design;IIZ)Z"⟩, 4), (⟨"DesignDesk$Shapes", "walkSet", "(LDesignDesk$Design;IIZ)Z"⟩, 4)]
theorem lw_r2 : ∀ q ∈ lw_privs_2, lw_okq q := List.forall_mem_cons.mpr ⟨lw_p16, List.forall_mem_cons.mpr ⟨lw_p17, List.forall_mem_cons.mpr ⟨lw_p18, List.forall_mem_cons.mpr ⟨lw_p19, List.forall_mem_cons.mpr ⟨lw_p20, List.forall_mem_cons.mpr ⟨lw_p21, List.forall_mem_cons.mpr ⟨lw_p22, List.forall_mem_cons.mpr ⟨lw_p23, List.forall_mem_cons.mpr ⟨lw_p24, List.forall_mem_cons.mpr ⟨lw_p25, List.forall_mem_cons.mpr ⟨lw_p26, List.forall_mem_cons.mpr ⟨lw_p27, List.forall_mem_cons.mpr ⟨lw_p28, List.forall_mem_cons.mpr ⟨lw_p29, List.forall_mem_cons.mpr ⟨lw_p30, List.forall_mem_cons.mpr ⟨lw_p31, fun _ h => absurd h List.not_mem_nil⟩⟩⟩⟩⟩⟩⟩⟩⟩⟩⟩⟩⟩⟩⟩⟩
theorem lw_p32 : lw_okq (⟨"DesignDesk$Shapes", "lineUp", "(II)V"⟩, 4) := ⟨⟨by decide +kernel, by decide +kernel⟩, List.mem_of_getElem? (i := 279) (by decide +kernel), List.mem_of_getElem? (i := 921) (by decide +kernel), List.mem_of_getElem? (i := 922) (by decide +kernel)⟩
theorem lw_p33 : lw_okq (⟨"DesignDesk", "isNew", "(I)Z"⟩, 14) := ⟨⟨by decide +kernel, by decide +kernel⟩, List.mem_of_getElem? (i := 28) (by decide +kernel), List.mem_of_getElem? (i := 938) (by decide +kernel), List.mem_of_getElem? (i := 939) (by decide +kernel)⟩
theorem lw_p34 : lw_okq (⟨"DesignDesk", "needTwo", "(II)V"⟩, 14) := ⟨⟨by decide +kernel, by decide +kernel⟩, List.mem_of_getElem? (i := 28) (by decide +kernel), List.mem_of_getElem? (i := 957) (by decide +kernel), List.mem_of_getElem? (i := 958) (by decide +kernel)⟩
theorem lw_p35 : lw_okq (⟨"DesignDesk$Best", "lowered", "(I)I"⟩, 6) := ⟨⟨by decide +kernel, by decide +kernel⟩, List.mem_of_getElem? (i := 209) (by decide +kernel), List.mem_of_getElem? (i := 977) (by decide +kernel), List.mem_of_getElem? (i := 978) (by decide +kernel)⟩
theorem lw_p36 : lw_okq (⟨"DesignDeskModel", "bad", "(ZII)Z"⟩, 37) := ⟨⟨by decide +kernel, by decide +kernel⟩, List.mem_of_getElem? (i := 1009) (by decide +kernel), List.mem_of_getElem? (i := 1145) (by decide +kernel), List.mem_of_getElem? (i := 1146) (by decide +kernel)⟩
theorem lw_p37 : lw_okq (⟨"DesignDeskModel", "fine", "()Z"⟩, 37) := ⟨⟨by decide +kernel, by decide +kernel⟩, List.mem_of_getElem? (i := 1009) (by decide +kernel), List.mem_of_getElem? (i := 1149) (by decide +kernel), List.mem_of_getElem? (i := 1150) (by decide +kernel)⟩
theorem lw_p38 : lw_okq (⟨"DesignDeskModel", "here", "()I"⟩, 37) := ⟨⟨by decide +kernel, by decide +kernel⟩, List.mem_of_getElem? (i := 1009) (by decide +kernel), List.mem_of_getElem? (i := 1153) (by decide +kernel), List.mem_of_getElem? (i := 1154) (by decide +kernel)⟩
theorem lw_p39 : lw_okq (⟨"DesignDeskModel", "byteAt", "(I)I"⟩, 37) := ⟨⟨by decide +kernel, by decide +kernel⟩, List.mem_of_getElem? (i := 1009) (by decide +kernel), List.mem_of_getElem? (i := 1157) (by decide +kernel), List.mem_of_getElem? (i := 1158) (by decide +kernel)⟩
theorem lw_p40 : lw_okq (⟨"DesignDeskModel", "readsLine", "()V"⟩, 37) := ⟨⟨by decide +kernel, by decide +kernel⟩, List.mem_of_getElem? (i := 1009) (by decide +kernel), List.mem_of_getElem? (i := 1161) (by decide +kernel), List.mem_of_getElem? (i := 1162) (by decide +kernel)⟩
theorem lw_p41 : lw_okq (⟨"DesignDeskModel", "takes", "(Ljava/lang/String;)Z"⟩, 37) := ⟨⟨by decide +kernel, by decide +kernel⟩, List.mem_of_getElem? (i := 1009) (by decide +kernel), List.mem_of_getElem? (i := 1166) (by decide +kernel), List.mem_of_getElem? (i := 1167) (by decide +kernel)⟩
theorem lw_p42 : lw_okq (⟨"DesignDeskModel", "wrong", "(II)V"⟩, 37) := ⟨⟨by decide +kernel, by decide +kernel⟩, List.mem_of_getElem? (i := 1009) (by decide +kernel), List.mem_of_getElem? (i := 1172) (by decide +kernel), List.mem_of_getElem? (i := 1173) (by decide +kernel)⟩
theorem lw_p43 : lw_okq (⟨"DesignDeskModel", "readsDesign", "()V"⟩, 37) := ⟨⟨by decide +kernel, by decide +kernel⟩, List.mem_of_getElem? (i := 1009) (by decide +kernel), List.mem_of_getElem? (i := 1176) (by decide +kernel), List.mem_of_getElem? (i := 1177) (by decide +kernel)⟩
theorem lw_p44 : lw_okq (⟨"DesignDeskModel", "number", "()I"⟩, 37) := ⟨⟨by decide +kernel, by decide +kernel⟩, List.mem_of_getElem? (i := 1009) (by decide +kernel), List.mem_of_getElem? (i := 1180) (by decide +kernel), List.mem_of_getElem? (i := 1181) (by decide +kernel)⟩
theorem lw_p45 : lw_okq (⟨"DesignDeskModel", "sortHere", "()I"⟩, 37) := ⟨⟨by decide +kernel, by decide +kernel⟩, List.mem_of_getElem? (i := 1009) (by decide +kernel), List.mem_of_getElem? (i := 1191) (by decide +kernel), List.mem_of_getElem? (i := 1192) (by decide +kernel)⟩
theorem lw_p46 : lw_okq (⟨"DesignDeskModel", "test", "()V"⟩, 37) := ⟨⟨by decide +kernel, by decide +kernel⟩, List.mem_of_getElem? (i := 1009) (by decide +kernel), List.mem_of_getElem? (i := 1196) (by decide +kernel), List.mem_of_getElem? (i := 1197) (by decide +kernel)⟩
theorem lw_p47 : lw_okq (⟨"DesignDeskModel", "facts", "()V"⟩, 37) := ⟨⟨by decide +kernel, by decide +kernel⟩, List.mem_of_getElem? (i := 1009) (by decide +kernel), List.mem_of_getElem? (i := 1200) (by decide +kernel), List.mem_of_getElem? (i := 1201) (by decide +kernel)⟩
def lw_privs_3 : List (MethodName × Nat) := [(⟨"DesignDesk$Shapes", "lineUp", "(II)V"⟩, 4), (⟨"DesignDesk", "isNew", "(I)Z"⟩, 14), (⟨"DesignDesk", "needTwo", "(II)V"⟩, 14), (⟨"DesignDesk$Best", "lowered", "(I)I"⟩, 6), (⟨"DesignDeskModel", "bad", "(ZII)Z"⟩, 37), (⟨"DesignDeskModel", "fine", "()Z"⟩, 37), (⟨"DesignDeskModel", "here", "()I"⟩, 37), (⟨"DesignDeskModel", "byteAt", "(I)I"⟩, 37), (⟨"DesignDeskModel", "readsLine", "()V"⟩, 37), (⟨"DesignDeskModel", "takes", "(Ljava/lang/String;)Z"⟩, 37), (⟨"DesignDeskModel", "wrong", "(II)V"⟩, 37), (⟨"DesignDeskModel", "readsDesign", "()V"⟩, 37), (⟨"DesignDeskModel", "number", "()I"⟩, 37), (⟨"DesignDeskModel", "sortHere", "()I"⟩, 37), (⟨"DesignDeskModel", "test", "()V"⟩, 37), (⟨"DesignDeskModel", "facts", "()V"⟩, 37)]
theorem lw_r3 : ∀ q ∈ lw_privs_3, lw_okq q := List.forall_mem_cons.mpr ⟨lw_p32, List.forall_mem_cons.mpr ⟨lw_p33, List.forall_mem_cons.mpr ⟨lw_p34, List.forall_mem_cons.mpr ⟨lw_p35, List.forall_mem_cons.mpr ⟨lw_p36, List.forall_mem_cons.mpr ⟨lw_p37, List.forall_mem_cons.mpr ⟨lw_p38, List.forall_mem_cons.mpr ⟨lw_p39, List.forall_mem_cons.mpr ⟨lw_p40, List.forall_mem_cons.mpr ⟨lw_p41, List.forall_mem_cons.mpr ⟨lw_p42, List.forall_mem_cons.mpr ⟨lw_p43, List.forall_mem_cons.mpr ⟨lw_p44, List.forall_mem_cons.mpr ⟨lw_p45, List.forall_mem_cons.mpr ⟨lw_p46, List.forall_mem_cons.mpr ⟨lw_p47, fun _ h => absurd h List.not_mem_nil⟩⟩⟩⟩⟩⟩⟩⟩⟩⟩⟩⟩⟩⟩⟩⟩
theorem lw_p48 : lw_okq (⟨"DesignDeskModel", "fact", "()V"⟩, 37) := ⟨⟨by decide +kernel, by decide +kernel⟩, List.mem_of_getElem? (i := 1009) (by decide +kernel), List.mem_of_getElem? (i := 1204) (by decide +kernel), List.mem_of_getElem? (i := 1205) (by decide +kernel)⟩
theorem lw_p49 : lw_okq (⟨"DesignDeskModel", "opens", "(I)V"⟩, 37) := ⟨⟨by decide +kernel, by decide +kernel⟩, List.mem_of_getElem? (i := 1009) (by decide +kernel), List.mem_of_getElem? (i := 1209) (by decide +kernel), List.mem_of_getElem? (i := 1210) (by decide +kernel)⟩
theorem lw_p50 : lw_okq (⟨"DesignDeskModel", "tells", "(I)V"⟩, 37) := ⟨⟨by decide +kernel, by decide +kernel⟩, List.mem_of_getElem? (i := 1009) (by decide +kernel), List.mem_of_getElem? (i := 1213) (by decide +kernel), List.mem_of_getElem? (i := 1214) (by decide +kernel)⟩
theorem lw_p51 : lw_okq (⟨"DesignDeskModel", "sum", "()V"⟩, 37) := ⟨⟨by decide +kernel, by decide +kernel⟩, List.mem_of_getElem? (i := 1009) (by decide +kernel), List.mem_of_getElem? (i := 1217) (by decide +kernel), List.mem_of_getElem? (i := 1218) (by decide +kernel)⟩
theorem lw_p52 : lw_okq (⟨"DesignDeskModel", "product", "()V"⟩, 37) := ⟨⟨by decide +kernel, by decide +kernel⟩, List.mem_of_getElem? (i := 1009) (by decide +kernel), List.mem_of_getElem? (i := 1221) (by decide +kernel), List.mem_of_getElem? (i := 1222) (by decide +kernel)⟩
theorem lw_p53 : lw_okq (⟨"DesignDeskModel", "unit", "()V"⟩, 37) := ⟨⟨by decide +kernel, by decide +kernel⟩, List.mem_of_getElem? (i := 1009) (by decide +kernel), List.mem_of_getElem? (i := 1225) (by decide +kernel), List.mem_of_getElem? (i := 1226) (by decide +kernel)⟩
theorem lw_p54 : lw_okq (⟨"DesignDeskModel", "must", "(I)V"⟩, 37) := ⟨⟨by decide +kernel, by decide +kernel⟩, List.mem_of_getElem? (i := 1009) (by decide +kernel), List.mem_of_getElem? (i := 1229) (by decide +kernel), List.mem_of_getElem? (i := 1230) (by decide +kernel)⟩
theorem lw_p55 : lw_okq (⟨"DesignDeskModel", "remembers", "()V"⟩, 37) := ⟨⟨by decide +kernel, by decide +kernel⟩, List.mem_of_getElem? (i := 1009) (by decide +kernel), List.mem_of_getElem? (i := 1240) (by decide +kernel), List.mem_of_getElem? (i := 1241) (by decide +kernel)⟩
theorem lw_p56 : lw_okq (⟨"DesignDeskModel", "isCell", "(III)Z"⟩, 37) := ⟨⟨by decide +kernel, by decide +kernel⟩, List.mem_of_getElem? (i := 1009) (by decide +kernel), List.mem_of_getElem? (i := 1259) (by decide +kernel), List.mem_of_getElem? (i := 1260) (by decide +kernel)⟩
theorem lw_p57 : lw_okq (⟨"DesignDeskModel", "isDesign", "(I)Z"⟩, 37) := ⟨⟨by decide +kernel, by decide +kernel⟩, List.mem_of_getElem? (i := 1009) (by decide +kernel), List.mem_of_getElem? (i := 1263) (by decide +kernel), List.mem_of_getElem? (i := 1264) (by decide +kernel)⟩
theorem lw_p58 : lw_okq (⟨"DesignDeskModel", "wideOf", "(I)I"⟩, 37) := ⟨⟨by decide +kernel, by decide +kernel⟩, List.mem_of_getElem? (i := 1009) (by decide +kernel), List.mem_of_getElem? (i := 1267) (by decide +kernel), List.mem_of_getElem? (i := 1268) (by decide +kernel)⟩
theorem lw_p59 : lw_okq (⟨"DesignDeskModel", "highOf", "(I)I"⟩, 37) := ⟨⟨by decide +kernel, by decide +kernel⟩, List.mem_of_getElem? (i := 1009) (by decide +kernel), List.mem_of_getElem? (i := 1271) (by decide +kernel), List.mem_of_getElem? (i := 1272) (by decide +kernel)⟩
theorem lw_p60 : lw_okq (⟨"DesignDeskModel", "cellAt", "(III)I"⟩, 37) := ⟨⟨by decide +kernel, by decide +kernel⟩, List.mem_of_getElem? (i := 1009) (by decide +kernel), List.mem_of_getElem? (i := 1275) (by decide +kernel), List.mem_of_getElem? (i := 1276) (by decide +kernel)⟩
theorem lw_p61 : lw_okq (⟨"DesignDeskModel", "dayOf", "(I)I"⟩, 37) := ⟨⟨by decide +kernel, by decide +kernel⟩, List.mem_of_getElem? (i := 1009) (by decide +kernel), List.mem_of_getElem? (i := 1283) (by decide +kernel), List.mem_of_getElem? (i := 1284) (by decide +kernel)⟩
theorem lw_p62 : lw_okq (⟨"DesignDeskModel", "edgeOf", "(I)I"⟩, 37) := ⟨⟨by decide +kernel, by decide +kernel⟩, List.mem_of_getElem? (i := 1009) (by decide +kernel), List.mem_of_getElem? (i := 1299) (by decide +kernel), List.mem_of_getElem? (i := 1300) (by decide +kernel)⟩
theorem lw_p63 : lw_okq (⟨"DesignDeskModel", "isDark", "(III)Z"⟩, 37) := ⟨⟨by decide +kernel, by decide +kernel⟩, List.mem_of_getElem? (i := 1009) (by decide +kernel), List.mem_of_getElem? (i := 1303) (by decide +kernel), List.mem_of_getElem? (i := 1304) (by decide +kernel)⟩
def lw_privs_4 : List (MethodName × Nat) := [(⟨"DesignDeskModel", "fact", "()V"⟩, 37), (⟨"DesignDeskModel", "opens", "(I)V"⟩, 37), (⟨"DesignDeskModel", "tells", "(I)V"⟩, 37), (⟨"DesignDeskModel", "sum", "()V"⟩, 37), (⟨"DesignDeskModel", "product", "()V"⟩, 37), (⟨"DesignDeskModel", "unit", "()V"⟩, 37), (⟨"DesignDeskModel", "must", "(I)V"⟩, 37), (⟨"DesignDeskModel", "remembers", "()V"⟩, 37), (⟨"DesignDeskModel", "isCell", "(III)Z"⟩, 37), (⟨"DesignDeskModel", "isDesign", "(I)Z"⟩, 37), (⟨"DesignDeskModel", "wideOf", "(I)I"⟩, 37), (⟨"DesignDeskModel", "highOf", "(I)I"⟩, 37), (⟨"DesignDeskModel", "cellAt", "(III)I"⟩, 37), (⟨"DesignDeskModel", "dayOf", "(I)I"⟩, 37), (⟨"DesignDeskModel", "edgeOf", "(I)I"⟩, 37), (⟨"DesignDeskModel", "isDark", "(III)Z"⟩, 37)]
theorem lw_r4 : ∀ q ∈ lw_privs_4, lw_okq q := List.forall_mem_cons.mpr ⟨lw_p48, List.forall_mem_cons.mpr ⟨lw_p49, List.forall_mem_cons.mpr ⟨lw_p50, List.forall_mem_cons.mpr ⟨lw_p51, List.forall_mem_cons.mpr ⟨lw_p52, List.forall_mem_cons.mpr ⟨lw_p53, List.forall_mem_cons.mpr ⟨lw_p54, List.forall_mem_cons.mpr ⟨lw_p55, List.forall_mem_cons.mpr ⟨lw_p56, List.forall_mem_cons.mpr ⟨lw_p57, List.forall_mem_cons.mpr ⟨lw_p58, List.forall_mem_cons.mpr ⟨lw_p59, List.forall_mem_cons.mpr ⟨lw_p60, List.forall_mem_cons.mpr ⟨lw_p61, List.forall_mem_cons.mpr ⟨lw_p62, List.forall_mem_cons.mpr ⟨lw_p63, fun _ h => absurd h List.not_mem_nil⟩⟩⟩⟩⟩⟩⟩⟩⟩⟩⟩⟩⟩⟩⟩⟩
theorem lw_p64 : lw_okq (⟨"DesignDeskModel", "sortOf", "(III)I"⟩, 37) := ⟨⟨by decide +kernel, by decide +kernel⟩, List.mem_of_getElem? (i := 1009) (by decide +kernel), List.mem_of_getElem? (i := 1307) (by decide +kernel), List.mem_of_getElem? (i := 1308) (by decide +kernel)⟩
theorem lw_p65 : lw_okq (⟨"DesignDeskModel", "setsOf", "(IZ)I"⟩, 37) := ⟨⟨by decide +kernel, by decide +kernel⟩, List.mem_of_getElem? (i := 1009) (by decide +kernel), List.mem_of_getElem? (i := 1311) (by decide +kernel), List.mem_of_getElem? (i := 1312) (by decide +kernel)⟩
theorem lw_p66 : lw_okq (⟨"DesignDeskModel", "floods", "(II)Z"⟩, 37) := ⟨⟨by decide +kernel, by decide +kernel⟩, List.mem_of_getElem? (i := 1009) (by decide +kernel), List.mem_of_getElem? (i := 1315) (by decide +kernel), List.mem_of_getElem? (i := 1316) (by decide +kernel)⟩
theorem lw_p67 : lw_okq (⟨"DesignDeskModel", "looksOf", "(I)I"⟩, 37) := ⟨⟨by decide +kernel, by decide +kernel⟩, List.mem_of_getElem? (i := 1009) (by decide +kernel), List.mem_of_getElem? (i := 1319) (by decide +kernel), List.mem_of_getElem? (i := 1320) (by decide +kernel)⟩
theorem lw_p68 : lw_okq (⟨"DesignDeskModel", "turns", "(II)V"⟩, 37) := ⟨⟨by decide +kernel, by decide +kernel⟩, List.mem_of_getElem? (i := 1009) (by decide +kernel), List.mem_of_getElem? (i := 1323) (by decide +kernel), List.mem_of_getElem? (i := 1324) (by decide +kernel)⟩
theorem lw_p69 : lw_okq (⟨"DesignDeskModel", "freedomOf", "(I)I"⟩, 37) := ⟨⟨by decide +kernel, by decide +kernel⟩, List.mem_of_getElem? (i := 1009) (by decide +kernel), List.mem_of_getElem? (i := 1327) (by decide +kernel), List.mem_of_getElem? (i := 1328) (by decide +kernel)⟩
theorem lw_p70 : lw_okq (⟨"DesignDeskModel", "countOf", "(II)I"⟩, 37) := ⟨⟨by decide +kernel, by decide +kernel⟩, List.mem_of_getElem? (i := 1009) (by decide +kernel), List.mem_of_getElem? (i := 1331) (by decide +kernel), List.mem_of_getElem? (i := 1332) (by decide +kernel)⟩
theorem lw_p71 : lw_okq (⟨"DesignDeskModel", "priors", "(I)V"⟩, 37) := ⟨⟨by decide +kernel, by decide +kernel⟩, List.mem_of_getElem? (i := 1009) (by decide +kernel), List.mem_of_getElem? (i := 1335) (by decide +kernel), List.mem_of_getElem? (i := 1336) (by decide +kernel)⟩
theorem lw_p72 : lw_okq (⟨"DesignDeskModel", "overlays", "(II)V"⟩, 37) := ⟨⟨by decide +kernel, by decide +kernel⟩, List.mem_of_getElem? (i := 1009) (by decide +kernel), List.mem_of_getElem? (i := 1339) (by decide +kernel), List.mem_of_getElem? (i := 1340) (by decide +kernel)⟩
theorem lw_p73 : lw_okq (⟨"DesignDeskModel", "laysA", "(I)V"⟩, 37) := ⟨⟨by decide +kernel, by decide +kernel⟩, List.mem_of_getElem? (i := 1009) (by decide +kernel), List.mem_of_getElem? (i := 1343) (by decide +kernel), List.mem_of_getElem? (i := 1344) (by decide +kernel)⟩
theorem lw_p74 : lw_okq (⟨"DesignDeskModel", "laysB", "(II)V"⟩, 37) := ⟨⟨by decide +kernel, by decide +kernel⟩, List.mem_of_getElem? (i := 1009) (by decide +kernel), List.mem_of_getElem? (i := 1347) (by decide +kernel), List.mem_of_getElem? (i := 1348) (by decide +kernel)⟩
theorem lw_p75 : lw_okq (⟨"DesignDeskModel", "lies", "(II)V"⟩, 37) := ⟨⟨by decide +kernel, by decide +kernel⟩, List.mem_of_getElem? (i := 1009) (by decide +kernel), List.mem_of_getElem? (i := 1351) (by decide +kernel), List.mem_of_getElem? (i := 1352) (by decide +kernel)⟩
theorem lw_p76 : lw_okq (⟨"DesignDeskModel", "doesInfringe", "(II)Z"⟩, 37) := ⟨⟨by decide +kernel, by decide +kernel⟩, List.mem_of_getElem? (i := 1009) (by decide +kernel), List.mem_of_getElem? (i := 1391) (by decide +kernel), List.mem_of_getElem? (i := 1392) (by decide +kernel)⟩
theorem lw_p77 : lw_okq (⟨"DesignDeskModel", "holds", "()Z"⟩, 37) := ⟨⟨by decide +kernel, by decide +kernel⟩, List.mem_of_getElem? (i := 1009) (by decide +kernel), List.mem_of_getElem? (i := 1396) (by decide +kernel), List.mem_of_getElem? (i := 1397) (by decide +kernel)⟩
def lw_privs_5 : List (MethodName × Nat) := [(⟨"DesignDeskModel", "sortOf", "(III)I"⟩, 37), (⟨"DesignDeskModel", "setsOf", "(IZ)I"⟩, 37), (⟨"DesignDeskModel", "floods", "(II)Z"⟩, 37), (⟨"DesignDeskModel", "looksOf", "(I)I"⟩, 37), (⟨"DesignDeskModel", "turns", "(II)V"⟩, 37), (⟨"DesignDeskModel", "freedomOf", "(I)I"⟩, 37), (⟨"DesignDeskModel", "countOf", "(II)I"⟩, 37), (⟨"DesignDeskModel", "priors", "(I)V"⟩, 37), (⟨"DesignDeskModel", "overlays", "(II)V"⟩, 37), (⟨"DesignDeskModel", "laysA", "(I)V"⟩, 37), (⟨"DesignDeskModel", "laysB", "(II)V"⟩, 37), (⟨"DesignDeskModel", "lies", "(II)V"⟩, 37), (⟨"DesignDeskModel", "doesInfringe", "(II)Z"⟩, 37), (⟨"DesignDeskModel", "holds", "()Z"⟩, 37)]
theorem lw_r5 : ∀ q ∈ lw_privs_5, lw_okq q := List.forall_mem_cons.mpr ⟨lw_p64, List.forall_mem_cons.mpr ⟨lw_p65, List.forall_mem_cons.mpr ⟨lw_p66, List.forall_mem_cons.mpr ⟨lw_p67, List.forall_mem_cons.mpr ⟨lw_p68, List.forall_mem_cons.mpr ⟨lw_p69, List.forall_mem_cons.mpr ⟨lw_p70, List.forall_mem_cons.mpr ⟨lw_p71, List.forall_mem_cons.mpr ⟨lw_p72, List.forall_mem_cons.mpr ⟨lw_p73, List.forall_mem_cons.mpr ⟨lw_p74, List.forall_mem_cons.mpr ⟨lw_p75, List.forall_mem_cons.mpr ⟨lw_p76, List.forall_mem_cons.mpr ⟨lw_p77, fun _ h => absurd h List.not_mem_nil⟩⟩⟩⟩⟩⟩⟩⟩⟩⟩⟩⟩⟩⟩
def lw_privs : List (MethodName × Nat) := lw_privs_1 ++ (lw_privs_2 ++ (lw_privs_3 ++ (lw_privs_4 ++ (lw_privs_5))))
def lw_tbl : List Cond := k2_sels lw_privs ++ tables_1
theorem lw_privs_ok : ∀ q ∈ lw_privs, lw_okq q := by
  show ∀ q ∈ lw_privs_1 ++ (lw_privs_2 ++ (lw_privs_3 ++ (lw_privs_4 ++ (lw_privs_5)))), lw_okq q
  exact List.forall_mem_append.mpr ⟨lw_r1, List.forall_mem_append.mpr ⟨lw_r2, List.forall_mem_append.mpr ⟨lw_r3, List.forall_mem_append.mpr ⟨lw_r4, lw_r5⟩⟩⟩⟩
end
section
/-! ===== BEGIN words of one list among another's, by their places ===== -/
theorem goodIn_r {big : List Cond} (ws : List Cond) (ps : List Nat) (hp : ws = ps.filterMap (fun i => big[i]?)) (h : ws.all goodWord = true) : GoodIn big ws := by
  intro w hw
  have h1 := List.all_eq_true.mp h w hw
  rw [hp] at hw
  obtain ⟨i, -, hi⟩ := List.mem_filterMap.mp hw
  have hm : w ∈ big := by first | exact List.mem_of_getElem? hi | exact List.getElem?_mem hi
  exact ⟨hm, good_of_word h1⟩
theorem goodIn_app {big a b : List Cond} (ha : GoodIn big a) (hb : GoodIn big b) : GoodIn big (a ++ b) := fun w h => (List.mem_append.mp h).elim (ha w) (hb w)
theorem goodIn_ca {big a b : List Cond} {c : Cond} (ha : GoodIn big (c :: a)) (hb : GoodIn big b) : GoodIn big (c :: (a ++ b)) := fun w h => (List.mem_cons.mp h).elim (fun e => ha w (List.mem_cons.mpr (Or.inl e))) (fun h => (List.mem_append.mp h).elim (fun h => ha w (List.mem_cons.mpr (Or.inr h))) (hb w))
theorem goodIn_sub {big ws : List Cond} (hm : ∀ w ∈ ws, w ∈ big) (h : ws.all goodWord = true) : GoodIn big ws := fun w hw => ⟨hm w hw, good_of_word (List.all_eq_true.mp h w hw)⟩
/-! ===== END ===== -/
/-! ===== BEGIN exceptions that leave a method, and their catching by the caller (launches without stack traces) ===== -/
section VXA
/-! The laws vx_back, vx_callV, vx_callS, vx_callSW, vx_throw0, vx_throwS follow proofs of the library, with one case more: JvmDerived/Free/Laws.lean (Back.of_free), Shelf42/LK1.lean (callV, callS), Shelf/KitTraced.lean (throwNew0V, throwNewS). -/
/-- where a method has thrown q: the class by its name, the cell, what was written, the world -/
def vx_T (XC : String → State → State → Prop) (st : State) (q : Addr) (t : State) (mc ms : Nat) (free : Addr → Prop) : Prop :=
  ∃ (E : String) (ce : Cell) (L : List Loc), XC E st t ∧ t.heap[q]? = some ce ∧ ce.vm = .none ∧ st.vm.findClass E = some ce.cls ∧ st.WarmedH t.vm ∧ st.sameButNew ({ t with vm := st.vm } : State) L mc ms ∧ ∀ z ∈ L, free z.base
def vx_Q (Qc : Array Value → State → Outcome → State → Prop) (XC : String → State → State → Prop) (mc ms : Nat) (free : Addr → Prop) : Array Value → State → Outcome → State → Prop := fun a st o t =>
  (Qc a st o t ∧ ∃ L, FrameEnd st o t L mc ms ∧ ∀ q ∈ L, free q.base) ∨ ∃ q, o = .threw q ∧ vx_T XC st q t mc ms free
/-- a callee that returns or throws -/
def vx_Met (l : Launch) (y : MethodName) (ws : List Cond) (rm : Room) (Pc : Array Value → State → Prop) (Qc : Array Value → State → Outcome → State → Prop) (XC : String → State → State → Prop) (mc ms : Nat) (free : Addr → Prop) : Prop :=
  MetFree l y (headSpec ws rm) Pc (fun _ _ _ _ _ => True) (vx_Q Qc XC mc ms free)
def vx_Post (XC : String → State → State → Prop) (mc ms : Nat) (free : Addr → Prop) : Pt → Array Value → Addr → Pt → Prop := fun A a q B =>
  ∃ (g : JFrame) (mk : MethodId) (t : State) (L : List Loc) (E : String) (ce : Cell), B.U.heap = t.heap ∧ B.U.vm = t.vm ∧ XC E (A.U.calling g mk a) t ∧ t.heap[q]? = some ce ∧ ce.vm = .none ∧ A.U.vm.findClass E = some ce.cls ∧ B.locs = A.locs ++ L ∧ (∀ z ∈ L, free z.base) ∧ B.cells = A.cells + mc ∧ B.slots = A.slots + ms
def vx_Back (l : Launch) (R : Room) (p : Program) (e : Env) (below : List Frame) (s : State) (sargs : Array Value) (y : MethodName) (len W9 : Nat)
    (Pre : Pt → Array Value → Prop) (Post : Pt → Array Value → Option Value → Pt → Prop) (PostX : Pt → Array Value → Addr → Pt → Prop) : Prop :=
  ∀ (m : MethodId) (meth : Method) (c : Code) (A : Pt) (g : JFrame) (ig : Instr) (mk : MethodId) (a : Array Value),
    Stand p l e R s m sargs below meth c A.U A.locs A.cells A.slots → g.method = m → g.locals.size = c.maxLocals → decode c.code g.pc = .ok (ig, len) →
    2 * g.monitorRoom + (g.stack.map fun v => v.category).sum ≤ W9 → A.U.methodNamed? y = some mk → Pre A a →
    (∃ (v : Option Value) (B : Pt), Stand p l e R s m sargs below meth c B.U B.locs B.cells B.slots ∧ Post A a v B ∧
      Steps p.tables e below (doInvoke e (A.U.setTop g) [] mk a).1 (B.U.setTop { g with pc := g.pc + len, stack := v.toList ++ g.stack })) ∨
    (∃ (q : Addr) (B : Pt), Stand p l e R s m sargs below meth c B.U B.locs B.cells B.slots ∧ PostX A a q B ∧
      Steps p.tables e below (doInvoke e (A.U.setTop g) [] mk a).1 ((B.U.setTop g).pushFrame (.throwing q)))
section Payer
variable {l : Launch} {R : Room} {p : Program} {e : Env} {below : List Frame} {s : State} {sargs : Array Value} {y : MethodName} {len W9 : Nat}
theorem vx_back {ws : List Cond} {rm : Room} {Pc : Array Value → State → Prop} {Qc : Array Value → State → Outcome → State → Prop} {XC : String → State → State → Prop} {mc ms : Nat} {free : Addr → Prop} {bytes : ByteArray} {maxL : Nat} {ret : Option FieldType}
    (hM : vx_Met l y ws rm Pc Qc XC mc ms free) (hblind : FrameBlind Pc) (hrc : rm.cells = mc) (hrs : rm.slots = ms)
    (hframes : rm.frames + 1 ≤ R.frames) (hlocals : W9 + (maxL + 11) + rm.locals ≤ R.locals)
    (hws : ∀ w ∈ ws, ∀ a' U, s.WarmedH U.vm → w.before a' U = true) (hcode : Cond.code y bytes maxL ret ∈ ws) (hinit : ∀ a' U, s.WarmedH U.vm → (Cond.initialized y.cls).before a' U = true) :
    vx_Back l R p e below s sargs y len W9 (PreOf R mc ms Pc) (PostOf Qc mc ms free) (vx_Post XC mc ms free) := by
  intro m meth c A g ig mk a X hg hsize hdg hW hn hp
  have h1 : (headSpec ws rm).pre.before a A.U = true := atoms_intro fun w hw => hws w hw _ _ X.warmed
  have h2 : (Cond.code y bytes maxL ret).before a A.U = true := hws _ hcode _ _ X.warmed
  have h3 : (Cond.initialized y.cls).before a A.U = true := hinit _ _ X.warmed
  have h4 : A.cells + (headSpec ws rm).room.cells ≤ R.cells := by rw [show (headSpec ws rm).room.cells = mc from hrc]; exact hp.1
  have h5 : A.slots + (headSpec ws rm).room.slots ≤ R.slots := by rw [show (headSpec ws rm).room.slots = ms from hrs]; exact hp.2.1
  have hPc : Pc a (A.U.calling g mk a) := hblind _ _ _ _ hp.2.2
  obtain ⟨U, Ls, c0, s0⟩ := A
  dsimp only [Pt.U, Pt.locs, Pt.cells, Pt.slots] at h1 h2 h3 h4 h5 X hn hPc ⊢
  obtain ⟨methY, cY, hmY, hcY, -, hlY, -, -, -, -⟩ := Cond.code_spec hn h2
  obtain ⟨kY, hkY, -⟩ := className_of_methodNamed hn
  have hinitY : kY.init = .initialized := Cond.initialized_spec (findClass_of_methodNamed hn) hkY h3
  have h : At U g.method c below := by rw [hg]; exact X.here
  have hlocals9 : W9 + (maxL + 11) + (headSpec ws rm).room.locals ≤ R.locals := hlocals
  have happ : (headSpec ws rm).appliesLoose y e.platform (U.calling g mk a) = true :=
    Spec.appliesLoose_calling (g := g) h hdg hn hkY hinitY
      (X.room_calling (g := g) (R' := (headSpec ws rm).room) hsize hmY hcY hframes (by rw [hlY]; omega) h4 h5) h1
  obtain ⟨mid, hmid⟩ := h.above
  have hfr : (U.setTop g).frames = (.java g :: mid) ++ below := by rw [State.frames_setTop' g h.top, hmid]; rfl
  obtain ⟨o, s₂, hsteps, -, hend, hq⟩ := Steps.callFree hM p X.admits X.cas X.clock (acts := []) hfr happ hPc trivial
  have hq' : vx_Q Qc XC mc ms free a (U.calling g mk a) o s₂ := hq
  rw [State.frames_setTop' g h.top] at hend
  obtain ⟨g₀, hg0⟩ := Option.isSome_iff_exists.mp h.top
  obtain ⟨r, hr⟩ := State.topJava?_eq_some.mp hg0
  have hr' : (({ U with heap := s₂.heap, slotsUsed := s₂.slotsUsed } : State).setVm s₂.vm).frames = .java g₀ :: r := hr
  rcases hq' with ⟨hqc, L, hfe, hL⟩ | ⟨q, rfl, E, ce, L, hx, hce, hcv, hcl, hW₂, hsm, hL⟩
  · obtain ⟨⟨v, rfl⟩, hW₂, e2, q2, q3, q4, q5, q6⟩ := id hfe
    have e3 : s₂ = ({ (U.calling g mk a).setFrames s₂.frames with heap := s₂.heap, slotsUsed := s₂.slotsUsed } : State).setVm s₂.vm := by
      have : s₂ = ({ s₂ with vm := (U.calling g mk a).vm } : State).setVm s₂.vm := rfl
      rw [e2] at this
      exact this
    obtain ⟨c₂, i₂, len₂, hc₂, hd₂, hf₂⟩ := hend
    have hW' : U.WarmedH s₂.vm := hW₂
    have hcc : c₂ = c := by
      have h1 : s₂.code? g.method = U.code? g.method := by
        rw [State.code?_eq, State.code?_eq, hW'.alike.method?]
      exact Option.some.inj (hc₂.symm.trans (h1.trans h.code))
    subst hcc
    have hlen : len₂ = len := by rw [hdg] at hd₂; cases hd₂; rfl
    subst hlen
    have hs₂ : s₂ = (({ U with heap := s₂.heap, slotsUsed := s₂.slotsUsed } : State).setVm s₂.vm).setTop { g with pc := g.pc + len₂, stack := v.toList ++ g.stack } := by
      refine e3.trans ?_
      rw [hf₂, State.calling_eq h.top, State.setFrames_setFrames, State.setTop_of_frames _ hr', hr]
      rfl
    have hsame : U.sameButNew ({ U with heap := s₂.heap, slotsUsed := s₂.slotsUsed } : State) L mc ms := by
      refine ⟨?_, q2, q3, q4, q5, q6⟩
      obtain ⟨t, ht, -⟩ := State.frames_cons hr
      show ({ U with heap := s₂.heap, slotsUsed := s₂.slotsUsed } : State) = { U.setFrames U.frames with heap := s₂.heap, slotsUsed := s₂.slotsUsed }
      rw [State.setFrames_self ht]
    subst hg
    refine Or.inl ⟨v, ⟨(({ U with heap := s₂.heap, slotsUsed := s₂.slotsUsed } : State).setVm s₂.vm), Ls ++ L, c0 + mc, s0 + ms⟩,
      ⟨X.admits, X.cas, X.clock, X.frames, X.room, X.hears, X.method, X.code, (X.here.setHeapUsed s₂.heap s₂.slotsUsed).setVm hW'.alike, X.tail, State.WarmedH.trans X.warmed hW', X.limits, X.bytes, X.same.trans (hsame.setVm s.vm)⟩,
      ⟨g, mk, s₂, L, rfl, rfl, hqc, rfl, hL, rfl, rfl⟩, ?_⟩
    show Steps p.tables e below _ ((({ U with heap := s₂.heap, slotsUsed := s₂.slotsUsed } : State).setVm s₂.vm).setTop { g with pc := g.pc + len₂, stack := v.toList ++ g.stack })
    rw [← hs₂]
    exact hsteps
  · obtain ⟨e2, q2, q3, q4, q5, q6⟩ := id hsm
    have e3 : s₂ = ({ (U.calling g mk a).setFrames s₂.frames with heap := s₂.heap, slotsUsed := s₂.slotsUsed } : State).setVm s₂.vm := by
      have : s₂ = ({ s₂ with vm := (U.calling g mk a).vm } : State).setVm s₂.vm := rfl
      rw [e2] at this
      exact this
    have hf₂ : s₂.frames = .throwing q :: .java g :: U.frames.tail := hend
    have hW' : U.WarmedH s₂.vm := hW₂
    have hs₂ : s₂ = ((({ U with heap := s₂.heap, slotsUsed := s₂.slotsUsed } : State).setVm s₂.vm).setTop g).pushFrame (.throwing q) := by
      refine e3.trans ?_
      rw [hf₂, State.calling_eq h.top, State.setFrames_setFrames, State.pushFrame, State.frames_setTop _ hr', State.setTop_of_frames _ hr', State.setFrames_setFrames, hr]
      rfl
    have hsame : U.sameButNew ({ U with heap := s₂.heap, slotsUsed := s₂.slotsUsed } : State) L mc ms := by
      refine ⟨?_, q2, q3, q4, q5, q6⟩
      obtain ⟨t, ht, -⟩ := State.frames_cons hr
      show ({ U with heap := s₂.heap, slotsUsed := s₂.slotsUsed } : State) = { U.setFrames U.frames with heap := s₂.heap, slotsUsed := s₂.slotsUsed }
      rw [State.setFrames_self ht]
    subst hg
    refine Or.inr ⟨q, ⟨(({ U with heap := s₂.heap, slotsUsed := s₂.slotsUsed } : State).setVm s₂.vm), Ls ++ L, c0 + mc, s0 + ms⟩,
      ⟨X.admits, X.cas, X.clock, X.frames, X.room, X.hears, X.method, X.code, (X.here.setHeapUsed s₂.heap s₂.slotsUsed).setVm hW'.alike, X.tail, State.WarmedH.trans X.warmed hW', X.limits, X.bytes, X.same.trans (hsame.setVm s.vm)⟩,
      ⟨g, mk, s₂, L, E, ce, rfl, rfl, hx, hce, hcv, hcl, rfl, hL, rfl, rfl⟩, ?_⟩
    show Steps p.tables e below _ (((({ U with heap := s₂.heap, slotsUsed := s₂.slotsUsed } : State).setVm s₂.vm).setTop g).pushFrame (.throwing q))
    rw [← hs₂]
    exact hsteps
end Payer
section Calls
variable {p : Program} {l : Launch} {e : Env} {R : Room} {s : State} {m : MethodId} {args : Array Value} {below : List Frame} {meth : Method} {c : Code} {T : State} {locs : List Loc} {cells slots : Nat}
theorem vx_callV (X : Stand p l e R s m args below meth c T locs cells slots) (hexec : p.tables.exec = Jvm.exec) {own C : String} {index : Nat} {y : MethodName} {bytes : ByteArray} {maxL : Nat} {ret : Option FieldType}
    (hown : s.vm.findClass own = some m.cls) (hlink : (Cond.methodLink own index y).before args s = true) (hinst : (Cond.instanceMethod y).before args s = true) (hsel : (Cond.selects C y y).before args s = true)
    (hcode : (Cond.code y bytes maxL ret).before args s = true) (hy : y.cls ≠ "java/lang/invoke/MethodHandle" ∧ y.cls ≠ "java/lang/invoke/VarHandle")
    {W9 : Nat} {Pre : Pt → Array Value → Prop} {Post : Pt → Array Value → Option Value → Pt → Prop} {PostX : Pt → Array Value → Addr → Pt → Prop} (hK : vx_Back l R p e below s args y 3 W9 Pre Post PostX)
    {b : Addr} {cellB : Cell} (hcell : T.heap[b]? = some cellB) (hobj : cellB.vm.isStatics = false) (hcls : s.vm.findClass C = some cellB.cls)
    {g : JFrame} (hg : g.method = m) (hsize : g.locals.size = c.maxLocals) {argsL rest : List Value} (hlen : ∀ sig, parseMethodDescriptor y.desc = some sig → argsL.length = sig.parameters.length)
    (hstack : g.stack = argsL.reverse ++ .ref b :: rest) (hW : 2 * g.monitorRoom + (rest.map fun v => v.category).sum ≤ W9) (hdg : decode c.code g.pc = .ok (.invokevirtual index, 3))
    (hpre : ∀ vm₁, s.WarmedH vm₁ → Pre ⟨T.setVm vm₁, locs, cells, slots⟩ (Value.ref b :: argsL).toArray) :
    (∃ (v : Option Value) (vm₁ : Vm) (B : Pt), s.WarmedH vm₁ ∧ Stand p l e R s m args below meth c B.U B.locs B.cells B.slots ∧ Post ⟨T.setVm vm₁, locs, cells, slots⟩ (Value.ref b :: argsL).toArray v B ∧
      ∀ target, Steps p.tables e below (B.U.setTop { g with pc := g.pc + 3, stack := v.toList ++ rest }) target → Steps p.tables e below (T.setTop g) target) ∨
    (∃ (q : Addr) (vm₁ : Vm) (B : Pt), s.WarmedH vm₁ ∧ Stand p l e R s m args below meth c B.U B.locs B.cells B.slots ∧ PostX ⟨T.setVm vm₁, locs, cells, slots⟩ (Value.ref b :: argsL).toArray q B ∧
      Steps p.tables e below (T.setTop g) ((B.U.setTop { g with stack := rest }).pushFrame (.throwing q))) := by
  obtain ⟨mk, methM, hnamed, hmethM, hstM, habM⟩ := Cond.instanceMethod_spec hinst
  obtain ⟨methM', cM, hmethM', -, -, -, -, -, -, hsigM⟩ := Cond.code_spec hnamed hcode
  cases hmethM.symm.trans hmethM'
  obtain ⟨c2, r2, m2, q1, q2, q3, q4, kP, hkP, hkPi⟩ := Cond.selects_spec hsel
  cases hcls.symm.trans q1
  cases (State.methodFound?_of_named hnamed hy).symm.trans q2
  cases hnamed.symm.trans q3
  have hselP : selectMethod e.platform s.vm cellB.cls mk = .method mk := by rw [Launch.admits_selectMethod X.admits]; exact q4
  obtain ⟨vm₁, X₁, hstep₁⟩ := X.invokevirtual hexec hown hlink hnamed hmethM hstM hkP hkPi hy (a := b) (cell := cellB) hcell
    (fun z h => by rw [h] at hobj; cases hobj) hselP hmethM habM hkP hkPi (g := g) hg (argsL := argsL) (rest := rest) (hlen _ hsigM) hstack hdg
  rcases hK m meth c ⟨T.setVm vm₁, locs, cells, slots⟩ { g with stack := rest } (.invokevirtual index) mk (Value.ref b :: argsL).toArray X₁ hg hsize hdg hW (X₁.named hnamed) (hpre vm₁ X₁.warmed) with ⟨v, B, X', hpost, hsteps⟩ | ⟨q, B, X', hpost, hsteps⟩
  · exact Or.inl ⟨v, vm₁, B, X₁.warmed, X', hpost, fun target h => hstep₁ _ fun acts => by rw [doInvoke_state]; exact hsteps.trans h⟩
  · exact Or.inr ⟨q, vm₁, B, X₁.warmed, X', hpost, hstep₁ _ fun acts => by rw [doInvoke_state]; exact hsteps⟩
theorem vx_callS (X : Stand p l e R s m args below meth c T locs cells slots) (hexec : p.tables.exec = Jvm.exec) {own : String} {index : Nat} {y : MethodName} {bytes : ByteArray} {maxL : Nat} {ret : Option FieldType}
    (hown : s.vm.findClass own = some m.cls) (hlink : (Cond.methodLink own index y).before args s = true) (hstat : (Cond.static y).before args s = true) (hinit : (Cond.initialized y.cls).before args s = true)
    (hcode : (Cond.code y bytes maxL ret).before args s = true) (hy : y.cls ≠ "java/lang/invoke/MethodHandle" ∧ y.cls ≠ "java/lang/invoke/VarHandle")
    {W9 : Nat} {Pre : Pt → Array Value → Prop} {Post : Pt → Array Value → Option Value → Pt → Prop} {PostX : Pt → Array Value → Addr → Pt → Prop} (hK : vx_Back l R p e below s args y 3 W9 Pre Post PostX)
    {g : JFrame} (hg : g.method = m) (hsize : g.locals.size = c.maxLocals) {argsL rest : List Value} (hlen : ∀ sig, parseMethodDescriptor y.desc = some sig → argsL.length = sig.parameters.length)
    (hstack : g.stack = argsL.reverse ++ rest) (hW : 2 * g.monitorRoom + (rest.map fun v => v.category).sum ≤ W9) (hdg : decode c.code g.pc = .ok (.invokestatic index, 3))
    (hpre : ∀ vm₁, s.WarmedH vm₁ → Pre ⟨T.setVm vm₁, locs, cells, slots⟩ argsL.toArray) :
    (∃ (v : Option Value) (vm₁ : Vm) (B : Pt), s.WarmedH vm₁ ∧ Stand p l e R s m args below meth c B.U B.locs B.cells B.slots ∧ Post ⟨T.setVm vm₁, locs, cells, slots⟩ argsL.toArray v B ∧
      ∀ target, Steps p.tables e below (B.U.setTop { g with pc := g.pc + 3, stack := v.toList ++ rest }) target → Steps p.tables e below (T.setTop g) target) ∨
    (∃ (q : Addr) (vm₁ : Vm) (B : Pt), s.WarmedH vm₁ ∧ Stand p l e R s m args below meth c B.U B.locs B.cells B.slots ∧ PostX ⟨T.setVm vm₁, locs, cells, slots⟩ argsL.toArray q B ∧
      Steps p.tables e below (T.setTop g) ((B.U.setTop { g with stack := rest }).pushFrame (.throwing q))) := by
  obtain ⟨mk, hnamed⟩ := Cond.code_named hcode
  obtain ⟨methM, cM, hmethM, -, -, -, -, -, -, hsigM⟩ := Cond.code_spec hnamed hcode
  have hstatic : methM.isStatic = true := Cond.static_spec hnamed hmethM hstat
  obtain ⟨kP, hkP, -⟩ := className_of_methodNamed hnamed
  have hinitP : kP.init = .initialized := Cond.initialized_spec (findClass_of_methodNamed hnamed) hkP hinit
  obtain ⟨vm₁, X₁, hstep₁⟩ := X.invokestatic hexec hown hlink hnamed hmethM hstatic hkP hinitP hy (g := g) hg (argsL := argsL) (rest := rest) (hlen _ hsigM) hstack hdg
  rcases hK m meth c ⟨T.setVm vm₁, locs, cells, slots⟩ { g with stack := rest } (.invokestatic index) mk argsL.toArray X₁ hg hsize hdg hW (X₁.named hnamed) (hpre vm₁ X₁.warmed) with ⟨v, B, X', hpost, hsteps⟩ | ⟨q, B, X', hpost, hsteps⟩
  · exact Or.inl ⟨v, vm₁, B, X₁.warmed, X', hpost, fun target h => hstep₁ _ fun acts => by rw [doInvoke_state]; exact hsteps.trans h⟩
  · exact Or.inr ⟨q, vm₁, B, X₁.warmed, X', hpost, hstep₁ _ fun acts => by rw [doInvoke_state]; exact hsteps⟩
end Calls
theorem vx_cls {s : State} {T : State} {vm₁ : Vm} {E : String} {k : ClassId} (hW : s.WarmedH vm₁) (h : (T.setVm vm₁).vm.findClass E = some k) : s.vm.findClass E = some k := by
  have h1 : vm₁.findClass E = some k := h
  rw [hW.alike.findClass] at h1
  exact h1
/-- the method's frame g, with q thrown over it -/
def vx_W (p : Program) (l : Launch) (e : Env) (R : Room) (s : State) (m : MethodId) (args : Array Value) (below : List Frame) (meth : Method) (c : Code) (H : Heap) (locs : List Loc) (cells slots : Nat) (Q : State → Prop) (g : JFrame) (q : Addr) : Prop :=
  ∀ T : State, T.heap = H → Stand p l e R s m args below meth c T locs cells slots → ∃ t, Steps p.tables e below ((T.setTop g).pushFrame (.throwing q)) t ∧ Q t
def vx_Run (p : Program) (l : Launch) (e : Env) (R : Room) (s : State) (m : MethodId) (args : Array Value) (below : List Frame) (meth : Method) (c : Code) (H : Heap) (locs : List Loc) (cells slots mc ms : Nat) (g : JFrame) (rest : List Value) (Qa : State → Outcome → State → Prop) (XC : String → State → State → Prop) (free : Addr → Prop) : Prop :=
  ∀ T : State, T.heap = H → Stand p l e R s m args below meth c T locs cells slots →
    (∃ (v : Option Value) (st₀ t T' : State) (L : List Loc), st₀.heap = H ∧ Stand p l e R s m args below meth c T' (locs ++ L) (cells + mc) (slots + ms) ∧ (∀ q ∈ L, free q.base) ∧ T'.heap = t.heap ∧ T'.vm = t.vm ∧ Qa st₀ (.returned v) t ∧
      Goes p e below T g T' { g with pc := g.pc + 3, stack := v.toList ++ rest }) ∨
    (∃ (q : Addr) (st₀ t T' : State) (L : List Loc) (E : String) (ce : Cell), st₀.heap = H ∧ Stand p l e R s m args below meth c T' (locs ++ L) (cells + mc) (slots + ms) ∧ (∀ z ∈ L, free z.base) ∧ T'.heap = t.heap ∧ T'.vm = t.vm ∧ XC E st₀ t ∧ t.heap[q]? = some ce ∧ ce.vm = .none ∧ s.vm.findClass E = some ce.cls ∧
      Steps p.tables e below (T.setTop g) ((T'.setTop { g with stack := rest }).pushFrame (.throwing q)))
def vx_X {S : Type} (px : S → Prop) (B : String → S → State → Prop) (A : Nat → Prop) : String → State → State → Prop := fun E st t => ∃ u : S, px u ∧ B E u t ∧ va_F A st t
section Runs
variable {p : Program} {l : Launch} {e : Env} {R : Room} {s : State} {m : MethodId} {args : Array Value} {below : List Frame} {meth : Method} {c : Code} {H : Heap} {locs : List Loc} {cells slots : Nat}
variable {y : MethodName} {bytes cc : ByteArray} {maxL nL mc ms n index : Nat} {ret : Option FieldType} {ws : List Cond} {rm : Room} {Pc : Array Value → State → Prop} {Qc : Array Value → State → Outcome → State → Prop} {XC : String → State → State → Prop} {free : Addr → Prop} {Ts : List Cond} {own C : String} {b : Addr} {As rest : List Value} {g : JFrame}
theorem vx_callBack (cb : CallB R s args own index y bytes maxL ret ws rm mc ms n) (hM : vx_Met l y ws rm Pc Qc XC mc ms free) (hbl : FrameBlind Pc) : vx_Back l R p e below s args y 3 8 (PreOf R mc ms Pc) (PostOf Qc mc ms free) (vx_Post XC mc ms free) := by
  obtain ⟨hrc, hrs, hfr, hlo, hws, hcw, -, hini, -⟩ := cb
  exact vx_back (bytes := bytes) (maxL := maxL) (ret := ret) hM hbl hrc hrs hfr hlo hws hcw (fun a' U hW => word_at hW (Or.inl (by first | rfl | simp [Cond.onTables, Cond.keeps, Cond.steady])) hini)
theorem vx_runV (S : CallFix p m c cc nL s args Ts own) (hM : vx_Met l y ws rm Pc Qc XC mc ms free) (cw : CallW R s args own C index y bytes maxL ret ws rm mc ms n) (hp : PreV s H C b Pc As)
    (hg : g.method = m) (hn : As.length = n) (hsize : g.locals.size = nL) (hstack : g.stack = As.reverse ++ .ref b :: rest) (hW : 2 * g.monitorRoom + (rest.map fun v => v.category).sum ≤ 8) (hdg : decode cc g.pc = .ok (.invokevirtual index, 3)) (hf : cells + mc ≤ R.cells ∧ slots + ms ≤ R.slots) :
    vx_Run p l e R s m args below meth c H locs cells slots mc ms g rest (Qc (Value.ref b :: As).toArray) XC free := by
  have hK : vx_Back l R p e below s args y 3 8 (PreOf R mc ms Pc) (PostOf Qc mc ms free) (vx_Post XC mc ms free) := vx_callBack cw.1 hM hp.1
  obtain ⟨⟨-, -, -, -, -, -, hcode, -, hy, hlen, hl⟩, hin, hse⟩ := cw
  obtain ⟨hx, hb, hml, ho, -⟩ := S
  obtain ⟨-, ⟨cellB, hcB, hoB, hclB⟩, hPc⟩ := hp
  intro T hT X
  rcases vx_callV X hx (C := C) (bytes := bytes) (maxL := maxL) (ret := ret) ho hl hin hse hcode hy hK (by rw [hT]; exact hcB) hoB hclB hg (hsize.trans hml.symm) (argsL := As) (rest := rest) (fun sig h => hn.trans (hlen sig h)) hstack hW (by rw [hb]; exact hdg)
    (fun vm₁ hW₁ => ⟨hf.1, hf.2, hPc (T.setVm vm₁) hT hW₁⟩) with ⟨v, vm₁, ⟨U', l2, c2, s2⟩, hW₁, X', ⟨g', mk, t, L, e1, e2, hq, h1, hL, h2, h3⟩, st⟩ | ⟨q, vm₁, ⟨U', l2, c2, s2⟩, hW₁, X', ⟨g', mk, t, L, E, ce, e1, e2, hq, hce, hcv, hcl, h1, hL, h2, h3⟩, st⟩
  · dsimp only [Pt.U, Pt.locs, Pt.cells, Pt.slots] at X' e1 e2 h1 h2 h3 st
    subst h1; subst h2; subst h3
    exact Or.inl ⟨v, (T.setVm vm₁).calling g' mk (Value.ref b :: As).toArray, t, U', L, hT, X', hL, e1, e2, hq, st⟩
  · dsimp only [Pt.U, Pt.locs, Pt.cells, Pt.slots] at X' e1 e2 h1 h2 h3 st hcl
    subst h1; subst h2; subst h3
    exact Or.inr ⟨q, (T.setVm vm₁).calling g' mk (Value.ref b :: As).toArray, t, U', L, E, ce, hT, X', hL, e1, e2, hq, hce, hcv, vx_cls hW₁ hcl, st⟩
theorem vx_runS (S : CallFix p m c cc nL s args Ts own) (hM : vx_Met l y ws rm Pc Qc XC mc ms free) (cw : CallB R s args own index y bytes maxL ret ws rm mc ms n ∧ (Cond.static y).before args s = true) (hp : PreS s H Pc As)
    (hg : g.method = m) (hn : As.length = n) (hsize : g.locals.size = nL) (hstack : g.stack = As.reverse ++ rest) (hW : 2 * g.monitorRoom + (rest.map fun v => v.category).sum ≤ 8) (hdg : decode cc g.pc = .ok (.invokestatic index, 3)) (hf : cells + mc ≤ R.cells ∧ slots + ms ≤ R.slots) :
    vx_Run p l e R s m args below meth c H locs cells slots mc ms g rest (Qc As.toArray) XC free := by
  have hK : vx_Back l R p e below s args y 3 8 (PreOf R mc ms Pc) (PostOf Qc mc ms free) (vx_Post XC mc ms free) := vx_callBack cw.1 hM hp.1
  obtain ⟨⟨-, -, -, -, -, -, hcode, hini, hy, hlen, hl⟩, hstt⟩ := cw
  obtain ⟨hx, hb, hml, ho, -⟩ := S
  intro T hT X
  rcases vx_callS X hx (bytes := bytes) (maxL := maxL) (ret := ret) ho hl hstt hini hcode hy hK hg (hsize.trans hml.symm) (argsL := As) (rest := rest) (fun sig h => hn.trans (hlen sig h)) hstack hW (by rw [hb]; exact hdg)
    (fun vm₁ hW₁ => ⟨hf.1, hf.2, hp.2 (T.setVm vm₁) hT hW₁⟩) with ⟨v, vm₁, ⟨U', l2, c2, s2⟩, hW₁, X', ⟨g', mk, t, L, e1, e2, hq, h1, hL, h2, h3⟩, st⟩ | ⟨q, vm₁, ⟨U', l2, c2, s2⟩, hW₁, X', ⟨g', mk, t, L, E, ce, e1, e2, hq, hce, hcv, hcl, h1, hL, h2, h3⟩, st⟩
  · dsimp only [Pt.U, Pt.locs, Pt.cells, Pt.slots] at X' e1 e2 h1 h2 h3 st
    subst h1; subst h2; subst h3
    exact Or.inl ⟨v, (T.setVm vm₁).calling g' mk As.toArray, t, U', L, hT, X', hL, e1, e2, hq, st⟩
  · dsimp only [Pt.U, Pt.locs, Pt.cells, Pt.slots] at X' e1 e2 h1 h2 h3 st hcl
    subst h1; subst h2; subst h3
    exact Or.inr ⟨q, (T.setVm vm₁).calling g' mk As.toArray, t, U', L, E, ce, hT, X', hL, e1, e2, hq, hce, hcv, vx_cls hW₁ hcl, st⟩
end Runs
section Rows
variable {p : Program} {l : Launch} {e : Env} {R : Room} {s : State} {m : MethodId} {args : Array Value} {below : List Frame} {meth : Method} {c : Code} {H : Heap} {locs : List Loc} {cells slots : Nat} {Q : State → Prop}
variable {mc ms : Nat} {free : Addr → Prop} {A0 A1 : Nat → Prop} {H0 : Heap} {a : Array Value} {pc : Nat} {ls : Array Slot} {st0 rest : List Value}
theorem vx_keep {st₀ t T' : State} {L : List Loc} (h0 : st₀.heap = H) (e1 : T'.heap = t.heap) (hS : va_S A0 H0 H locs) (hA : ∀ q, q < H.size → A1 q → A0 q) (hf : ∀ q, free q → A0 q) (hL : ∀ q ∈ L, free q.base) (hF : va_F A1 st₀ t) :
    H.size ≤ T'.heap.size ∧ (∀ q : Nat, q < H.size → ¬ A1 q → T'.heap[q]? = H[q]?) ∧ va_S A0 H0 T'.heap (locs ++ L) := by
  obtain ⟨hz, hk⟩ := hF
  rw [h0] at hz hk
  exact ⟨by rw [e1]; exact hz, fun q h1 h2 => by rw [e1]; exact hk q h1 h2,
    ⟨Nat.le_trans hS.1 (by rw [e1]; exact hz), fun q h1 h2 => by rw [e1, hk q (Nat.lt_of_lt_of_le h1 hS.1) (fun z => h2 (hA q (Nat.lt_of_lt_of_le h1 hS.1) z))]; exact hS.2.1 q h1 h2, fun q hq => by
      rcases List.mem_append.mp hq with h | h
      · exact hS.2.2 q h
      · exact hf _ (hL q h)⟩⟩
theorem vx_calli {S SX : Type} {post : Int32 → S → Prop} {px : SX → Prop} {B : S → State → Prop} {BX : String → SX → State → Prop} {AX : Nat → Prop} (hr : vx_Run p l e R s m args below meth c H locs cells slots mc ms (F0 m pc ls st0) rest (va_Qi post B A1 a) (vx_X px BX AX) free) (hS : va_S A0 H0 H locs) (hA : ∀ q, q < H.size → A1 q → A0 q) (hf : ∀ q, free q → A0 q) (hAX : ∀ q, q < H.size → AX q → A0 q)
    (kx : ∀ (E : String) (ce : Cell) (q9 : Addr) (u : SX) (t : State) (H1 : Heap) (locs1 : List Loc), t.heap = H1 → s.vm.Alike t.vm → px u → BX E u t → H.size ≤ H1.size → (∀ q : Nat, q < H.size → ¬ AX q → H1[q]? = H[q]?) → va_S A0 H0 H1 locs1 → H1[q9]? = some ce → ce.vm = .none → s.vm.findClass E = some ce.cls → vx_W p l e R s m args below meth c H1 locs1 (cells + mc) (slots + ms) Q (F0 m pc ls rest) q9)
    (kk : ∀ (r : Int32) (u : S) (t : State) (H1 : Heap) (locs1 : List Loc), t.heap = H1 → s.vm.Alike t.vm → post r u → B u t → H.size ≤ H1.size → (∀ q : Nat, q < H.size → ¬ A1 q → H1[q]? = H[q]?) → va_S A0 H0 H1 locs1 → W p l e R s m args below meth c H1 locs1 (cells + mc) (slots + ms) Q (F0 m (pc + 3) ls (.int r :: rest))) : W p l e R s m args below meth c H locs cells slots Q (F0 m pc ls st0) := by
  intro T hT X
  rcases hr T hT X with ⟨v, st₀, t, T', L, h0, X', hL, e1, e2, ⟨⟨r, u, hv, hp, hb⟩, hF⟩, st⟩ | ⟨q, st₀, t, T', L, E, ce, h0, X', hL, e1, e2, ⟨u, hp, hb, hF⟩, hce, hcv, hcl, st⟩
  · cases hv
    obtain ⟨k1, k2, k3⟩ := vx_keep h0 e1 hS hA hf hL hF
    obtain ⟨t2, a1, b1⟩ := kk r u t T'.heap (locs ++ L) e1.symm (by rw [← e2]; exact X'.warmed.alike) hp hb k1 k2 k3 T' rfl X'
    exact ⟨t2, st t2 a1, b1⟩
  · obtain ⟨k1, k2, k3⟩ := vx_keep h0 e1 hS hAX hf hL hF
    obtain ⟨t2, a1, b1⟩ := kx E ce q u t T'.heap (locs ++ L) e1.symm (by rw [← e2]; exact X'.warmed.alike) hp hb k1 k2 k3 (by rw [e1]; exact hce) hcv hcl T' rfl X'
    exact ⟨t2, st.trans a1, b1⟩
theorem vx_calll {S SX : Type} {post : Int64 → S → Prop} {px : SX → Prop} {B : S → State → Prop} {BX : String → SX → State → Prop} {AX : Nat → Prop} (hr : vx_Run p l e R s m args below meth c H locs cells slots mc ms (F0 m pc ls st0) rest (va_Ql post B A1 a) (vx_X px BX AX) free) (hS : va_S A0 H0 H locs) (hA : ∀ q, q < H.size → A1 q → A0 q) (hf : ∀ q, free q → A0 q) (hAX : ∀ q, q < H.size → AX q → A0 q)
    (kx : ∀ (E : String) (ce : Cell) (q9 : Addr) (u : SX) (t : State) (H1 : Heap) (locs1 : List Loc), t.heap = H1 → s.vm.Alike t.vm → px u → BX E u t → H.size ≤ H1.size → (∀ q : Nat, q < H.size → ¬ AX q → H1[q]? = H[q]?) → va_S A0 H0 H1 locs1 → H1[q9]? = some ce → ce.vm = .none → s.vm.findClass E = some ce.cls → vx_W p l e R s m args below meth c H1 locs1 (cells + mc) (slots + ms) Q (F0 m pc ls rest) q9)
    (kk : ∀ (r : Int64) (u : S) (t : State) (H1 : Heap) (locs1 : List Loc), t.heap = H1 → s.vm.Alike t.vm → post r u → B u t → H.size ≤ H1.size → (∀ q : Nat, q < H.size → ¬ A1 q → H1[q]? = H[q]?) → va_S A0 H0 H1 locs1 → W p l e R s m args below meth c H1 locs1 (cells + mc) (slots + ms) Q (F0 m (pc + 3) ls (.long r :: rest))) : W p l e R s m args below meth c H locs cells slots Q (F0 m pc ls st0) := by
  intro T hT X
  rcases hr T hT X with ⟨v, st₀, t, T', L, h0, X', hL, e1, e2, ⟨⟨r, u, hv, hp, hb⟩, hF⟩, st⟩ | ⟨q, st₀, t, T', L, E, ce, h0, X', hL, e1, e2, ⟨u, hp, hb, hF⟩, hce, hcv, hcl, st⟩
  · cases hv
    obtain ⟨k1, k2, k3⟩ := vx_keep h0 e1 hS hA hf hL hF
    obtain ⟨t2, a1, b1⟩ := kk r u t T'.heap (locs ++ L) e1.symm (by rw [← e2]; exact X'.warmed.alike) hp hb k1 k2 k3 T' rfl X'
    exact ⟨t2, st t2 a1, b1⟩
  · obtain ⟨k1, k2, k3⟩ := vx_keep h0 e1 hS hAX hf hL hF
    obtain ⟨t2, a1, b1⟩ := kx E ce q u t T'.heap (locs ++ L) e1.symm (by rw [← e2]; exact X'.warmed.alike) hp hb k1 k2 k3 (by rw [e1]; exact hce) hcv hcl T' rfl X'
    exact ⟨t2, st.trans a1, b1⟩
theorem vx_callf {S SX : Type} {post : UInt32 → S → Prop} {px : SX → Prop} {B : S → State → Prop} {BX : String → SX → State → Prop} {AX : Nat → Prop} (hr : vx_Run p l e R s m args below meth c H locs cells slots mc ms (F0 m pc ls st0) rest (va_Qf post B A1 a) (vx_X px BX AX) free) (hS : va_S A0 H0 H locs) (hA : ∀ q, q < H.size → A1 q → A0 q) (hf : ∀ q, free q → A0 q) (hAX : ∀ q, q < H.size → AX q → A0 q)
    (kx : ∀ (E : String) (ce : Cell) (q9 : Addr) (u : SX) (t : State) (H1 : Heap) (locs1 : List Loc), t.heap = H1 → s.vm.Alike t.vm → px u → BX E u t → H.size ≤ H1.size → (∀ q : Nat, q < H.size → ¬ AX q → H1[q]? = H[q]?) → va_S A0 H0 H1 locs1 → H1[q9]? = some ce → ce.vm = .none → s.vm.findClass E = some ce.cls → vx_W p l e R s m args below meth c H1 locs1 (cells + mc) (slots + ms) Q (F0 m pc ls rest) q9)
    (kk : ∀ (r : UInt32) (u : S) (t : State) (H1 : Heap) (locs1 : List Loc), t.heap = H1 → s.vm.Alike t.vm → post r u → B u t → H.size ≤ H1.size → (∀ q : Nat, q < H.size → ¬ A1 q → H1[q]? = H[q]?) → va_S A0 H0 H1 locs1 → W p l e R s m args below meth c H1 locs1 (cells + mc) (slots + ms) Q (F0 m (pc + 3) ls (.float r :: rest))) : W p l e R s m args below meth c H locs cells slots Q (F0 m pc ls st0) := by
  intro T hT X
  rcases hr T hT X with ⟨v, st₀, t, T', L, h0, X', hL, e1, e2, ⟨⟨r, u, hv, hp, hb⟩, hF⟩, st⟩ | ⟨q, st₀, t, T', L, E, ce, h0, X', hL, e1, e2, ⟨u, hp, hb, hF⟩, hce, hcv, hcl, st⟩
  · cases hv
    obtain ⟨k1, k2, k3⟩ := vx_keep h0 e1 hS hA hf hL hF
    obtain ⟨t2, a1, b1⟩ := kk r u t T'.heap (locs ++ L) e1.symm (by rw [← e2]; exact X'.warmed.alike) hp hb k1 k2 k3 T' rfl X'
    exact ⟨t2, st t2 a1, b1⟩
  · obtain ⟨k1, k2, k3⟩ := vx_keep h0 e1 hS hAX hf hL hF
    obtain ⟨t2, a1, b1⟩ := kx E ce q u t T'.heap (locs ++ L) e1.symm (by rw [← e2]; exact X'.warmed.alike) hp hb k1 k2 k3 (by rw [e1]; exact hce) hcv hcl T' rfl X'
    exact ⟨t2, st.trans a1, b1⟩
theorem vx_calld {S SX : Type} {post : UInt64 → S → Prop} {px : SX → Prop} {B : S → State → Prop} {BX : String → SX → State → Prop} {AX : Nat → Prop} (hr : vx_Run p l e R s m args below meth c H locs cells slots mc ms (F0 m pc ls st0) rest (va_Qd post B A1 a) (vx_X px BX AX) free) (hS : va_S A0 H0 H locs) (hA : ∀ q, q < H.size → A1 q → A0 q) (hf : ∀ q, free q → A0 q) (hAX : ∀ q, q < H.size → AX q → A0 q)
    (kx : ∀ (E : String) (ce : Cell) (q9 : Addr) (u : SX) (t : State) (H1 : Heap) (locs1 : List Loc), t.heap = H1 → s.vm.Alike t.vm → px u → BX E u t → H.size ≤ H1.size → (∀ q : Nat, q < H.size → ¬ AX q → H1[q]? = H[q]?) → va_S A0 H0 H1 locs1 → H1[q9]? = some ce → ce.vm = .none → s.vm.findClass E = some ce.cls → vx_W p l e R s m args below meth c H1 locs1 (cells + mc) (slots + ms) Q (F0 m pc ls rest) q9)
    (kk : ∀ (r : UInt64) (u : S) (t : State) (H1 : Heap) (locs1 : List Loc), t.heap = H1 → s.vm.Alike t.vm → post r u → B u t → H.size ≤ H1.size → (∀ q : Nat, q < H.size → ¬ A1 q → H1[q]? = H[q]?) → va_S A0 H0 H1 locs1 → W p l e R s m args below meth c H1 locs1 (cells + mc) (slots + ms) Q (F0 m (pc + 3) ls (.double r :: rest))) : W p l e R s m args below meth c H locs cells slots Q (F0 m pc ls st0) := by
  intro T hT X
  rcases hr T hT X with ⟨v, st₀, t, T', L, h0, X', hL, e1, e2, ⟨⟨r, u, hv, hp, hb⟩, hF⟩, st⟩ | ⟨q, st₀, t, T', L, E, ce, h0, X', hL, e1, e2, ⟨u, hp, hb, hF⟩, hce, hcv, hcl, st⟩
  · cases hv
    obtain ⟨k1, k2, k3⟩ := vx_keep h0 e1 hS hA hf hL hF
    obtain ⟨t2, a1, b1⟩ := kk r u t T'.heap (locs ++ L) e1.symm (by rw [← e2]; exact X'.warmed.alike) hp hb k1 k2 k3 T' rfl X'
    exact ⟨t2, st t2 a1, b1⟩
  · obtain ⟨k1, k2, k3⟩ := vx_keep h0 e1 hS hAX hf hL hF
    obtain ⟨t2, a1, b1⟩ := kx E ce q u t T'.heap (locs ++ L) e1.symm (by rw [← e2]; exact X'.warmed.alike) hp hb k1 k2 k3 (by rw [e1]; exact hce) hcv hcl T' rfl X'
    exact ⟨t2, st.trans a1, b1⟩
theorem vx_callv {S SX : Type} {post : S → Prop} {px : SX → Prop} {B : S → State → Prop} {BX : String → SX → State → Prop} {AX : Nat → Prop} (hr : vx_Run p l e R s m args below meth c H locs cells slots mc ms (F0 m pc ls st0) rest (va_Qv post B A1 a) (vx_X px BX AX) free) (hS : va_S A0 H0 H locs) (hA : ∀ q, q < H.size → A1 q → A0 q) (hf : ∀ q, free q → A0 q) (hAX : ∀ q, q < H.size → AX q → A0 q)
    (kx : ∀ (E : String) (ce : Cell) (q9 : Addr) (u : SX) (t : State) (H1 : Heap) (locs1 : List Loc), t.heap = H1 → s.vm.Alike t.vm → px u → BX E u t → H.size ≤ H1.size → (∀ q : Nat, q < H.size → ¬ AX q → H1[q]? = H[q]?) → va_S A0 H0 H1 locs1 → H1[q9]? = some ce → ce.vm = .none → s.vm.findClass E = some ce.cls → vx_W p l e R s m args below meth c H1 locs1 (cells + mc) (slots + ms) Q (F0 m pc ls rest) q9)
    (kk : ∀ (u : S) (t : State) (H1 : Heap) (locs1 : List Loc), t.heap = H1 → s.vm.Alike t.vm → post u → B u t → H.size ≤ H1.size → (∀ q : Nat, q < H.size → ¬ A1 q → H1[q]? = H[q]?) → va_S A0 H0 H1 locs1 → W p l e R s m args below meth c H1 locs1 (cells + mc) (slots + ms) Q (F0 m (pc + 3) ls (rest))) : W p l e R s m args below meth c H locs cells slots Q (F0 m pc ls st0) := by
  intro T hT X
  rcases hr T hT X with ⟨v, st₀, t, T', L, h0, X', hL, e1, e2, ⟨⟨u, hv, hp, hb⟩, hF⟩, st⟩ | ⟨q, st₀, t, T', L, E, ce, h0, X', hL, e1, e2, ⟨u, hp, hb, hF⟩, hce, hcv, hcl, st⟩
  · cases hv
    obtain ⟨k1, k2, k3⟩ := vx_keep h0 e1 hS hA hf hL hF
    obtain ⟨t2, a1, b1⟩ := kk u t T'.heap (locs ++ L) e1.symm (by rw [← e2]; exact X'.warmed.alike) hp hb k1 k2 k3 T' rfl X'
    exact ⟨t2, st t2 a1, b1⟩
  · obtain ⟨k1, k2, k3⟩ := vx_keep h0 e1 hS hAX hf hL hF
    obtain ⟨t2, a1, b1⟩ := kx E ce q u t T'.heap (locs ++ L) e1.symm (by rw [← e2]; exact X'.warmed.alike) hp hb k1 k2 k3 (by rw [e1]; exact hce) hcv hcl T' rfl X'
    exact ⟨t2, st.trans a1, b1⟩
/-- caught by the row x of this method's table; the rows ahead don't take it -/
theorem vx_catch {own name : String} {E : String} {ce : Cell} {q : Addr} (hown : s.vm.findClass own = some m.cls) (pre : List ExceptionTableEntry) (x : ExceptionTableEntry) (suf : List ExceptionTableEntry) (hsplit : c.exceptionTable.toList = pre ++ x :: suf)
    (hpass : ∀ z ∈ pre, covers z pc = false ∨ (z.catchType ≠ 0 ∧ ∃ nm : String, (Cond.classLink own z.catchType nm).before args s = true ∧ va_Nc E nm s)) (hx : covers x pc = true) (h0 : x.catchType ≠ 0)
    (hlink : (Cond.classLink own x.catchType name).before args s = true) (hcast : (Cond.castable E name).before args s = true) (hcell : H[q]? = some ce) (hv : ce.vm = .none) (hcl : s.vm.findClass E = some ce.cls)
    (kk : W p l e R s m args below meth c H locs cells slots Q (F0 m x.handlerPc ls [.ref q])) : vx_W p l e R s m args below meth c H locs cells slots Q (F0 m pc ls rest) q := by
  intro T hT X
  have hpl : e.platform.magicAccessors = ({} : Platform).magicAccessors := by rw [X.admits.platform]
  obtain ⟨c3, c4, hc3, hc4, hasg⟩ := Cond.castable_spec hcast
  cases Option.some.inj (hc3.symm.trans hcl)
  obtain ⟨c5, hc5, hcl5⟩ := Cond.classLink_spec hown hlink e.platform hpl
  cases Option.some.inj (hc4.symm.trans hc5)
  obtain ⟨vm', X', st⟩ := X.thenCaughtThrough q (g := F0 m pc ls rest) rfl (Steps.refl _) (by rw [hT]; exact hcell) (by rw [hv]; rfl) (by obtain ⟨k9, h9, -⟩ := Vm.findClass_spec hcl; exact ⟨k9, h9⟩) pre x suf hsplit
    (fun z hz => by
      rcases hpass z hz with h | ⟨hz0, nm, hl1, hn1⟩
      · exact Or.inl h
      · obtain ⟨c6, hc6, hcl6⟩ := Cond.classLink_spec hown hl1 e.platform hpl
        obtain ⟨a8, b8, h1, h2, h3⟩ := hn1
        cases Option.some.inj (h1.symm.trans hcl)
        cases Option.some.inj (h2.symm.trans hc6)
        exact Or.inr ⟨hz0, _, hcl6, h3⟩) hx (Or.inr ⟨h0, c4, hcl5, hasg⟩)
  obtain ⟨t, a1, b1⟩ := kk (T.setVm vm') hT X'
  exact ⟨t, st.trans a1, b1⟩
end Rows
section Ends
variable {p : Program} {l : Launch} {e : Env} {R : Room} {s : State} {m : MethodId} {args : Array Value} {below : List Frame} {meth : Method} {c : Code} {H : Heap} {locs : List Loc} {cells slots : Nat} {Q : State → Prop}
variable {mc ms : Nat} {free : Addr → Prop} {A0 A1 : Nat → Prop} {H0 : Heap} {a : Array Value} {ls : Array Slot} {st0 rest : List Value}
variable {Qc : Array Value → State → Outcome → State → Prop} {XC : String → State → State → Prop}
/-- what a body that may throw owes at its end -/
def vx_MQ (below : List Frame) (Qc : Array Value → State → Outcome → State → Prop) (XC : String → State → State → Prop) (a : Array Value) (s : State) (mc ms : Nat) (free : Addr → Prop) : State → Prop := fun t =>
  ∃ o, t.status = .running ∧ Ended t below o ∧ vx_Q Qc XC mc ms free a s o t
theorem vx_ret {g : JFrame} {mc ms : Nat} (k : W p l e R s m args below meth c H locs cells slots (MQ below Qc args s mc ms free) g) : W p l e R s m args below meth c H locs cells slots (vx_MQ below Qc XC args s mc ms free) g := by
  intro T hT X
  obtain ⟨t, a1, o, b1, b2, b3, b4⟩ := k T hT X
  exact ⟨t, a1, o, b1, b2, Or.inl ⟨b3, b4⟩⟩
/-- not caught here: it goes on to the caller -/
theorem vx_widen {g : JFrame} {q : Addr} {k n : Nat} (h1 : cells ≤ k) (h2 : slots ≤ n) (kk : vx_W p l e R s m args below meth c H locs k n Q g q) : vx_W p l e R s m args below meth c H locs cells slots Q g q := fun T hT X => kk T hT (stand_widen X h1 h2)
theorem vx_out {pc : Nat} {E : String} {ce : Cell} {q : Addr} {mc ms : Nat} (hout : ∀ x ∈ c.exceptionTable.toList, covers x pc = false) (hlocks : meth.locks = false) (hcell : H[q]? = some ce) (hv : ce.vm = .none) (hcl : s.vm.findClass E = some ce.cls)
    (hx : ∀ t : State, t.heap = H → s.vm.Alike t.vm → XC E s t) (hf : ∀ z ∈ locs, free z.base) (hc : cells ≤ mc) (hs : slots ≤ ms) :
    vx_W p l e R s m args below meth c H locs cells slots (vx_MQ below Qc XC args s mc ms free) (F0 m pc ls rest) q := by
  intro T hT X
  obtain ⟨st1, hrun, hend, hW, hsm⟩ := X.leaveThrown q (g := F0 m pc ls rest) rfl rfl rfl hout hlocks
  have hcell9 : (T.setFrames (.throwing q :: below)).heap[q]? = some ce := by
    show T.heap[q]? = some ce
    rw [hT]; exact hcell
  exact ⟨_, st1, .threw q, hrun, hend, Or.inr ⟨q, rfl, E, ce, locs, hx _ hT hW.alike, hcell9, hv, hcl, hW, hsm.mono hc hs, hf⟩⟩
theorem vx_frame {U : State} {k n : Nat} (h : s.sameButNew ({ U with vm := s.vm } : State) locs k n) : s.heap.size ≤ U.heap.size ∧ ∀ q : Nat, q < s.heap.size → (∀ z ∈ locs, z.base ≠ q) → U.heap[q]? = s.heap[q]? := by
  obtain ⟨-, h2, -, -, -, h6⟩ := h
  refine ⟨h2, fun q hq hz => ?_⟩
  obtain ⟨c9, e1, e2, e3, e4⟩ := h6 q _ (Array.getElem?_eq_getElem hq)
  have hs : c9.slots = (s.heap[q]).slots := Array.ext_getElem? fun i => e4 i fun hm => hz _ hm rfl
  have h9 : c9 = s.heap[q] := by
    rw [hs] at e2
    exact e2
  have e5 : U.heap[q]? = some c9 := e1
  rw [e5, h9, Array.getElem?_eq_getElem hq]
/-- the words of a throw but the four that speak of the heap -/
def vx_no (w : Cond) : Bool := decide (w ≠ .isRef (.static Bundle.tN "UNASSIGNED_STACK" Bundle.steD)) && decide (w ≠ .isRef (.static Bundle.tN "SUPPRESSED_SENTINEL" Bundle.listD)) && decide (w ≠ .laysStatic Bundle.tN "UNASSIGNED_STACK" Bundle.steD) && decide (w ≠ .laysStatic Bundle.tN "SUPPRESSED_SENTINEL" Bundle.listD)
def vx_at0 (own : String) (ic : Nat) (X : String) (names : List String) : List Cond := (Bundle.ownAtoms0 own ic X names).filter vx_no
def vx_atS (own : String) (ic : Nat) (X : String) (names : List String) : List Cond := (Bundle.ownAtoms own ic X names).filter vx_no
/-- a word that the tables alone decide, or a good one -/
def vx_ot (w : Cond) : Bool := w.onTables || goodWord w
theorem vx_ot_at {args a' : Array Value} {s U : State} {w : Cond} (hW : s.WarmedH U.vm) (hvm : s.vm = U.vm) (hg : vx_ot w = true) (h : w.before args s = true) : w.before a' U = true := by
  simp only [vx_ot, Bool.or_eq_true] at hg
  rcases hg with hg | hg
  · exact va_tabs hg hvm h
  · exact word_at hW (good_of_word hg) h
/-- a list's words: the good ones out of the method's own list, the others by premises of their own -/
theorem vx_hat {args : Array Value} {s : State} {L B : List Cond} (h1 : ∀ w ∈ L.filter goodWord, w.before args s = true) (h2 : ∀ w ∈ L.filter (fun w => !goodWord w), w ∈ B) (h3 : ∀ w ∈ B, w.before args s = true) : ∀ w ∈ L, w.before args s = true := by
  intro w hw
  by_cases g : goodWord w = true
  · exact h1 w (List.mem_filter.mpr ⟨hw, g⟩)
  · refine h3 w (h2 w (List.mem_filter.mpr ⟨hw, ?_⟩))
    show (!goodWord w) = true
    cases hgw : goodWord w
    · rfl
    · exact absurd hgw g
theorem vx_c {args : Array Value} {s : State} {w : Cond} {B : List Cond} (h : w.before args s = true) (t : ∀ w ∈ B, w.before args s = true) : ∀ w' ∈ w :: B, w'.before args s = true := fun w' h' => (List.mem_cons.mp h').elim (fun e => by rw [e]; exact h) (t w')
theorem vx_n {args : Array Value} {s : State} : ∀ w ∈ ([] : List Cond), w.before args s = true := fun _ h => nomatch h
theorem vx_own {args : Array Value} {s : State} {L : List Cond} (h1 : ∀ w ∈ L.filter vx_no, w.before args s = true)
    (hU : (Cond.isRef (.static Bundle.tN "UNASSIGNED_STACK" Bundle.steD)).before args s = true) (hN : (Cond.isRef (.static Bundle.tN "SUPPRESSED_SENTINEL" Bundle.listD)).before args s = true)
    (lU : (Cond.laysStatic Bundle.tN "UNASSIGNED_STACK" Bundle.steD).before args s = true) (lN : (Cond.laysStatic Bundle.tN "SUPPRESSED_SENTINEL" Bundle.listD).before args s = true) : ∀ w ∈ L, w.before args s = true := by
  intro w hw
  by_cases e1 : w = .isRef (.static Bundle.tN "UNASSIGNED_STACK" Bundle.steD)
  · rw [e1]; exact hU
  · by_cases e2 : w = .isRef (.static Bundle.tN "SUPPRESSED_SENTINEL" Bundle.listD)
    · rw [e2]; exact hN
    · by_cases e3 : w = .laysStatic Bundle.tN "UNASSIGNED_STACK" Bundle.steD
      · rw [e3]; exact lU
      · by_cases e4 : w = .laysStatic Bundle.tN "SUPPRESSED_SENTINEL" Bundle.listD
        · rw [e4]; exact lN
        · exact h1 w (List.mem_filter.mpr ⟨hw, by unfold vx_no; rw [decide_eq_true e1, decide_eq_true e2, decide_eq_true e3, decide_eq_true e4]; rfl⟩)
/-- where a static field lies, its class's statics cell in H -/
def vx_L (C n d : String) (A : Nat → Prop) (U : State) (H : Heap) : Prop := ∃ (c : ClassId) (k : Class) (i : Nat) (f : Field) (a : Nat) (cell : Cell), U.vm.findClass C = some c ∧ U.fieldFound? C n d = some (c, k, i, f) ∧ f.isStatic = true ∧ k.statics = some a ∧ H[a]? = some cell ∧ cell.vm.isStatics = true ∧ cell.cls = c ∧ f.slot < cell.slots.size ∧ k.staticTypes[f.slot]? = some f.type ∧ ¬ A a
theorem vx_L.moved {C n d : String} {A : Nat → Prop} {u U : State} {H : Heap} (hvm : u.vm.Alike U.vm) (h : vx_L C n d A u H) : vx_L C n d A U H := by
  obtain ⟨c, k, i, f, a, cell, h1, h2, h3, h4, h5, h6, h7, h8, h9, h10⟩ := h
  obtain ⟨k', hi', he⟩ := State.fieldFound?_setVm hvm h2
  exact ⟨c, k', i, f, a, cell, by rw [hvm.findClass]; exact h1, hi', h3, by rw [he]; exact h4, h5, h6, h7, h8, by rw [he]; exact h9, h10⟩
theorem vx_L.kept {C n d : String} {A : Nat → Prop} {U : State} {H H1 : Heap} (h : vx_L C n d A U H) (hq : ∀ a : Nat, a < H.size → ¬ A a → H1[a]? = H[a]?) : vx_L C n d A U H1 := by
  obtain ⟨c, k, i, f, a, cell, h1, h2, h3, h4, h5, h6, h7, h8, h9, h10⟩ := h
  exact ⟨c, k, i, f, a, cell, h1, h2, h3, h4, by rw [hq a (Array.getElem?_eq_some_iff.mp h5).1 h10]; exact h5, h6, h7, h8, h9, h10⟩
theorem vx_L.narrow {C n d : String} {A B : Nat → Prop} {U : State} {H : Heap} (h : vx_L C n d A U H) (hAB : ∀ q, B q → A q) : vx_L C n d B U H := by
  obtain ⟨c, k, i, f, a, cell, h1, h2, h3, h4, h5, h6, h7, h8, h9, h10⟩ := h
  exact ⟨c, k, i, f, a, cell, h1, h2, h3, h4, h5, h6, h7, h8, h9, fun z => h10 (hAB _ z)⟩
theorem vx_L.word {C n d : String} {A : Nat → Prop} {s : State} {args : Array Value} (h : vx_L C n d A s s.heap) : (Cond.laysStatic C n d).before args s = true := by
  obtain ⟨c, k, i, f, a, cell, h1, h2, h3, h4, h5, h6, h7, h8, h9, -⟩ := h
  show (Cond.laysStatic C n d).holds args s none s [] = true
  exact Cond.laysStatic_of h1 h2 h3 h4 h5 h6 h7 h8 h9
/-- .. and what it holds: null or some reference -/
def vx_Zq (C n d : String) (A : Nat → Prop) (U : State) (H : Heap) : Prop := va_Zq C n d A U H ∧ vx_L C n d A U H
theorem vx_Zq.moved {C n d : String} {A : Nat → Prop} {u U : State} {H : Heap} (hvm : u.vm.Alike U.vm) (h : vx_Zq C n d A u H) : vx_Zq C n d A U H := ⟨va_Zq.moved hvm h.1, vx_L.moved hvm h.2⟩
theorem vx_Zq.kept {C n d : String} {A : Nat → Prop} {U : State} {H H1 : Heap} (h : vx_Zq C n d A U H) (hq : ∀ a : Nat, a < H.size → ¬ A a → H1[a]? = H[a]?) : vx_Zq C n d A U H1 := ⟨va_Zq.kept h.1 hq, vx_L.kept h.2 hq⟩
theorem vx_Zq.narrow {C n d : String} {A B : Nat → Prop} {U : State} {H : Heap} (h : vx_Zq C n d A U H) (hAB : ∀ q, B q → A q) : vx_Zq C n d B U H := ⟨va_Zq.narrow h.1 hAB, vx_L.narrow h.2 hAB⟩
theorem vx_Zqof {args : Array Value} {s : State} {C n d : String} {A : Nat → Prop} (hl : (Cond.laysStatic C n d).before args s = true) (hini : (Cond.initialized C).before args s = true) (h : (Cond.isRef (.static C n d)).before args s = true) (hA : ∀ a : Nat, a < s.heap.size → ¬ A a) : vx_Zq C n d A s s.heap := by
  refine ⟨va_Zqof hl hini h hA, ?_⟩
  obtain ⟨c, k, i, f, a, cell, h1, h2, h3, h4, h5, h6, h7, h8, h9⟩ := Cond.laysStatic_spec hl
  exact ⟨c, k, i, f, a, cell, h1, h2, h3, h4, h5, h6, h7, h8, h9, hA a (Array.getElem?_eq_some_iff.mp h5).1⟩
theorem vx_isRef {C n d : String} {v : Value} {A : Nat → Prop} {s : State} {args : Array Value} (h : va_Z C n d v A s s.heap) (hv : v.isRef = true) : (Cond.isRef (.static C n d)).before args s = true := by
  obtain ⟨cf, kf, fi, f, a, cell, h1, h2, h3, h4, h5, h6, h7, -⟩ := h
  have he : (Term.static C n d).eval args s none [] s = some v := by
    simp [Term.eval, State.fieldNamed?, h1, h2, h4, h5, h6, h7]
  simp only [Cond.before, Cond.holds, Cond.value, he]
  cases v <;> simp_all [Value.isRef]
theorem vx_isRefq {C n d : String} {A : Nat → Prop} {s : State} {args : Array Value} (h : va_Zq C n d A s s.heap) : (Cond.isRef (.static C n d)).before args s = true := by
  rcases h with h | ⟨t, h⟩
  · exact vx_isRef h rfl
  · exact vx_isRef h rfl
/-- the same frame, seen from here: as if the method were called anew in this heap -/
theorem vx_rebase {T : State} (X : Stand p l e R s m args below meth c T locs cells slots) {R' : Room} (hf : R'.frames ≤ R.frames) (hl : R'.locals ≤ R.locals) (hc : cells + R'.cells ≤ R.cells) (hs : slots + R'.slots ≤ R.slots) :
    Stand p l e R' ((T.setVm s.vm).setFrames (.invoking m args :: below)) m args below meth c T [] 0 0 := by
  have htop : (T.setVm s.vm).topJava?.isSome := X.here.top
  have hF : ((T.setVm s.vm).setFrames (.invoking m args :: below)).frames = .invoking m args :: below := State.frames_setFrames _ (State.cur_lt_of_top htop)
  obtain ⟨g₀, hg0⟩ := Option.isSome_iff_exists.mp htop
  obtain ⟨r, hr⟩ := State.topJava?_eq_some.mp hg0
  have hl9 : e.platform.stackLimits (T.setVm s.vm).me = e.platform.stackLimits s.me := X.limits
  have hb9 : (T.setVm s.vm).me.stackBytes = s.me.stackBytes := X.bytes
  refine ⟨X.admits, X.cas, X.clock, hF, ?_, X.hears, X.method, X.code, X.here, X.tail, X.warmed, ?_, ?_, ?_⟩
  · have h := X.room
    have hU : ((T.setVm s.vm).setFrames (.invoking m args :: below)).localsInUse = s.localsInUse := by
      rw [State.localsInUse_invoking hF (meth := meth) (c := c) X.method X.code, State.localsInUse_invoking X.frames X.method X.code]
    simp only [State.hasRoom, Bool.and_eq_true, decide_eq_true_eq] at h ⊢
    obtain ⟨⟨⟨⟨h1, h2, h3, h4, h5, h6⟩, h7⟩, h8⟩, h9⟩ := h
    rw [X.frames, List.length_cons] at h2 h3
    have q1 := X.heapSize
    have q2 := X.used
    simp only [hF, hU, List.length_cons, State.stackLimits_setFrames, State.stackBytes_setFrames, hl9, hb9]
    refine ⟨⟨⟨⟨by omega, by omega, by omega, by omega, by omega, h6⟩, ?_⟩, ?_⟩, X.book⟩
    · show T.heap.size + R'.cells ≤ e.platform.maxCells
      omega
    · show T.slotsUsed + R'.slots ≤ e.platform.maxSlots
      omega
  · rw [State.stackLimits_setFrames]; rfl
  · rw [State.stackBytes_setFrames]; rfl
  · refine ⟨?_, Nat.le_refl _, Nat.le_refl _, ?_, ?_, fun a c9 h9 => ⟨c9, h9, rfl, rfl, fun _ _ => rfl⟩⟩
    · obtain ⟨t, ht, -⟩ := State.frames_cons hr
      show T.setVm s.vm = { ((T.setVm s.vm).setFrames (.invoking m args :: below)).setFrames (T.setVm s.vm).frames with heap := T.heap, slotsUsed := T.slotsUsed }
      rw [State.setFrames_setFrames, State.setFrames_self ht]
      rfl
    · show T.slotsUsed = T.slotsUsed + ((T.heap.toList.drop T.heap.size).map (·.slots.size)).sum
      rw [List.drop_eq_nil_of_le (Nat.le_of_eq Array.length_toList)]
      rfl
    · show ((T.heap.toList.drop T.heap.size).map (·.slots.size)).sum ≤ 0
      rw [List.drop_eq_nil_of_le (Nat.le_of_eq Array.length_toList)]
      exact Nat.le_refl _
/-- 'throw new E()': new; dup; invokespecial; athrow -/
theorem vx_throw0 {cc : ByteArray} {pc : Nat} (hexec : p.tables.exec = Jvm.exec) (hb : c.code = cc) (hl : l.stackTraces = false) {own cls : String} {names : List String} {ik ic mc ms : Nat} {A : Nat → Prop}
    (hown : s.vm.findClass own = some m.cls) (hcls : Bundle.fit cls = true) (hnames : ∀ n ∈ names, Bundle.fit n = true)
    (hk : (Cond.classLink own ik cls).before args s = true) (hini : (Cond.initialized cls).before args s = true) (hat : ∀ w ∈ vx_at0 own ic cls names, w.before args s = true)
    (hgood : ∀ w ∈ Cond.classLink own ik cls :: Cond.initialized cls :: vx_at0 own ic cls names, vx_ot w = true)
    (hU : vx_Zq Bundle.tN "UNASSIGNED_STACK" Bundle.steD A s s.heap) (hN : vx_Zq Bundle.tN "SUPPRESSED_SENTINEL" Bundle.listD A s s.heap) (hS : va_S A s.heap H locs) (hsize : ls.size = c.maxLocals)
    (d0 : decode cc pc = .ok (.new ik, 3)) (d3 : decode cc (pc + 3) = .ok (.dup, 1)) (d4 : decode cc (pc + 4) = .ok (.invokespecial ic, 3)) (d7 : decode cc (pc + 7) = .ok (.athrow, 1))
    (hout : ∀ x ∈ c.exceptionTable.toList, covers x (pc + 7) = false)
    (hRframes : names.length + 3 < R.frames) (hRlocals : (rest.map fun v => v.category).sum + (13 * (names.length + 1) + 42) ≤ R.locals) (hRcells : cells + 1 ≤ R.cells) (hRslots : slots + 6 ≤ R.slots) (hlocks : meth.locks = false)
    (hx : ∀ t : State, s.vm.Alike t.vm → H.size ≤ t.heap.size → (∀ q : Nat, q < H.size → t.heap[q]? = H[q]?) → XC cls s t)
    (hf : ∀ z ∈ locs, free z.base) (hc : cells + 1 ≤ mc) (hs : slots + 6 ≤ ms) :
    W p l e R s m args below meth c H locs cells slots (vx_MQ below Qc XC args s mc ms free) (F0 m pc ls rest) := by
  intro T hT X
  have htr : e.platform.stackTraces = false := (show e.platform.stackTraces = l.stackTraces by rw [X.admits.platform]).trans hl
  have Y := vx_rebase X (R' := { frames := R.frames, locals := R.locals, cells := 1, slots := 6 }) (Nat.le_refl _) (Nat.le_refl _) hRcells hRslots
  obtain ⟨s', hA⟩ : ∃ z, z = (T.setVm s.vm).setFrames (.invoking m args :: below) := ⟨_, rfl⟩
  rw [← hA] at Y
  have hvm : s'.vm = s.vm := by rw [hA]; rfl
  have hhp : s'.heap = H := by rw [hA]; exact hT
  have hW0 : s.WarmedH s'.vm := by rw [hvm]; exact State.WarmedH.refl s
  have hat' : ∀ w ∈ vx_at0 own ic cls names, w.before args s' = true := fun w hw => vx_ot_at hW0 hvm.symm (hgood w (List.mem_cons_of_mem _ (List.mem_cons_of_mem _ hw))) (hat w hw)
  have hk' : (Cond.classLink own ik cls).before args s' = true := vx_ot_at hW0 hvm.symm (hgood _ List.mem_cons_self) hk
  have hini' : (Cond.initialized cls).before args s' = true := vx_ot_at hW0 hvm.symm (hgood _ (List.mem_cons_of_mem _ List.mem_cons_self)) hini
  have hU' : vx_Zq Bundle.tN "UNASSIGNED_STACK" Bundle.steD A s' s'.heap := by rw [hhp]; exact vx_Zq.moved hW0.alike (hU.kept hS.2.1)
  have hN' : vx_Zq Bundle.tN "SUPPRESSED_SENTINEL" Bundle.listD A s' s'.heap := by rw [hhp]; exact vx_Zq.moved hW0.alike (hN.kept hS.2.1)
  have h : ∀ w ∈ Bundle.ownAtoms0 own ic cls names, w.before args s' = true := vx_own hat' (vx_isRefq hU'.1) (vx_isRefq hN'.1) hU'.2.word hN'.2.word
  have hown' : s'.vm.findClass own = some m.cls := by rw [hvm]; exact hown
  have hins : (Cond.instantiable cls 6).before args s' = true := h _ (by simp [Bundle.ownAtoms0])
  obtain ⟨vm₁, cX, kX, hfX, hkX, -, -, X₁, st1⟩ := Y.newCold hexec (own := own) (C := cls) (index := ik) (n := 6) hown' hk' hins hini'
    (g := F0 m pc ls rest) rfl (by rw [hb]; exact d0) (Nat.le_refl _) (Nat.le_refl _)
  generalize hT1 : (T.setVm vm₁).pushCell { cls := cX, slots := kX.instanceTypes.map defaultValue, vm := .none } = T1 at X₁ st1
  have hcat : (Value.ref T.heap.size).category = 1 := rfl
  have hcellA : T1.heap[T.heap.size]? = some (freshCell cX kX) := by rw [← hT1]; exact State.heap_pushCell_size _ _
  have d3' : decode c.code (pc + 3) = .ok (.dup, 1) := by rw [hb]; exact d3
  obtain ⟨U, hsteps, hrun, hend, hW, hsame, ce, hce, hO⟩ := X₁.ctorThrow0 hexec htr (own := own) (cls := cls) (names := names) (ic := ic) hown' hcls hnames h (fun x hx => nomatch hx) hfX hkX hcellA (by rw [hhp, hT]; exact Nat.le_refl _)
    (g := { method := m, pc := pc + 4, locals := ls, stack := .ref T.heap.size :: .ref T.heap.size :: rest, locked := none }) rfl hsize rfl rfl (rest := rest) rfl
    (by rw [hb]; exact d4) (by rw [hb]; exact d7) hout hRframes (by simp only [List.map_cons, List.sum_cons, hcat]; omega) hlocks
  obtain ⟨f1, f2⟩ := vx_frame hsame
  rw [hhp] at f1 f2
  have hWs : s.WarmedH U.vm := State.WarmedH.trans hW0 hW
  have hcl : s.vm.findClass cls = some ce.cls := by
    have h9 := hO.cls
    rw [hvm] at h9
    exact h9
  have hall : s.sameButNew ({ U with vm := s.vm } : State) locs mc ms := by
    subst hA
    obtain ⟨e1, e2⟩ := hsame
    rw [State.setFrames_setFrames] at e1
    have h2 : (T.setVm s.vm).sameButNew ({ U with vm := s.vm } : State) [] (0 + 1) (0 + 6) := ⟨e1, e2⟩
    have h3 := X.same.trans h2
    rw [List.append_nil] at h3
    exact h3.mono hc hs
  refine ⟨U, ?_, .threw T.heap.size, hrun, hend, Or.inr ⟨T.heap.size, rfl, cls, ce, locs, hx U hWs.alike f1 (fun q hq => f2 q hq (fun z hz => nomatch hz)), hce, hO.vm, hcl, hWs, hall, hf⟩⟩
  refine st1 _ ?_
  show Steps p.tables e below (T1.setTop { method := m, pc := pc + 3, locals := ls, stack := .ref T.heap.size :: rest, locked := none }) _
  jvm_step X₁.here [X₁.here.top, hexec, d3', Value.category]
  exact hsteps
/-- 'throw new E("text")': new; dup; ldc; invokespecial; athrow -/
theorem vx_throwS {cc : ByteArray} {pc : Nat} (hexec : p.tables.exec = Jvm.exec) (hb : c.code = cc) (hl : l.stackTraces = false) {own cls text : String} {names : List String} {ik is ic mc ms sa : Nat} {A : Nat → Prop}
    (hown : s.vm.findClass own = some m.cls) (hcls : Bundle.fit cls = true) (hnames : ∀ n ∈ names, Bundle.fit n = true)
    (hk : (Cond.classLink own ik cls).before args s = true) (hini : (Cond.initialized cls).before args s = true) (hstr : vk_R own is text sa s) (hat : ∀ w ∈ vx_atS own ic cls names, w.before args s = true)
    (hgood : ∀ w ∈ Cond.classLink own ik cls :: Cond.initialized cls :: vx_atS own ic cls names, vx_ot w = true)
    (hU : vx_Zq Bundle.tN "UNASSIGNED_STACK" Bundle.steD A s s.heap) (hN : vx_Zq Bundle.tN "SUPPRESSED_SENTINEL" Bundle.listD A s s.heap) (hS : va_S A s.heap H locs) (hsize : ls.size = c.maxLocals)
    (d0 : decode cc pc = .ok (.new ik, 3)) (d3 : decode cc (pc + 3) = .ok (.dup, 1)) (d4 : decode cc (pc + 4) = .ok (.ldc is, 2)) (d6 : decode cc (pc + 6) = .ok (.invokespecial ic, 3)) (d9 : decode cc (pc + 9) = .ok (.athrow, 1))
    (hout : ∀ x ∈ c.exceptionTable.toList, covers x (pc + 9) = false)
    (hRframes : names.length + 3 < R.frames) (hRlocals : (rest.map fun v => v.category).sum + (13 * (names.length + 1) + 43) ≤ R.locals) (hRcells : cells + 1 ≤ R.cells) (hRslots : slots + 6 ≤ R.slots) (hlocks : meth.locks = false)
    (hx : ∀ t : State, s.vm.Alike t.vm → H.size ≤ t.heap.size → (∀ q : Nat, q < H.size → t.heap[q]? = H[q]?) → XC cls s t)
    (hf : ∀ z ∈ locs, free z.base) (hc : cells + 1 ≤ mc) (hs : slots + 6 ≤ ms) :
    W p l e R s m args below meth c H locs cells slots (vx_MQ below Qc XC args s mc ms free) (F0 m pc ls rest) := by
  intro T hT X
  have htr : e.platform.stackTraces = false := (show e.platform.stackTraces = l.stackTraces by rw [X.admits.platform]).trans hl
  have Y := vx_rebase X (R' := { frames := R.frames, locals := R.locals, cells := 1, slots := 6 }) (Nat.le_refl _) (Nat.le_refl _) hRcells hRslots
  obtain ⟨s', hA⟩ : ∃ z, z = (T.setVm s.vm).setFrames (.invoking m args :: below) := ⟨_, rfl⟩
  rw [← hA] at Y
  have hvm : s'.vm = s.vm := by rw [hA]; rfl
  have hhp : s'.heap = H := by rw [hA]; exact hT
  have hW0 : s.WarmedH s'.vm := by rw [hvm]; exact State.WarmedH.refl s
  have hat' : ∀ w ∈ vx_atS own ic cls names, w.before args s' = true := fun w hw => vx_ot_at hW0 hvm.symm (hgood w (List.mem_cons_of_mem _ (List.mem_cons_of_mem _ hw))) (hat w hw)
  have hk' : (Cond.classLink own ik cls).before args s' = true := vx_ot_at hW0 hvm.symm (hgood _ List.mem_cons_self) hk
  have hini' : (Cond.initialized cls).before args s' = true := vx_ot_at hW0 hvm.symm (hgood _ (List.mem_cons_of_mem _ List.mem_cons_self)) hini
  have hU' : vx_Zq Bundle.tN "UNASSIGNED_STACK" Bundle.steD A s' s'.heap := by rw [hhp]; exact vx_Zq.moved hW0.alike (hU.kept hS.2.1)
  have hN' : vx_Zq Bundle.tN "SUPPRESSED_SENTINEL" Bundle.listD A s' s'.heap := by rw [hhp]; exact vx_Zq.moved hW0.alike (hN.kept hS.2.1)
  have h : ∀ w ∈ Bundle.ownAtoms own ic cls names, w.before args s' = true := vx_own hat' (vx_isRefq hU'.1) (vx_isRefq hN'.1) hU'.2.word hN'.2.word
  have hown' : s'.vm.findClass own = some m.cls := by rw [hvm]; exact hown
  have hins : (Cond.instantiable cls 6).before args s' = true := h _ (by simp [Bundle.ownAtoms])
  obtain ⟨vm₁, cX, kX, hfX, hkX, -, -, X₁, st1⟩ := Y.newCold hexec (own := own) (C := cls) (index := ik) (n := 6) hown' hk' hins hini'
    (g := F0 m pc ls rest) rfl (by rw [hb]; exact d0) (Nat.le_refl _) (Nat.le_refl _)
  generalize hT1 : (T.setVm vm₁).pushCell { cls := cX, slots := kX.instanceTypes.map defaultValue, vm := .none } = T1 at X₁ st1
  have hcat : (Value.ref T.heap.size).category = 1 := rfl
  have hcellA : T1.heap[T.heap.size]? = some (freshCell cX kX) := by rw [← hT1]; exact State.heap_pushCell_size _ _
  have d3' : decode c.code (pc + 3) = .ok (.dup, 1) := by rw [hb]; exact d3
  have d4' : decode c.code (pc + 4) = .ok (.ldc is, 2) := by rw [hb]; exact d4
  have hstr' : vk_R own is text sa s' := vk_R.warm hW0 hstr
  obtain ⟨U, hsteps, hrun, hend, hW, hsame, ce, hce, hO⟩ := X₁.ctorThrowS hexec htr (own := own) (cls := cls) (names := names) (ic := ic) hown' hcls hnames h (fun x hx => nomatch hx) hfX hkX hcellA (by rw [hhp, hT]; exact Nat.le_refl _) (msg := .ref sa) rfl
    (g := { method := m, pc := pc + 6, locals := ls, stack := .ref sa :: .ref T.heap.size :: .ref T.heap.size :: rest, locked := none }) rfl hsize rfl rfl (rest := rest) rfl
    (by rw [hb]; exact d6) (by rw [hb]; exact d9) hout hRframes (by simp only [List.map_cons, List.sum_cons, hcat]; omega) hlocks
  obtain ⟨f1, f2⟩ := vx_frame hsame
  rw [hhp] at f1 f2
  have hWs : s.WarmedH U.vm := State.WarmedH.trans hW0 hW
  have hcl : s.vm.findClass cls = some ce.cls := by
    have h9 := hO.cls
    rw [hvm] at h9
    exact h9
  have hall : s.sameButNew ({ U with vm := s.vm } : State) locs mc ms := by
    subst hA
    obtain ⟨e1, e2⟩ := hsame
    rw [State.setFrames_setFrames] at e1
    have h2 : (T.setVm s.vm).sameButNew ({ U with vm := s.vm } : State) [] (0 + 1) (0 + 6) := ⟨e1, e2⟩
    have h3 := X.same.trans h2
    rw [List.append_nil] at h3
    exact h3.mono hc hs
  refine ⟨U, ?_, .threw T.heap.size, hrun, hend, Or.inr ⟨T.heap.size, rfl, cls, ce, locs, hx U hWs.alike f1 (fun q hq => f2 q hq (fun z hz => nomatch hz)), hce, hO.vm, hcl, hWs, hall, hf⟩⟩
  refine st1 _ ?_
  show Steps p.tables e below (T1.setTop { method := m, pc := pc + 3, locals := ls, stack := .ref T.heap.size :: rest, locked := none }) _
  jvm_step X₁.here [X₁.here.top, hexec, d3', Value.category]
  exact X₁.ldcString hexec (own := own) (text := text) (index := is) (a := sa) hown' hstr'.1 hstr'.2
    (g := { method := m, pc := pc + 4, locals := ls, stack := .ref T.heap.size :: .ref T.heap.size :: rest, locked := none }) rfl d4' _ hsteps
/-- 'throw new E("text")', the text by a wide index -/
theorem vx_throwSW {cc : ByteArray} {pc : Nat} (hexec : p.tables.exec = Jvm.exec) (hb : c.code = cc) (hl : l.stackTraces = false) {own cls text : String} {names : List String} {ik is ic mc ms sa : Nat} {A : Nat → Prop}
    (hown : s.vm.findClass own = some m.cls) (hcls : Bundle.fit cls = true) (hnames : ∀ n ∈ names, Bundle.fit n = true)
    (hk : (Cond.classLink own ik cls).before args s = true) (hini : (Cond.initialized cls).before args s = true) (hstr : vk_R own is text sa s) (hat : ∀ w ∈ vx_atS own ic cls names, w.before args s = true)
    (hgood : ∀ w ∈ Cond.classLink own ik cls :: Cond.initialized cls :: vx_atS own ic cls names, vx_ot w = true)
    (hU : vx_Zq Bundle.tN "UNASSIGNED_STACK" Bundle.steD A s s.heap) (hN : vx_Zq Bundle.tN "SUPPRESSED_SENTINEL" Bundle.listD A s s.heap) (hS : va_S A s.heap H locs) (hsize : ls.size = c.maxLocals)
    (d0 : decode cc pc = .ok (.new ik, 3)) (d3 : decode cc (pc + 3) = .ok (.dup, 1)) (d4 : decode cc (pc + 4) = .ok (.ldc_w is, 3)) (d7 : decode cc (pc + 7) = .ok (.invokespecial ic, 3)) (d10 : decode cc (pc + 10) = .ok (.athrow, 1))
    (hout : ∀ x ∈ c.exceptionTable.toList, covers x (pc + 10) = false)
    (hRframes : names.length + 3 < R.frames) (hRlocals : (rest.map fun v => v.category).sum + (13 * (names.length + 1) + 43) ≤ R.locals) (hRcells : cells + 1 ≤ R.cells) (hRslots : slots + 6 ≤ R.slots) (hlocks : meth.locks = false)
    (hx : ∀ t : State, s.vm.Alike t.vm → H.size ≤ t.heap.size → (∀ q : Nat, q < H.size → t.heap[q]? = H[q]?) → XC cls s t)
    (hf : ∀ z ∈ locs, free z.base) (hc : cells + 1 ≤ mc) (hs : slots + 6 ≤ ms) :
    W p l e R s m args below meth c H locs cells slots (vx_MQ below Qc XC args s mc ms free) (F0 m pc ls rest) := by
  intro T hT X
  have htr : e.platform.stackTraces = false := (show e.platform.stackTraces = l.stackTraces by rw [X.admits.platform]).trans hl
  have Y := vx_rebase X (R' := { frames := R.frames, locals := R.locals, cells := 1, slots := 6 }) (Nat.le_refl _) (Nat.le_refl _) hRcells hRslots
  obtain ⟨s', hA⟩ : ∃ z, z = (T.setVm s.vm).setFrames (.invoking m args :: below) := ⟨_, rfl⟩
  rw [← hA] at Y
  have hvm : s'.vm = s.vm := by rw [hA]; rfl
  have hhp : s'.heap = H := by rw [hA]; exact hT
  have hW0 : s.WarmedH s'.vm := by rw [hvm]; exact State.WarmedH.refl s
  have hat' : ∀ w ∈ vx_atS own ic cls names, w.before args s' = true := fun w hw => vx_ot_at hW0 hvm.symm (hgood w (List.mem_cons_of_mem _ (List.mem_cons_of_mem _ hw))) (hat w hw)
  have hk' : (Cond.classLink own ik cls).before args s' = true := vx_ot_at hW0 hvm.symm (hgood _ List.mem_cons_self) hk
  have hini' : (Cond.initialized cls).before args s' = true := vx_ot_at hW0 hvm.symm (hgood _ (List.mem_cons_of_mem _ List.mem_cons_self)) hini
  have hU' : vx_Zq Bundle.tN "UNASSIGNED_STACK" Bundle.steD A s' s'.heap := by rw [hhp]; exact vx_Zq.moved hW0.alike (hU.kept hS.2.1)
  have hN' : vx_Zq Bundle.tN "SUPPRESSED_SENTINEL" Bundle.listD A s' s'.heap := by rw [hhp]; exact vx_Zq.moved hW0.alike (hN.kept hS.2.1)
  have h : ∀ w ∈ Bundle.ownAtoms own ic cls names, w.before args s' = true := vx_own hat' (vx_isRefq hU'.1) (vx_isRefq hN'.1) hU'.2.word hN'.2.word
  have hown' : s'.vm.findClass own = some m.cls := by rw [hvm]; exact hown
  have hins : (Cond.instantiable cls 6).before args s' = true := h _ (by simp [Bundle.ownAtoms])
  obtain ⟨vm₁, cX, kX, hfX, hkX, -, -, X₁, st1⟩ := Y.newCold hexec (own := own) (C := cls) (index := ik) (n := 6) hown' hk' hins hini'
    (g := F0 m pc ls rest) rfl (by rw [hb]; exact d0) (Nat.le_refl _) (Nat.le_refl _)
  generalize hT1 : (T.setVm vm₁).pushCell { cls := cX, slots := kX.instanceTypes.map defaultValue, vm := .none } = T1 at X₁ st1
  have hcat : (Value.ref T.heap.size).category = 1 := rfl
  have hcellA : T1.heap[T.heap.size]? = some (freshCell cX kX) := by rw [← hT1]; exact State.heap_pushCell_size _ _
  have d3' : decode c.code (pc + 3) = .ok (.dup, 1) := by rw [hb]; exact d3
  have d4' : decode c.code (pc + 4) = .ok (.ldc_w is, 3) := by rw [hb]; exact d4
  have hstr' : vk_R own is text sa s' := vk_R.warm hW0 hstr
  obtain ⟨U, hsteps, hrun, hend, hW, hsame, ce, hce, hO⟩ := X₁.ctorThrowS hexec htr (own := own) (cls := cls) (names := names) (ic := ic) hown' hcls hnames h (fun x hx => nomatch hx) hfX hkX hcellA (by rw [hhp, hT]; exact Nat.le_refl _) (msg := .ref sa) rfl
    (g := { method := m, pc := pc + 7, locals := ls, stack := .ref sa :: .ref T.heap.size :: .ref T.heap.size :: rest, locked := none }) rfl hsize rfl rfl (rest := rest) rfl
    (by rw [hb]; exact d7) (by rw [hb]; exact d10) hout hRframes (by simp only [List.map_cons, List.sum_cons, hcat]; omega) hlocks
  obtain ⟨f1, f2⟩ := vx_frame hsame
  rw [hhp] at f1 f2
  have hWs : s.WarmedH U.vm := State.WarmedH.trans hW0 hW
  have hcl : s.vm.findClass cls = some ce.cls := by
    have h9 := hO.cls
    rw [hvm] at h9
    exact h9
  have hall : s.sameButNew ({ U with vm := s.vm } : State) locs mc ms := by
    subst hA
    obtain ⟨e1, e2⟩ := hsame
    rw [State.setFrames_setFrames] at e1
    have h2 : (T.setVm s.vm).sameButNew ({ U with vm := s.vm } : State) [] (0 + 1) (0 + 6) := ⟨e1, e2⟩
    have h3 := X.same.trans h2
    rw [List.append_nil] at h3
    exact h3.mono hc hs
  refine ⟨U, ?_, .threw T.heap.size, hrun, hend, Or.inr ⟨T.heap.size, rfl, cls, ce, locs, hx U hWs.alike f1 (fun q hq => f2 q hq (fun z hz => nomatch hz)), hce, hO.vm, hcl, hWs, hall, hf⟩⟩
  refine st1 _ ?_
  show Steps p.tables e below (T1.setTop { method := m, pc := pc + 3, locals := ls, stack := .ref T.heap.size :: rest, locked := none }) _
  jvm_step X₁.here [X₁.here.top, hexec, d3', Value.category]
  exact X₁.ldcStringW hexec (own := own) (text := text) (index := is) (a := sa) hown' hstr'.1 hstr'.2
    (g := { method := m, pc := pc + 4, locals := ls, stack := .ref T.heap.size :: .ref T.heap.size :: rest, locked := none }) rfl d4' _ hsteps
end Ends
section Bodies
variable {l : Launch}
theorem vx_ofW {y : MethodName} {ws ws' : List Cond} {rm : Room} {Pc : Array Value → State → Prop} {Qc : Array Value → State → Outcome → State → Prop} {XC : String → State → State → Prop} {mc ms : Nat} {free : Addr → Prop} {cc : ByteArray} {maxL : Nat} {ret : Option FieldType}
    (hy : plainName y.cls = true) (hw : ws = Cond.code y cc maxL ret :: ws')
    (body : ∀ p e s m args below meth c s₁, BodyLoose p l y (headSpec ws rm) cc maxL ret e s m args below meth c s₁ → c.maxLocals = maxL → (∀ x ∈ c.exceptionTable.toList, False) → Pc args s →
      W p l e (headSpec ws rm).room s m args below meth c s.heap [] 0 0 (vx_MQ below Qc XC args s mc ms free) (entryFrame m args maxL)) : vx_Met l y ws rm Pc Qc XC mc ms free := by
  refine MetFree.of_bodyS (code := cc) (maxLocals := maxL) (ret := ret) hy ?_ ?_
  · intro args s m h hn
    obtain ⟨meth, c, h1, h2, h3, h4, h5, h6, -, -⟩ := Cond.code_spec hn (atoms_spec (ws := ws) h _ (by rw [hw]; exact List.mem_cons_self))
    exact ⟨meth, c, h1, h2, h3, h4, h5, h6⟩
  · intro p e s m args below meth c s₁ B hml hP _
    have hh0 : s₁.heap = s.heap := by rw [B.state]; rfl
    have ht : ∀ x ∈ c.exceptionTable.toList, False := by
      obtain ⟨meth9, c9, h1, h2, -, -, -, -, h7, -⟩ := Cond.code_spec B.named (atoms_spec (ws := ws) B.pre _ (by rw [hw]; exact List.mem_cons_self))
      cases Option.some.inj (h1.symm.trans B.method)
      cases Option.some.inj (h2.symm.trans (Stand.of_body B).code)
      intro x hx
      rw [Array.isEmpty_iff.mp h7] at hx
      cases hx
    obtain ⟨t, a1, o, b1, b2, b3⟩ := body p e s m args below meth c s₁ B hml ht hP s₁ hh0 (Stand.of_body B)
    exact ⟨t, o, a1, b1, b2, b3⟩
/-- the table of a body with handlers -/
theorem vx_table {p : Program} {x y : MethodName} {S : Spec} {cc bytes : ByteArray} {maxL maxL' : Nat} {ret ret' : Option FieldType} {e : Env} {s s₁ : State} {m : MethodId} {args : Array Value} {below : List Frame} {meth : Method} {c : Code} {hh : List (Nat × Nat × Nat × Nat)}
    (B : BodyLoose p l y S cc maxL ret e s m args below meth c s₁) (h : (Cond.codeWith y bytes maxL' ret' hh).before args s = true) : c.exceptionTable.toList = tableOf hh := by
  obtain ⟨m9, meth9, c9, hn9, h1, h2, -, -, h6, -⟩ := Cond.codeWith_spec h
  cases Option.some.inj (hn9.symm.trans B.named)
  cases Option.some.inj (h1.symm.trans B.method)
  cases Option.some.inj (h2.symm.trans (Stand.of_body B).code)
  rw [← h6, table_eq]
end Bodies
end VXA
/-! ===== END ===== -/
/-! ===== BEGIN a static call of a method with an exception table ===== -/
section VXS
variable {p : Program} {l : Launch} {e : Env} {R : Room} {s : State} {m : MethodId} {args : Array Value} {below : List Frame} {meth : Method} {c : Code} {T : State} {H : Heap} {locs : List Loc} {cells slots : Nat}
abbrev vx_CSW (R : Room) (s : State) (args : Array Value) (own : String) (index : Nat) (y : MethodName) (bytes : ByteArray) (maxL : Nat) (ret : Option FieldType) (hh : List (Nat × Nat × Nat × Nat)) (ws : List Cond) (rm : Room) (mc ms n : Nat) : Prop :=
  (rm.cells = mc ∧ rm.slots = ms ∧ rm.frames + 1 ≤ R.frames ∧ 8 + (maxL + 11) + rm.locals ≤ R.locals ∧ (∀ w ∈ ws, ∀ (a' : Array Value) (U : State), s.WarmedH U.vm → w.before a' U = true) ∧ Cond.codeWith y bytes maxL ret hh ∈ ws) ∧
  (Cond.codeWith y bytes maxL ret hh).before args s = true ∧ (Cond.initialized y.cls).before args s = true ∧ (y.cls ≠ "java/lang/invoke/MethodHandle" ∧ y.cls ≠ "java/lang/invoke/VarHandle") ∧
  (∀ sig, parseMethodDescriptor y.desc = some sig → n = sig.parameters.length) ∧ (Cond.methodLink own index y).before args s = true ∧ (Cond.static y).before args s = true
theorem vx_cwSW {own : String} {index maxL mc ms : Nat} {y : MethodName} {bytes : ByteArray} {ret : Option FieldType} {hh : List (Nat × Nat × Nat × Nat)} {Ts ws ws' : List Cond} {rm : Room} (n : Nat) (ht : ∀ w ∈ Ts, w.before args s = true) (hT : GoodIn Ts (va_wsS own index y ws)) (hw : ws = Cond.codeWith y bytes maxL ret hh :: ws') (hrc : rm.cells = mc) (hrs : rm.slots = ms)
    (hd : y.cls ≠ "java/lang/invoke/MethodHandle" ∧ y.cls ≠ "java/lang/invoke/VarHandle" ∧ (parseMethodDescriptor y.desc).map (fun d => d.parameters.length) = some n) (hR : rm.frames + 1 ≤ R.frames ∧ 8 + (maxL + 11) + rm.locals ≤ R.locals) :
    vx_CSW R s args own index y bytes maxL ret hh ws rm mc ms n := by
  have ok : ∀ w ∈ va_wsS own index y ws, w.before args s = true := fun w h => ht w (hT w h).1
  have hG : GoodIn Ts ws := fun w h => hT w (by unfold va_wsS; exact List.mem_append_right _ h)
  have hc : Cond.codeWith y bytes maxL ret hh ∈ ws := by rw [hw]; exact List.mem_cons_self
  refine ⟨⟨hrc, hrs, hR.1, hR.2, pay_in ht hG, hc⟩, ht _ (hG _ hc).1, ok _ (by simp [va_wsS]), ⟨hd.1, hd.2.1⟩, fun sig h => ?_, ok _ (by simp [va_wsS]), ok _ (by simp [va_wsS])⟩
  have h2 := hd.2.2
  rw [h] at h2
  exact (Option.some.inj h2).symm
theorem vx_callSW (X : Stand p l e R s m args below meth c T locs cells slots) (hexec : p.tables.exec = Jvm.exec) {own : String} {index : Nat} {y : MethodName} {bytes : ByteArray} {maxL : Nat} {ret : Option FieldType} {hh : List (Nat × Nat × Nat × Nat)}
    (hown : s.vm.findClass own = some m.cls) (hlink : (Cond.methodLink own index y).before args s = true) (hstat : (Cond.static y).before args s = true) (hinit : (Cond.initialized y.cls).before args s = true)
    (hcode : (Cond.codeWith y bytes maxL ret hh).before args s = true) (hy : y.cls ≠ "java/lang/invoke/MethodHandle" ∧ y.cls ≠ "java/lang/invoke/VarHandle")
    {W9 : Nat} {Pre : Pt → Array Value → Prop} {Post : Pt → Array Value → Option Value → Pt → Prop} (hK : Back l R p e below s args y 3 W9 Pre Post)
    {g : JFrame} (hg : g.method = m) (hsize : g.locals.size = c.maxLocals) {argsL rest : List Value} (hlen : ∀ sig, parseMethodDescriptor y.desc = some sig → argsL.length = sig.parameters.length)
    (hstack : g.stack = argsL.reverse ++ rest) (hW : 2 * g.monitorRoom + (rest.map fun v => v.category).sum ≤ W9) (hdg : decode c.code g.pc = .ok (.invokestatic index, 3))
    (hpre : ∀ vm₁, s.WarmedH vm₁ → Pre ⟨T.setVm vm₁, locs, cells, slots⟩ argsL.toArray) :
    ∃ (v : Option Value) (vm₁ : Vm) (B : Pt), s.WarmedH vm₁ ∧ Stand p l e R s m args below meth c B.U B.locs B.cells B.slots ∧ Post ⟨T.setVm vm₁, locs, cells, slots⟩ argsL.toArray v B ∧
      ∀ target, Steps p.tables e below (B.U.setTop { g with pc := g.pc + 3, stack := v.toList ++ rest }) target → Steps p.tables e below (T.setTop g) target := by
  obtain ⟨mk, methM, cM, hnamed, hmethM, -, -, -, -, -, -, hsigM⟩ := Cond.codeWith_spec hcode
  have hstatic : methM.isStatic = true := Cond.static_spec hnamed hmethM hstat
  obtain ⟨kP, hkP, -⟩ := className_of_methodNamed hnamed
  have hinitP : kP.init = .initialized := Cond.initialized_spec (findClass_of_methodNamed hnamed) hkP hinit
  obtain ⟨vm₁, X₁, hstep₁⟩ := X.invokestatic hexec hown hlink hnamed hmethM hstatic hkP hinitP hy (g := g) hg (argsL := argsL) (rest := rest) (hlen _ hsigM) hstack hdg
  obtain ⟨v, B, X', hpost, hsteps⟩ := hK m meth c ⟨T.setVm vm₁, locs, cells, slots⟩ { g with stack := rest } (.invokestatic index) mk argsL.toArray X₁ hg hsize hdg hW (X₁.named hnamed) (hpre vm₁ X₁.warmed)
  exact ⟨v, vm₁, B, X₁.warmed, X', hpost, fun target h => hstep₁ _ fun acts => by rw [doInvoke_state]; exact hsteps.trans h⟩
theorem vx_runSW {y : MethodName} {bytes cc : ByteArray} {maxL nL mc ms n index : Nat} {ret : Option FieldType} {hh : List (Nat × Nat × Nat × Nat)} {ws : List Cond} {rm : Room} {Pc : Array Value → State → Prop} {Qc : Array Value → State → Outcome → State → Prop} {free : Addr → Prop} {Ts : List Cond} {own : String} {As rest : List Value} {g : JFrame}
    (S : CallFix p m c cc nL s args Ts own) (hM : Met l y ws rm Pc Qc mc ms free) (cw : vx_CSW R s args own index y bytes maxL ret hh ws rm mc ms n) (hp : PreS s H Pc As)
    (hg : g.method = m) (hn : As.length = n) (hsize : g.locals.size = nL) (hstack : g.stack = As.reverse ++ rest) (hW : 2 * g.monitorRoom + (rest.map fun v => v.category).sum ≤ 8) (hdg : decode cc g.pc = .ok (.invokestatic index, 3)) (hf : cells + mc ≤ R.cells ∧ slots + ms ≤ R.slots) :
    va_Run p l e R s m args below meth c H locs cells slots mc ms g rest (Qc As.toArray) (free) := by
  obtain ⟨⟨hrc, hrs, hfr, hlo, hws, hcw⟩, hcode, hini, hy, hlen, hl, hstt⟩ := cw
  have hK : Back l R p e below s args y 3 8 (PreOf R mc ms Pc) (PostOf Qc mc ms free) := va_backW (hh := hh) (bytes := bytes) (maxL := maxL) (ret := ret) hM hp.1 hrc hrs hfr hlo hws hcw (fun a' U hW => word_at hW (Or.inl (by first | rfl | simp [Cond.onTables, Cond.keeps, Cond.steady])) hini)
  obtain ⟨hx, hb, hml, ho, -⟩ := S
  intro T hT X
  obtain ⟨v, vm₁, ⟨U', l2, c2, s2⟩, hW₁, X', ⟨g', mk, t, L, e1, e2, hq, h1, hL, h2, h3⟩, st⟩ := vx_callSW X hx (hh := hh) (bytes := bytes) (maxL := maxL) (ret := ret) ho hl hstt hini hcode hy hK hg (hsize.trans hml.symm) (argsL := As) (rest := rest) (fun sig h => hn.trans (hlen sig h)) hstack hW (by rw [hb]; exact hdg)
    (fun vm₁ hW₁ => ⟨hf.1, hf.2, hp.2 (T.setVm vm₁) hT hW₁⟩)
  dsimp only [Pt.U, Pt.locs, Pt.cells, Pt.slots] at X' e1 e2 h1 h2 h3 st
  subst h1; subst h2; subst h3
  exact ⟨v, (T.setVm vm₁).calling g' mk As.toArray, t, U', L, hT, X', hL, e1, e2, hq, st⟩
/-- not caught here, past rows that name other classes: it goes on to the caller -/
theorem vx_outP {p : Program} {l : Launch} {e : Env} {R : Room} {s : State} {m : MethodId} {args : Array Value} {below : List Frame} {meth : Method} {c : Code} {H : Heap} {locs : List Loc} {cells slots : Nat} {free : Addr → Prop} {ls : Array Slot} {rest : List Value} {Qc : Array Value → State → Outcome → State → Prop} {XC : String → State → State → Prop}
    {pc : Nat} {own E : String} {ce : Cell} {q : Addr} {mc ms : Nat} (hown : s.vm.findClass own = some m.cls) (hlocks : meth.locks = false)
    (hpass : ∀ z ∈ c.exceptionTable.toList, covers z pc = false ∨ (z.catchType ≠ 0 ∧ ∃ nm : String, (Cond.classLink own z.catchType nm).before args s = true ∧ va_Nc E nm s)) (hcell : H[q]? = some ce) (hv : ce.vm = .none) (hcl : s.vm.findClass E = some ce.cls)
    (hx : ∀ t : State, t.heap = H → s.vm.Alike t.vm → XC E s t) (hf : ∀ z ∈ locs, free z.base) (hc : cells ≤ mc) (hs : slots ≤ ms) :
    vx_W p l e R s m args below meth c H locs cells slots (vx_MQ below Qc XC args s mc ms free) (F0 m pc ls rest) q := by
  intro T hT X
  have hpl : e.platform.magicAccessors = ({} : Platform).magicAccessors := by rw [X.admits.platform]
  obtain ⟨vm', hW', X', st⟩ := X.outThrough hlocks q (g := F0 m pc ls rest) rfl rfl rfl (cell := ce) (by rw [hT]; exact hcell) (by rw [hv]; rfl)
    (by obtain ⟨k9, h9, -⟩ := Vm.findClass_spec hcl; exact ⟨k9, h9⟩) (fun z hz => by
      rcases hpass z hz with h | ⟨hz0, nm, hl1, hn1⟩
      · exact Or.inl h
      · obtain ⟨c6, hc6, hcl6⟩ := Cond.classLink_spec hown hl1 e.platform hpl
        obtain ⟨a8, b8, h1, h2, h3⟩ := hn1
        cases Option.some.inj (h1.symm.trans hcl)
        cases Option.some.inj (h2.symm.trans hc6)
        exact Or.inr ⟨hz0, _, hcl6, h3⟩)
  obtain ⟨g₀, hfr⟩ := X'.frames_eq
  have hcell9 : ((T.setVm vm').setFrames (.throwing q :: below)).heap[q]? = some ce := by
    show T.heap[q]? = some ce
    rw [hT]; exact hcell
  have hend : Ended ((T.setVm vm').setFrames (.throwing q :: below)) below (.threw q) := State.frames_setFrames _ (State.cur_lt_of_frames hfr)
  refine ⟨(T.setVm vm').setFrames (.throwing q :: below), ?_, .threw q, X'.here.running, hend, Or.inr ⟨q, rfl, E, ce, locs, hx _ hT (X'.ends _).1.alike, hcell9, hv, hcl, (X'.ends _).1, (X'.ends _).2.mono hc hs, hf⟩⟩
  rw [X.pushThrowing_eq]
  exact st
/-- a thing of a world lies in the heap -/
theorem vx_lt {D : va_G} {cl : List vw_C} {ws : va_W} {H1 : Heap} (h : va_P D cl ws H1) {k : Nat} {q : Nat × va_E} (hk : ws[k]? = some q) : q.1 < H1.size := (h k q hk).lt
end VXS
/-! ===== END ===== -/
/-! ===== BEGIN methods with a table of their own: called by a name, returning or throwing ===== -/
section VXH
/-! vx_backW, vx_callVX, vx_callSX, vx_callVW, vx_runVW, vx_runVX, vx_runSX, vx_ofWH follow the same proofs as their sisters above (Free/Laws.lean, Shelf42/LK1.lean); vx_outP calls Shelf42/NT130.lean (outThrough). -/
section
variable {l : Launch} {R : Room} {p : Program} {e : Env} {below : List Frame} {s : State} {sargs : Array Value} {y : MethodName} {len W9 : Nat}
theorem vx_backW {ws : List Cond} {rm : Room} {Pc : Array Value → State → Prop} {Qc : Array Value → State → Outcome → State → Prop} {XC : String → State → State → Prop} {mc ms : Nat} {free : Addr → Prop} {bytes : ByteArray} {maxL : Nat} {ret : Option FieldType} {hh : List (Nat × Nat × Nat × Nat)}
    (hM : vx_Met l y ws rm Pc Qc XC mc ms free) (hblind : FrameBlind Pc) (hrc : rm.cells = mc) (hrs : rm.slots = ms)
    (hframes : rm.frames + 1 ≤ R.frames) (hlocals : W9 + (maxL + 11) + rm.locals ≤ R.locals)
    (hws : ∀ w ∈ ws, ∀ a' U, s.WarmedH U.vm → w.before a' U = true) (hcode : Cond.codeWith y bytes maxL ret hh ∈ ws) (hinit : ∀ a' U, s.WarmedH U.vm → (Cond.initialized y.cls).before a' U = true) :
    vx_Back l R p e below s sargs y len W9 (PreOf R mc ms Pc) (PostOf Qc mc ms free) (vx_Post XC mc ms free) := by
  intro m meth c A g ig mk a X hg hsize hdg hW hn hp
  have h1 : (headSpec ws rm).pre.before a A.U = true := atoms_intro fun w hw => hws w hw _ _ X.warmed
  have h2 : (Cond.codeWith y bytes maxL ret hh).before a A.U = true := hws _ hcode _ _ X.warmed
  have h3 : (Cond.initialized y.cls).before a A.U = true := hinit _ _ X.warmed
  have h4 : A.cells + (headSpec ws rm).room.cells ≤ R.cells := by rw [show (headSpec ws rm).room.cells = mc from hrc]; exact hp.1
  have h5 : A.slots + (headSpec ws rm).room.slots ≤ R.slots := by rw [show (headSpec ws rm).room.slots = ms from hrs]; exact hp.2.1
  have hPc : Pc a (A.U.calling g mk a) := hblind _ _ _ _ hp.2.2
  obtain ⟨U, Ls, c0, s0⟩ := A
  dsimp only [Pt.U, Pt.locs, Pt.cells, Pt.slots] at h1 h2 h3 h4 h5 X hn hPc ⊢
  obtain ⟨m9, methY, cY, hn9, hmY, hcY, -, hlY, -⟩ := Cond.codeWith_spec h2
  cases Option.some.inj (hn9.symm.trans hn)
  obtain ⟨kY, hkY, -⟩ := className_of_methodNamed hn
  have hinitY : kY.init = .initialized := Cond.initialized_spec (findClass_of_methodNamed hn) hkY h3
  have h : At U g.method c below := by rw [hg]; exact X.here
  have hlocals9 : W9 + (maxL + 11) + (headSpec ws rm).room.locals ≤ R.locals := hlocals
  have happ : (headSpec ws rm).appliesLoose y e.platform (U.calling g mk a) = true :=
    Spec.appliesLoose_calling (g := g) h hdg hn hkY hinitY
      (X.room_calling (g := g) (R' := (headSpec ws rm).room) hsize hmY hcY hframes (by rw [hlY]; omega) h4 h5) h1
  obtain ⟨mid, hmid⟩ := h.above
  have hfr : (U.setTop g).frames = (.java g :: mid) ++ below := by rw [State.frames_setTop' g h.top, hmid]; rfl
  obtain ⟨o, s₂, hsteps, -, hend, hq⟩ := Steps.callFree hM p X.admits X.cas X.clock (acts := []) hfr happ hPc trivial
  have hq' : vx_Q Qc XC mc ms free a (U.calling g mk a) o s₂ := hq
  rw [State.frames_setTop' g h.top] at hend
  obtain ⟨g₀, hg0⟩ := Option.isSome_iff_exists.mp h.top
  obtain ⟨r, hr⟩ := State.topJava?_eq_some.mp hg0
  have hr' : (({ U with heap := s₂.heap, slotsUsed := s₂.slotsUsed } : State).setVm s₂.vm).frames = .java g₀ :: r := hr
  rcases hq' with ⟨hqc, L, hfe, hL⟩ | ⟨q, rfl, E, ce, L, hx, hce, hcv, hcl, hW₂, hsm, hL⟩
  · obtain ⟨⟨v, rfl⟩, hW₂, e2, q2, q3, q4, q5, q6⟩ := id hfe
    have e3 : s₂ = ({ (U.calling g mk a).setFrames s₂.frames with heap := s₂.heap, slotsUsed := s₂.slotsUsed } : State).setVm s₂.vm := by
      have : s₂ = ({ s₂ with vm := (U.calling g mk a).vm } : State).setVm s₂.vm := rfl
      rw [e2] at this
      exact this
    obtain ⟨c₂, i₂, len₂, hc₂, hd₂, hf₂⟩ := hend
    have hW' : U.WarmedH s₂.vm := hW₂
    have hcc : c₂ = c := by
      have h1 : s₂.code? g.method = U.code? g.method := by
        rw [State.code?_eq, State.code?_eq, hW'.alike.method?]
      exact Option.some.inj (hc₂.symm.trans (h1.trans h.code))
    subst hcc
    have hlen : len₂ = len := by rw [hdg] at hd₂; cases hd₂; rfl
    subst hlen
    have hs₂ : s₂ = (({ U with heap := s₂.heap, slotsUsed := s₂.slotsUsed } : State).setVm s₂.vm).setTop { g with pc := g.pc + len₂, stack := v.toList ++ g.stack } := by
      refine e3.trans ?_
      rw [hf₂, State.calling_eq h.top, State.setFrames_setFrames, State.setTop_of_frames _ hr', hr]
      rfl
    have hsame : U.sameButNew ({ U with heap := s₂.heap, slotsUsed := s₂.slotsUsed } : State) L mc ms := by
      refine ⟨?_, q2, q3, q4, q5, q6⟩
      obtain ⟨t, ht, -⟩ := State.frames_cons hr
      show ({ U with heap := s₂.heap, slotsUsed := s₂.slotsUsed } : State) = { U.setFrames U.frames with heap := s₂.heap, slotsUsed := s₂.slotsUsed }
      rw [State.setFrames_self ht]
    subst hg
    refine Or.inl ⟨v, ⟨(({ U with heap := s₂.heap, slotsUsed := s₂.slotsUsed } : State).setVm s₂.vm), Ls ++ L, c0 + mc, s0 + ms⟩,
      ⟨X.admits, X.cas, X.clock, X.frames, X.room, X.hears, X.method, X.code, (X.here.setHeapUsed s₂.heap s₂.slotsUsed).setVm hW'.alike, X.tail, State.WarmedH.trans X.warmed hW', X.limits, X.bytes, X.same.trans (hsame.setVm s.vm)⟩,
      ⟨g, mk, s₂, L, rfl, rfl, hqc, rfl, hL, rfl, rfl⟩, ?_⟩
    show Steps p.tables e below _ ((({ U with heap := s₂.heap, slotsUsed := s₂.slotsUsed } : State).setVm s₂.vm).setTop { g with pc := g.pc + len₂, stack := v.toList ++ g.stack })
    rw [← hs₂]
    exact hsteps
  · obtain ⟨e2, q2, q3, q4, q5, q6⟩ := id hsm
    have e3 : s₂ = ({ (U.calling g mk a).setFrames s₂.frames with heap := s₂.heap, slotsUsed := s₂.slotsUsed } : State).setVm s₂.vm := by
      have : s₂ = ({ s₂ with vm := (U.calling g mk a).vm } : State).setVm s₂.vm := rfl
      rw [e2] at this
      exact this
    have hf₂ : s₂.frames = .throwing q :: .java g :: U.frames.tail := hend
    have hW' : U.WarmedH s₂.vm := hW₂
    have hs₂ : s₂ = ((({ U with heap := s₂.heap, slotsUsed := s₂.slotsUsed } : State).setVm s₂.vm).setTop g).pushFrame (.throwing q) := by
      refine e3.trans ?_
      rw [hf₂, State.calling_eq h.top, State.setFrames_setFrames, State.pushFrame, State.frames_setTop _ hr', State.setTop_of_frames _ hr', State.setFrames_setFrames, hr]
      rfl
    have hsame : U.sameButNew ({ U with heap := s₂.heap, slotsUsed := s₂.slotsUsed } : State) L mc ms := by
      refine ⟨?_, q2, q3, q4, q5, q6⟩
      obtain ⟨t, ht, -⟩ := State.frames_cons hr
      show ({ U with heap := s₂.heap, slotsUsed := s₂.slotsUsed } : State) = { U.setFrames U.frames with heap := s₂.heap, slotsUsed := s₂.slotsUsed }
      rw [State.setFrames_self ht]
    subst hg
    refine Or.inr ⟨q, ⟨(({ U with heap := s₂.heap, slotsUsed := s₂.slotsUsed } : State).setVm s₂.vm), Ls ++ L, c0 + mc, s0 + ms⟩,
      ⟨X.admits, X.cas, X.clock, X.frames, X.room, X.hears, X.method, X.code, (X.here.setHeapUsed s₂.heap s₂.slotsUsed).setVm hW'.alike, X.tail, State.WarmedH.trans X.warmed hW', X.limits, X.bytes, X.same.trans (hsame.setVm s.vm)⟩,
      ⟨g, mk, s₂, L, E, ce, rfl, rfl, hx, hce, hcv, hcl, rfl, hL, rfl, rfl⟩, ?_⟩
    show Steps p.tables e below _ (((({ U with heap := s₂.heap, slotsUsed := s₂.slotsUsed } : State).setVm s₂.vm).setTop g).pushFrame (.throwing q))
    rw [← hs₂]
    exact hsteps
end
variable {p : Program} {l : Launch} {e : Env} {R : Room} {s : State} {m : MethodId} {args : Array Value} {below : List Frame} {meth : Method} {c : Code} {T : State} {H : Heap} {locs : List Loc} {cells slots : Nat}
theorem vx_callVX (X : Stand p l e R s m args below meth c T locs cells slots) (hexec : p.tables.exec = Jvm.exec) {own C : String} {index : Nat} {y : MethodName} {bytes : ByteArray} {maxL : Nat} {ret : Option FieldType} {hh : List (Nat × Nat × Nat × Nat)}
    (hown : s.vm.findClass own = some m.cls) (hlink : (Cond.methodLink own index y).before args s = true) (hinst : (Cond.instanceMethod y).before args s = true) (hsel : (Cond.selects C y y).before args s = true)
    (hcode : (Cond.codeWith y bytes maxL ret hh).before args s = true) (hy : y.cls ≠ "java/lang/invoke/MethodHandle" ∧ y.cls ≠ "java/lang/invoke/VarHandle")
    {W9 : Nat} {Pre : Pt → Array Value → Prop} {Post : Pt → Array Value → Option Value → Pt → Prop} {PostX : Pt → Array Value → Addr → Pt → Prop} (hK : vx_Back l R p e below s args y 3 W9 Pre Post PostX)
    {b : Addr} {cellB : Cell} (hcell : T.heap[b]? = some cellB) (hobj : cellB.vm.isStatics = false) (hcls : s.vm.findClass C = some cellB.cls)
    {g : JFrame} (hg : g.method = m) (hsize : g.locals.size = c.maxLocals) {argsL rest : List Value} (hlen : ∀ sig, parseMethodDescriptor y.desc = some sig → argsL.length = sig.parameters.length)
    (hstack : g.stack = argsL.reverse ++ .ref b :: rest) (hW : 2 * g.monitorRoom + (rest.map fun v => v.category).sum ≤ W9) (hdg : decode c.code g.pc = .ok (.invokevirtual index, 3))
    (hpre : ∀ vm₁, s.WarmedH vm₁ → Pre ⟨T.setVm vm₁, locs, cells, slots⟩ (Value.ref b :: argsL).toArray) :
    (∃ (v : Option Value) (vm₁ : Vm) (B : Pt), s.WarmedH vm₁ ∧ Stand p l e R s m args below meth c B.U B.locs B.cells B.slots ∧ Post ⟨T.setVm vm₁, locs, cells, slots⟩ (Value.ref b :: argsL).toArray v B ∧
      ∀ target, Steps p.tables e below (B.U.setTop { g with pc := g.pc + 3, stack := v.toList ++ rest }) target → Steps p.tables e below (T.setTop g) target) ∨
    (∃ (q : Addr) (vm₁ : Vm) (B : Pt), s.WarmedH vm₁ ∧ Stand p l e R s m args below meth c B.U B.locs B.cells B.slots ∧ PostX ⟨T.setVm vm₁, locs, cells, slots⟩ (Value.ref b :: argsL).toArray q B ∧
      Steps p.tables e below (T.setTop g) ((B.U.setTop { g with stack := rest }).pushFrame (.throwing q))) := by
  obtain ⟨mk, methM, hnamed, hmethM, hstM, habM⟩ := Cond.instanceMethod_spec hinst
  obtain ⟨m8, methM', cM, hn8, hmethM', -, -, -, -, -, -, hsigM⟩ := Cond.codeWith_spec hcode
  cases Option.some.inj (hn8.symm.trans hnamed)
  cases hmethM.symm.trans hmethM'
  obtain ⟨c2, r2, m2, q1, q2, q3, q4, kP, hkP, hkPi⟩ := Cond.selects_spec hsel
  cases hcls.symm.trans q1
  cases (State.methodFound?_of_named hnamed hy).symm.trans q2
  cases hnamed.symm.trans q3
  have hselP : selectMethod e.platform s.vm cellB.cls mk = .method mk := by rw [Launch.admits_selectMethod X.admits]; exact q4
  obtain ⟨vm₁, X₁, hstep₁⟩ := X.invokevirtual hexec hown hlink hnamed hmethM hstM hkP hkPi hy (a := b) (cell := cellB) hcell
    (fun z h => by rw [h] at hobj; cases hobj) hselP hmethM habM hkP hkPi (g := g) hg (argsL := argsL) (rest := rest) (hlen _ hsigM) hstack hdg
  rcases hK m meth c ⟨T.setVm vm₁, locs, cells, slots⟩ { g with stack := rest } (.invokevirtual index) mk (Value.ref b :: argsL).toArray X₁ hg hsize hdg hW (X₁.named hnamed) (hpre vm₁ X₁.warmed) with ⟨v, B, X', hpost, hsteps⟩ | ⟨q, B, X', hpost, hsteps⟩
  · exact Or.inl ⟨v, vm₁, B, X₁.warmed, X', hpost, fun target h => hstep₁ _ fun acts => by rw [doInvoke_state]; exact hsteps.trans h⟩
  · exact Or.inr ⟨q, vm₁, B, X₁.warmed, X', hpost, hstep₁ _ fun acts => by rw [doInvoke_state]; exact hsteps⟩
theorem vx_callSX (X : Stand p l e R s m args below meth c T locs cells slots) (hexec : p.tables.exec = Jvm.exec) {own : String} {index : Nat} {y : MethodName} {bytes : ByteArray} {maxL : Nat} {ret : Option FieldType} {hh : List (Nat × Nat × Nat × Nat)}
    (hown : s.vm.findClass own = some m.cls) (hlink : (Cond.methodLink own index y).before args s = true) (hstat : (Cond.static y).before args s = true) (hinit : (Cond.initialized y.cls).before args s = true)
    (hcode : (Cond.codeWith y bytes maxL ret hh).before args s = true) (hy : y.cls ≠ "java/lang/invoke/MethodHandle" ∧ y.cls ≠ "java/lang/invoke/VarHandle")
    {W9 : Nat} {Pre : Pt → Array Value → Prop} {Post : Pt → Array Value → Option Value → Pt → Prop} {PostX : Pt → Array Value → Addr → Pt → Prop} (hK : vx_Back l R p e below s args y 3 W9 Pre Post PostX)
    {g : JFrame} (hg : g.method = m) (hsize : g.locals.size = c.maxLocals) {argsL rest : List Value} (hlen : ∀ sig, parseMethodDescriptor y.desc = some sig → argsL.length = sig.parameters.length)
    (hstack : g.stack = argsL.reverse ++ rest) (hW : 2 * g.monitorRoom + (rest.map fun v => v.category).sum ≤ W9) (hdg : decode c.code g.pc = .ok (.invokestatic index, 3))
    (hpre : ∀ vm₁, s.WarmedH vm₁ → Pre ⟨T.setVm vm₁, locs, cells, slots⟩ argsL.toArray) :
    (∃ (v : Option Value) (vm₁ : Vm) (B : Pt), s.WarmedH vm₁ ∧ Stand p l e R s m args below meth c B.U B.locs B.cells B.slots ∧ Post ⟨T.setVm vm₁, locs, cells, slots⟩ argsL.toArray v B ∧
      ∀ target, Steps p.tables e below (B.U.setTop { g with pc := g.pc + 3, stack := v.toList ++ rest }) target → Steps p.tables e below (T.setTop g) target) ∨
    (∃ (q : Addr) (vm₁ : Vm) (B : Pt), s.WarmedH vm₁ ∧ Stand p l e R s m args below meth c B.U B.locs B.cells B.slots ∧ PostX ⟨T.setVm vm₁, locs, cells, slots⟩ argsL.toArray q B ∧
      Steps p.tables e below (T.setTop g) ((B.U.setTop { g with stack := rest }).pushFrame (.throwing q))) := by
  obtain ⟨mk, methM, cM, hnamed, hmethM, -, -, -, -, -, -, hsigM⟩ := Cond.codeWith_spec hcode
  have hstatic : methM.isStatic = true := Cond.static_spec hnamed hmethM hstat
  obtain ⟨kP, hkP, -⟩ := className_of_methodNamed hnamed
  have hinitP : kP.init = .initialized := Cond.initialized_spec (findClass_of_methodNamed hnamed) hkP hinit
  obtain ⟨vm₁, X₁, hstep₁⟩ := X.invokestatic hexec hown hlink hnamed hmethM hstatic hkP hinitP hy (g := g) hg (argsL := argsL) (rest := rest) (hlen _ hsigM) hstack hdg
  rcases hK m meth c ⟨T.setVm vm₁, locs, cells, slots⟩ { g with stack := rest } (.invokestatic index) mk argsL.toArray X₁ hg hsize hdg hW (X₁.named hnamed) (hpre vm₁ X₁.warmed) with ⟨v, B, X', hpost, hsteps⟩ | ⟨q, B, X', hpost, hsteps⟩
  · exact Or.inl ⟨v, vm₁, B, X₁.warmed, X', hpost, fun target h => hstep₁ _ fun acts => by rw [doInvoke_state]; exact hsteps.trans h⟩
  · exact Or.inr ⟨q, vm₁, B, X₁.warmed, X', hpost, hstep₁ _ fun acts => by rw [doInvoke_state]; exact hsteps⟩
theorem vx_callVW (X : Stand p l e R s m args below meth c T locs cells slots) (hexec : p.tables.exec = Jvm.exec) {own C : String} {index : Nat} {y : MethodName} {bytes : ByteArray} {maxL : Nat} {ret : Option FieldType} {hh : List (Nat × Nat × Nat × Nat)}
    (hown : s.vm.findClass own = some m.cls) (hlink : (Cond.methodLink own index y).before args s = true) (hinst : (Cond.instanceMethod y).before args s = true) (hsel : (Cond.selects C y y).before args s = true)
    (hcode : (Cond.codeWith y bytes maxL ret hh).before args s = true) (hy : y.cls ≠ "java/lang/invoke/MethodHandle" ∧ y.cls ≠ "java/lang/invoke/VarHandle")
    {W9 : Nat} {Pre : Pt → Array Value → Prop} {Post : Pt → Array Value → Option Value → Pt → Prop} (hK : Back l R p e below s args y 3 W9 Pre Post)
    {b : Addr} {cellB : Cell} (hcell : T.heap[b]? = some cellB) (hobj : cellB.vm.isStatics = false) (hcls : s.vm.findClass C = some cellB.cls)
    {g : JFrame} (hg : g.method = m) (hsize : g.locals.size = c.maxLocals) {argsL rest : List Value} (hlen : ∀ sig, parseMethodDescriptor y.desc = some sig → argsL.length = sig.parameters.length)
    (hstack : g.stack = argsL.reverse ++ .ref b :: rest) (hW : 2 * g.monitorRoom + (rest.map fun v => v.category).sum ≤ W9) (hdg : decode c.code g.pc = .ok (.invokevirtual index, 3))
    (hpre : ∀ vm₁, s.WarmedH vm₁ → Pre ⟨T.setVm vm₁, locs, cells, slots⟩ (Value.ref b :: argsL).toArray) :
    ∃ (v : Option Value) (vm₁ : Vm) (B : Pt), s.WarmedH vm₁ ∧ Stand p l e R s m args below meth c B.U B.locs B.cells B.slots ∧ Post ⟨T.setVm vm₁, locs, cells, slots⟩ (Value.ref b :: argsL).toArray v B ∧
      ∀ target, Steps p.tables e below (B.U.setTop { g with pc := g.pc + 3, stack := v.toList ++ rest }) target → Steps p.tables e below (T.setTop g) target := by
  obtain ⟨mk, methM, hnamed, hmethM, hstM, habM⟩ := Cond.instanceMethod_spec hinst
  obtain ⟨m8, methM', cM, hn8, hmethM', -, -, -, -, -, -, hsigM⟩ := Cond.codeWith_spec hcode
  cases Option.some.inj (hn8.symm.trans hnamed)
  cases hmethM.symm.trans hmethM'
  obtain ⟨c2, r2, m2, q1, q2, q3, q4, kP, hkP, hkPi⟩ := Cond.selects_spec hsel
  cases hcls.symm.trans q1
  cases (State.methodFound?_of_named hnamed hy).symm.trans q2
  cases hnamed.symm.trans q3
  have hselP : selectMethod e.platform s.vm cellB.cls mk = .method mk := by rw [Launch.admits_selectMethod X.admits]; exact q4
  obtain ⟨vm₁, X₁, hstep₁⟩ := X.invokevirtual hexec hown hlink hnamed hmethM hstM hkP hkPi hy (a := b) (cell := cellB) hcell
    (fun z h => by rw [h] at hobj; cases hobj) hselP hmethM habM hkP hkPi (g := g) hg (argsL := argsL) (rest := rest) (hlen _ hsigM) hstack hdg
  obtain ⟨v, B, X', hpost, hsteps⟩ := hK m meth c ⟨T.setVm vm₁, locs, cells, slots⟩ { g with stack := rest } (.invokevirtual index) mk (Value.ref b :: argsL).toArray X₁ hg hsize hdg hW (X₁.named hnamed) (hpre vm₁ X₁.warmed)
  exact ⟨v, vm₁, B, X₁.warmed, X', hpost, fun target h => hstep₁ _ fun acts => by rw [doInvoke_state]; exact hsteps.trans h⟩
abbrev vx_CVW (R : Room) (s : State) (args : Array Value) (own C : String) (index : Nat) (y : MethodName) (bytes : ByteArray) (maxL : Nat) (ret : Option FieldType) (hh : List (Nat × Nat × Nat × Nat)) (ws : List Cond) (rm : Room) (mc ms n : Nat) : Prop :=
  (rm.cells = mc ∧ rm.slots = ms ∧ rm.frames + 1 ≤ R.frames ∧ 8 + (maxL + 11) + rm.locals ≤ R.locals ∧ (∀ w ∈ ws, ∀ (a' : Array Value) (U : State), s.WarmedH U.vm → w.before a' U = true) ∧ Cond.codeWith y bytes maxL ret hh ∈ ws) ∧
  (Cond.codeWith y bytes maxL ret hh).before args s = true ∧ (Cond.initialized y.cls).before args s = true ∧ (y.cls ≠ "java/lang/invoke/MethodHandle" ∧ y.cls ≠ "java/lang/invoke/VarHandle") ∧
  (∀ sig, parseMethodDescriptor y.desc = some sig → n = sig.parameters.length) ∧ (Cond.methodLink own index y).before args s = true ∧ (Cond.instanceMethod y).before args s = true ∧ (Cond.selects C y y).before args s = true
theorem vx_cwVW {own C : String} {index maxL mc ms : Nat} {y : MethodName} {bytes : ByteArray} {ret : Option FieldType} {hh : List (Nat × Nat × Nat × Nat)} {Ts ws ws' : List Cond} {rm : Room} (n : Nat) (ht : ∀ w ∈ Ts, w.before args s = true) (hT : GoodIn Ts (wsV own index C y ws)) (hw : ws = Cond.codeWith y bytes maxL ret hh :: ws') (hrc : rm.cells = mc) (hrs : rm.slots = ms)
    (hd : y.cls = C ∧ y.cls ≠ "java/lang/invoke/MethodHandle" ∧ y.cls ≠ "java/lang/invoke/VarHandle" ∧ (parseMethodDescriptor y.desc).map (fun d => d.parameters.length) = some n) (hR : rm.frames + 1 ≤ R.frames ∧ 8 + (maxL + 11) + rm.locals ≤ R.locals) :
    vx_CVW R s args own C index y bytes maxL ret hh ws rm mc ms n := by
  obtain ⟨hC, hd⟩ := hd
  subst hC
  have ok : ∀ w ∈ wsV own index y.cls y ws, w.before args s = true := fun w h => ht w (hT w h).1
  have hG : GoodIn Ts ws := fun w h => hT w (by unfold wsV; exact List.mem_append_right _ h)
  have hc : Cond.codeWith y bytes maxL ret hh ∈ ws := by rw [hw]; exact List.mem_cons_self
  refine ⟨⟨hrc, hrs, hR.1, hR.2, pay_in ht hG, hc⟩, ht _ (hG _ hc).1, ok _ (by simp [wsV]), ⟨hd.1, hd.2.1⟩, fun sig h => ?_, ok _ (by simp [wsV]), ok _ (by simp [wsV]), ok _ (by simp [wsV])⟩
  have h2 := hd.2.2
  rw [h] at h2
  exact (Option.some.inj h2).symm
theorem vx_runVW {y : MethodName} {bytes cc : ByteArray} {maxL nL mc ms n index : Nat} {ret : Option FieldType} {hh : List (Nat × Nat × Nat × Nat)} {ws : List Cond} {rm : Room} {Pc : Array Value → State → Prop} {Qc : Array Value → State → Outcome → State → Prop} {free : Addr → Prop} {Ts : List Cond} {own C : String} {b : Addr} {As rest : List Value} {g : JFrame}
    (S : CallFix p m c cc nL s args Ts own) (hM : Met l y ws rm Pc Qc mc ms free) (cw : vx_CVW R s args own C index y bytes maxL ret hh ws rm mc ms n) (hp : PreV s H C b Pc As)
    (hg : g.method = m) (hn : As.length = n) (hsize : g.locals.size = nL) (hstack : g.stack = As.reverse ++ .ref b :: rest) (hW : 2 * g.monitorRoom + (rest.map fun v => v.category).sum ≤ 8) (hdg : decode cc g.pc = .ok (.invokevirtual index, 3)) (hf : cells + mc ≤ R.cells ∧ slots + ms ≤ R.slots) :
    va_Run p l e R s m args below meth c H locs cells slots mc ms g rest (Qc (Value.ref b :: As).toArray) free := by
  obtain ⟨⟨hrc, hrs, hfr, hlo, hws, hcw⟩, hcode, hini, hy, hlen, hl, hin, hse⟩ := cw
  have hK : Back l R p e below s args y 3 8 (PreOf R mc ms Pc) (PostOf Qc mc ms free) := va_backW (hh := hh) (bytes := bytes) (maxL := maxL) (ret := ret) hM hp.1 hrc hrs hfr hlo hws hcw (fun a' U hW => word_at hW (Or.inl (by first | rfl | simp [Cond.onTables, Cond.keeps, Cond.steady])) hini)
  obtain ⟨hx, hb, hml, ho, -⟩ := S
  obtain ⟨-, ⟨cellB, hcB, hoB, hclB⟩, hPc⟩ := hp
  intro T hT X
  obtain ⟨v, vm₁, ⟨U', l2, c2, s2⟩, hW₁, X', ⟨g', mk, t, L, e1, e2, hq, h1, hL, h2, h3⟩, st⟩ := vx_callVW X hx (C := C) (hh := hh) (bytes := bytes) (maxL := maxL) (ret := ret) ho hl hin hse hcode hy hK (by rw [hT]; exact hcB) hoB hclB hg (hsize.trans hml.symm) (argsL := As) (rest := rest) (fun sig h => hn.trans (hlen sig h)) hstack hW (by rw [hb]; exact hdg)
    (fun vm₁ hW₁ => ⟨hf.1, hf.2, hPc (T.setVm vm₁) hT hW₁⟩)
  dsimp only [Pt.U, Pt.locs, Pt.cells, Pt.slots] at X' e1 e2 h1 h2 h3 st
  subst h1; subst h2; subst h3
  exact ⟨v, (T.setVm vm₁).calling g' mk (Value.ref b :: As).toArray, t, U', L, hT, X', hL, e1, e2, hq, st⟩
section
variable {y : MethodName} {bytes cc : ByteArray} {maxL nL mc ms n index : Nat} {ret : Option FieldType} {ws : List Cond} {rm : Room} {Pc : Array Value → State → Prop} {Qc : Array Value → State → Outcome → State → Prop} {XC : String → State → State → Prop} {free : Addr → Prop} {Ts : List Cond} {own C : String} {b : Addr} {As rest : List Value} {g : JFrame}
theorem vx_runVX {hh : List (Nat × Nat × Nat × Nat)} (S : CallFix p m c cc nL s args Ts own) (hM : vx_Met l y ws rm Pc Qc XC mc ms free) (cw : vx_CVW R s args own C index y bytes maxL ret hh ws rm mc ms n) (hp : PreV s H C b Pc As)
    (hg : g.method = m) (hn : As.length = n) (hsize : g.locals.size = nL) (hstack : g.stack = As.reverse ++ .ref b :: rest) (hW : 2 * g.monitorRoom + (rest.map fun v => v.category).sum ≤ 8) (hdg : decode cc g.pc = .ok (.invokevirtual index, 3)) (hf : cells + mc ≤ R.cells ∧ slots + ms ≤ R.slots) :
    vx_Run p l e R s m args below meth c H locs cells slots mc ms g rest (Qc (Value.ref b :: As).toArray) XC free := by
  obtain ⟨⟨hrc, hrs, hfr, hlo, hws, hcw⟩, hcode, hini, hy, hlen, hl, hin, hse⟩ := cw
  have hK : vx_Back l R p e below s args y 3 8 (PreOf R mc ms Pc) (PostOf Qc mc ms free) (vx_Post XC mc ms free) := vx_backW (hh := hh) (bytes := bytes) (maxL := maxL) (ret := ret) hM hp.1 hrc hrs hfr hlo hws hcw (fun a' U hW => word_at hW (Or.inl (by first | rfl | simp [Cond.onTables, Cond.keeps, Cond.steady])) hini)
  obtain ⟨hx, hb, hml, ho, -⟩ := S
  obtain ⟨-, ⟨cellB, hcB, hoB, hclB⟩, hPc⟩ := hp
  intro T hT X
  rcases vx_callVX X hx (C := C) (hh := hh) (bytes := bytes) (maxL := maxL) (ret := ret) ho hl hin hse hcode hy hK (by rw [hT]; exact hcB) hoB hclB hg (hsize.trans hml.symm) (argsL := As) (rest := rest) (fun sig h => hn.trans (hlen sig h)) hstack hW (by rw [hb]; exact hdg)
    (fun vm₁ hW₁ => ⟨hf.1, hf.2, hPc (T.setVm vm₁) hT hW₁⟩) with ⟨v, vm₁, ⟨U', l2, c2, s2⟩, hW₁, X', ⟨g', mk, t, L, e1, e2, hq, h1, hL, h2, h3⟩, st⟩ | ⟨q, vm₁, ⟨U', l2, c2, s2⟩, hW₁, X', ⟨g', mk, t, L, E, ce, e1, e2, hq, hce, hcv, hcl, h1, hL, h2, h3⟩, st⟩
  · dsimp only [Pt.U, Pt.locs, Pt.cells, Pt.slots] at X' e1 e2 h1 h2 h3 st
    subst h1; subst h2; subst h3
    exact Or.inl ⟨v, (T.setVm vm₁).calling g' mk (Value.ref b :: As).toArray, t, U', L, hT, X', hL, e1, e2, hq, st⟩
  · dsimp only [Pt.U, Pt.locs, Pt.cells, Pt.slots] at X' e1 e2 h1 h2 h3 st hcl
    subst h1; subst h2; subst h3
    exact Or.inr ⟨q, (T.setVm vm₁).calling g' mk (Value.ref b :: As).toArray, t, U', L, E, ce, hT, X', hL, e1, e2, hq, hce, hcv, vx_cls hW₁ hcl, st⟩
theorem vx_runSX {hh : List (Nat × Nat × Nat × Nat)} (S : CallFix p m c cc nL s args Ts own) (hM : vx_Met l y ws rm Pc Qc XC mc ms free) (cw : vx_CSW R s args own index y bytes maxL ret hh ws rm mc ms n) (hp : PreS s H Pc As)
    (hg : g.method = m) (hn : As.length = n) (hsize : g.locals.size = nL) (hstack : g.stack = As.reverse ++ rest) (hW : 2 * g.monitorRoom + (rest.map fun v => v.category).sum ≤ 8) (hdg : decode cc g.pc = .ok (.invokestatic index, 3)) (hf : cells + mc ≤ R.cells ∧ slots + ms ≤ R.slots) :
    vx_Run p l e R s m args below meth c H locs cells slots mc ms g rest (Qc As.toArray) XC free := by
  obtain ⟨⟨hrc, hrs, hfr, hlo, hws, hcw⟩, hcode, hini, hy, hlen, hl, hstt⟩ := cw
  have hK : vx_Back l R p e below s args y 3 8 (PreOf R mc ms Pc) (PostOf Qc mc ms free) (vx_Post XC mc ms free) := vx_backW (hh := hh) (bytes := bytes) (maxL := maxL) (ret := ret) hM hp.1 hrc hrs hfr hlo hws hcw (fun a' U hW => word_at hW (Or.inl (by first | rfl | simp [Cond.onTables, Cond.keeps, Cond.steady])) hini)
  obtain ⟨hx, hb, hml, ho, -⟩ := S
  intro T hT X
  rcases vx_callSX X hx (hh := hh) (bytes := bytes) (maxL := maxL) (ret := ret) ho hl hstt hini hcode hy hK hg (hsize.trans hml.symm) (argsL := As) (rest := rest) (fun sig h => hn.trans (hlen sig h)) hstack hW (by rw [hb]; exact hdg)
    (fun vm₁ hW₁ => ⟨hf.1, hf.2, hp.2 (T.setVm vm₁) hT hW₁⟩) with ⟨v, vm₁, ⟨U', l2, c2, s2⟩, hW₁, X', ⟨g', mk, t, L, e1, e2, hq, h1, hL, h2, h3⟩, st⟩ | ⟨q, vm₁, ⟨U', l2, c2, s2⟩, hW₁, X', ⟨g', mk, t, L, E, ce, e1, e2, hq, hce, hcv, hcl, h1, hL, h2, h3⟩, st⟩
  · dsimp only [Pt.U, Pt.locs, Pt.cells, Pt.slots] at X' e1 e2 h1 h2 h3 st
    subst h1; subst h2; subst h3
    exact Or.inl ⟨v, (T.setVm vm₁).calling g' mk As.toArray, t, U', L, hT, X', hL, e1, e2, hq, st⟩
  · dsimp only [Pt.U, Pt.locs, Pt.cells, Pt.slots] at X' e1 e2 h1 h2 h3 st hcl
    subst h1; subst h2; subst h3
    exact Or.inr ⟨q, (T.setVm vm₁).calling g' mk As.toArray, t, U', L, E, ce, hT, X', hL, e1, e2, hq, hce, hcv, vx_cls hW₁ hcl, st⟩
end
end VXH
theorem vx_ofWH {l : Launch} {y : MethodName} {ws ws' : List Cond} {rm : Room} {Pc : Array Value → State → Prop} {Qc : Array Value → State → Outcome → State → Prop} {XC : String → State → State → Prop} {mc ms : Nat} {free : Addr → Prop} {cc : ByteArray} {maxL : Nat} {ret : Option FieldType} {hh : List (Nat × Nat × Nat × Nat)}
    (hy : plainName y.cls = true) (hw : ws = Cond.codeWith y cc maxL ret hh :: ws')
    (body : ∀ p e s m args below meth c s₁, BodyLoose p l y (headSpec ws rm) cc maxL ret e s m args below meth c s₁ → c.maxLocals = maxL → Pc args s →
      W p l e (headSpec ws rm).room s m args below meth c s.heap [] 0 0 (vx_MQ below Qc XC args s mc ms free) (entryFrame m args maxL)) : vx_Met l y ws rm Pc Qc XC mc ms free := by
  refine MetFree.of_bodyS (code := cc) (maxLocals := maxL) (ret := ret) hy ?_ ?_
  · intro args s m h hn
    obtain ⟨m9, meth, c, hn9, h1, h2, h3, h4, -, h5, h6, -⟩ := Cond.codeWith_spec (atoms_spec (ws := ws) h _ (by rw [hw]; exact List.mem_cons_self))
    cases hn.symm.trans hn9
    exact ⟨meth, c, h1, h2, h3, h4, h5, h6⟩
  · intro p e s m args below meth c s₁ B hml hP _
    have hh0 : s₁.heap = s.heap := by rw [B.state]; rfl
    obtain ⟨t, a1, o, b1, b2, b3⟩ := body p e s m args below meth c s₁ B hml hP s₁ hh0 (Stand.of_body B)
    exact ⟨t, o, a1, b1, b2, b3⟩
/-! ===== END ===== -/
end
section
def RX0 : String := "DesignDesk$Best"
def TX0 : u_T := fun k => match k with
  | 0 => ("DesignDesk$Best", "known", "Z", false)
  | 1 => ("DesignDesk$Best", "same", "I", false)
  | 2 => ("DesignDesk$Best", "all", "I", false)
  | 3 => ("DesignDesk$Best", "turn", "I", false)
  | 4 => ("DesignDesk$Best", "dx", "I", false)
  | _ => ("DesignDesk$Best", "dy", "I", false)
def tyX0 : Nat → FieldType := fun k => match k with
  | 0 => .boolean
  | 1 => .int
  | 2 => .int
  | 3 => .int
  | 4 => .int
  | _ => .int
def RX1 : String := "DesignDesk$Book"
def TX1 : u_T := fun k => match k with
  | 0 => ("DesignDesk$Book", "designs", "[LDesignDesk$Design;", true)
  | 1 => ("DesignDesk$Book", "count", "I", false)
  | _ => ("DesignDesk$Book", "rule", "LDesignDesk$Rule;", false)
def tyX1 : Nat → FieldType := fun k => match k with
  | 0 => .array (.object "DesignDesk$Design")
  | 1 => .int
  | _ => .object "DesignDesk$Rule"
def RX2 : String := "DesignDesk$Design"
def TX2 : u_T := fun k => match k with
  | 0 => ("DesignDesk$Design", "day", "I", false)
  | 1 => ("DesignDesk$Design", "columns", "I", false)
  | 2 => ("DesignDesk$Design", "rows", "I", false)
  | 3 => ("DesignDesk$Design", "dark", "[I", true)
  | _ => ("DesignDesk$Design", "aside", "[I", true)
def tyX2 : Nat → FieldType := fun k => match k with
  | 0 => .int
  | 1 => .int
  | 2 => .int
  | 3 => .array .int
  | _ => .array .int
def RX3 : String := "DesignDesk$History"
def TX3 : u_T := fun k => match k with
  | 0 => ("DesignDesk$History", "past", "[LDesignDesk$Book;", true)
  | _ => ("DesignDesk$History", "count", "I", false)
def tyX3 : Nat → FieldType := fun k => match k with
  | 0 => .array (.object "DesignDesk$Book")
  | _ => .int
def RX4 : String := "DesignDesk$Overlays"
def TX4 : u_T := fun k => match k with
  | 0 => ("DesignDesk$Overlays", "found", "[LDesignDesk$Best;", true)
  | 1 => ("DesignDesk$Overlays", "fixed", "LDesignDesk$Design;", false)
  | 2 => ("DesignDesk$Overlays", "moved", "LDesignDesk$Design;", false)
  | 3 => ("DesignDesk$Overlays", "turned", "LDesignDesk$Design;", true)
  | 4 => ("DesignDesk$Overlays", "solid", "[I", true)
  | 5 => ("DesignDesk$Overlays", "dotted", "[I", true)
  | 6 => ("DesignDesk$Overlays", "darkOnes", "I", false)
  | 7 => ("DesignDesk$Overlays", "same", "I", false)
  | _ => ("DesignDesk$Overlays", "unlike", "I", false)
def tyX4 : Nat → FieldType := fun k => match k with
  | 0 => .array (.object "DesignDesk$Best")
  | 1 => .object "DesignDesk$Design"
  | 2 => .object "DesignDesk$Design"
  | 3 => .object "DesignDesk$Design"
  | 4 => .array .int
  | 5 => .array .int
  | 6 => .int
  | 7 => .int
  | _ => .int
def RX5 : String := "DesignDesk$Rule"
def TX5 : u_T := fun k => match k with
  | _ => ("DesignDesk$Rule", "codes", "[I", true)
def tyX5 : Nat → FieldType := fun k => match k with
  | _ => .array .int
def RX6 : String := "DesignDesk$RuleReader"
def TX6 : u_T := fun k => match k with
  | 0 => ("DesignDesk$RuleReader", "scan", "LDesignDesk$Scan;", true)
  | 1 => ("DesignDesk$RuleReader", "codes", "[I", true)
  | 2 => ("DesignDesk$RuleReader", "count", "I", false)
  | 3 => ("DesignDesk$RuleReader", "waiting", "[I", true)
  | 4 => ("DesignDesk$RuleReader", "piled", "I", false)
  | 5 => ("DesignDesk$RuleReader", "nots", "I", false)
  | 6 => ("DesignDesk$RuleReader", "brackets", "I", false)
  | 7 => ("DesignDesk$RuleReader", "atStart", "Z", false)
  | _ => ("DesignDesk$RuleReader", "compared", "Z", false)
def tyX6 : Nat → FieldType := fun k => match k with
  | 0 => .object "DesignDesk$Scan"
  | 1 => .array .int
  | 2 => .int
  | 3 => .array .int
  | 4 => .int
  | 5 => .int
  | 6 => .int
  | 7 => .boolean
  | _ => .boolean
def RX7 : String := "DesignDesk$Scan"
def TX7 : u_T := fun k => match k with
  | 0 => ("DesignDesk$Scan", "bytes", "[I", false)
  | 1 => ("DesignDesk$Scan", "length", "I", false)
  | 2 => ("DesignDesk$Scan", "at", "I", false)
  | 3 => ("DesignDesk$Scan", "kind", "I", false)
  | _ => ("DesignDesk$Scan", "place", "I", false)
def tyX7 : Nat → FieldType := fun k => match k with
  | 0 => .array .int
  | 1 => .int
  | 2 => .int
  | 3 => .int
  | _ => .int
def RX8 : String := "DesignDesk$Shapes"
def TX8 : u_T := fun k => match k with
  | 0 => ("DesignDesk$Shapes", "turned", "LDesignDesk$Design;", true)
  | 1 => ("DesignDesk$Shapes", "seen", "[I", true)
  | 2 => ("DesignDesk$Shapes", "line", "[I", true)
  | _ => ("DesignDesk$Shapes", "lined", "I", false)
def tyX8 : Nat → FieldType := fun k => match k with
  | 0 => .object "DesignDesk$Design"
  | 1 => .array .int
  | 2 => .array .int
  | _ => .int
def RX9 : String := "DesignDesk$TextReader"
def TX9 : u_T := fun k => match k with
  | 0 => ("DesignDesk$TextReader", "scan", "LDesignDesk$Scan;", true)
  | _ => ("DesignDesk$TextReader", "rules", "LDesignDesk$RuleReader;", true)
def tyX9 : Nat → FieldType := fun k => match k with
  | 0 => .object "DesignDesk$Scan"
  | _ => .object "DesignDesk$RuleReader"
def RX10 : String := "DesignDesk"
def TX10 : u_T := fun k => match k with
  | 0 => ("DesignDesk", "tape", "[I", true)
  | 1 => ("DesignDesk", "tapeBytes", "I", false)
  | 2 => ("DesignDesk", "faultPlace", "I", false)
  | 3 => ("DesignDesk", "refusedMissing", "I", false)
  | 4 => ("DesignDesk", "refusedNumber", "I", false)
  | 5 => ("DesignDesk", "book", "LDesignDesk$Book;", false)
  | 6 => ("DesignDesk", "draft", "LDesignDesk$Book;", false)
  | 7 => ("DesignDesk", "history", "LDesignDesk$History;", true)
  | 8 => ("DesignDesk", "reader", "LDesignDesk$TextReader;", true)
  | 9 => ("DesignDesk", "overlays", "LDesignDesk$Overlays;", true)
  | 10 => ("DesignDesk", "shapes", "LDesignDesk$Shapes;", true)
  | 11 => ("DesignDesk", "facts", "[I", true)
  | 12 => ("DesignDesk", "ruleStack", "[J", true)
  | _ => ("DesignDesk", "group", "[I", true)
def tyX10 : Nat → FieldType := fun k => match k with
  | 0 => .array .int
  | 1 => .int
  | 2 => .int
  | 3 => .int
  | 4 => .int
  | 5 => .object "DesignDesk$Book"
  | 6 => .object "DesignDesk$Book"
  | 7 => .object "DesignDesk$History"
  | 8 => .object "DesignDesk$TextReader"
  | 9 => .object "DesignDesk$Overlays"
  | 10 => .object "DesignDesk$Shapes"
  | 11 => .array .int
  | 12 => .array .long
  | _ => .array .int
def RX11 : String := "DesignDeskModel"
def TX11 : u_T := fun k => match k with
  | 0 => ("DesignDeskModel", "thrown", "I", false)
  | 1 => ("DesignDeskModel", "refused", "[I", true)
  | 2 => ("DesignDeskModel", "tape", "I", false)
  | 3 => ("DesignDeskModel", "size", "I", false)
  | 4 => ("DesignDeskModel", "at", "I", false)
  | 5 => ("DesignDeskModel", "place", "I", false)
  | 6 => ("DesignDeskModel", "fault", "I", false)
  | 7 => ("DesignDeskModel", "faultAt", "I", false)
  | 8 => ("DesignDeskModel", "fed", "[I", true)
  | 9 => ("DesignDeskModel", "now", "[I", true)
  | 10 => ("DesignDeskModel", "told", "[I", true)
  | 11 => ("DesignDeskModel", "past", "[[I", true)
  | 12 => ("DesignDeskModel", "backs", "I", false)
  | 13 => ("DesignDeskModel", "codes", "I", false)
  | 14 => ("DesignDeskModel", "open", "I", false)
  | 15 => ("DesignDeskModel", "turnedWide", "I", false)
  | 16 => ("DesignDeskModel", "turnedHigh", "I", false)
  | 17 => ("DesignDeskModel", "turned", "[I", true)
  | 18 => ("DesignDeskModel", "darkA", "[J", true)
  | 19 => ("DesignDeskModel", "deadA", "[J", true)
  | 20 => ("DesignDeskModel", "darkB", "[J", true)
  | 21 => ("DesignDeskModel", "deadB", "[J", true)
  | 22 => ("DesignDeskModel", "same", "I", false)
  | 23 => ("DesignDeskModel", "unlike", "I", false)
  | 24 => ("DesignDeskModel", "bestSame", "I", false)
  | 25 => ("DesignDeskModel", "bestOf", "I", false)
  | 26 => ("DesignDeskModel", "bestTurn", "I", false)
  | 27 => ("DesignDeskModel", "bestX", "I", false)
  | 28 => ("DesignDeskModel", "bestY", "I", false)
  | 29 => ("DesignDeskModel", "priorSame", "I", false)
  | 30 => ("DesignDeskModel", "priorOf", "I", false)
  | 31 => ("DesignDeskModel", "priorBy", "I", false)
  | 32 => ("DesignDeskModel", "stack", "[J", true)
  | 33 => ("DesignDeskModel", "asked", "[J", true)
  | 34 => ("DesignDeskModel", "been", "[Z", true)
  | 35 => ("DesignDeskModel", "queue", "[I", true)
  | _ => ("DesignDeskModel", "joined", "[I", true)
def tyX11 : Nat → FieldType := fun k => match k with
  | 0 => .int
  | 1 => .array .int
  | 2 => .int
  | 3 => .int
  | 4 => .int
  | 5 => .int
  | 6 => .int
  | 7 => .int
  | 8 => .array .int
  | 9 => .array .int
  | 10 => .array .int
  | 11 => .array (.array .int)
  | 12 => .int
  | 13 => .int
  | 14 => .int
  | 15 => .int
  | 16 => .int
  | 17 => .array .int
  | 18 => .array .long
  | 19 => .array .long
  | 20 => .array .long
  | 21 => .array .long
  | 22 => .int
  | 23 => .int
  | 24 => .int
  | 25 => .int
  | 26 => .int
  | 27 => .int
  | 28 => .int
  | 29 => .int
  | 30 => .int
  | 31 => .int
  | 32 => .array .long
  | 33 => .array .long
  | 34 => .array .boolean
  | 35 => .array .int
  | _ => .array .int
abbrev vwCl : List vw_C := [(RX0, TX0, 6), (RX1, TX1, 3), (RX2, TX2, 5), (RX3, TX3, 2), (RX4, TX4, 9), (RX5, TX5, 1), (RX6, TX6, 9), (RX7, TX7, 5), (RX8, TX8, 4), (RX9, TX9, 2), (RX10, TX10, 14), (RX11, TX11, 37)]
def clTy (k : Nat) : Nat → FieldType := match k with
  | 0 => tyX0
  | 1 => tyX1
  | 2 => tyX2
  | 3 => tyX3
  | 4 => tyX4
  | 5 => tyX5
  | 6 => tyX6
  | 7 => tyX7
  | 8 => tyX8
  | 9 => tyX9
  | 10 => tyX10
  | _ => tyX11
def lw_good : List Cond := lw_tbl.filter goodWord
theorem good_at {w : Cond} (i : Nat) (h : lw_tbl[i]? = some w) (g : goodWord w = true) : w ∈ lw_good := List.mem_filter.mpr ⟨List.mem_of_getElem? h, g⟩
theorem good_mem {ws : List Cond} (h : ws.all (fun w => decide (w ∈ lw_tbl) && goodWord w) = true) : ∀ w ∈ ws, w ∈ lw_good := fun w hw => by
  have h1 := List.all_eq_true.mp h w hw
  simp only [Bool.and_eq_true, decide_eq_true_eq] at h1
  exact List.mem_filter.mpr h1
/-- what is known of each class: its words, the types and names of its fields -/
def clOk (k : Nat) (q : vw_C) : Prop := (∀ w ∈ u_ws q.1 q.2.1 q.2.2, w ∈ lw_good) ∧ (∀ j, j < q.2.2 → parseFieldDescriptor (q.2.1 j).2.2.1 = some (clTy k j)) ∧ (∀ a, a < q.2.2 → ∀ b, b < q.2.2 → a ≠ b → (q.2.1 a).2.1 ≠ (q.2.1 b).2.1) ∧ (∀ j, j < q.2.2 → (q.2.1 j).1 = q.1) ∧ Cond.instantiable q.1 q.2.2 ∈ lw_good ∧ Cond.initialized q.1 ∈ lw_good
set_option maxRecDepth 100000 in
theorem clOk0 : clOk 0 (RX0, TX0, 6) := ⟨good_mem (by decide +kernel), by decide +kernel, by decide +kernel, by decide +kernel, good_mem (ws := [_]) (by decide +kernel) _ List.mem_cons_self, good_mem (ws := [_]) (by decide +kernel) _ List.mem_cons_self⟩
set_option maxRecDepth 100000 in
theorem clOk1 : clOk 1 (RX1, TX1, 3) := ⟨good_mem (by decide +kernel), by decide +kernel, by decide +kernel, by decide +kernel, good_mem (ws := [_]) (by decide +kernel) _ List.mem_cons_self, good_mem (ws := [_]) (by decide +kernel) _ List.mem_cons_self⟩
set_option maxRecDepth 100000 in
theorem clOk2 : clOk 2 (RX2, TX2, 5) := ⟨good_mem (by decide +kernel), by decide +kernel, by decide +kernel, by decide +kernel, good_mem (ws := [_]) (by decide +kernel) _ List.mem_cons_self, good_mem (ws := [_]) (by decide +kernel) _ List.mem_cons_self⟩
set_option maxRecDepth 100000 in
theorem clOk3 : clOk 3 (RX3, TX3, 2) := ⟨good_mem (by decide +kernel), by decide +kernel, by decide +kernel, by decide +kernel, good_mem (ws := [_]) (by decide +kernel) _ List.mem_cons_self, good_mem (ws := [_]) (by decide +kernel) _ List.mem_cons_self⟩
set_option maxRecDepth 100000 in
theorem clOk4 : clOk 4 (RX4, TX4, 9) := ⟨good_mem (by decide +kernel), by decide +kernel, by decide +kernel, by decide +kernel, good_mem (ws := [_]) (by decide +kernel) _ List.mem_cons_self, good_mem (ws := [_]) (by decide +kernel) _ List.mem_cons_self⟩
set_option maxRecDepth 100000 in
theorem clOk5 : clOk 5 (RX5, TX5, 1) := ⟨good_mem (by decide +kernel), by decide +kernel, by decide +kernel, by decide +kernel, good_mem (ws := [_]) (by decide +kernel) _ List.mem_cons_self, good_mem (ws := [_]) (by decide +kernel) _ List.mem_cons_self⟩
set_option maxRecDepth 100000 in
theorem clOk6 : clOk 6 (RX6, TX6, 9) := ⟨good_mem (by decide +kernel), by decide +kernel, by decide +kernel, by decide +kernel, good_mem (ws := [_]) (by decide +kernel) _ List.mem_cons_self, good_mem (ws := [_]) (by decide +kernel) _ List.mem_cons_self⟩
set_option maxRecDepth 100000 in
theorem clOk7 : clOk 7 (RX7, TX7, 5) := ⟨good_mem (by decide +kernel), by decide +kernel, by decide +kernel, by decide +kernel, good_mem (ws := [_]) (by decide +kernel) _ List.mem_cons_self, good_mem (ws := [_]) (by decide +kernel) _ List.mem_cons_self⟩
set_option maxRecDepth 100000 in
theorem clOk8 : clOk 8 (RX8, TX8, 4) := ⟨good_mem (by decide +kernel), by decide +kernel, by decide +kernel, by decide +kernel, good_mem (ws := [_]) (by decide +kernel) _ List.mem_cons_self, good_mem (ws := [_]) (by decide +kernel) _ List.mem_cons_self⟩
set_option maxRecDepth 100000 in
theorem clOk9 : clOk 9 (RX9, TX9, 2) := ⟨good_mem (by decide +kernel), by decide +kernel, by decide +kernel, by decide +kernel, good_mem (ws := [_]) (by decide +kernel) _ List.mem_cons_self, good_mem (ws := [_]) (by decide +kernel) _ List.mem_cons_self⟩
set_option maxRecDepth 100000 in
theorem clOk10 : clOk 10 (RX10, TX10, 14) := ⟨good_mem (by decide +kernel), by decide +kernel, by decide +kernel, by decide +kernel, good_mem (ws := [_]) (by decide +kernel) _ List.mem_cons_self, good_mem (ws := [_]) (by decide +kernel) _ List.mem_cons_self⟩
set_option maxRecDepth 100000 in
theorem clOk11 : clOk 11 (RX11, TX11, 37) := ⟨good_mem (by decide +kernel), by decide +kernel, by decide +kernel, by decide +kernel, good_mem (ws := [_]) (by decide +kernel) _ List.mem_cons_self, good_mem (ws := [_]) (by decide +kernel) _ List.mem_cons_self⟩
theorem clOk_all {k : Nat} {q : vw_C} (h : vwCl[k]? = some q) : clOk k q := by
  match k, h with
  | 0, h => cases h; exact clOk0
  | 1, h => cases h; exact clOk1
  | 2, h => cases h; exact clOk2
  | 3, h => cases h; exact clOk3
  | 4, h => cases h; exact clOk4
  | 5, h => cases h; exact clOk5
  | 6, h => cases h; exact clOk6
  | 7, h => cases h; exact clOk7
  | 8, h => cases h; exact clOk8
  | 9, h => cases h; exact clOk9
  | 10, h => cases h; exact clOk10
  | 11, h => cases h; exact clOk11
  | k + 12, h => simp [vwCl] at h
end
section
/-! ===== values, memory: whole numbers stand for their rest modulo 2^32, 2^64; addresses are relative; 0 is null ===== -/
abbrev AV : Type := Int ⊕ (Int ⊕ Nat)
abbrev vI (x : Int) : AV := .inl x
abbrev vL (x : Int) : AV := .inr (.inl x)
abbrev vR (a : Nat) : AV := .inr (.inr a)
abbrev Ls : Type := List (Option AV)
abbrev Mem : Type := Nat × Nat × (Nat → Nat) × (Nat → Nat) × (Nat → Nat → Int) × (Nat → Nat → Nat) × (Nat → Nat → Int) × (Nat → Nat → Int) × (Nat → Nat → Nat)
/-- how many cells were made, how many slots; the kind and the length of each cell; fields (of ints, of references), rows (of ints, longs, references) -/
def mN (m : Mem) : Nat := m.1
def mZ (m : Mem) : Nat := m.2.1
def mK (m : Mem) : Nat → Nat := m.2.2.1
def mLen (m : Mem) : Nat → Nat := m.2.2.2.1
def mFI (m : Mem) : Nat → Nat → Int := m.2.2.2.2.1
def mFR (m : Mem) : Nat → Nat → Nat := m.2.2.2.2.2.1
def mAI (m : Mem) : Nat → Nat → Int := m.2.2.2.2.2.2.1
def mAL (m : Mem) : Nat → Nat → Int := m.2.2.2.2.2.2.2.1
def mAR (m : Mem) : Nat → Nat → Nat := m.2.2.2.2.2.2.2.2
def sFI (m : Mem) (f a : Nat) (v : Int) : Mem := (mN m, mZ m, mK m, mLen m, fun f' a' => if f' = f ∧ a' = a then v else mFI m f' a', mFR m, mAI m, mAL m, mAR m)
def sFR (m : Mem) (f a : Nat) (v : Nat) : Mem := (mN m, mZ m, mK m, mLen m, mFI m, fun f' a' => if f' = f ∧ a' = a then v else mFR m f' a', mAI m, mAL m, mAR m)
def sAI (m : Mem) (a : Nat) (r : Nat → Int) : Mem := (mN m, mZ m, mK m, mLen m, mFI m, mFR m, fun a' => if a' = a then r else mAI m a', mAL m, mAR m)
def sAL (m : Mem) (a : Nat) (r : Nat → Int) : Mem := (mN m, mZ m, mK m, mLen m, mFI m, mFR m, mAI m, fun a' => if a' = a then r else mAL m a', mAR m)
def sAR (m : Mem) (a : Nat) (r : Nat → Nat) : Mem := (mN m, mZ m, mK m, mLen m, mFI m, mFR m, mAI m, mAL m, fun a' => if a' = a then r else mAR m a')
/-- one cell more: of kind k, with len elements, sz slots; all is 0 there -/
def alloc (m : Mem) (k len sz : Nat) : Mem :=
  (mN m + 1, mZ m + sz, (fun a => if a = 100 + mN m then k else mK m a), (fun a => if a = 100 + mN m then len else mLen m a), (fun f a => if a = 100 + mN m then 0 else mFI m f a), (fun f a => if a = 100 + mN m then 0 else mFR m f a),
   (fun a => if a = 100 + mN m then fun _ => 0 else mAI m a), (fun a => if a = 100 + mN m then fun _ => 0 else mAL m a), (fun a => if a = 100 + mN m then fun _ => 0 else mAR m a))
def allocs (m : Mem) (k len sz : Nat) : Nat → Mem
  | 0 => m
  | n + 1 => alloc (allocs m k len sz n) k len sz
def up1 {α : Type} (f : Nat → α) (k : Nat) (x : α) : Nat → α := fun j => if j = k then x else f j
def cpy1 (f g : Nat → Int) (sp dp n : Nat) : Nat → Int := fun k => if dp ≤ k ∧ k < dp + n then f (sp + (k - dp)) else g k
/-! ===== the numbers of the machine ===== -/
def w32 (x : Int) : Int := (Int32.ofInt x).toInt
def w64 (x : Int) : Int := (Int64.ofInt x).toInt
def iAnd (x y : Int) : Int := (Int32.ofInt x &&& Int32.ofInt y).toInt
def iOr (x y : Int) : Int := (Int32.ofInt x ||| Int32.ofInt y).toInt
def iXor (x y : Int) : Int := (Int32.ofInt x ^^^ Int32.ofInt y).toInt
def iShl (x y : Int) : Int := (Int32.ofInt x <<< (Int32.ofInt y &&& 31)).toInt
def iShr (x y : Int) : Int := (Int32.ofInt x >>> (Int32.ofInt y &&& 31)).toInt
def iUshr (x y : Int) : Int := ((Int32.ofInt x).toUInt32 >>> ((Int32.ofInt y).toUInt32 &&& Int32.toUInt32 31)).toInt32.toInt
def iDiv (x y : Int) : Int := (Int32.ofInt x / Int32.ofInt y).toInt
def iRem (x y : Int) : Int := (Int32.ofInt x - Int32.ofInt x / Int32.ofInt y * Int32.ofInt y).toInt
def i2cF (x : Int) : Int := ((Int32.ofInt x).toUInt32 % 65536).toInt32.toInt
def lAnd (x y : Int) : Int := (Int64.ofInt x &&& Int64.ofInt y).toInt
def lOr (x y : Int) : Int := (Int64.ofInt x ||| Int64.ofInt y).toInt
def lXor (x y : Int) : Int := (Int64.ofInt x ^^^ Int64.ofInt y).toInt
def lShl (x y : Int) : Int := (Int64.ofInt x <<< ((Int32.ofInt y).toInt64 &&& 63)).toInt
def lShr (x y : Int) : Int := (Int64.ofInt x >>> ((Int32.ofInt y).toInt64 &&& 63)).toInt
def lUshr (x y : Int) : Int := ((Int64.ofInt x).toUInt64 >>> ((Int32.ofInt y).toInt64.toUInt64 &&& Int64.toUInt64 63)).toInt64.toInt
def lDiv (x y : Int) : Int := (Int64.ofInt x / Int64.ofInt y).toInt
def l2iF (x : Int) : Int := (Int64.ofInt x).toInt32.toInt
def lCmp (x y : Int) : Int := (lg_cmp (Int64.ofInt x) (Int64.ofInt y)).toInt
/-! ===== locals ===== -/
def stL (ls : Ls) (i : Nat) (v : AV) : Ls := match i with
  | 0 => ls.set 0 (some v)
  | i + 1 => match ls[i]? with
    | some (some (.inr (.inl _))) => (ls.set i none).set (i + 1) (some v)
    | _ => ls.set (i + 1) (some v)
def stL2 (ls : Ls) (i : Nat) (x : Int) : Ls := (stL ls i (vL x)).set (i + 1) none
/-! ===== what an instruction asks: its entry is (instruction, the place behind it, numbers, a constant) ===== -/
abbrev Ent : Type := Instr × Nat × List Nat × Int
abbrev Kn : Type := Nat → Ls → List AV → Mem → Prop
def n1 (e : Ent) : Nat := e.2.2.1.getD 0 0
def n2 (e : Ent) : Nat := e.2.2.1.getD 1 0
def n3 (e : Ent) : Nat := e.2.2.1.getD 2 0
def qI (st : List AV) (k : Int → List AV → Prop) : Prop := match st with
  | .inl x :: r => k x r
  | _ => False
def qII (st : List AV) (k : Int → Int → List AV → Prop) : Prop := match st with
  | .inl y :: .inl x :: r => k x y r
  | _ => False
def qL (st : List AV) (k : Int → List AV → Prop) : Prop := match st with
  | .inr (.inl x) :: r => k x r
  | _ => False
def qLL (st : List AV) (k : Int → Int → List AV → Prop) : Prop := match st with
  | .inr (.inl y) :: .inr (.inl x) :: r => k x y r
  | _ => False
def qLI (st : List AV) (k : Int → Int → List AV → Prop) : Prop := match st with
  | .inl y :: .inr (.inl x) :: r => k x y r
  | _ => False
def qR (st : List AV) (k : Nat → List AV → Prop) : Prop := match st with
  | .inr (.inr a) :: r => k a r
  | _ => False
def qRI (st : List AV) (k : Nat → Int → List AV → Prop) : Prop := match st with
  | .inl i :: .inr (.inr a) :: r => k a i r
  | _ => False
def lkI (ls : Ls) (i : Nat) (k : Int → Prop) : Prop := match ls[i]? with
  | some (some (.inl x)) => k x
  | _ => False
def lkL (ls : Ls) (i : Nat) (k : Int → Prop) : Prop := match ls[i]? with
  | some (some (.inr (.inl x))) => k x
  | _ => False
def lkR (ls : Ls) (i : Nat) (k : Nat → Prop) : Prop := match ls[i]? with
  | some (some (.inr (.inr x))) => k x
  | _ => False
/-- an index inside a row -/
def inR (i : Int) (n : Nat) : Prop := 0 ≤ w32 i ∧ w32 i < (n : Int)
def ix (i : Int) : Nat := (w32 i).toNat
def cmpI (o : Jvm.ClassFile.Cond) (x y : Int) : Prop := match o with
  | .eq => w32 x = w32 y
  | .ne => ¬ w32 x = w32 y
  | .lt => w32 x < w32 y
  | .ge => w32 y ≤ w32 x
  | .gt => w32 y < w32 x
  | .le => w32 x ≤ w32 y
def tsw (lo hi : Int) (ts : List Nat) (x : Int) : Nat := if x < lo ∨ hi < x then ts.getD 0 0 else ts.getD ((x - lo).toNat + 1) 0
def lsw : List Nat → Nat → Int → Nat
  | k :: t :: r, d, x => if x = (k : Int) then t else lsw r d x
  | _, d, _ => d
/-- the array kinds: 13 int, 14 long, 15 boolean, 16 to 18 rows of Best, Book, Design, 19 rows of int rows, 21 bytes of a text -/
def isArr (k : Nat) : Prop := k = 13 ∨ k = 14 ∨ k = 15 ∨ k = 16 ∨ k = 17 ∨ k = 18 ∨ k = 19 ∨ k = 21
def catS (r : List AV) : Nat := (r.map (fun v => match v with | .inr (.inl _) => 2 | _ => 1)).sum
def wp1 (e : Ent) (ls : Ls) (st : List AV) (m : Mem) (K : Kn) (Rt : Option AV → Mem → Prop) : Prop := match e.1 with
  | .iconst i => K e.2.1 ls (vI i :: st) m
  | .bipush i => K e.2.1 ls (vI i :: st) m
  | .sipush i => K e.2.1 ls (vI i :: st) m
  | .lconst i => K e.2.1 ls (vL (i.val : Int) :: st) m
  | .aconst_null => K e.2.1 ls (vR 0 :: st) m
  | .ldc _ => K e.2.1 ls ((bif Nat.beq (n1 e) 0 then vI e.2.2.2 else vR (n2 e)) :: st) m
  | .ldc_w _ => K e.2.1 ls (vI e.2.2.2 :: st) m
  | .ldc2_w _ => K e.2.1 ls (vL e.2.2.2 :: st) m
  | .iload i => lkI ls i fun x => K e.2.1 ls (vI x :: st) m
  | .iload_n i => lkI ls i.val fun x => K e.2.1 ls (vI x :: st) m
  | .lload i => lkL ls i fun x => K e.2.1 ls (vL x :: st) m
  | .lload_n i => lkL ls i.val fun x => K e.2.1 ls (vL x :: st) m
  | .aload i => lkR ls i fun x => K e.2.1 ls (vR x :: st) m
  | .aload_n i => lkR ls i.val fun x => K e.2.1 ls (vR x :: st) m
  | .istore i => qI st fun x r => K e.2.1 (stL ls i (vI x)) r m
  | .istore_n i => qI st fun x r => K e.2.1 (stL ls i.val (vI x)) r m
  | .lstore i => qL st fun x r => K e.2.1 (stL2 ls i x) r m
  | .lstore_n i => qL st fun x r => K e.2.1 (stL2 ls i.val x) r m
  | .astore i => qR st fun x r => K e.2.1 (stL ls i (vR x)) r m
  | .astore_n i => qR st fun x r => K e.2.1 (stL ls i.val (vR x)) r m
  | .iinc i n => lkI ls i fun x => K e.2.1 (stL ls i (vI (x + n))) st m
  | .iadd => qII st fun x y r => K e.2.1 ls (vI (x + y) :: r) m
  | .isub => qII st fun x y r => K e.2.1 ls (vI (x - y) :: r) m
  | .imul => qII st fun x y r => K e.2.1 ls (vI (x * y) :: r) m
  | .idiv => qII st fun x y r => w32 y ≠ 0 ∧ K e.2.1 ls (vI (iDiv x y) :: r) m
  | .irem => qII st fun x y r => w32 y ≠ 0 ∧ K e.2.1 ls (vI (iRem x y) :: r) m
  | .ineg => qI st fun x r => K e.2.1 ls (vI (-x) :: r) m
  | .iand => qII st fun x y r => K e.2.1 ls (vI (iAnd x y) :: r) m
  | .ior => qII st fun x y r => K e.2.1 ls (vI (iOr x y) :: r) m
  | .ixor => qII st fun x y r => K e.2.1 ls (vI (iXor x y) :: r) m
  | .ishl => qII st fun x y r => K e.2.1 ls (vI (iShl x y) :: r) m
  | .ishr => qII st fun x y r => K e.2.1 ls (vI (iShr x y) :: r) m
  | .iushr => qII st fun x y r => K e.2.1 ls (vI (iUshr x y) :: r) m
  | .i2l => qI st fun x r => K e.2.1 ls (vL (w32 x) :: r) m
  | .i2c => qI st fun x r => K e.2.1 ls (vI (i2cF x) :: r) m
  | .l2i => qL st fun x r => K e.2.1 ls (vI (l2iF x) :: r) m
  | .ladd => qLL st fun x y r => K e.2.1 ls (vL (x + y) :: r) m
  | .lsub => qLL st fun x y r => K e.2.1 ls (vL (x - y) :: r) m
  | .lmul => qLL st fun x y r => K e.2.1 ls (vL (x * y) :: r) m
  | .ldiv => qLL st fun x y r => w64 y ≠ 0 ∧ K e.2.1 ls (vL (lDiv x y) :: r) m
  | .land => qLL st fun x y r => K e.2.1 ls (vL (lAnd x y) :: r) m
  | .lor => qLL st fun x y r => K e.2.1 ls (vL (lOr x y) :: r) m
  | .lxor => qLL st fun x y r => K e.2.1 ls (vL (lXor x y) :: r) m
  | .lshl => qLI st fun x y r => K e.2.1 ls (vL (lShl x y) :: r) m
  | .lshr => qLI st fun x y r => K e.2.1 ls (vL (lShr x y) :: r) m
  | .lushr => qLI st fun x y r => K e.2.1 ls (vL (lUshr x y) :: r) m
  | .lcmp => qLL st fun x y r => K e.2.1 ls (vI (lCmp x y) :: r) m
  | .dup => match st with
    | .inl x :: r => K e.2.1 ls (vI x :: vI x :: r) m
    | .inr (.inr a) :: r => K e.2.1 ls (vR a :: vR a :: r) m
    | _ => False
  | .dup2 => match st with
    | .inl i :: .inr (.inr a) :: r => K e.2.1 ls (vI i :: vR a :: vI i :: vR a :: r) m
    | _ => False
  | .pop => match st with
    | .inl _ :: r => K e.2.1 ls r m
    | .inr (.inr _) :: r => K e.2.1 ls r m
    | _ => False
  | .goto _ => K (n1 e) ls st m
  | .ifCond o _ => qI st fun x r => (cmpI o x 0 → K (n1 e) ls r m) ∧ (¬ cmpI o x 0 → K e.2.1 ls r m)
  | .if_icmp o _ => qII st fun x y r => (cmpI o x y → K (n1 e) ls r m) ∧ (¬ cmpI o x y → K e.2.1 ls r m)
  | .ifnull _ => qR st fun a r => a ≠ 99 ∧ (a = 0 → K (n1 e) ls r m) ∧ (a ≠ 0 → K e.2.1 ls r m)
  | .ifnonnull _ => qR st fun a r => a ≠ 99 ∧ (a ≠ 0 → K (n1 e) ls r m) ∧ (a = 0 → K e.2.1 ls r m)
  | .tableswitch _ lo hi _ => qI st fun x r => K (tsw lo hi e.2.2.1 (w32 x)) ls r m
  | .lookupswitch _ _ => qI st fun x r => K (lsw (e.2.2.1.drop 1) (n1 e) (w32 x)) ls r m
  | .getfield _ => qR st fun a r => mK m a = n2 e ∧ K e.2.1 ls ((bif Nat.beq (n3 e) 2 then vR (mFR m (n1 e) a) else vI (mFI m (n1 e) a)) :: r) m
  | .putfield _ => match st with
    | .inl x :: .inr (.inr a) :: r => mK m a = n2 e ∧ (bif Nat.beq (n3 e) 1 then x = 0 ∨ x = 1 else True) ∧ n3 e < 2 ∧ K e.2.1 ls r (sFI m (n1 e) a x)
    | .inr (.inr v) :: .inr (.inr a) :: r => mK m a = n2 e ∧ n3 e = 2 ∧ K e.2.1 ls r (sFR m (n1 e) a v)
    | _ => False
  | .getstatic _ => K e.2.1 ls ((bif Nat.beq (n1 e) 0 then vI e.2.2.2 else vR 99) :: st) m
  | .arraylength => qR st fun a r => isArr (mK m a) ∧ K e.2.1 ls (vI (mLen m a : Int) :: r) m
  | .iaload => qRI st fun a i r => mK m a = 13 ∧ inR i (mLen m a) ∧ K e.2.1 ls (vI (mAI m a (ix i)) :: r) m
  | .baload => qRI st fun a i r => (mK m a = 15 ∨ mK m a = 21) ∧ inR i (mLen m a) ∧ K e.2.1 ls (vI (mAI m a (ix i)) :: r) m
  | .laload => qRI st fun a i r => mK m a = 14 ∧ inR i (mLen m a) ∧ K e.2.1 ls (vL (mAL m a (ix i)) :: r) m
  | .aaload => qRI st fun a i r => 16 ≤ mK m a ∧ mK m a ≤ 19 ∧ inR i (mLen m a) ∧ K e.2.1 ls (vR (mAR m a (ix i)) :: r) m
  | .iastore => match st with
    | .inl x :: .inl i :: .inr (.inr a) :: r => mK m a = 13 ∧ a ≠ 1 ∧ inR i (mLen m a) ∧ K e.2.1 ls r (sAI m a (up1 (mAI m a) (ix i) x))
    | _ => False
  | .bastore => match st with
    | .inl x :: .inl i :: .inr (.inr a) :: r => mK m a = 15 ∧ inR i (mLen m a) ∧ (x = 0 ∨ x = 1) ∧ K e.2.1 ls r (sAI m a (up1 (mAI m a) (ix i) x))
    | _ => False
  | .lastore => match st with
    | .inr (.inl x) :: .inl i :: .inr (.inr a) :: r => mK m a = 14 ∧ inR i (mLen m a) ∧ K e.2.1 ls r (sAL m a (up1 (mAL m a) (ix i) x))
    | _ => False
  | .aastore => match st with
    | .inr (.inr v) :: .inl i :: .inr (.inr a) :: r => 16 ≤ mK m a ∧ mK m a ≤ 18 ∧ mK m v = mK m a - 15 ∧ inR i (mLen m a) ∧ K e.2.1 ls r (sAR m a (up1 (mAR m a) (ix i) v))
    | _ => False
  | .new _ => n1 e ≤ 12 ∧ K e.2.1 ls (vR (100 + mN m) :: st) (alloc m (n1 e) 0 (n2 e))
  | .newarray _ => qI st fun x r => 0 ≤ w32 x ∧ w32 x ≤ 100000 ∧ K e.2.1 ls (vR (100 + mN m) :: r) (alloc m (n1 e) (ix x) (ix x))
  | .anewarray _ => qI st fun x r => 0 ≤ w32 x ∧ w32 x ≤ 100000 ∧ K e.2.1 ls (vR (100 + mN m) :: r) (alloc m (n1 e) (ix x) (ix x))
  | .multianewarray _ _ => qII st fun x y r => 0 ≤ w32 x ∧ w32 x ≤ 10000 ∧ 0 ≤ w32 y ∧ w32 y ≤ 10000 ∧
      K e.2.1 ls (vR (100 + mN m) :: r) (sAR (allocs (alloc m 19 (ix x) (ix x)) 13 (ix y) (ix y) (ix x)) (100 + mN m) (fun j => if j < ix x then 101 + mN m + j else 0))
  | .invokespecial _ => n1 e = 999 ∧ qR st fun a r => 100 ≤ a ∧ catS r ≤ 8 ∧ K e.2.1 ls r m
  | .invokestatic _ => n1 e = 998 ∧ match st with
    | .inl n :: .inl dp :: .inr (.inr b) :: .inl sp :: .inr (.inr a) :: r => mK m a = 13 ∧ mK m b = 13 ∧ 100 ≤ a ∧ 100 ≤ b ∧ a ≠ b ∧ catS r ≤ 8 ∧ 0 ≤ w32 sp ∧ 0 ≤ w32 dp ∧ 0 ≤ w32 n ∧ w32 sp + w32 n ≤ (mLen m a : Int) ∧ w32 dp + w32 n ≤ (mLen m b : Int) ∧
        K e.2.1 ls r (sAI m b (cpy1 (mAI m a) (mAI m b) (ix sp) (ix dp) (ix n)))
    | _ => False
  | .ireturn => qI st fun x r => r = [] ∧ (match n1 e with
    | 0 => Rt (some (vI x)) m
    | 1 => (x = 0 ∨ x = 1) ∧ Rt (some (vI x)) m
    | _ => (0 ≤ x ∧ x ≤ 127) ∧ Rt (some (vI x)) m)
  | .lreturn => qL st fun x r => r = [] ∧ Rt (some (vL x)) m
  | .areturn => qR st fun a r => r = [] ∧ Rt (some (vR a)) m
  | .return_ => st = [] ∧ Rt none m
  | _ => False
end
section
/-! ===== the methods: name, bytes, locals, answer, handlers; static, kind, parameters, places of words ===== -/
abbrev MT : Type := MethodName × ByteArray × Nat × Option FieldType × List (Nat × Nat × Nat × Nat) × List Nat
abbrev Best_init : Nat := 0
def mt_Best_init : MT := (⟨"DesignDesk$Best", "<init>", "()V"⟩, prog_2_method_1_code, 1, (Option.none : Option Jvm.ClassFile.FieldType), [], [0, 1, 0, 290, 88, 289, 0])
abbrev Best_begin : Nat := 1
def mt_Best_begin : MT := (⟨"DesignDesk$Best", "begin", "(II)V"⟩, prog_2_method_2_code, 3, (Option.none : Option Jvm.ClassFile.FieldType), [], [0, 1, 2, 295, 88, 293, 294])
abbrev Best_isWhole : Nat := 2
def mt_Best_isWhole : MT := (⟨"DesignDesk$Best", "isWhole", "()Z"⟩, prog_2_method_5_code, 1, (Option.some Jvm.ClassFile.FieldType.boolean), [], [0, 1, 0, 479, 88, 477, 478])
abbrev Best_isBelow : Nat := 3
def mt_Best_isBelow : MT := (⟨"DesignDesk$Best", "isBelow", "(II)Z"⟩, prog_2_method_3_code, 3, (Option.some Jvm.ClassFile.FieldType.boolean), [], [0, 1, 2, 527, 88, 525, 526])
abbrev Best_thousandths : Nat := 4
def mt_Best_thousandths : MT := (⟨"DesignDesk$Best", "thousandths", "()I"⟩, prog_2_method_9_code, 1, (Option.some Jvm.ClassFile.FieldType.int), [], [0, 1, 0, 536, 88, 534, 535])
abbrev Best_isAbove : Nat := 5
def mt_Best_isAbove : MT := (⟨"DesignDesk$Best", "isAbove", "(LDesignDesk$Best;)Z"⟩, prog_2_method_4_code, 2, (Option.some Jvm.ClassFile.FieldType.boolean), [], [0, 1, 1, 560, 88, 558, 559])
abbrev Best_above : Nat := 6
def mt_Best_above : MT := (⟨"DesignDesk$Best", "above", "()I"⟩, prog_2_method_6_code, 1, (Option.some Jvm.ClassFile.FieldType.int), [], [0, 1, 0, 1053, 88, 1051, 1052])
abbrev Best_lowered : Nat := 7
def mt_Best_lowered : MT := (⟨"DesignDesk$Best", "lowered", "(I)I"⟩, prog_2_method_8_code, 3, (Option.some Jvm.ClassFile.FieldType.int), [], [0, 1, 1, 1057, 88, 1056, 35])
abbrev Best_greatestCommon : Nat := 8
def mt_Best_greatestCommon : MT := (⟨"DesignDesk$Best", "greatestCommon", "(II)I"⟩, prog_2_method_10_code, 6, (Option.some Jvm.ClassFile.FieldType.int), [], [1, 0, 2, 1060, 88, 1059, 0])
abbrev Best_below : Nat := 9
def mt_Best_below : MT := (⟨"DesignDesk$Best", "below", "()I"⟩, prog_2_method_7_code, 1, (Option.some Jvm.ClassFile.FieldType.int), [], [0, 1, 0, 1064, 88, 1062, 1063])
abbrev Book_init : Nat := 10
def mt_Book_init : MT := (⟨"DesignDesk$Book", "<init>", "()V"⟩, prog_3_method_1_code, 2, (Option.none : Option Jvm.ClassFile.FieldType), [], [0, 2, 0, 117, 80, 116, 0])
abbrev Book_copyFrom : Nat := 11
def mt_Book_copyFrom : MT := (⟨"DesignDesk$Book", "copyFrom", "(LDesignDesk$Book;)V"⟩, prog_3_method_2_code, 3, (Option.none : Option Jvm.ClassFile.FieldType), [], [0, 2, 1, 895, 80, 893, 894])
abbrev Book_remove : Nat := 12
def mt_Book_remove : MT := (⟨"DesignDesk$Book", "remove", "(I)V"⟩, prog_3_method_3_code, 4, (Option.none : Option Jvm.ClassFile.FieldType), [], [0, 2, 1, 957, 80, 955, 956])
abbrev Des_init : Nat := 13
def mt_Des_init : MT := (⟨"DesignDesk$Design", "<init>", "()V"⟩, prog_4_method_1_code, 1, (Option.none : Option Jvm.ClassFile.FieldType), [], [0, 3, 0, 124, 81, 123, 0])
abbrev Des_copyTurned : Nat := 14
def mt_Des_copyTurned : MT := (⟨"DesignDesk$Design", "copyTurned", "(LDesignDesk$Design;I)V"⟩, prog_4_method_9_code, 9, (Option.none : Option Jvm.ClassFile.FieldType), [], [0, 3, 2, 487, 81, 485, 486])
abbrev Des_resize : Nat := 15
def mt_Des_resize : MT := (⟨"DesignDesk$Design", "resize", "(II)V"⟩, prog_4_method_3_code, 3, (Option.none : Option Jvm.ClassFile.FieldType), [], [0, 3, 2, 491, 81, 489, 490])
abbrev Des_columnBehind : Nat := 16
def mt_Des_columnBehind : MT := (⟨"DesignDesk$Design", "columnBehind", "(III)I"⟩, prog_4_method_10_code, 4, (Option.some Jvm.ClassFile.FieldType.int), [], [0, 3, 3, 498, 81, 497, 4])
abbrev Des_rowBehind : Nat := 17
def mt_Des_rowBehind : MT := (⟨"DesignDesk$Design", "rowBehind", "(III)I"⟩, prog_4_method_11_code, 4, (Option.some Jvm.ClassFile.FieldType.int), [], [0, 3, 3, 502, 81, 501, 5])
abbrev Des_sortAt : Nat := 18
def mt_Des_sortAt : MT := (⟨"DesignDesk$Design", "sortAt", "(II)I"⟩, prog_4_method_7_code, 3, (Option.some Jvm.ClassFile.FieldType.int), [], [0, 3, 2, 506, 81, 504, 505])
abbrev Des_hasCell : Nat := 19
def mt_Des_hasCell : MT := (⟨"DesignDesk$Design", "hasCell", "(II)Z"⟩, prog_4_method_5_code, 3, (Option.some Jvm.ClassFile.FieldType.boolean), [], [0, 3, 2, 510, 81, 508, 509])
abbrev Des_put : Nat := 20
def mt_Des_put : MT := (⟨"DesignDesk$Design", "put", "(III)V"⟩, prog_4_method_8_code, 5, (Option.none : Option Jvm.ClassFile.FieldType), [], [0, 3, 3, 514, 81, 512, 513])
abbrev Des_freedom : Nat := 21
def mt_Des_freedom : MT := (⟨"DesignDesk$Design", "freedom", "()I"⟩, prog_4_method_14_code, 3, (Option.some Jvm.ClassFile.FieldType.int), [], [0, 3, 0, 540, 81, 538, 539])
abbrev Des_countOfSort : Nat := 22
def mt_Des_countOfSort : MT := (⟨"DesignDesk$Design", "countOfSort", "(I)I"⟩, prog_4_method_13_code, 5, (Option.some Jvm.ClassFile.FieldType.int), [], [0, 3, 1, 544, 81, 542, 543])
abbrev Des_begin : Nat := 23
def mt_Des_begin : MT := (⟨"DesignDesk$Design", "begin", "(I)V"⟩, prog_4_method_2_code, 2, (Option.none : Option Jvm.ClassFile.FieldType), [], [0, 3, 1, 772, 81, 770, 771])
abbrev Des_copyFrom : Nat := 24
def mt_Des_copyFrom : MT := (⟨"DesignDesk$Design", "copyFrom", "(LDesignDesk$Design;)V"⟩, prog_4_method_4_code, 2, (Option.none : Option Jvm.ClassFile.FieldType), [], [0, 3, 1, 899, 81, 897, 898])
abbrev Des_isDark : Nat := 25
def mt_Des_isDark : MT := (⟨"DesignDesk$Design", "isDark", "(II)Z"⟩, prog_4_method_6_code, 3, (Option.some Jvm.ClassFile.FieldType.boolean), [], [0, 3, 2, 979, 81, 977, 978])
abbrev Des_hasGridOf : Nat := 26
def mt_Des_hasGridOf : MT := (⟨"DesignDesk$Design", "hasGridOf", "(LDesignDesk$Design;)Z"⟩, prog_4_method_12_code, 4, (Option.some Jvm.ClassFile.FieldType.boolean), [], [0, 3, 1, 1014, 81, 1012, 1013])
abbrev Hist_init : Nat := 27
def mt_Hist_init : MT := (⟨"DesignDesk$History", "<init>", "()V"⟩, prog_5_method_1_code, 2, (Option.none : Option Jvm.ClassFile.FieldType), [], [0, 4, 0, 176, 82, 175, 0])
abbrev Hist_takeBack : Nat := 28
def mt_Hist_takeBack : MT := (⟨"DesignDesk$History", "takeBack", "(LDesignDesk$Book;)LDesignDesk$Book;"⟩, prog_5_method_4_code, 3, (Option.some (Jvm.ClassFile.FieldType.object "DesignDesk$Book")), [], [0, 4, 1, 440, 82, 438, 439])
abbrev Hist_keep : Nat := 29
def mt_Hist_keep : MT := (⟨"DesignDesk$History", "keep", "(LDesignDesk$Book;)V"⟩, prog_5_method_2_code, 2, (Option.none : Option Jvm.ClassFile.FieldType), [], [0, 4, 1, 887, 82, 885, 886])
abbrev Hist_forgetOldest : Nat := 30
def mt_Hist_forgetOldest : MT := (⟨"DesignDesk$History", "forgetOldest", "()V"⟩, prog_5_method_3_code, 3, (Option.none : Option Jvm.ClassFile.FieldType), [], [0, 4, 0, 891, 82, 890, 26])
abbrev Ov_init : Nat := 31
def mt_Ov_init : MT := (⟨"DesignDesk$Overlays", "<init>", "()V"⟩, prog_6_method_1_code, 2, (Option.none : Option Jvm.ClassFile.FieldType), [], [0, 5, 0, 283, 87, 282, 0])
abbrev Ov_forgetAll : Nat := 32
def mt_Ov_forgetAll : MT := (⟨"DesignDesk$Overlays", "forgetAll", "()V"⟩, prog_6_method_2_code, 2, (Option.none : Option Jvm.ClassFile.FieldType), [], [0, 5, 0, 444, 87, 442, 443])
abbrev Ov_learnFrom : Nat := 33
def mt_Ov_learnFrom : MT := (⟨"DesignDesk$Overlays", "learnFrom", "(LDesignDesk$Book;I)V"⟩, prog_6_method_4_code, 4, (Option.none : Option Jvm.ClassFile.FieldType), [], [0, 5, 2, 452, 87, 450, 451])
abbrev Ov_learn : Nat := 34
def mt_Ov_learn : MT := (⟨"DesignDesk$Overlays", "learn", "(LDesignDesk$Book;II)V"⟩, prog_6_method_5_code, 5, (Option.none : Option Jvm.ClassFile.FieldType), [], [0, 5, 3, 456, 87, 454, 455])
abbrev Ov_bestOf : Nat := 35
def mt_Ov_bestOf : MT := (⟨"DesignDesk$Overlays", "bestOf", "(II)LDesignDesk$Best;"⟩, prog_6_method_6_code, 3, (Option.some (Jvm.ClassFile.FieldType.object "DesignDesk$Best")), [], [0, 5, 2, 460, 87, 458, 459])
abbrev Ov_take : Nat := 36
def mt_Ov_take : MT := (⟨"DesignDesk$Overlays", "take", "(LDesignDesk$Design;LDesignDesk$Design;)V"⟩, prog_6_method_7_code, 4, (Option.none : Option Jvm.ClassFile.FieldType), [], [0, 5, 2, 464, 87, 462, 463])
abbrev Ov_seek : Nat := 37
def mt_Ov_seek : MT := (⟨"DesignDesk$Overlays", "seek", "(LDesignDesk$Best;)V"⟩, prog_6_method_11_code, 5, (Option.none : Option Jvm.ClassFile.FieldType), [], [0, 5, 1, 474, 87, 473, 3])
abbrev Ov_turnTo : Nat := 38
def mt_Ov_turnTo : MT := (⟨"DesignDesk$Overlays", "turnTo", "(I)V"⟩, prog_6_method_8_code, 3, (Option.none : Option Jvm.ClassFile.FieldType), [], [0, 5, 1, 483, 87, 481, 482])
abbrev Ov_lay : Nat := 39
def mt_Ov_lay : MT := (⟨"DesignDesk$Overlays", "lay", "(II)V"⟩, prog_6_method_9_code, 9, (Option.none : Option Jvm.ClassFile.FieldType), [], [0, 5, 2, 518, 87, 516, 517])
abbrev Ov_shifted : Nat := 40
def mt_Ov_shifted : MT := (⟨"DesignDesk$Overlays", "shifted", "(II)I"⟩, prog_6_method_10_code, 2, (Option.some Jvm.ClassFile.FieldType.int), [], [1, 0, 2, 523, 87, 522, 0])
abbrev Ov_forget : Nat := 41
def mt_Ov_forget : MT := (⟨"DesignDesk$Overlays", "forget", "(I)V"⟩, prog_6_method_3_code, 3, (Option.none : Option Jvm.ClassFile.FieldType), [], [0, 5, 1, 939, 87, 937, 938])
abbrev Rule_holds : Nat := 42
def mt_Rule_holds : MT := (⟨"DesignDesk$Rule", "holds", "([I[J)Z"⟩, prog_7_method_2_code, 6, (Option.some Jvm.ClassFile.FieldType.boolean), [], [0, 6, 2, 566, 100, 564, 565])
abbrev Rule_valueOf : Nat := 43
def mt_Rule_valueOf : MT := (⟨"DesignDesk$Rule", "valueOf", "(I[I)J"⟩, prog_7_method_3_code, 3, (Option.some Jvm.ClassFile.FieldType.long), [], [1, 0, 2, 569, 100, 568, 0])
abbrev Rule_worked : Nat := 44
def mt_Rule_worked : MT := (⟨"DesignDesk$Rule", "worked", "(IJJ)J"⟩, prog_7_method_4_code, 5, (Option.some Jvm.ClassFile.FieldType.long), [], [1, 0, 3, 572, 100, 571, 0])
abbrev Rule_held : Nat := 45
def mt_Rule_held : MT := (⟨"DesignDesk$Rule", "held", "(J)J"⟩, prog_7_method_5_code, 2, (Option.some Jvm.ClassFile.FieldType.long), [], [1, 0, 1, 575, 100, 574, 0])
abbrev Rule_init : Nat := 46
def mt_Rule_init : MT := (⟨"DesignDesk$Rule", "<init>", "([I)V"⟩, prog_7_method_1_code, 2, (Option.none : Option Jvm.ClassFile.FieldType), [], [0, 6, 1, 853, 100, 852, 0])
abbrev RR_init : Nat := 47
def mt_RR_init : MT := (⟨"DesignDesk$RuleReader", "<init>", "()V"⟩, prog_8_method_1_code, 1, (Option.none : Option Jvm.ClassFile.FieldType), [], [0, 7, 0, 199, 84, 198, 0])
abbrev RR_begin : Nat := 48
def mt_RR_begin : MT := (⟨"DesignDesk$RuleReader", "begin", "()V"⟩, prog_8_method_2_code, 1, (Option.none : Option Jvm.ClassFile.FieldType), [], [0, 7, 0, 238, 84, 237, 0])
abbrev RR_beginComparison : Nat := 49
def mt_RR_beginComparison : MT := (⟨"DesignDesk$RuleReader", "beginComparison", "()V"⟩, prog_8_method_3_code, 1, (Option.none : Option Jvm.ClassFile.FieldType), [], [0, 7, 0, 242, 84, 241, 1])
abbrev RR_readRule : Nat := 50
def mt_RR_readRule : MT := (⟨"DesignDesk$RuleReader", "readRule", "()LDesignDesk$Rule;"⟩, prog_8_method_4_code, 4, (Option.some (Jvm.ClassFile.FieldType.object "DesignDesk$Rule")), [], [0, 7, 0, 789, 84, 787, 788])
abbrev RR_takesValue : Nat := 51
def mt_RR_takesValue : MT := (⟨"DesignDesk$RuleReader", "takesValue", "(I)Z"⟩, prog_8_method_6_code, 3, (Option.some Jvm.ClassFile.FieldType.boolean), [], [0, 7, 1, 795, 84, 794, 15])
abbrev RR_openOne : Nat := 52
def mt_RR_openOne : MT := (⟨"DesignDesk$RuleReader", "openOne", "(I)V"⟩, prog_8_method_7_code, 2, (Option.none : Option Jvm.ClassFile.FieldType), [], [0, 7, 1, 801, 84, 800, 16])
abbrev RR_pile : Nat := 53
def mt_RR_pile : MT := (⟨"DesignDesk$RuleReader", "pile", "(I)V"⟩, prog_8_method_17_code, 2, (Option.none : Option Jvm.ClassFile.FieldType), [], [0, 7, 1, 808, 84, 807, 17])
abbrev RR_emit : Nat := 54
def mt_RR_emit : MT := (⟨"DesignDesk$RuleReader", "emit", "(I)V"⟩, prog_8_method_18_code, 2, (Option.none : Option Jvm.ClassFile.FieldType), [], [0, 7, 1, 814, 84, 813, 18])
abbrev RR_takeFact : Nat := 55
def mt_RR_takeFact : MT := (⟨"DesignDesk$RuleReader", "takeFact", "()I"⟩, prog_8_method_8_code, 1, (Option.some Jvm.ClassFile.FieldType.int), [], [0, 7, 0, 818, 84, 817, 19])
abbrev RR_mayEnd : Nat := 56
def mt_RR_mayEnd : MT := (⟨"DesignDesk$RuleReader", "mayEnd", "()Z"⟩, prog_8_method_5_code, 1, (Option.some Jvm.ClassFile.FieldType.boolean), [], [0, 7, 0, 827, 84, 826, 20])
abbrev RR_release : Nat := 57
def mt_RR_release : MT := (⟨"DesignDesk$RuleReader", "release", "(I)V"⟩, prog_8_method_16_code, 2, (Option.none : Option Jvm.ClassFile.FieldType), [], [0, 7, 1, 831, 84, 830, 21])
abbrev RR_bindingOf : Nat := 58
def mt_RR_bindingOf : MT := (⟨"DesignDesk$RuleReader", "bindingOf", "(I)I"⟩, prog_8_method_13_code, 1, (Option.some Jvm.ClassFile.FieldType.int), [], [1, 0, 1, 834, 84, 833, 0])
abbrev RR_takesSign : Nat := 59
def mt_RR_takesSign : MT := (⟨"DesignDesk$RuleReader", "takesSign", "(I)Z"⟩, prog_8_method_9_code, 3, (Option.some Jvm.ClassFile.FieldType.boolean), [], [0, 7, 1, 862, 84, 861, 22])
abbrev RR_closeBracket : Nat := 60
def mt_RR_closeBracket : MT := (⟨"DesignDesk$RuleReader", "closeBracket", "()V"⟩, prog_8_method_15_code, 1, (Option.none : Option Jvm.ClassFile.FieldType), [], [0, 7, 0, 866, 84, 865, 23])
abbrev RR_takeJoint : Nat := 61
def mt_RR_takeJoint : MT := (⟨"DesignDesk$RuleReader", "takeJoint", "()I"⟩, prog_8_method_10_code, 1, (Option.some Jvm.ClassFile.FieldType.int), [], [0, 7, 0, 870, 84, 869, 24])
abbrev RR_addSign : Nat := 62
def mt_RR_addSign : MT := (⟨"DesignDesk$RuleReader", "addSign", "(I)V"⟩, prog_8_method_14_code, 2, (Option.none : Option Jvm.ClassFile.FieldType), [], [0, 7, 1, 876, 84, 875, 25])
abbrev RR_signOf : Nat := 63
def mt_RR_signOf : MT := (⟨"DesignDesk$RuleReader", "signOf", "(I)I"⟩, prog_8_method_11_code, 1, (Option.some Jvm.ClassFile.FieldType.int), [], [1, 0, 1, 879, 84, 878, 0])
abbrev RR_isComparison : Nat := 64
def mt_RR_isComparison : MT := (⟨"DesignDesk$RuleReader", "isComparison", "(I)Z"⟩, prog_8_method_12_code, 1, (Option.some Jvm.ClassFile.FieldType.boolean), [], [1, 0, 1, 882, 84, 881, 0])
abbrev Scan_init : Nat := 65
def mt_Scan_init : MT := (⟨"DesignDesk$Scan", "<init>", "()V"⟩, prog_9_method_1_code, 1, (Option.none : Option Jvm.ClassFile.FieldType), [], [0, 8, 0, 205, 85, 204, 0])
abbrev Scan_begin : Nat := 66
def mt_Scan_begin : MT := (⟨"DesignDesk$Scan", "begin", "([II)V"⟩, prog_9_method_2_code, 3, (Option.none : Option Jvm.ClassFile.FieldType), [], [0, 8, 2, 210, 85, 208, 209])
abbrev Scan_failed : Nat := 67
def mt_Scan_failed : MT := (⟨"DesignDesk$Scan", "failed", "()Z"⟩, prog_9_method_3_code, 1, (Option.some Jvm.ClassFile.FieldType.boolean), [], [0, 8, 0, 685, 85, 683, 684])
abbrev Scan_look : Nat := 68
def mt_Scan_look : MT := (⟨"DesignDesk$Scan", "look", "()I"⟩, prog_9_method_6_code, 1, (Option.some Jvm.ClassFile.FieldType.int), [], [0, 8, 0, 689, 85, 687, 688])
abbrev Scan_byteAt : Nat := 69
def mt_Scan_byteAt : MT := (⟨"DesignDesk$Scan", "byteAt", "(I)I"⟩, prog_9_method_5_code, 2, (Option.some Jvm.ClassFile.FieldType.int), [], [0, 8, 1, 693, 85, 691, 692])
abbrev Scan_seesWord : Nat := 70
def mt_Scan_seesWord : MT := (⟨"DesignDesk$Scan", "seesWord", "(Ljava/lang/String;)Z"⟩, prog_9_method_9_code, 4, (Option.some Jvm.ClassFile.FieldType.boolean), [], [0, 8, 1, 698, 85, 696, 697])
abbrev Scan_fail : Nat := 71
def mt_Scan_fail : MT := (⟨"DesignDesk$Scan", "fail", "(I)V"⟩, prog_9_method_4_code, 2, (Option.none : Option Jvm.ClassFile.FieldType), [], [0, 8, 1, 754, 85, 752, 753])
abbrev Scan_takesWord : Nat := 72
def mt_Scan_takesWord : MT := (⟨"DesignDesk$Scan", "takesWord", "(Ljava/lang/String;)Z"⟩, prog_9_method_10_code, 3, (Option.some Jvm.ClassFile.FieldType.boolean), [], [0, 8, 1, 758, 85, 756, 757])
abbrev Scan_isDigit : Nat := 73
def mt_Scan_isDigit : MT := (⟨"DesignDesk$Scan", "isDigit", "(I)Z"⟩, prog_9_method_11_code, 1, (Option.some Jvm.ClassFile.FieldType.boolean), [], [1, 0, 1, 762, 85, 761, 0])
abbrev Scan_takeNumber : Nat := 74
def mt_Scan_takeNumber : MT := (⟨"DesignDesk$Scan", "takeNumber", "()I"⟩, prog_9_method_8_code, 3, (Option.some Jvm.ClassFile.FieldType.int), [], [0, 8, 0, 766, 85, 764, 765])
abbrev Scan_step : Nat := 75
def mt_Scan_step : MT := (⟨"DesignDesk$Scan", "step", "()V"⟩, prog_9_method_7_code, 1, (Option.none : Option Jvm.ClassFile.FieldType), [], [0, 8, 0, 784, 85, 782, 783])
abbrev Shp_init : Nat := 76
def mt_Shp_init : MT := (⟨"DesignDesk$Shapes", "<init>", "()V"⟩, prog_10_method_1_code, 1, (Option.none : Option Jvm.ClassFile.FieldType), [], [0, 9, 0, 360, 89, 359, 0])
abbrev Shp_edgeOf : Nat := 77
def mt_Shp_edgeOf : MT := (⟨"DesignDesk$Shapes", "edgeOf", "(LDesignDesk$Design;)I"⟩, prog_10_method_2_code, 5, (Option.some Jvm.ClassFile.FieldType.int), [], [0, 9, 1, 975, 89, 973, 974])
abbrev Shp_partsOf : Nat := 78
def mt_Shp_partsOf : MT := (⟨"DesignDesk$Shapes", "partsOf", "(LDesignDesk$Design;)I"⟩, prog_10_method_3_code, 2, (Option.some Jvm.ClassFile.FieldType.int), [], [0, 9, 1, 983, 89, 981, 982])
abbrev Shp_countSets : Nat := 79
def mt_Shp_countSets : MT := (⟨"DesignDesk$Shapes", "countSets", "(LDesignDesk$Design;Z)I"⟩, prog_10_method_5_code, 7, (Option.some Jvm.ClassFile.FieldType.int), [], [0, 9, 2, 987, 89, 986, 29])
abbrev Shp_isFresh : Nat := 80
def mt_Shp_isFresh : MT := (⟨"DesignDesk$Shapes", "isFresh", "(LDesignDesk$Design;IIZ)Z"⟩, prog_10_method_6_code, 5, (Option.some Jvm.ClassFile.FieldType.boolean), [], [0, 9, 4, 992, 89, 991, 30])
abbrev Shp_walkSet : Nat := 81
def mt_Shp_walkSet : MT := (⟨"DesignDesk$Shapes", "walkSet", "(LDesignDesk$Design;IIZ)Z"⟩, prog_10_method_7_code, 13, (Option.some Jvm.ClassFile.FieldType.boolean), [], [0, 9, 4, 997, 89, 996, 31])
abbrev Shp_lineUp : Nat := 82
def mt_Shp_lineUp : MT := (⟨"DesignDesk$Shapes", "lineUp", "(II)V"⟩, prog_10_method_8_code, 3, (Option.none : Option Jvm.ClassFile.FieldType), [], [0, 9, 2, 1001, 89, 1000, 32])
abbrev Shp_holesOf : Nat := 83
def mt_Shp_holesOf : MT := (⟨"DesignDesk$Shapes", "holesOf", "(LDesignDesk$Design;)I"⟩, prog_10_method_4_code, 2, (Option.some Jvm.ClassFile.FieldType.int), [], [0, 9, 1, 1005, 89, 1003, 1004])
abbrev Shp_looksOf : Nat := 84
def mt_Shp_looksOf : MT := (⟨"DesignDesk$Shapes", "looksOf", "(LDesignDesk$Design;)I"⟩, prog_10_method_9_code, 4, (Option.some Jvm.ClassFile.FieldType.int), [], [0, 9, 1, 1009, 89, 1007, 1008])
abbrev TR_init : Nat := 85
def mt_TR_init : MT := (⟨"DesignDesk$TextReader", "<init>", "()V"⟩, prog_11_method_1_code, 1, (Option.none : Option Jvm.ClassFile.FieldType), [], [0, 10, 0, 193, 83, 192, 0])
abbrev TR_readInto : Nat := 86
def mt_TR_readInto : MT := (⟨"DesignDesk$TextReader", "readInto", "(LDesignDesk$Book;[II)LDesignDesk$Scan;"⟩, prog_11_method_2_code, 5, (Option.some (Jvm.ClassFile.FieldType.object "DesignDesk$Scan")), [], [0, 10, 3, 680, 83, 678, 679])
abbrev TR_readDesign : Nat := 87
def mt_TR_readDesign : MT := (⟨"DesignDesk$TextReader", "readDesign", "(LDesignDesk$Book;)V"⟩, prog_11_method_3_code, 5, (Option.none : Option Jvm.ClassFile.FieldType), [], [0, 10, 1, 750, 83, 749, 13])
abbrev TR_readRow : Nat := 88
def mt_TR_readRow : MT := (⟨"DesignDesk$TextReader", "readRow", "(LDesignDesk$Design;)Z"⟩, prog_11_method_4_code, 8, (Option.some Jvm.ClassFile.FieldType.boolean), [], [0, 10, 1, 776, 83, 775, 14])
abbrev TR_sortOf : Nat := 89
def mt_TR_sortOf : MT := (⟨"DesignDesk$TextReader", "sortOf", "(I)I"⟩, prog_11_method_5_code, 1, (Option.some Jvm.ClassFile.FieldType.int), [], [1, 0, 1, 779, 83, 778, 0])
abbrev DD_init : Nat := 90
def mt_DD_init : MT := (⟨"DesignDesk", "<init>", "()V"⟩, prog_1_method_1_code, 1, (Option.none : Option Jvm.ClassFile.FieldType), [], [0, 11, 0, 109, 79, 108, 0])
abbrev DD_feed : Nat := 91
def mt_DD_feed : MT := (⟨"DesignDesk", "feed", "(IIIII)I"⟩, prog_1_method_2_code, 6, (Option.some Jvm.ClassFile.FieldType.int), [], [0, 11, 5, 424, 79, 422, 423])
abbrev DD_putBytes : Nat := 92
def mt_DD_putBytes : MT := (⟨"DesignDesk", "putBytes", "(I)V"⟩, prog_1_method_20_code, 3, (Option.none : Option Jvm.ClassFile.FieldType), [], [0, 11, 1, 428, 79, 427, 2])
abbrev DD_fault : Nat := 93
def mt_DD_fault : MT := (⟨"DesignDesk", "fault", "()I"⟩, prog_1_method_4_code, 1, (Option.some Jvm.ClassFile.FieldType.int), [], [0, 11, 0, 432, 79, 430, 431])
abbrev DD_undo : Nat := 94
def mt_DD_undo : MT := (⟨"DesignDesk", "undo", "()I"⟩, prog_1_method_8_code, 1, (Option.some Jvm.ClassFile.FieldType.int), [], [0, 11, 0, 436, 79, 434, 435])
abbrev DD_groups : Nat := 95
def mt_DD_groups : MT := (⟨"DesignDesk", "groups", "()I"⟩, prog_1_method_17_code, 4, (Option.some Jvm.ClassFile.FieldType.int), [], [0, 11, 0, 448, 79, 446, 447])
abbrev DD_isInfringed : Nat := 96
def mt_DD_isInfringed : MT := (⟨"DesignDesk", "isInfringed", "(II)Z"⟩, prog_1_method_29_code, 7, (Option.some Jvm.ClassFile.FieldType.boolean), [], [0, 11, 2, 531, 79, 530, 6])
abbrev DD_priorThousandths : Nat := 97
def mt_DD_priorThousandths : MT := (⟨"DesignDesk", "priorThousandths", "(I)I"⟩, prog_1_method_28_code, 3, (Option.some Jvm.ClassFile.FieldType.int), [], [0, 11, 1, 548, 79, 547, 7])
abbrev DD_mostAlikeBefore : Nat := 98
def mt_DD_mostAlikeBefore : MT := (⟨"DesignDesk", "mostAlikeBefore", "(I)I"⟩, prog_1_method_26_code, 4, (Option.some Jvm.ClassFile.FieldType.int), [], [0, 11, 1, 552, 79, 551, 8])
abbrev DD_isMoreAlike : Nat := 99
def mt_DD_isMoreAlike : MT := (⟨"DesignDesk", "isMoreAlike", "(III)Z"⟩, prog_1_method_25_code, 4, (Option.some Jvm.ClassFile.FieldType.boolean), [], [0, 11, 3, 556, 79, 555, 9])
abbrev DD_joinGroups : Nat := 100
def mt_DD_joinGroups : MT := (⟨"DesignDesk", "joinGroups", "(II)V"⟩, prog_1_method_30_code, 4, (Option.none : Option Jvm.ClassFile.FieldType), [], [0, 11, 2, 587, 79, 586, 10])
abbrev DD_print : Nat := 101
def mt_DD_print : MT := (⟨"DesignDesk", "print", "()J"⟩, prog_1_method_18_code, 7, (Option.some Jvm.ClassFile.FieldType.long), [], [0, 11, 0, 591, 79, 589, 590])
abbrev DD_status : Nat := 102
def mt_DD_status : MT := (⟨"DesignDesk", "status", "(I)I"⟩, prog_1_method_19_code, 2, (Option.some Jvm.ClassFile.FieldType.int), [], [0, 11, 1, 597, 79, 595, 596])
abbrev DD_text : Nat := 103
def mt_DD_text : MT := (⟨"DesignDesk", "text", "(I)I"⟩, prog_1_method_3_code, 4, (Option.some Jvm.ClassFile.FieldType.int), [], [0, 11, 1, 605, 79, 603, 604])
abbrev DD_needNumber : Nat := 104
def mt_DD_needNumber : MT := (⟨"DesignDesk", "needNumber", "(III)V"⟩, prog_1_method_23_code, 4, (Option.none : Option Jvm.ClassFile.FieldType), [], [0, 11, 3, 609, 79, 608, 11])
abbrev DD_paint : Nat := 105
def mt_DD_paint : MT := (⟨"DesignDesk", "paint", "(IIII)I"⟩, prog_1_method_5_code, 7, (Option.some Jvm.ClassFile.FieldType.int), [], [0, 11, 4, 908, 79, 906, 907])
abbrev DD_needCell : Nat := 106
def mt_DD_needCell : MT := (⟨"DesignDesk", "needCell", "(III)V"⟩, prog_1_method_22_code, 4, (Option.none : Option Jvm.ClassFile.FieldType), [], [0, 11, 3, 912, 79, 911, 27])
abbrev DD_needDesign : Nat := 107
def mt_DD_needDesign : MT := (⟨"DesignDesk", "needDesign", "(I)V"⟩, prog_1_method_21_code, 2, (Option.none : Option Jvm.ClassFile.FieldType), [], [0, 11, 1, 916, 79, 915, 28])
abbrev DD_day : Nat := 108
def mt_DD_day : MT := (⟨"DesignDesk", "day", "(II)I"⟩, prog_1_method_6_code, 5, (Option.some Jvm.ClassFile.FieldType.int), [], [0, 11, 2, 946, 79, 944, 945])
abbrev DD_drop : Nat := 109
def mt_DD_drop : MT := (⟨"DesignDesk", "drop", "(I)I"⟩, prog_1_method_7_code, 2, (Option.some Jvm.ClassFile.FieldType.int), [], [0, 11, 1, 953, 79, 951, 952])
abbrev DD_told : Nat := 110
def mt_DD_told : MT := (⟨"DesignDesk", "told", "(I)I"⟩, prog_1_method_9_code, 2, (Option.some Jvm.ClassFile.FieldType.int), [], [0, 11, 1, 964, 79, 962, 963])
abbrev DD_of : Nat := 111
def mt_DD_of : MT := (⟨"DesignDesk", "of", "(II)I"⟩, prog_1_method_10_code, 4, (Option.some Jvm.ClassFile.FieldType.int), [], [0, 11, 2, 971, 79, 969, 970])
abbrev DD_isNew : Nat := 112
def mt_DD_isNew : MT := (⟨"DesignDesk", "isNew", "(I)Z"⟩, prog_1_method_27_code, 3, (Option.some Jvm.ClassFile.FieldType.boolean), [], [0, 11, 1, 1018, 79, 1017, 33])
abbrev DD_cell : Nat := 113
def mt_DD_cell : MT := (⟨"DesignDesk", "cell", "(III)I"⟩, prog_1_method_11_code, 4, (Option.some Jvm.ClassFile.FieldType.int), [], [0, 11, 3, 1026, 79, 1024, 1025])
abbrev DD_over : Nat := 114
def mt_DD_over : MT := (⟨"DesignDesk", "over", "(IIIIII)I"⟩, prog_1_method_12_code, 7, (Option.some Jvm.ClassFile.FieldType.int), [], [0, 11, 6, 1033, 79, 1031, 1032])
abbrev DD_needTwo : Nat := 115
def mt_DD_needTwo : MT := (⟨"DesignDesk", "needTwo", "(II)V"⟩, prog_1_method_24_code, 3, (Option.none : Option Jvm.ClassFile.FieldType), [], [0, 11, 2, 1037, 79, 1036, 34])
abbrev DD_best : Nat := 116
def mt_DD_best : MT := (⟨"DesignDesk", "best", "(III)I"⟩, prog_1_method_13_code, 5, (Option.some Jvm.ClassFile.FieldType.int), [], [0, 11, 3, 1048, 79, 1046, 1047])
abbrev DD_prior : Nat := 117
def mt_DD_prior : MT := (⟨"DesignDesk", "prior", "(II)I"⟩, prog_1_method_14_code, 5, (Option.some Jvm.ClassFile.FieldType.int), [], [0, 11, 2, 1071, 79, 1069, 1070])
abbrev DD_infringes : Nat := 118
def mt_DD_infringes : MT := (⟨"DesignDesk", "infringes", "(II)I"⟩, prog_1_method_15_code, 3, (Option.some Jvm.ClassFile.FieldType.int), [], [0, 11, 2, 1078, 79, 1076, 1077])
abbrev DD_nearest : Nat := 119
def mt_DD_nearest : MT := (⟨"DesignDesk", "nearest", "(I)I"⟩, prog_1_method_16_code, 4, (Option.some Jvm.ClassFile.FieldType.int), [], [0, 11, 1, 1085, 79, 1083, 1084])
abbrev M_init : Nat := 120
def mt_M_init : MT := (⟨"DesignDeskModel", "<init>", "()V"⟩, prog_13_method_1_code, 1, (Option.none : Option Jvm.ClassFile.FieldType), [], [0, 12, 0, 1090, 90, 1089, 0])
abbrev M_thrown : Nat := 121
def mt_M_thrown : MT := (⟨"DesignDeskModel", "thrown", "()I"⟩, prog_13_method_2_code, 1, (Option.some Jvm.ClassFile.FieldType.int), [], [0, 12, 0, 1210, 90, 1208, 1209])
abbrev M_feed : Nat := 122
def mt_M_feed : MT := (⟨"DesignDeskModel", "feed", "(IIIII)I"⟩, prog_13_method_7_code, 8, (Option.some Jvm.ClassFile.FieldType.int), [], [0, 12, 5, 1214, 90, 1212, 1213])
abbrev M_text : Nat := 123
def mt_M_text : MT := (⟨"DesignDeskModel", "text", "(I)I"⟩, prog_13_method_28_code, 3, (Option.some Jvm.ClassFile.FieldType.int), [], [0, 12, 1, 1218, 90, 1216, 1217])
abbrev M_in : Nat := 124
def mt_M_in : MT := (⟨"DesignDeskModel", "in", "(III)Z"⟩, prog_13_method_4_code, 3, (Option.some Jvm.ClassFile.FieldType.boolean), [], [1, 0, 3, 1221, 90, 1220, 0])
abbrev M_bad : Nat := 125
def mt_M_bad : MT := (⟨"DesignDeskModel", "bad", "(ZII)Z"⟩, prog_13_method_3_code, 4, (Option.some Jvm.ClassFile.FieldType.boolean), [], [0, 12, 3, 1225, 90, 1224, 36])
abbrev M_fine : Nat := 126
def mt_M_fine : MT := (⟨"DesignDeskModel", "fine", "()Z"⟩, prog_13_method_11_code, 1, (Option.some Jvm.ClassFile.FieldType.boolean), [], [0, 12, 0, 1229, 90, 1228, 37])
abbrev M_here : Nat := 127
def mt_M_here : MT := (⟨"DesignDeskModel", "here", "()I"⟩, prog_13_method_10_code, 1, (Option.some Jvm.ClassFile.FieldType.int), [], [0, 12, 0, 1233, 90, 1232, 38])
abbrev M_byteAt : Nat := 128
def mt_M_byteAt : MT := (⟨"DesignDeskModel", "byteAt", "(I)I"⟩, prog_13_method_9_code, 2, (Option.some Jvm.ClassFile.FieldType.int), [], [0, 12, 1, 1237, 90, 1236, 39])
abbrev M_readsLine : Nat := 129
def mt_M_readsLine : MT := (⟨"DesignDeskModel", "readsLine", "()V"⟩, prog_13_method_27_code, 2, (Option.none : Option Jvm.ClassFile.FieldType), [], [0, 12, 0, 1241, 90, 1240, 40])
abbrev M_takes : Nat := 130
def mt_M_takes : MT := (⟨"DesignDeskModel", "takes", "(Ljava/lang/String;)Z"⟩, prog_13_method_14_code, 3, (Option.some Jvm.ClassFile.FieldType.boolean), [], [0, 12, 1, 1246, 90, 1245, 41])
abbrev M_wrong : Nat := 131
def mt_M_wrong : MT := (⟨"DesignDeskModel", "wrong", "(II)V"⟩, prog_13_method_12_code, 3, (Option.none : Option Jvm.ClassFile.FieldType), [], [0, 12, 2, 1252, 90, 1251, 42])
abbrev M_readsDesign : Nat := 132
def mt_M_readsDesign : MT := (⟨"DesignDeskModel", "readsDesign", "()V"⟩, prog_13_method_18_code, 6, (Option.none : Option Jvm.ClassFile.FieldType), [], [0, 12, 0, 1256, 90, 1255, 43])
abbrev M_number : Nat := 133
def mt_M_number : MT := (⟨"DesignDeskModel", "number", "()I"⟩, prog_13_method_16_code, 3, (Option.some Jvm.ClassFile.FieldType.int), [], [0, 12, 0, 1260, 90, 1259, 44])
abbrev M_isDigit : Nat := 134
def mt_M_isDigit : MT := (⟨"DesignDeskModel", "isDigit", "(I)Z"⟩, prog_13_method_13_code, 1, (Option.some Jvm.ClassFile.FieldType.boolean), [], [1, 0, 1, 1263, 90, 1262, 0])
abbrev M_less : Nat := 135
def mt_M_less : MT := (⟨"DesignDeskModel", "less", "(II)I"⟩, prog_13_method_5_code, 2, (Option.some Jvm.ClassFile.FieldType.int), [], [1, 0, 2, 1267, 90, 1266, 0])
abbrev M_sortHere : Nat := 136
def mt_M_sortHere : MT := (⟨"DesignDeskModel", "sortHere", "()I"⟩, prog_13_method_17_code, 2, (Option.some Jvm.ClassFile.FieldType.int), [], [0, 12, 0, 1271, 90, 1270, 45])
abbrev M_test : Nat := 137
def mt_M_test : MT := (⟨"DesignDeskModel", "test", "()V"⟩, prog_13_method_26_code, 1, (Option.none : Option Jvm.ClassFile.FieldType), [], [0, 12, 0, 1276, 90, 1275, 46])
abbrev M_facts : Nat := 138
def mt_M_facts : MT := (⟨"DesignDeskModel", "facts", "()V"⟩, prog_13_method_25_code, 1, (Option.none : Option Jvm.ClassFile.FieldType), [], [0, 12, 0, 1280, 90, 1279, 47])
abbrev M_fact : Nat := 139
def mt_M_fact : MT := (⟨"DesignDeskModel", "fact", "()V"⟩, prog_13_method_24_code, 4, (Option.none : Option Jvm.ClassFile.FieldType), [], [0, 12, 0, 1284, 90, 1283, 48])
abbrev M_opens : Nat := 140
def mt_M_opens : MT := (⟨"DesignDeskModel", "opens", "(I)V"⟩, prog_13_method_20_code, 2, (Option.none : Option Jvm.ClassFile.FieldType), [], [0, 12, 1, 1289, 90, 1288, 49])
abbrev M_tells : Nat := 141
def mt_M_tells : MT := (⟨"DesignDeskModel", "tells", "(I)V"⟩, prog_13_method_19_code, 2, (Option.none : Option Jvm.ClassFile.FieldType), [], [0, 12, 1, 1293, 90, 1292, 50])
abbrev M_sum : Nat := 142
def mt_M_sum : MT := (⟨"DesignDeskModel", "sum", "()V"⟩, prog_13_method_23_code, 2, (Option.none : Option Jvm.ClassFile.FieldType), [], [0, 12, 0, 1297, 90, 1296, 51])
abbrev M_product : Nat := 143
def mt_M_product : MT := (⟨"DesignDeskModel", "product", "()V"⟩, prog_13_method_22_code, 1, (Option.none : Option Jvm.ClassFile.FieldType), [], [0, 12, 0, 1301, 90, 1300, 52])
abbrev M_unit : Nat := 144
def mt_M_unit : MT := (⟨"DesignDeskModel", "unit", "()V"⟩, prog_13_method_21_code, 4, (Option.none : Option Jvm.ClassFile.FieldType), [], [0, 12, 0, 1305, 90, 1304, 53])
abbrev M_must : Nat := 145
def mt_M_must : MT := (⟨"DesignDeskModel", "must", "(I)V"⟩, prog_13_method_15_code, 2, (Option.none : Option Jvm.ClassFile.FieldType), [], [0, 12, 1, 1309, 90, 1308, 54])
abbrev M_remembers : Nat := 146
def mt_M_remembers : MT := (⟨"DesignDeskModel", "remembers", "()V"⟩, prog_13_method_50_code, 2, (Option.none : Option Jvm.ClassFile.FieldType), [], [0, 12, 0, 1320, 90, 1319, 55])
abbrev M_copies : Nat := 147
def mt_M_copies : MT := (⟨"DesignDeskModel", "copies", "([I[I)V"⟩, prog_13_method_8_code, 3, (Option.none : Option Jvm.ClassFile.FieldType), [], [1, 0, 2, 1323, 90, 1322, 0])
abbrev M_fault : Nat := 148
def mt_M_fault : MT := (⟨"DesignDeskModel", "fault", "()I"⟩, prog_13_method_29_code, 1, (Option.some Jvm.ClassFile.FieldType.int), [], [0, 12, 0, 1327, 90, 1325, 1326])
abbrev M_undo : Nat := 149
def mt_M_undo : MT := (⟨"DesignDeskModel", "undo", "()I"⟩, prog_13_method_51_code, 1, (Option.some Jvm.ClassFile.FieldType.int), [], [0, 12, 0, 1331, 90, 1329, 1330])
abbrev M_paint : Nat := 150
def mt_M_paint : MT := (⟨"DesignDeskModel", "paint", "(IIII)I"⟩, prog_13_method_54_code, 6, (Option.some Jvm.ClassFile.FieldType.int), [], [0, 12, 4, 1335, 90, 1333, 1334])
abbrev M_isCell : Nat := 151
def mt_M_isCell : MT := (⟨"DesignDeskModel", "isCell", "(III)Z"⟩, prog_13_method_53_code, 4, (Option.some Jvm.ClassFile.FieldType.boolean), [], [0, 12, 3, 1339, 90, 1338, 56])
abbrev M_isDesign : Nat := 152
def mt_M_isDesign : MT := (⟨"DesignDeskModel", "isDesign", "(I)Z"⟩, prog_13_method_52_code, 2, (Option.some Jvm.ClassFile.FieldType.boolean), [], [0, 12, 1, 1343, 90, 1342, 57])
abbrev M_wideOf : Nat := 153
def mt_M_wideOf : MT := (⟨"DesignDeskModel", "wideOf", "(I)I"⟩, prog_13_method_30_code, 2, (Option.some Jvm.ClassFile.FieldType.int), [], [0, 12, 1, 1347, 90, 1346, 58])
abbrev M_highOf : Nat := 154
def mt_M_highOf : MT := (⟨"DesignDeskModel", "highOf", "(I)I"⟩, prog_13_method_31_code, 2, (Option.some Jvm.ClassFile.FieldType.int), [], [0, 12, 1, 1351, 90, 1350, 59])
abbrev M_cellAt : Nat := 155
def mt_M_cellAt : MT := (⟨"DesignDeskModel", "cellAt", "(III)I"⟩, prog_13_method_33_code, 4, (Option.some Jvm.ClassFile.FieldType.int), [], [0, 12, 3, 1355, 90, 1354, 60])
abbrev M_day : Nat := 156
def mt_M_day : MT := (⟨"DesignDeskModel", "day", "(II)I"⟩, prog_13_method_55_code, 4, (Option.some Jvm.ClassFile.FieldType.int), [], [0, 12, 2, 1359, 90, 1357, 1358])
abbrev M_dayOf : Nat := 157
def mt_M_dayOf : MT := (⟨"DesignDeskModel", "dayOf", "(I)I"⟩, prog_13_method_32_code, 2, (Option.some Jvm.ClassFile.FieldType.int), [], [0, 12, 1, 1363, 90, 1362, 61])
abbrev M_drop : Nat := 158
def mt_M_drop : MT := (⟨"DesignDeskModel", "drop", "(I)I"⟩, prog_13_method_56_code, 3, (Option.some Jvm.ClassFile.FieldType.int), [], [0, 12, 1, 1367, 90, 1365, 1366])
abbrev M_told : Nat := 159
def mt_M_told : MT := (⟨"DesignDeskModel", "told", "(I)I"⟩, prog_13_method_57_code, 2, (Option.some Jvm.ClassFile.FieldType.int), [], [0, 12, 1, 1371, 90, 1369, 1370])
abbrev M_of : Nat := 160
def mt_M_of : MT := (⟨"DesignDeskModel", "of", "(II)I"⟩, prog_13_method_62_code, 3, (Option.some Jvm.ClassFile.FieldType.int), [], [0, 12, 2, 1375, 90, 1373, 1374])
abbrev M_edgeOf : Nat := 161
def mt_M_edgeOf : MT := (⟨"DesignDeskModel", "edgeOf", "(I)I"⟩, prog_13_method_58_code, 5, (Option.some Jvm.ClassFile.FieldType.int), [], [0, 12, 1, 1379, 90, 1378, 62])
abbrev M_isDark : Nat := 162
def mt_M_isDark : MT := (⟨"DesignDeskModel", "isDark", "(III)Z"⟩, prog_13_method_35_code, 5, (Option.some Jvm.ClassFile.FieldType.boolean), [], [0, 12, 3, 1383, 90, 1382, 63])
abbrev M_sortOf : Nat := 163
def mt_M_sortOf : MT := (⟨"DesignDeskModel", "sortOf", "(III)I"⟩, prog_13_method_34_code, 4, (Option.some Jvm.ClassFile.FieldType.int), [], [0, 12, 3, 1387, 90, 1386, 64])
abbrev M_setsOf : Nat := 164
def mt_M_setsOf : MT := (⟨"DesignDeskModel", "setsOf", "(IZ)I"⟩, prog_13_method_60_code, 7, (Option.some Jvm.ClassFile.FieldType.int), [], [0, 12, 2, 1391, 90, 1390, 65])
abbrev M_floods : Nat := 165
def mt_M_floods : MT := (⟨"DesignDeskModel", "floods", "(II)Z"⟩, prog_13_method_59_code, 12, (Option.some Jvm.ClassFile.FieldType.boolean), [], [0, 12, 2, 1395, 90, 1394, 66])
abbrev M_looksOf : Nat := 166
def mt_M_looksOf : MT := (⟨"DesignDeskModel", "looksOf", "(I)I"⟩, prog_13_method_61_code, 7, (Option.some Jvm.ClassFile.FieldType.int), [], [0, 12, 1, 1399, 90, 1398, 67])
abbrev M_turns : Nat := 167
def mt_M_turns : MT := (⟨"DesignDeskModel", "turns", "(II)V"⟩, prog_13_method_36_code, 11, (Option.none : Option Jvm.ClassFile.FieldType), [], [0, 12, 2, 1403, 90, 1402, 68])
abbrev M_freedomOf : Nat := 168
def mt_M_freedomOf : MT := (⟨"DesignDeskModel", "freedomOf", "(I)I"⟩, prog_13_method_45_code, 2, (Option.some Jvm.ClassFile.FieldType.int), [], [0, 12, 1, 1407, 90, 1406, 69])
abbrev M_countOf : Nat := 169
def mt_M_countOf : MT := (⟨"DesignDeskModel", "countOf", "(II)I"⟩, prog_13_method_44_code, 6, (Option.some Jvm.ClassFile.FieldType.int), [], [0, 12, 2, 1411, 90, 1410, 70])
abbrev M_priors : Nat := 170
def mt_M_priors : MT := (⟨"DesignDeskModel", "priors", "(I)V"⟩, prog_13_method_43_code, 3, (Option.none : Option Jvm.ClassFile.FieldType), [], [0, 12, 1, 1415, 90, 1414, 71])
abbrev M_overlays : Nat := 171
def mt_M_overlays : MT := (⟨"DesignDeskModel", "overlays", "(II)V"⟩, prog_13_method_41_code, 7, (Option.none : Option Jvm.ClassFile.FieldType), [], [0, 12, 2, 1419, 90, 1418, 72])
abbrev M_laysA : Nat := 172
def mt_M_laysA : MT := (⟨"DesignDeskModel", "laysA", "(I)V"⟩, prog_13_method_37_code, 5, (Option.none : Option Jvm.ClassFile.FieldType), [], [0, 12, 1, 1423, 90, 1422, 73])
abbrev M_laysB : Nat := 173
def mt_M_laysB : MT := (⟨"DesignDeskModel", "laysB", "(II)V"⟩, prog_13_method_38_code, 6, (Option.none : Option Jvm.ClassFile.FieldType), [], [0, 12, 2, 1427, 90, 1426, 74])
abbrev M_lies : Nat := 174
def mt_M_lies : MT := (⟨"DesignDeskModel", "lies", "(II)V"⟩, prog_13_method_40_code, 12, (Option.none : Option Jvm.ClassFile.FieldType), [], [0, 12, 2, 1431, 90, 1430, 75])
abbrev M_more : Nat := 175
def mt_M_more : MT := (⟨"DesignDeskModel", "more", "(II)I"⟩, prog_13_method_6_code, 2, (Option.some Jvm.ClassFile.FieldType.int), [], [1, 0, 2, 1434, 90, 1433, 0])
abbrev M_moved : Nat := 176
def mt_M_moved : MT := (⟨"DesignDeskModel", "moved", "(JI)J"⟩, prog_13_method_39_code, 3, (Option.some Jvm.ClassFile.FieldType.long), [], [1, 0, 2, 1437, 90, 1436, 0])
abbrev M_cell : Nat := 177
def mt_M_cell : MT := (⟨"DesignDeskModel", "cell", "(III)I"⟩, prog_13_method_63_code, 4, (Option.some Jvm.ClassFile.FieldType.int), [], [0, 12, 3, 1448, 90, 1446, 1447])
abbrev M_over : Nat := 178
def mt_M_over : MT := (⟨"DesignDeskModel", "over", "(IIIIII)I"⟩, prog_13_method_64_code, 7, (Option.some Jvm.ClassFile.FieldType.int), [], [0, 12, 6, 1452, 90, 1450, 1451])
abbrev M_best : Nat := 179
def mt_M_best : MT := (⟨"DesignDeskModel", "best", "(III)I"⟩, prog_13_method_65_code, 4, (Option.some Jvm.ClassFile.FieldType.int), [], [0, 12, 3, 1456, 90, 1454, 1455])
abbrev M_terms : Nat := 180
def mt_M_terms : MT := (⟨"DesignDeskModel", "terms", "(III)I"⟩, prog_13_method_42_code, 6, (Option.some Jvm.ClassFile.FieldType.int), [], [1, 0, 3, 1459, 90, 1458, 0])
abbrev M_prior : Nat := 181
def mt_M_prior : MT := (⟨"DesignDeskModel", "prior", "(II)I"⟩, prog_13_method_66_code, 3, (Option.some Jvm.ClassFile.FieldType.int), [], [0, 12, 2, 1463, 90, 1461, 1462])
abbrev M_infringes : Nat := 182
def mt_M_infringes : MT := (⟨"DesignDeskModel", "infringes", "(II)I"⟩, prog_13_method_67_code, 3, (Option.some Jvm.ClassFile.FieldType.int), [], [0, 12, 2, 1467, 90, 1465, 1466])
abbrev M_doesInfringe : Nat := 183
def mt_M_doesInfringe : MT := (⟨"DesignDeskModel", "doesInfringe", "(II)Z"⟩, prog_13_method_49_code, 3, (Option.some Jvm.ClassFile.FieldType.boolean), [], [0, 12, 2, 1471, 90, 1470, 76])
abbrev M_holds : Nat := 184
def mt_M_holds : MT := (⟨"DesignDeskModel", "holds", "()Z"⟩, prog_13_method_48_code, 8, (Option.some Jvm.ClassFile.FieldType.boolean), [], [0, 12, 0, 1476, 90, 1475, 77])
abbrev M_held : Nat := 185
def mt_M_held : MT := (⟨"DesignDeskModel", "held", "(J)J"⟩, prog_13_method_46_code, 2, (Option.some Jvm.ClassFile.FieldType.long), [], [1, 0, 1, 1479, 90, 1478, 0])
abbrev M_one : Nat := 186
def mt_M_one : MT := (⟨"DesignDeskModel", "one", "(Z)J"⟩, prog_13_method_47_code, 1, (Option.some Jvm.ClassFile.FieldType.long), [], [1, 0, 1, 1485, 90, 1484, 0])
abbrev M_nearest : Nat := 187
def mt_M_nearest : MT := (⟨"DesignDeskModel", "nearest", "(I)I"⟩, prog_13_method_68_code, 6, (Option.some Jvm.ClassFile.FieldType.int), [], [0, 12, 1, 1490, 90, 1488, 1489])
abbrev M_groups : Nat := 188
def mt_M_groups : MT := (⟨"DesignDeskModel", "groups", "()I"⟩, prog_13_method_69_code, 6, (Option.some Jvm.ClassFile.FieldType.int), [], [0, 12, 0, 1494, 90, 1492, 1493])
abbrev M_print : Nat := 189
def mt_M_print : MT := (⟨"DesignDeskModel", "print", "()J"⟩, prog_13_method_70_code, 6, (Option.some Jvm.ClassFile.FieldType.long), [], [0, 12, 0, 1498, 90, 1496, 1497])
abbrev M_status : Nat := 190
def mt_M_status : MT := (⟨"DesignDeskModel", "status", "(I)I"⟩, prog_13_method_71_code, 2, (Option.some Jvm.ClassFile.FieldType.int), [], [0, 12, 1, 1503, 90, 1501, 1502])
abbrev Law_text : Nat := 191
def mt_Law_text : MT := (⟨"DesignDeskLaw", "text", "(LDesignDesk;I[J)I"⟩, method_3_code, 4, (Option.some Jvm.ClassFile.FieldType.int), [((0 : Nat), (9 : Nat), (12 : Nat), (13 : Nat))], [1, 0, 3, 600, 78, 599, 0])
abbrev Law_paint : Nat := 192
def mt_Law_paint : MT := (⟨"DesignDeskLaw", "paint", "(LDesignDesk;IIII[J)I"⟩, method_4_code, 7, (Option.some Jvm.ClassFile.FieldType.int), [((0 : Nat), (14 : Nat), (17 : Nat), (19 : Nat)), ((0 : Nat), (14 : Nat), (21 : Nat), (13 : Nat))], [1, 0, 6, 903, 78, 902, 0])
abbrev Law_day : Nat := 193
def mt_Law_day : MT := (⟨"DesignDeskLaw", "day", "(LDesignDesk;II[J)I"⟩, method_5_code, 5, (Option.some Jvm.ClassFile.FieldType.int), [((0 : Nat), (10 : Nat), (13 : Nat), (19 : Nat)), ((0 : Nat), (10 : Nat), (17 : Nat), (13 : Nat))], [1, 0, 4, 942, 78, 941, 0])
abbrev Law_drop : Nat := 194
def mt_Law_drop : MT := (⟨"DesignDeskLaw", "drop", "(LDesignDesk;I[J)I"⟩, method_6_code, 4, (Option.some Jvm.ClassFile.FieldType.int), [((0 : Nat), (9 : Nat), (12 : Nat), (19 : Nat))], [1, 0, 3, 949, 78, 948, 0])
abbrev Law_told : Nat := 195
def mt_Law_told : MT := (⟨"DesignDeskLaw", "told", "(LDesignDesk;I[J)I"⟩, method_7_code, 4, (Option.some Jvm.ClassFile.FieldType.int), [((0 : Nat), (9 : Nat), (12 : Nat), (13 : Nat))], [1, 0, 3, 960, 78, 959, 0])
abbrev Law_of : Nat := 196
def mt_Law_of : MT := (⟨"DesignDeskLaw", "of", "(LDesignDesk;II[J)I"⟩, method_8_code, 5, (Option.some Jvm.ClassFile.FieldType.int), [((0 : Nat), (10 : Nat), (13 : Nat), (19 : Nat)), ((0 : Nat), (10 : Nat), (17 : Nat), (13 : Nat))], [1, 0, 4, 967, 78, 966, 0])
abbrev Law_cell : Nat := 197
def mt_Law_cell : MT := (⟨"DesignDeskLaw", "cell", "(LDesignDesk;III[J)I"⟩, method_9_code, 6, (Option.some Jvm.ClassFile.FieldType.int), [((0 : Nat), (12 : Nat), (15 : Nat), (19 : Nat))], [1, 0, 5, 1022, 78, 1021, 0])
abbrev Law_over : Nat := 198
def mt_Law_over : MT := (⟨"DesignDeskLaw", "over", "(LDesignDesk;IIIIII[J)I"⟩, method_10_code, 9, (Option.some Jvm.ClassFile.FieldType.int), [((0 : Nat), (18 : Nat), (21 : Nat), (19 : Nat)), ((0 : Nat), (18 : Nat), (25 : Nat), (13 : Nat))], [1, 0, 8, 1029, 78, 1028, 0])
abbrev Law_best : Nat := 199
def mt_Law_best : MT := (⟨"DesignDeskLaw", "best", "(LDesignDesk;III[J)I"⟩, method_11_code, 6, (Option.some Jvm.ClassFile.FieldType.int), [((0 : Nat), (12 : Nat), (15 : Nat), (19 : Nat)), ((0 : Nat), (12 : Nat), (19 : Nat), (13 : Nat))], [1, 0, 5, 1044, 78, 1043, 0])
abbrev Law_prior : Nat := 200
def mt_Law_prior : MT := (⟨"DesignDeskLaw", "prior", "(LDesignDesk;II[J)I"⟩, method_12_code, 5, (Option.some Jvm.ClassFile.FieldType.int), [((0 : Nat), (10 : Nat), (13 : Nat), (19 : Nat)), ((0 : Nat), (10 : Nat), (17 : Nat), (13 : Nat))], [1, 0, 4, 1067, 78, 1066, 0])
abbrev Law_infringes : Nat := 201
def mt_Law_infringes : MT := (⟨"DesignDeskLaw", "infringes", "(LDesignDesk;II[J)I"⟩, method_13_code, 5, (Option.some Jvm.ClassFile.FieldType.int), [((0 : Nat), (10 : Nat), (13 : Nat), (19 : Nat)), ((0 : Nat), (10 : Nat), (17 : Nat), (13 : Nat))], [1, 0, 4, 1074, 78, 1073, 0])
abbrev Law_nearest : Nat := 202
def mt_Law_nearest : MT := (⟨"DesignDeskLaw", "nearest", "(LDesignDesk;I[J)I"⟩, method_14_code, 4, (Option.some Jvm.ClassFile.FieldType.int), [((0 : Nat), (9 : Nat), (12 : Nat), (19 : Nat))], [1, 0, 3, 1081, 78, 1080, 0])
abbrev Math_min_II : Nat := 203
def mt_Math_min_II : MT := (⟨"java/lang/Math", "min", "(II)I"⟩, prog_22_method_69_code, 2, (Option.some Jvm.ClassFile.FieldType.int), [], [1, 0, 2, 213, 86, 212, 0])
abbrev Math_max_II : Nat := 204
def mt_Math_max_II : MT := (⟨"java/lang/Math", "max", "(II)I"⟩, prog_22_method_65_code, 2, (Option.some Jvm.ClassFile.FieldType.int), [], [1, 0, 2, 216, 86, 215, 0])
abbrev Int_bitCount : Nat := 205
def mt_Int_bitCount : MT := (⟨"java/lang/Integer", "bitCount", "(I)I"⟩, prog_20_method_49_code, 1, (Option.some Jvm.ClassFile.FieldType.int), [], [1, 0, 1, 467, 103, 466, 0])
abbrev Arr_fill : Nat := 206
def mt_Arr_fill : MT := (⟨"java/util/Arrays", "fill", "([II)V"⟩, prog_31_method_103_code, 4, (Option.none : Option Jvm.ClassFile.FieldType), [], [1, 0, 2, 494, 99, 493, 0])
abbrev Math_min_JJ : Nat := 207
def mt_Math_min_JJ : MT := (⟨"java/lang/Math", "min", "(JJ)J"⟩, prog_22_method_70_code, 4, (Option.some Jvm.ClassFile.FieldType.long), [], [1, 0, 2, 580, 86, 579, 0])
abbrev Math_max_JJ : Nat := 208
def mt_Math_max_JJ : MT := (⟨"java/lang/Math", "max", "(JJ)J"⟩, prog_22_method_66_code, 4, (Option.some Jvm.ClassFile.FieldType.long), [], [1, 0, 2, 583, 86, 582, 0])
abbrev Str_length : Nat := 209
def mt_Str_length : MT := (⟨"java/lang/String", "length", "()I"⟩, prog_24_method_54_code, 1, (Option.some Jvm.ClassFile.FieldType.int), [], [0, 20, 0, 702, 95, 700, 701])
abbrev Str_coder : Nat := 210
def mt_Str_coder : MT := (⟨"java/lang/String", "coder", "()B"⟩, prog_24_method_152_code, 1, (Option.some Jvm.ClassFile.FieldType.byte), [], [0, 20, 0, 706, 95, 704, 705])
abbrev Str_charAt : Nat := 211
def mt_Str_charAt : MT := (⟨"java/lang/String", "charAt", "(I)C"⟩, prog_24_method_56_code, 2, (Option.some Jvm.ClassFile.FieldType.char), [], [0, 20, 1, 712, 95, 710, 711])
abbrev Str_isLatin1 : Nat := 212
def mt_Str_isLatin1 : MT := (⟨"java/lang/String", "isLatin1", "()Z"⟩, prog_24_method_154_code, 1, (Option.some Jvm.ClassFile.FieldType.boolean), [], [0, 20, 0, 716, 95, 714, 715])
abbrev Lat_charAt : Nat := 213
def mt_Lat_charAt : MT := (⟨"java/lang/StringLatin1", "charAt", "([BI)C"⟩, prog_25_method_2_code, 2, (Option.some Jvm.ClassFile.FieldType.char), [], [1, 0, 2, 719, 96, 718, 0])
abbrev Str_checkIndex : Nat := 214
def mt_Str_checkIndex : MT := (⟨"java/lang/String", "checkIndex", "(II)V"⟩, prog_24_method_155_code, 2, (Option.none : Option Jvm.ClassFile.FieldType), [], [1, 0, 2, 722, 95, 721, 0])
abbrev Pre_checkIndex : Nat := 215
def mt_Pre_checkIndex : MT := (⟨"jdk/internal/util/Preconditions", "checkIndex", "(IILjava/util/function/BiFunction;)I"⟩, prog_33_method_11_code, 3, (Option.some Jvm.ClassFile.FieldType.int), [], [1, 0, 3, 727, 97, 726, 0])
abbrev Arr_copyOf : Nat := 216
def mt_Arr_copyOf : MT := (⟨"java/util/Arrays", "copyOf", "([II)[I"⟩, prog_31_method_123_code, 3, (Option.some (Jvm.ClassFile.FieldType.array Jvm.ClassFile.FieldType.int)), [], [1, 0, 2, 839, 99, 838, 0])
abbrev Lng_bitCount : Nat := 217
def mt_Lng_bitCount : MT := (⟨"java/lang/Long", "bitCount", "(J)I"⟩, prog_21_method_50_code, 2, (Option.some Jvm.ClassFile.FieldType.int), [], [1, 0, 1, 1441, 104, 1440, 0])
abbrev Law_law : Nat := 218
def mt_Law_law : MT := (⟨"DesignDeskLaw", "law", "([I)Z"⟩, code, 7, (Option.some Jvm.ClassFile.FieldType.boolean), [], [1, 0, 1, 0, 78, 0, 0])
def mth (y : Nat) : MT := (bif Nat.ble y 108 then (bif Nat.ble y 53 then (bif Nat.ble y 26 then (bif Nat.ble y 12 then (bif Nat.ble y 5 then (bif Nat.ble y 2 then (bif Nat.ble y 0 then mt_Best_init else (bif Nat.ble y 1 then mt_Best_begin else mt_Best_isWhole)) else (bif Nat.ble y 3 then mt_Best_isBelow else (bif Nat.ble y 4 then mt_Best_thousandths else mt_Best_isAbove))) else (bif Nat.ble y 8 then (bif Nat.ble y 6 then mt_Best_above else (bif Nat.ble y 7 then mt_Best_lowered else mt_Best_greatestCommon)) else (bif Nat.ble y 10 then (bif Nat.ble y 9 then mt_Best_below else mt_Book_init) else (bif Nat.ble y 11 then mt_Book_copyFrom else mt_Book_remove)))) else (bif Nat.ble y 19 then (bif Nat.ble y 15 then (bif Nat.ble y 13 then mt_Des_init else (bif Nat.ble y 14 then mt_Des_copyTurned else mt_Des_resize)) else (bif Nat.ble y 17 then (bif Nat.ble y 16 then mt_Des_columnBehind else mt_Des_rowBehind) else (bif Nat.ble y 18 then mt_Des_sortAt else mt_Des_hasCell))) else (bif Nat.ble y 22 then (bif Nat.ble y 20 then mt_Des_put else (bif Nat.ble y 21 then mt_Des_freedom else mt_Des_countOfSort)) else (bif Nat.ble y 24 then (bif Nat.ble y 23 then mt_Des_begin else mt_Des_copyFrom) else (bif Nat.ble y 25 then mt_Des_isDark else mt_Des_hasGridOf))))) else (bif Nat.ble y 39 then (bif Nat.ble y 32 then (bif Nat.ble y 29 then (bif Nat.ble y 27 then mt_Hist_init else (bif Nat.ble y 28 then mt_Hist_takeBack else mt_Hist_keep)) else (bif Nat.ble y 30 then mt_Hist_forgetOldest else (bif Nat.ble y 31 then mt_Ov_init else mt_Ov_forgetAll))) else (bif Nat.ble y 35 then (bif Nat.ble y 33 then mt_Ov_learnFrom else (bif Nat.ble y 34 then mt_Ov_learn else mt_Ov_bestOf)) else (bif Nat.ble y 37 then (bif Nat.ble y 36 then mt_Ov_take else mt_Ov_seek) else (bif Nat.ble y 38 then mt_Ov_turnTo else mt_Ov_lay)))) else (bif Nat.ble y 46 then (bif Nat.ble y 42 then (bif Nat.ble y 40 then mt_Ov_shifted else (bif Nat.ble y 41 then mt_Ov_forget else mt_Rule_holds)) else (bif Nat.ble y 44 then (bif Nat.ble y 43 then mt_Rule_valueOf else mt_Rule_worked) else (bif Nat.ble y 45 then mt_Rule_held else mt_Rule_init))) else (bif Nat.ble y 49 then (bif Nat.ble y 47 then mt_RR_init else (bif Nat.ble y 48 then mt_RR_begin else mt_RR_beginComparison)) else (bif Nat.ble y 51 then (bif Nat.ble y 50 then mt_RR_readRule else mt_RR_takesValue) else (bif Nat.ble y 52 then mt_RR_openOne else mt_RR_pile)))))) else (bif Nat.ble y 80 then (bif Nat.ble y 66 then (bif Nat.ble y 59 then (bif Nat.ble y 56 then (bif Nat.ble y 54 then mt_RR_emit else (bif Nat.ble y 55 then mt_RR_takeFact else mt_RR_mayEnd)) else (bif Nat.ble y 57 then mt_RR_release else (bif Nat.ble y 58 then mt_RR_bindingOf else mt_RR_takesSign))) else (bif Nat.ble y 62 then (bif Nat.ble y 60 then mt_RR_closeBracket else (bif Nat.ble y 61 then mt_RR_takeJoint else mt_RR_addSign)) else (bif Nat.ble y 64 then (bif Nat.ble y 63 then mt_RR_signOf else mt_RR_isComparison) else (bif Nat.ble y 65 then mt_Scan_init else mt_Scan_begin)))) else (bif Nat.ble y 73 then (bif Nat.ble y 69 then (bif Nat.ble y 67 then mt_Scan_failed else (bif Nat.ble y 68 then mt_Scan_look else mt_Scan_byteAt)) else (bif Nat.ble y 71 then (bif Nat.ble y 70 then mt_Scan_seesWord else mt_Scan_fail) else (bif Nat.ble y 72 then mt_Scan_takesWord else mt_Scan_isDigit))) else (bif Nat.ble y 76 then (bif Nat.ble y 74 then mt_Scan_takeNumber else (bif Nat.ble y 75 then mt_Scan_step else mt_Shp_init)) else (bif Nat.ble y 78 then (bif Nat.ble y 77 then mt_Shp_edgeOf else mt_Shp_partsOf) else (bif Nat.ble y 79 then mt_Shp_countSets else mt_Shp_isFresh))))) else (bif Nat.ble y 94 then (bif Nat.ble y 87 then (bif Nat.ble y 83 then (bif Nat.ble y 81 then mt_Shp_walkSet else (bif Nat.ble y 82 then mt_Shp_lineUp else mt_Shp_holesOf)) else (bif Nat.ble y 85 then (bif Nat.ble y 84 then mt_Shp_looksOf else mt_TR_init) else (bif Nat.ble y 86 then mt_TR_readInto else mt_TR_readDesign))) else (bif Nat.ble y 90 then (bif Nat.ble y 88 then mt_TR_readRow else (bif Nat.ble y 89 then mt_TR_sortOf else mt_DD_init)) else (bif Nat.ble y 92 then (bif Nat.ble y 91 then mt_DD_feed else mt_DD_putBytes) else (bif Nat.ble y 93 then mt_DD_fault else mt_DD_undo)))) else (bif Nat.ble y 101 then (bif Nat.ble y 97 then (bif Nat.ble y 95 then mt_DD_groups else (bif Nat.ble y 96 then mt_DD_isInfringed else mt_DD_priorThousandths)) else (bif Nat.ble y 99 then (bif Nat.ble y 98 then mt_DD_mostAlikeBefore else mt_DD_isMoreAlike) else (bif Nat.ble y 100 then mt_DD_joinGroups else mt_DD_print))) else (bif Nat.ble y 104 then (bif Nat.ble y 102 then mt_DD_status else (bif Nat.ble y 103 then mt_DD_text else mt_DD_needNumber)) else (bif Nat.ble y 106 then (bif Nat.ble y 105 then mt_DD_paint else mt_DD_needCell) else (bif Nat.ble y 107 then mt_DD_needDesign else mt_DD_day))))))) else (bif Nat.ble y 163 then (bif Nat.ble y 135 then (bif Nat.ble y 121 then (bif Nat.ble y 114 then (bif Nat.ble y 111 then (bif Nat.ble y 109 then mt_DD_drop else (bif Nat.ble y 110 then mt_DD_told else mt_DD_of)) else (bif Nat.ble y 112 then mt_DD_isNew else (bif Nat.ble y 113 then mt_DD_cell else mt_DD_over))) else (bif Nat.ble y 117 then (bif Nat.ble y 115 then mt_DD_needTwo else (bif Nat.ble y 116 then mt_DD_best else mt_DD_prior)) else (bif Nat.ble y 119 then (bif Nat.ble y 118 then mt_DD_infringes else mt_DD_nearest) else (bif Nat.ble y 120 then mt_M_init else mt_M_thrown)))) else (bif Nat.ble y 128 then (bif Nat.ble y 124 then (bif Nat.ble y 122 then mt_M_feed else (bif Nat.ble y 123 then mt_M_text else mt_M_in)) else (bif Nat.ble y 126 then (bif Nat.ble y 125 then mt_M_bad else mt_M_fine) else (bif Nat.ble y 127 then mt_M_here else mt_M_byteAt))) else (bif Nat.ble y 131 then (bif Nat.ble y 129 then mt_M_readsLine else (bif Nat.ble y 130 then mt_M_takes else mt_M_wrong)) else (bif Nat.ble y 133 then (bif Nat.ble y 132 then mt_M_readsDesign else mt_M_number) else (bif Nat.ble y 134 then mt_M_isDigit else mt_M_less))))) else (bif Nat.ble y 149 then (bif Nat.ble y 142 then (bif Nat.ble y 138 then (bif Nat.ble y 136 then mt_M_sortHere else (bif Nat.ble y 137 then mt_M_test else mt_M_facts)) else (bif Nat.ble y 140 then (bif Nat.ble y 139 then mt_M_fact else mt_M_opens) else (bif Nat.ble y 141 then mt_M_tells else mt_M_sum))) else (bif Nat.ble y 145 then (bif Nat.ble y 143 then mt_M_product else (bif Nat.ble y 144 then mt_M_unit else mt_M_must)) else (bif Nat.ble y 147 then (bif Nat.ble y 146 then mt_M_remembers else mt_M_copies) else (bif Nat.ble y 148 then mt_M_fault else mt_M_undo)))) else (bif Nat.ble y 156 then (bif Nat.ble y 152 then (bif Nat.ble y 150 then mt_M_paint else (bif Nat.ble y 151 then mt_M_isCell else mt_M_isDesign)) else (bif Nat.ble y 154 then (bif Nat.ble y 153 then mt_M_wideOf else mt_M_highOf) else (bif Nat.ble y 155 then mt_M_cellAt else mt_M_day))) else (bif Nat.ble y 159 then (bif Nat.ble y 157 then mt_M_dayOf else (bif Nat.ble y 158 then mt_M_drop else mt_M_told)) else (bif Nat.ble y 161 then (bif Nat.ble y 160 then mt_M_of else mt_M_edgeOf) else (bif Nat.ble y 162 then mt_M_isDark else mt_M_sortOf)))))) else (bif Nat.ble y 190 then (bif Nat.ble y 176 then (bif Nat.ble y 169 then (bif Nat.ble y 166 then (bif Nat.ble y 164 then mt_M_setsOf else (bif Nat.ble y 165 then mt_M_floods else mt_M_looksOf)) else (bif Nat.ble y 167 then mt_M_turns else (bif Nat.ble y 168 then mt_M_freedomOf else mt_M_countOf))) else (bif Nat.ble y 172 then (bif Nat.ble y 170 then mt_M_priors else (bif Nat.ble y 171 then mt_M_overlays else mt_M_laysA)) else (bif Nat.ble y 174 then (bif Nat.ble y 173 then mt_M_laysB else mt_M_lies) else (bif Nat.ble y 175 then mt_M_more else mt_M_moved)))) else (bif Nat.ble y 183 then (bif Nat.ble y 179 then (bif Nat.ble y 177 then mt_M_cell else (bif Nat.ble y 178 then mt_M_over else mt_M_best)) else (bif Nat.ble y 181 then (bif Nat.ble y 180 then mt_M_terms else mt_M_prior) else (bif Nat.ble y 182 then mt_M_infringes else mt_M_doesInfringe))) else (bif Nat.ble y 186 then (bif Nat.ble y 184 then mt_M_holds else (bif Nat.ble y 185 then mt_M_held else mt_M_one)) else (bif Nat.ble y 188 then (bif Nat.ble y 187 then mt_M_nearest else mt_M_groups) else (bif Nat.ble y 189 then mt_M_print else mt_M_status))))) else (bif Nat.ble y 204 then (bif Nat.ble y 197 then (bif Nat.ble y 193 then (bif Nat.ble y 191 then mt_Law_text else (bif Nat.ble y 192 then mt_Law_paint else mt_Law_day)) else (bif Nat.ble y 195 then (bif Nat.ble y 194 then mt_Law_drop else mt_Law_told) else (bif Nat.ble y 196 then mt_Law_of else mt_Law_cell))) else (bif Nat.ble y 200 then (bif Nat.ble y 198 then mt_Law_over else (bif Nat.ble y 199 then mt_Law_best else mt_Law_prior)) else (bif Nat.ble y 202 then (bif Nat.ble y 201 then mt_Law_infringes else mt_Law_nearest) else (bif Nat.ble y 203 then mt_Math_min_II else mt_Math_max_II)))) else (bif Nat.ble y 211 then (bif Nat.ble y 207 then (bif Nat.ble y 205 then mt_Int_bitCount else (bif Nat.ble y 206 then mt_Arr_fill else mt_Math_min_JJ)) else (bif Nat.ble y 209 then (bif Nat.ble y 208 then mt_Math_max_JJ else mt_Str_length) else (bif Nat.ble y 210 then mt_Str_coder else mt_Str_charAt))) else (bif Nat.ble y 214 then (bif Nat.ble y 212 then mt_Str_isLatin1 else (bif Nat.ble y 213 then mt_Lat_charAt else mt_Str_checkIndex)) else (bif Nat.ble y 216 then (bif Nat.ble y 215 then mt_Pre_checkIndex else mt_Arr_copyOf) else (bif Nat.ble y 217 then mt_Lng_bitCount else mt_Law_law))))))))
def mNm (y : Nat) : MethodName := (mth y).1
def mB (y : Nat) : ByteArray := (mth y).2.1
def mL (y : Nat) : Nat := (mth y).2.2.1
def mR (y : Nat) : Option FieldType := (mth y).2.2.2.1
def mH (y : Nat) : List (Nat × Nat × Nat × Nat) := (mth y).2.2.2.2.1
def mI (y i : Nat) : Nat := (mth y).2.2.2.2.2.getD i 0
def mC (y : Nat) : String := (mNm y).cls
/-! ===== the texts: class, entry, text, its bytes ===== -/
abbrev nS : Nat := 24
def sSite : List (String × Nat × String) := [("DesignDesk", 255, "a number that is none such"), ("DesignDesk$TextReader", 47, "design"), ("DesignDesk$TextReader", 57, "rule"), ("DesignDesk$RuleReader", 87, "not"), ("DesignDesk$RuleReader", 117, "alike"), ("DesignDesk$RuleReader", 119, "freedom"), ("DesignDesk$RuleReader", 121, "prior"), ("DesignDesk$RuleReader", 123, "dark"), ("DesignDesk$RuleReader", 125, "age"), ("DesignDesk$RuleReader", 143, "or"), ("DesignDesk$RuleReader", 145, "and"), ("DesignDesk", 243, "no such design"), ("DesignDesk", 251, "no such cell"), ("DesignDesk", 258, "a design with itself"), ("DesignDeskModel", 176, "design"), ("DesignDeskModel", 181, "rule"), ("DesignDeskModel", 164, "not"), ("DesignDeskModel", 141, "alike"), ("DesignDeskModel", 147, "freedom"), ("DesignDeskModel", 149, "prior"), ("DesignDeskModel", 151, "dark"), ("DesignDeskModel", 153, "age"), ("DesignDeskModel", 169, "and"), ("DesignDeskModel", 174, "or")]
def sByt : List (List Int32) := [[97, 32, 110, 117, 109, 98, 101, 114, 32, 116, 104, 97, 116, 32, 105, 115, 32, 110, 111, 110, 101, 32, 115, 117, 99, 104], [100, 101, 115, 105, 103, 110], [114, 117, 108, 101], [110, 111, 116], [97, 108, 105, 107, 101], [102, 114, 101, 101, 100, 111, 109], [112, 114, 105, 111, 114], [100, 97, 114, 107], [97, 103, 101], [111, 114], [97, 110, 100], [110, 111, 32, 115, 117, 99, 104, 32, 100, 101, 115, 105, 103, 110], [110, 111, 32, 115, 117, 99, 104, 32, 99, 101, 108, 108], [97, 32, 100, 101, 115, 105, 103, 110, 32, 119, 105, 116, 104, 32, 105, 116, 115, 101, 108, 102], [100, 101, 115, 105, 103, 110], [114, 117, 108, 101], [110, 111, 116], [97, 108, 105, 107, 101], [102, 114, 101, 101, 100, 111, 109], [112, 114, 105, 111, 114], [100, 97, 114, 107], [97, 103, 101], [97, 110, 100], [111, 114]]
def sB (i : Nat) : List Int32 := sByt.getD i []
end
section
/-! ===== where things lie: the base, the script's cell, length and ints, the texts and their bytes, the classes, a formatter ===== -/
abbrev Gm : Type := Nat × Nat × Nat × (Nat → Int32) × (Nat → Nat) × (Nat → Nat) × va_G × Option Nat
def gBase (G : Gm) : Nat := G.1
def gB (G : Gm) : Nat := G.2.1
def gL (G : Gm) : Nat := G.2.2.1
def gX (G : Gm) : Nat → Int32 := G.2.2.2.1
def gAK (G : Gm) : Nat → Nat := G.2.2.2.2.1
def gAV (G : Gm) : Nat → Nat := G.2.2.2.2.2.1
def gD (G : Gm) : va_G := G.2.2.2.2.2.2.1
def gF (G : Gm) : Option Nat := G.2.2.2.2.2.2.2
def gA (G : Gm) : Nat → Prop := fun q => gBase G ≤ q
def rho (G : Gm) (a : Nat) : Nat := if a = 1 then gB G else if a < 100 then (if a % 2 = 0 then gAK G ((a - 2) / 2) else gAV G ((a - 2) / 2)) else gBase G + (a - 100)
def rfo (G : Gm) (a : Nat) : Option Nat := if a = 0 then none else if a = 99 then gF G else some (rho G a)
def up (G : Gm) : AV → Value
  | .inl x => .int (Int32.ofInt x)
  | .inr (.inl x) => .long (Int64.ofInt x)
  | .inr (.inr a) => va_rf (rfo G a)
theorem rho_hi (G : Gm) {a : Nat} (h : 100 ≤ a) : rho G a = gBase G + (a - 100) := by
  unfold rho
  rw [if_neg (by omega), if_neg (by omega)]
theorem rfo_hi (G : Gm) {a : Nat} (h : 100 ≤ a) : rfo G a = some (rho G a) := by
  unfold rfo
  rw [if_neg (by omega), if_neg (by omega)]
theorem up_hi (G : Gm) {a : Nat} (h : 100 ≤ a) : up G (vR a) = .ref (rho G a) := by
  show va_rf (rfo G a) = _
  rw [rfo_hi G h]
  rfl
theorem up_lo (G : Gm) {a : Nat} (h : 0 < a) (h2 : a < 99) : up G (vR a) = .ref (rho G a) := by
  show va_rf (rfo G a) = _
  unfold rfo
  rw [if_neg (by omega), if_neg (by omega)]
  rfl
/-- words of the tables that are kept by laws of their own -/
def okW2 : Cond → Bool
  | .declares _ => true
  | .castable _ _ => true
  | .arrayOver _ => true
  | _ => false
theorem okW2_warm {w : Cond} (h : okW2 w = true) {s U : State} (hW : s.WarmedH U.vm) (hZ : va_Nw w s) : va_Nw w U := by
  unfold okW2 at h
  split at h
  · exact va_Nw.warmD hW hZ
  · exact va_Nw.warmC hW hZ
  · next ty =>
    have h1 : (Cond.arrayOver ty).before #[] (s.setVm U.vm) = true := by rw [Cond.arrayOver_setVmC hW.alike]; exact hZ
    exact h1
  · cases h
theorem okW2_use {w : Cond} (h : okW2 w = true) {A : Array Value} {U : State} (hZ : va_Nw w U) : w.before A U = true := by
  unfold okW2 at h
  split at h
  · exact va_Nw.use rfl hZ
  · exact va_Nw.use rfl hZ
  · exact hZ
  · cases h
def Wn (U : State) : Prop := (∀ w ∈ lw_tbl, okW2 w = true → va_Nw w U) ∧ va_Nc "java/lang/IllegalArgumentException" "java/util/NoSuchElementException" U
def Wd (G : Gm) (U : State) (H : Heap) : Prop :=
  va_K (gD G) vwCl [] U ∧ (∀ i, i < nS → vk_S 1 [(sB i).length] [sB i] (fun _ => gAK G i) (fun _ => gAV G i) (gA G) U H) ∧ va_X (gB G) (gL G) (gX G) U H ∧ gB G < gBase G ∧ (gL G < 2 ^ 31 ∧ Wn U) ∧
  (∀ i q, sSite[i]? = some q → vk_R q.1 q.2.1 q.2.2 (gAK G i) U) ∧
  vx_Zq Bundle.tN "UNASSIGNED_STACK" Bundle.steD (gA G) U H ∧ vx_Zq Bundle.tN "SUPPRESSED_SENTINEL" Bundle.listD (gA G) U H ∧
  va_Z "java/lang/String" "COMPACT_STRINGS" "Z" (.int 1) (gA G) U H ∧ va_Z "jdk/internal/util/Preconditions" "SIOOBE_FORMATTER" "Ljava/util/function/BiFunction;" (va_rf (gF G)) (gA G) U H
/-! ===== the heap that a memory stands for ===== -/
def arTy : Nat → Option FieldType
  | 13 => some .int
  | 14 => some .long
  | 15 => some .boolean
  | 16 => some (.object RX0)
  | 17 => some (.object RX1)
  | 18 => some (.object RX2)
  | 19 => some (.array .int)
  | _ => none
def fval (G : Gm) (m : Mem) (k a j : Nat) : Value := if (clTy k j).isReference = true then up G (vR (mFR m (64 * (k + 1) + j) a)) else .int (Int32.ofInt (mFI m (64 * (k + 1) + j) a))
def flds (G : Gm) (m : Mem) (k a N : Nat) : List Value := (List.range N).map (fval G m k a)
def aval (G : Gm) (m : Mem) (k a j : Nat) : Value := if k = 14 then .long (Int64.ofInt (mAL m a j)) else if 16 ≤ k then up G (vR (mAR m a j)) else .int (Int32.ofInt (mAI m a j))
def cOK (G : Gm) (U : State) (m : Mem) (a : Nat) (H : Heap) : Prop :=
  (∀ k q, vwCl[k]? = some q → mK m a = k + 1 → va_at (gD G) vwCl (rho G a, .inr (k, flds G m k a q.2.2)) H) ∧
  (∀ k ty, arTy k = some ty → mK m a = k → ∃ cA, H[rho G a]? = some (arrV cA (mLen m a) (aval G m k a)) ∧ ArrOfT U cA ty ∧ va_RA U cA ty) ∧ mK m a ≠ 20 ∧ mK m a ≠ 21
def kLow (a : Nat) : Nat := if a < 2 then 0 else if (a - 2) / 2 < nS then (if a % 2 = 0 then 20 else 21) else 0
def low (G : Gm) (m : Mem) : Prop :=
  mK m 1 = 13 ∧ mLen m 1 = gL G ∧ (∀ j, j < gL G → mAI m 1 j = (gX G j).toInt) ∧ (∀ a, a < 100 → a ≠ 1 → mK m a = kLow a) ∧
  ∀ i, i < nS → mFR m 1280 (2 + 2 * i) = 3 + 2 * i ∧ mFI m 1281 (2 + 2 * i) = 0 ∧ mLen m (3 + 2 * i) = (sB i).length ∧ ∀ j, j < (sB i).length → mAI m (3 + 2 * i) j = ((sB i).getD j 0).toInt
def Rep (G : Gm) (m : Mem) (U : State) (H : Heap) : Prop :=
  H.size = gBase G + mN m ∧ (∀ a, 100 + mN m ≤ a → mK m a = 0) ∧ low G m ∧ ∀ a, 100 ≤ a → a < 100 + mN m → cOK G U m a H
theorem Rep.dom {G : Gm} {m : Mem} {U : State} {H : Heap} (h : Rep G m U H) {a : Nat} (hk : mK m a ≠ 0) (ha : 100 ≤ a) : a < 100 + mN m := by
  rcases Nat.lt_or_ge a (100 + mN m) with q | q
  · exact q
  · exact absurd (h.2.1 a q) hk
/-- the same, but for what the cell a holds -/
def offA (m m' : Mem) (a : Nat) : Prop := mN m' = mN m ∧ mK m' = mK m ∧ mLen m' = mLen m ∧ ∀ b, b ≠ a → (∀ f, mFI m' f b = mFI m f b) ∧ (∀ f, mFR m' f b = mFR m f b) ∧ mAI m' b = mAI m b ∧ mAL m' b = mAL m b ∧ mAR m' b = mAR m b
theorem va_at.kept' {D : va_G} {cl : List vw_C} {q : Nat × va_E} {H H1 : Heap} (h : va_at D cl q H) (h1 : H1[q.1]? = H[q.1]?) : va_at D cl q H1 := by
  obtain ⟨a, e⟩ := q
  cases e with
  | inl x => show H1[a]? = _; exact h1.trans h
  | inr x =>
    obtain ⟨r, e1, e2⟩ := h
    exact ⟨r, e1, e2.kept h1⟩
theorem cOK.off {G : Gm} {U : State} {m m' : Mem} {H H' : Heap} {b : Nat} (h : cOK G U m b H) (hK : mK m' b = mK m b) (hL : mLen m' b = mLen m b) (h1 : ∀ f, mFI m' f b = mFI m f b) (h2 : ∀ f, mFR m' f b = mFR m f b) (h3 : mAI m' b = mAI m b) (h4 : mAL m' b = mAL m b) (h5 : mAR m' b = mAR m b) (hH : H'[rho G b]? = H[rho G b]?) : cOK G U m' b H' := by
  have e1 : ∀ k N, flds G m' k b N = flds G m k b N := by
    intro k N
    unfold flds
    refine List.map_congr_left fun j _ => ?_
    unfold fval
    rw [h1, h2]
  have e2 : ∀ k, aval G m' k b = aval G m k b := by
    intro k
    funext j
    unfold aval
    rw [h3, h4, h5]
  refine ⟨fun k q hq hk => ?_, fun k ty ht hk => ?_, by rw [hK]; exact h.2.2⟩
  · rw [e1]
    exact va_at.kept' (h.1 k q hq (by rw [← hK]; exact hk)) hH
  · obtain ⟨cA, q1, q2⟩ := h.2.1 k ty ht (by rw [← hK]; exact hk)
    exact ⟨cA, by rw [hH, e2, hL]; exact q1, q2⟩
theorem low.off {G : Gm} {m m' : Mem} {a : Nat} (h : low G m) (ha : 100 ≤ a) (o : offA m m' a) : low G m' := by
  obtain ⟨-, oK, oL, oo⟩ := o
  obtain ⟨h1, h2, h3, h4, h5⟩ := h
  refine ⟨by rw [oK]; exact h1, by rw [oL]; exact h2, fun j hj => by rw [(oo 1 (by omega)).2.2.1]; exact h3 j hj, fun b hb hb1 => by rw [oK]; exact h4 b hb hb1, fun i hi => ?_⟩
  have hi' : i < 24 := hi
  obtain ⟨g1, g2, g3, g4⟩ := h5 i hi
  refine ⟨?_, ?_, by rw [oL]; exact g3, fun j hj => ?_⟩
  · rw [(oo (2 + 2 * i) (by omega)).2.1]; exact g1
  · rw [(oo (2 + 2 * i) (by omega)).1]; exact g2
  · rw [(oo (3 + 2 * i) (by omega)).2.2.1]; exact g4 j hj
theorem Rep.upd {G : Gm} {U : State} {m m' : Mem} {H H' : Heap} {a : Nat} (h : Rep G m U H) (ha : 100 ≤ a) (o : offA m m' a) (hsz : H'.size = H.size) (hoff : ∀ q, q ≠ rho G a → H'[q]? = H[q]?) (hc : cOK G U m' a H') : Rep G m' U H' := by
  obtain ⟨r1, r2, r3, r4⟩ := h
  have o' := o
  obtain ⟨oN, oK, oL, oo⟩ := o'
  refine ⟨by rw [hsz, oN]; exact r1, fun b hb => by rw [oK]; exact r2 b (by rw [← oN]; exact hb), r3.off ha o, fun b hb hb2 => ?_⟩
  by_cases e : b = a
  · rw [e]; exact hc
  · obtain ⟨o1, o2, o3, o4, o5⟩ := oo b e
    refine (r4 b hb (by rw [← oN]; exact hb2)).off (by rw [oK]) (by rw [oL]) o1 o2 o3 o4 o5 (hoff _ ?_)
    rw [rho_hi G hb, rho_hi G ha]
    omega
theorem Rep.new {G : Gm} {U : State} {m : Mem} {H H' : Heap} {k len sz : Nat} (h : Rep G m U H) (hsz : H'.size = H.size + 1) (hoff : ∀ q, q < H.size → H'[q]? = H[q]?) (hc : cOK G U (alloc m k len sz) (100 + mN m) H') : Rep G (alloc m k len sz) U H' := by
  obtain ⟨r1, r2, r3, r4⟩ := h
  have hn : mN (alloc m k len sz) = mN m + 1 := rfl
  have eK : ∀ b, b ≠ 100 + mN m → mK (alloc m k len sz) b = mK m b := fun b hb => if_neg hb
  have eL : ∀ b, b ≠ 100 + mN m → mLen (alloc m k len sz) b = mLen m b := fun b hb => if_neg hb
  have e1 : ∀ b, b ≠ 100 + mN m → ∀ f, mFI (alloc m k len sz) f b = mFI m f b := fun b hb f => if_neg hb
  have e2 : ∀ b, b ≠ 100 + mN m → ∀ f, mFR (alloc m k len sz) f b = mFR m f b := fun b hb f => if_neg hb
  have e3 : ∀ b, b ≠ 100 + mN m → mAI (alloc m k len sz) b = mAI m b := fun b hb => if_neg hb
  have e4 : ∀ b, b ≠ 100 + mN m → mAL (alloc m k len sz) b = mAL m b := fun b hb => if_neg hb
  have e5 : ∀ b, b ≠ 100 + mN m → mAR (alloc m k len sz) b = mAR m b := fun b hb => if_neg hb
  refine ⟨by rw [hsz, hn, r1]; omega, fun b hb => ?_, ?_, fun b hb hb2 => ?_⟩
  · rw [hn] at hb
    rw [eK b (by omega)]
    exact r2 b (by omega)
  · obtain ⟨h1, h2, h3, h4, h5⟩ := r3
    refine ⟨by rw [eK 1 (by omega)]; exact h1, by rw [eL 1 (by omega)]; exact h2, fun j hj => by rw [e3 1 (by omega)]; exact h3 j hj, fun b hb hb1 => by rw [eK b (by omega)]; exact h4 b hb hb1, fun i hi => ?_⟩
    have hi' : i < 24 := hi
    obtain ⟨g1, g2, g3, g4⟩ := h5 i hi
    exact ⟨by rw [e2 _ (by omega)]; exact g1, by rw [e1 _ (by omega)]; exact g2, by rw [eL _ (by omega)]; exact g3, fun j hj => by rw [e3 _ (by omega)]; exact g4 j hj⟩
  · rw [hn] at hb2
    by_cases e : b = 100 + mN m
    · rw [e]; exact hc
    · refine (r4 b hb (by omega)).off (eK b e) (eL b e) (e1 b e) (e2 b e) (e3 b e) (e4 b e) (e5 b e) (hoff _ ?_)
      rw [rho_hi G hb, r1]
      omega
theorem cOK.moved {G : Gm} {u U : State} {m : Mem} {a : Nat} {H : Heap} (hvm : u.vm.Alike U.vm) (h : cOK G u m a H) : cOK G U m a H :=
  ⟨h.1, fun k ty ht hk => by
    obtain ⟨cA, q1, q2, q3⟩ := h.2.1 k ty ht hk
    exact ⟨cA, q1, arrOfT_moved hvm q2, q3.moved hvm⟩, h.2.2⟩
theorem Rep.moved {G : Gm} {u U : State} {m : Mem} {H : Heap} (hvm : u.vm.Alike U.vm) (h : Rep G m u H) : Rep G m U H := ⟨h.1, h.2.1, h.2.2.1, fun a h1 h2 => (h.2.2.2 a h1 h2).moved hvm⟩
theorem Wd.moved {G : Gm} {u U : State} {H : Heap} (hW : u.WarmedH U.vm) (h : Wd G u H) : Wd G U H := by
  obtain ⟨h1, h2, h3, h4, h5, h6, h7, h8, h9, h10⟩ := h
  exact ⟨va_K.moved hW.alike h1, fun i hi => (h2 i hi).moved hW.alike, h3.moved hW.alike, h4, ⟨h5.1, fun w hw hg => okW2_warm hg hW (h5.2.1 w hw hg), h5.2.2.moved hW.alike⟩, fun i q hq => (h6 i q hq).warm hW, h7.moved hW.alike, h8.moved hW.alike, h9.moved hW.alike, h10.moved hW.alike⟩
theorem Wd.kept {G : Gm} {U : State} {H H1 : Heap} (hb : gBase G ≤ H.size) (h : Wd G U H) (hq : ∀ a : Nat, a < H.size → ¬ gA G a → H1[a]? = H[a]?) : Wd G U H1 := by
  obtain ⟨h1, h2, h3, h4, h5, h6, h7, h8, h9, h10⟩ := h
  refine ⟨h1, fun i hi => (h2 i hi).kept hq, ?_, h4, h5, h6, h7.kept hq, h8.kept hq, h9.kept hq, h10.kept hq⟩
  obtain ⟨scr, g1, g2⟩ := h3
  exact ⟨scr, by rw [hq _ (by omega) (by unfold gA; omega)]; exact g1, g2⟩
/-! ===== locals ===== -/
def LR (G : Gm) (mls : Array Slot) (nL : Nat) (ls : Ls) : Prop := mls.size = nL ∧ lv_wf mls ∧ ∀ (i : Nat) (v : AV), ls[i]? = some (some v) → mls[i]? = some (.val (up G v))
def asc (G : Gm) (ls : Ls) : List (Nat × Value) := (List.range ls.length).filterMap fun i => match ls[i]? with
  | some (some v) => some (i, up G v)
  | _ => none
theorem mem_asc {G : Gm} {ls : Ls} {q : Nat × Value} : q ∈ asc G ls ↔ ∃ v, ls[q.1]? = some (some v) ∧ q.2 = up G v := by
  obtain ⟨i, w⟩ := q
  unfold asc
  rw [List.mem_filterMap]
  constructor
  · rintro ⟨j, hj, he⟩
    split at he
    · next v hv =>
      cases he
      exact ⟨v, hv, rfl⟩
    · cases he
  · rintro ⟨v, h1, h2⟩
    dsimp only at h1 h2
    refine ⟨i, List.mem_range.mpr (List.getElem?_eq_some_iff.mp h1).1, ?_⟩
    rw [h1, h2]
theorem LR.has {G : Gm} {mls : Array Slot} {nL : Nat} {ls : Ls} (h : LR G mls nL ls) : lv_has mls nL (asc G ls) := ⟨h.1, h.2.1, fun q hq => by
  obtain ⟨v, h1, h2⟩ := mem_asc.mp hq
  rw [h2]
  exact h.2.2 _ _ h1⟩
theorem up_cat (G : Gm) (v : AV) : (up G v).category = (match v with | .inr (.inl _) => 2 | _ => 1) := by
  match v with
  | .inl x => rfl
  | .inr (.inl x) => rfl
  | .inr (.inr a) =>
    show (va_rf (rfo G a)).category = 1
    cases rfo G a <;> rfl
theorem stL_get {ls : Ls} {i j : Nat} {v w : AV} (h : (stL ls i v)[j]? = some (some w)) : (j = i ∧ w = v) ∨ (j ≠ i ∧ ls[j]? = some (some w) ∧ (j + 1 = i → ∀ x, w ≠ .inr (.inl x))) := by
  unfold stL at h
  cases i with
  | zero =>
    dsimp only at h
    rw [List.getElem?_set] at h
    split at h
    · next e =>
      split at h
      · exact Or.inl ⟨e.symm, by cases h; rfl⟩
      · cases h
    · next e => exact Or.inr ⟨fun q => e q.symm, h, fun q => by omega⟩
  | succ i =>
    dsimp only at h
    split at h
    · next x hx =>
      rw [List.getElem?_set] at h
      split at h
      · next e =>
        split at h
        · exact Or.inl ⟨e.symm, by cases h; rfl⟩
        · cases h
      · next e =>
        rw [List.getElem?_set] at h
        split at h
        · split at h <;> cases h
        · next e2 => exact Or.inr ⟨fun q => e q.symm, h, fun q => absurd q (by omega)⟩
    · next hx =>
      rw [List.getElem?_set] at h
      split at h
      · next e =>
        split at h
        · exact Or.inl ⟨e.symm, by cases h; rfl⟩
        · cases h
      · next e =>
        refine Or.inr ⟨fun q => e q.symm, h, fun q x hw => ?_⟩
        have : j = i := by omega
        subst this
        subst hw
        exact hx x h
theorem LR.store {G : Gm} {mls' : Array Slot} {nL : Nat} {ls : Ls} {i : Nat} {v : AV} (h : lv_has mls' nL ((i, up G v) :: (asc G ls).filter (fun q => !(q.1 == i) && !(q.1 + 1 == i && q.2.category == 2)))) : LR G mls' nL (stL ls i v) := by
  refine ⟨h.1, h.2.1, fun j w hj => ?_⟩
  rcases stL_get hj with ⟨rfl, rfl⟩ | ⟨h1, h2, h3⟩
  · exact h.2.2 (j, up G w) List.mem_cons_self
  · refine h.2.2 (j, up G w) (List.mem_cons_of_mem _ (List.mem_filter.mpr ⟨mem_asc.mpr ⟨w, h2, rfl⟩, ?_⟩))
    have : ¬ (j + 1 = i ∧ (up G w).category = 2) := by
      rintro ⟨q1, q2⟩
      rw [up_cat] at q2
      match w, q2 with
      | .inr (.inl x), _ => exact h3 q1 x rfl
    simp only [Bool.and_eq_true, Bool.not_eq_true', Bool.and_eq_false_iff, beq_eq_false_iff_ne, ne_eq]
    refine ⟨h1, ?_⟩
    by_cases e : j + 1 = i
    · exact Or.inr fun q => this ⟨e, q⟩
    · exact Or.inl e
theorem LR.store2 {G : Gm} {mls' : Array Slot} {nL : Nat} {ls : Ls} {i : Nat} {x : Int} (h : lv_has mls' nL ((i, up G (vL x)) :: (asc G ls).filter (fun q => !(q.1 == i) && (!(q.1 == i + 1) && !(q.1 + 1 == i && q.2.category == 2))))) : LR G mls' nL (stL2 ls i x) := by
  refine ⟨h.1, h.2.1, fun j w hj => ?_⟩
  unfold stL2 at hj
  rw [List.getElem?_set] at hj
  split at hj
  · split at hj <;> cases hj
  · next hne =>
    rcases stL_get hj with ⟨rfl, rfl⟩ | ⟨h1, h2, h3⟩
    · exact h.2.2 (j, up G (vL x)) List.mem_cons_self
    · refine h.2.2 (j, up G w) (List.mem_cons_of_mem _ (List.mem_filter.mpr ⟨mem_asc.mpr ⟨w, h2, rfl⟩, ?_⟩))
      have : ¬ (j + 1 = i ∧ (up G w).category = 2) := by
        rintro ⟨q1, q2⟩
        rw [up_cat] at q2
        match w, q2 with
        | .inr (.inl x), _ => exact h3 q1 x rfl
      simp only [Bool.and_eq_true, Bool.not_eq_true', Bool.and_eq_false_iff, beq_eq_false_iff_ne, ne_eq]
      refine ⟨h1, fun q => hne q.symm, ?_⟩
      by_cases e : j + 1 = i
      · exact Or.inr fun q => this ⟨e, q⟩
      · exact Or.inl e
end
section
/-! ===== what an entry must agree with: the bytes, the tables ===== -/
def wAt (p : Nat) (w : Cond) : Bool := decide (lw_tbl[p]? = some w) && goodWord w
theorem wAt_mem {p : Nat} {w : Cond} (h : wAt p w = true) : w ∈ lw_good := by
  unfold wAt at h
  simp only [Bool.and_eq_true, decide_eq_true_eq] at h
  exact good_at p h.1 h.2
def wAtN (p : Nat) (w : Cond) : Bool := decide (lw_tbl[p]? = some w) && okW2 w
theorem wAtN_use {p : Nat} {w : Cond} (h : wAtN p w = true) : w ∈ lw_tbl ∧ okW2 w = true := by
  unfold wAtN at h
  simp only [Bool.and_eq_true, decide_eq_true_eq] at h
  exact ⟨List.mem_of_getElem? h.1, h.2⟩
def ilen (pc : Nat) (e : Ent) : Nat := match e.1 with
  | .iload _ => 2 | .lload _ => 2 | .aload _ => 2 | .istore _ => 2 | .lstore _ => 2 | .astore _ => 2 | .bipush _ => 2 | .ldc _ => 2 | .newarray _ => 2
  | .sipush _ => 3 | .iinc _ _ => 3 | .goto _ => 3 | .ifCond _ _ => 3 | .if_icmp _ _ => 3 | .ifnull _ => 3 | .ifnonnull _ => 3 | .getfield _ => 3 | .putfield _ => 3 | .getstatic _ => 3
  | .invokevirtual _ => 3 | .invokestatic _ => 3 | .invokespecial _ => 3 | .new _ => 3 | .anewarray _ => 3 | .ldc_w _ => 3 | .ldc2_w _ => 3
  | .multianewarray _ _ => 4
  | .tableswitch _ _ _ _ => e.2.1 - pc | .lookupswitch _ _ => e.2.1 - pc
  | _ => 1
/-- a field's entry: (field, kind, type, place of its link) -/
def fOk (y : Nat) (e : Ent) (idx : Nat) : Bool := bif Nat.beq (n2 e) 20 then
    (bif Nat.beq (n1 e) 1280 then Nat.beq (n3 e) 2 && wAt (e.2.2.1.getD 3 0) (.fieldLink (mC y) idx "java/lang/String" "value" "[B") else Nat.beq (n1 e) 1281 && Nat.beq (n3 e) 0 && wAt (e.2.2.1.getD 3 0) (.fieldLink (mC y) idx "java/lang/String" "coder" "B"))
  else match vwCl[n2 e - 1]? with
    | some q => decide (1 ≤ n2 e) && decide (n1 e = 64 * n2 e + (n1 e - 64 * n2 e)) && decide (n1 e - 64 * n2 e < q.2.2) && wAt (e.2.2.1.getD 3 0) (.fieldLink (mC y) idx (q.2.1 (n1 e - 64 * n2 e)).1 (q.2.1 (n1 e - 64 * n2 e)).2.1 (q.2.1 (n1 e - 64 * n2 e)).2.2.1) &&
        (match n3 e with
          | 0 => decide (clTy (n2 e - 1) (n1 e - 64 * n2 e) = .int)
          | 1 => decide (clTy (n2 e - 1) (n1 e - 64 * n2 e) = .boolean)
          | 2 => (clTy (n2 e - 1) (n1 e - 64 * n2 e)).isReference
          | _ => false)
    | none => false
def pOk (y : Nat) (e : Ent) : Bool := match vwCl[n2 e - 1]? with
  | some q => !(q.2.1 (n1 e - 64 * n2 e)).2.2.2 || (decide ((mNm y).name = "<init>") && decide ((q.2.1 (n1 e - 64 * n2 e)).1 = mC y))
  | none => false
def kindOf : ArrayType → Nat
  | .int => 13
  | .long => 14
  | .boolean => 15
  | _ => 0
def okX (y pc : Nat) (e : Ent) : Bool := match e.1 with
  | .istore i => decide (i < mL y)
  | .astore i => decide (i < mL y)
  | .istore_n i => decide (i.val < mL y)
  | .astore_n i => decide (i.val < mL y)
  | .iinc i _ => decide (i < mL y)
  | .lstore i => decide (i + 1 < mL y)
  | .lstore_n i => decide (i.val + 1 < mL y)
  | .bipush n => decide ((Int8.ofInt n).toInt32 = Int32.ofInt n)
  | .sipush n => decide ((Int16.ofInt n).toInt32 = Int32.ofInt n)
  | .goto o => decide ((pc : Int) + o = (n1 e : Int))
  | .ifCond _ o => decide ((pc : Int) + o = (n1 e : Int))
  | .if_icmp _ o => decide ((pc : Int) + o = (n1 e : Int))
  | .ifnull o => decide ((pc : Int) + o = (n1 e : Int))
  | .ifnonnull o => decide ((pc : Int) + o = (n1 e : Int))
  | .tableswitch d lo hi offs => decide ((pc : Int) + d = (n1 e : Int)) && decide ((offs.size : Int) = hi - lo + 1) && (List.range offs.size).all fun j => decide ((pc : Int) + offs.toList.getD j 0 = (e.2.2.1.getD (j + 1) 0 : Nat))
  | .lookupswitch d ps => decide ((pc : Int) + d = (n1 e : Int)) && decide (e.2.2.1.drop 1 = ps.toList.flatMap fun q => [q.1.toNat, ((pc : Int) + q.2).toNat]) && ps.toList.all (fun q => decide (0 ≤ q.1) && decide (0 ≤ (pc : Int) + q.2)) && (ps.toList.zip (ps.toList.drop 1)).all (fun (a, next) => a.1 < next.1)
  | .getfield idx => fOk y e idx
  | .putfield idx => fOk y e idx && pOk y e && !(Nat.beq (n2 e) 20)
  | .ldc idx => bif Nat.beq (n1 e) 0 then wAt (n2 e) (.constant (mC y) idx (Int32.ofInt e.2.2.2)) else decide (n2 e % 2 = 0 ∧ 2 ≤ n2 e ∧ n2 e < 98) && decide ((sSite[(n2 e - 2) / 2]?).map (fun q => (q.1, q.2.1)) = some (mC y, idx))
  | .ldc_w idx => wAt (n1 e) (.constant (mC y) idx (Int32.ofInt e.2.2.2))
  | .ldc2_w idx => wAt (n1 e) (.constantLong (mC y) idx (Int64.ofInt e.2.2.2))
  | .getstatic idx => bif Nat.beq (n1 e) 0 then decide (e.2.2.2 = 1) && wAt (n2 e) (.fieldLink (mC y) idx "java/lang/String" "COMPACT_STRINGS" "Z") else wAt (n2 e) (.fieldLink (mC y) idx "jdk/internal/util/Preconditions" "SIOOBE_FORMATTER" "Ljava/util/function/BiFunction;")
  | .new idx => match vwCl[n1 e - 1]? with
    | some q => decide (1 ≤ n1 e) && decide (n2 e = q.2.2) && wAt (n3 e) (.classLink (mC y) idx q.1)
    | none => false
  | .newarray t => decide (kindOf t = n1 e ∧ n1 e ≠ 0) && wAt (n2 e) (.arrayClass (newarray.typeOf t))
  | .anewarray idx => match arTy (n1 e) with
    | some (.object C) => decide (16 ≤ n1 e ∧ n1 e ≤ 18) && wAt (n2 e) (.classLink (mC y) idx C) && wAtN (n3 e) (.arrayOver (.object C))
    | _ => false
  | .multianewarray idx d => decide (d = 2) && wAt (n1 e) (.classLink (mC y) idx "[[I") && wAtN (n2 e) (.arrayOver (.array .int)) && wAt (n3 e) (.arrayClass .int)
  | .invokespecial idx => bif Nat.beq (n1 e) 999 then wAt (n2 e) (.methodLink (mC y) idx objectInit) && wAt (n3 e) (.instanceMethod objectInit) && wAt (e.2.2.1.getD 3 0) (.code objectInit ⟨#[0xb1]⟩ 1 none) else wAt (n2 e) (.methodLink (mC y) idx (mNm (n1 e))) && decide ((mNm (n1 e)).name = "<init>")
  | .invokestatic idx => bif Nat.beq (n1 e) 998 then wAt (n2 e) (.methodLink (mC y) idx arraycopyName) && wAt (n3 e) (.native arraycopyName) && wAt (e.2.2.1.getD 3 0) (.static arraycopyName) && wAt (e.2.2.1.getD 4 0) (.initialized "java/lang/System") else wAt (n2 e) (.methodLink (mC y) idx (mNm (n1 e)))
  | .invokevirtual idx => wAt (n2 e) (.methodLink (mC y) idx (mNm (n1 e)))
  | .ireturn => match n1 e with
    | 0 => decide (mR y = some .int)
    | 1 => decide (mR y = some .boolean)
    | _ => decide (mR y = some .char) || decide (mR y = some .byte)
  | .lreturn => decide (mR y = some .long)
  | .areturn => match mR y with
    | some (.object _) => true
    | some (.array _) => true
    | _ => false
  | .return_ => decide (mR y = none)
  | _ => true
def okB (y pc : Nat) (e : Ent) : Bool := decide (decode (mB y) pc = .ok (e.1, ilen pc e)) && decide (e.2.1 = pc + ilen pc e) && okX y pc e
abbrev okE (y pc : Nat) (e : Ent) : Prop := okB y pc e = true
theorem okE.use {y pc : Nat} {e : Ent} (h : okE y pc e) : decode (mB y) pc = .ok (e.1, ilen pc e) ∧ e.2.1 = pc + ilen pc e ∧ okX y pc e = true := by
  unfold okE okB at h
  simp only [Bool.and_eq_true, decide_eq_true_eq] at h
  exact ⟨h.1.1, h.1.2, h.2⟩
/-! ===== a run from here to the method's end ===== -/
def frD (d : Nat) : Nat := d + 12
def loD (d : Nat) : Nat := 60 * d + 200
def Cx (G : Gm) (y d : Nat) (p : Program) (l : Launch) (R : Room) (s : State) (mi : MethodId) (args : Array Value) (meth : Method) (c : Code) : Prop :=
  p.tables.exec = Jvm.exec ∧ c.code = mB y ∧ meth.sig.returnType = mR y ∧ c.maxLocals = mL y ∧ s.vm.findClass (mC y) = some mi.cls ∧ (∀ w ∈ lw_good, w.before args s = true) ∧ meth.locks = false ∧ c.exceptionTable.toList = tableOf (mH y) ∧ meth.name = (mNm y).name ∧
  Wd G s s.heap ∧ gBase G ≤ s.heap.size ∧ l.stackTraces = false ∧ frD d ≤ R.frames ∧ loD d ≤ R.locals
def exN (o : Nat) : String := if o = 1 then "java/util/NoSuchElementException" else "java/lang/IllegalArgumentException"
def QR (G : Gm) (m' : Mem) (o : Nat) (v : Option AV) : Array Value → State → Outcome → State → Prop := fun _ st oc t => o = 0 ∧ oc = .returned (v.map (up G)) ∧ Rep G m' t t.heap ∧ va_F (gA G) st t
def QX (G : Gm) (m' : Mem) (o : Nat) : String → State → State → Prop := fun E st t => o ≠ 0 ∧ E = exN o ∧ Rep G m' t t.heap ∧ va_F (gA G) st t
def Ev (d y pc : Nat) (ls : Ls) (st : List AV) (m m' : Mem) (o : Nat) (v : Option AV) : Prop :=
  mN m ≤ mN m' ∧ mZ m ≤ mZ m' ∧ ∀ (G : Gm) (p : Program) (l : Launch) (e : Env) (R : Room) (s : State) (mi : MethodId) (args : Array Value) (below : List Frame) (meth : Method) (c : Code) (n0 z0 : Nat) (H : Heap) (locs : List Loc) (mls : Array Slot),
    Cx G y d p l R s mi args meth c → mN m' - n0 ≤ R.cells → mZ m' - z0 ≤ R.slots → n0 ≤ mN m → z0 ≤ mZ m → Rep G m s H → va_S (gA G) s.heap H locs → LR G mls (mL y) ls →
    W p l e R s mi args below meth c H locs (mN m - n0) (mZ m - z0) (vx_MQ below (QR G m' o v) (QX G m' o) args s (mN m' - n0) (mZ m' - z0) (gA G)) (F0 mi pc mls (st.map (up G)))
def Ex (d y pc : Nat) (ls : Ls) (st : List AV) (m : Mem) (Q : Nat → Option AV → Mem → Prop) : Prop := ∃ o v m', Q o v m' ∧ Ev d y pc ls st m m' o v
/-- one step that makes nothing and writes no heap -/
theorem Ev_pure {d y pc nx : Nat} {ls ls' : Ls} {st st' : List AV} {m m' : Mem} {o : Nat} {v : Option AV} (h : Ev d y nx ls' st' m m' o v)
    (row : ∀ {G : Gm} {p : Program} {l : Launch} {e : Env} {R : Room} {s : State} {mi : MethodId} {args : Array Value} {below : List Frame} {meth : Method} {c : Code} {H : Heap} {locs : List Loc} {cells slots : Nat} {Qf : State → Prop} {mls : Array Slot},
      Cx G y d p l R s mi args meth c → Rep G m s H → va_S (gA G) s.heap H locs → LR G mls (mL y) ls →
      (∀ mls', LR G mls' (mL y) ls' → W p l e R s mi args below meth c H locs cells slots Qf (F0 mi nx mls' (st'.map (up G)))) →
      W p l e R s mi args below meth c H locs cells slots Qf (F0 mi pc mls (st.map (up G)))) : Ev d y pc ls st m m' o v := by
  refine ⟨h.1, h.2.1, fun G p l e R s mi args below meth c n0 z0 H locs mls C h1 h2 h3 h4 hR hS hL => ?_⟩
  exact row C hR hS hL fun mls' hL' => h.2.2 G p l e R s mi args below meth c n0 z0 H locs mls' C h1 h2 h3 h4 hR hS hL'
theorem Ex_pure {d y pc nx : Nat} {ls ls' : Ls} {st st' : List AV} {m : Mem} {Q : Nat → Option AV → Mem → Prop} (h : Ex d y nx ls' st' m Q)
    (row : ∀ {G : Gm} {p : Program} {l : Launch} {e : Env} {R : Room} {s : State} {mi : MethodId} {args : Array Value} {below : List Frame} {meth : Method} {c : Code} {H : Heap} {locs : List Loc} {cells slots : Nat} {Qf : State → Prop} {mls : Array Slot},
      Cx G y d p l R s mi args meth c → Rep G m s H → va_S (gA G) s.heap H locs → LR G mls (mL y) ls →
      (∀ mls', LR G mls' (mL y) ls' → W p l e R s mi args below meth c H locs cells slots Qf (F0 mi nx mls' (st'.map (up G)))) →
      W p l e R s mi args below meth c H locs cells slots Qf (F0 mi pc mls (st.map (up G)))) : Ex d y pc ls st m Q := by
  obtain ⟨o, v, m', hQ, hE⟩ := h
  exact ⟨o, v, m', hQ, Ev_pure hE row⟩
theorem w32_inj {x y : Int} : Int32.ofInt x = Int32.ofInt y ↔ w32 x = w32 y := by
  unfold w32
  exact Int32.toInt_inj.symm
theorem w32_0 : w32 0 = 0 := by decide
theorem w32_eq0 {x : Int} : Int32.ofInt x = 0 ↔ w32 x = 0 := by
  have := w32_inj (x := x) (y := 0)
  rw [w32_0] at this
  exact this
theorem w64_eq0 {x : Int} : Int64.ofInt x = 0 ↔ w64 x = 0 := by
  unfold w64
  constructor
  · intro h; rw [h]; decide
  · intro h; exact Int64.toInt_inj.mp (by rw [h]; decide)
section Steps1
variable {d y pc : Nat} {e : Ent} {ls : Ls} {st : List AV} {m : Mem} {Q : Nat → Option AV → Mem → Prop}
abbrev KE (d y : Nat) (Q : Nat → Option AV → Mem → Prop) : Kn := fun pc' ls' st' m' => Ex d y pc' ls' st' m' Q
theorem s_iconst {i : Int} {nx : Nat} {rs : List Nat} {c0 : Int} (hk : okE y pc (.iconst i, nx, rs, c0)) (h : Ex d y nx ls (vI i :: st) m Q) : Ex d y pc ls st m Q := by
  obtain ⟨k1, k2, -⟩ := hk.use
  refine Ex_pure h fun C hR hS hL k => ?_
  have k2 : nx = pc + 1 := k2
  subst k2
  exact lv_iconst C.1 C.2.1 k1 rfl (k _ hL)
theorem s_bipush {i : Int} {nx : Nat} {rs : List Nat} {c0 : Int} (hk : okE y pc (.bipush i, nx, rs, c0)) (h : Ex d y nx ls (vI i :: st) m Q) : Ex d y pc ls st m Q := by
  obtain ⟨k1, k2, k3⟩ := hk.use
  refine Ex_pure h fun C hR hS hL k => ?_
  have k2 : nx = pc + 2 := k2
  subst k2
  exact lv_bipush C.1 C.2.1 k1 (of_decide_eq_true k3) (k _ hL)
theorem s_sipush {i : Int} {nx : Nat} {rs : List Nat} {c0 : Int} (hk : okE y pc (.sipush i, nx, rs, c0)) (h : Ex d y nx ls (vI i :: st) m Q) : Ex d y pc ls st m Q := by
  obtain ⟨k1, k2, k3⟩ := hk.use
  refine Ex_pure h fun C hR hS hL k => ?_
  have k2 : nx = pc + 3 := k2
  subst k2
  exact lv_sipush C.1 C.2.1 k1 (of_decide_eq_true k3) (k _ hL)
theorem s_iadd {x z : Int} {nx : Nat} {rs : List Nat} {c0 : Int} {r : List AV} (hk : okE y pc (.iadd, nx, rs, c0)) (h : Ex d y nx ls (vI (x + z) :: r) m Q) : Ex d y pc ls (vI z :: vI x :: r) m Q := by
  obtain ⟨k1, k2, -⟩ := hk.use
  refine Ex_pure h fun C hR hS hL k => ?_
  have k2 : nx = pc + 1 := k2
  subst k2
  refine lv_iadd C.1 C.2.1 k1 ?_
  rw [← Int32.ofInt_add]
  exact k _ hL
end Steps1
end
section
/-! ===== rows of the plain instructions, by program ===== -/
section Steps2
variable {d y pc : Nat} {ls : Ls} {st : List AV} {m : Mem} {Q : Nat → Option AV → Mem → Prop} {nx : Nat} {rs : List Nat} {c0 : Int} {r : List AV}
theorem up_ref (G : Gm) (a : Nat) : up G (vR a) = .null ∨ ∃ q, up G (vR a) = .ref q := by
  show va_rf (rfo G a) = _ ∨ ∃ q, va_rf (rfo G a) = _
  cases rfo G a with
  | none => exact Or.inl rfl
  | some q => exact Or.inr ⟨q, rfl⟩
theorem up_0 (G : Gm) : up G (vR 0) = .null := rfl
theorem up_ne (G : Gm) {a : Nat} (h : a ≠ 0) (h2 : a ≠ 99) : ∃ q, up G (vR a) = .ref q := by
  show ∃ q, va_rf (rfo G a) = _
  unfold rfo
  rw [if_neg h, if_neg h2]
  exact ⟨_, rfl⟩
theorem s_isub {x z : Int} (hk : okE y pc (.isub, nx, rs, c0)) (h : Ex d y nx ls (vI (x - z) :: r) m Q) : Ex d y pc ls (vI z :: vI x :: r) m Q := by
  obtain ⟨k1, k2, -⟩ := hk.use
  refine Ex_pure h fun {G _ _ _ _ _ _ _ _ _ _ _ _ _ _ _ _} C hR hS hL k => ?_
  have k2 : nx = pc + 1 := k2
  subst k2
  refine lv_isub C.1 C.2.1 k1 ?_
  rw [← Int32.ofInt_sub]
  exact k _ hL
theorem s_imul {x z : Int} (hk : okE y pc (.imul, nx, rs, c0)) (h : Ex d y nx ls (vI (x * z) :: r) m Q) : Ex d y pc ls (vI z :: vI x :: r) m Q := by
  obtain ⟨k1, k2, -⟩ := hk.use
  refine Ex_pure h fun {G _ _ _ _ _ _ _ _ _ _ _ _ _ _ _ _} C hR hS hL k => ?_
  have k2 : nx = pc + 1 := k2
  subst k2
  refine lv_imul C.1 C.2.1 k1 ?_
  rw [← Int32.ofInt_mul]
  exact k _ hL
theorem s_lsub {x z : Int} (hk : okE y pc (.lsub, nx, rs, c0)) (h : Ex d y nx ls (vL (x - z) :: r) m Q) : Ex d y pc ls (vL z :: vL x :: r) m Q := by
  obtain ⟨k1, k2, -⟩ := hk.use
  refine Ex_pure h fun {G _ _ _ _ _ _ _ _ _ _ _ _ _ _ _ _} C hR hS hL k => ?_
  have k2 : nx = pc + 1 := k2
  subst k2
  refine lv_lsub C.1 C.2.1 k1 ?_
  rw [← Int64.ofInt_sub]
  exact k _ hL
theorem s_lmul {x z : Int} (hk : okE y pc (.lmul, nx, rs, c0)) (h : Ex d y nx ls (vL (x * z) :: r) m Q) : Ex d y pc ls (vL z :: vL x :: r) m Q := by
  obtain ⟨k1, k2, -⟩ := hk.use
  refine Ex_pure h fun {G _ _ _ _ _ _ _ _ _ _ _ _ _ _ _ _} C hR hS hL k => ?_
  have k2 : nx = pc + 1 := k2
  subst k2
  refine lv_lmul C.1 C.2.1 k1 ?_
  rw [← Int64.ofInt_mul]
  exact k _ hL
theorem s_ladd {x z : Int} (hk : okE y pc (.ladd, nx, rs, c0)) (h : Ex d y nx ls (vL (x + z) :: r) m Q) : Ex d y pc ls (vL z :: vL x :: r) m Q := by
  obtain ⟨k1, k2, -⟩ := hk.use
  refine Ex_pure h fun {G _ _ _ _ _ _ _ _ _ _ _ _ _ _ _ _} C hR hS hL k => ?_
  have k2 : nx = pc + 1 := k2
  subst k2
  refine lv_ladd C.1 C.2.1 k1 ?_
  rw [← Int64.ofInt_add]
  exact k _ hL
theorem s_iand {x z : Int} (hk : okE y pc (.iand, nx, rs, c0)) (h : Ex d y nx ls (vI (iAnd x z) :: r) m Q) : Ex d y pc ls (vI z :: vI x :: r) m Q := by
  obtain ⟨k1, k2, -⟩ := hk.use
  refine Ex_pure h fun {G _ _ _ _ _ _ _ _ _ _ _ _ _ _ _ _} C hR hS hL k => ?_
  have k2 : nx = pc + 1 := k2
  subst k2
  refine lv_iand C.1 C.2.1 k1 ?_
  rw [show (Int32.ofInt x &&& Int32.ofInt z) = Int32.ofInt (iAnd x z) from (Int32.ofInt_toInt _).symm]
  exact k _ hL
theorem s_ior {x z : Int} (hk : okE y pc (.ior, nx, rs, c0)) (h : Ex d y nx ls (vI (iOr x z) :: r) m Q) : Ex d y pc ls (vI z :: vI x :: r) m Q := by
  obtain ⟨k1, k2, -⟩ := hk.use
  refine Ex_pure h fun {G _ _ _ _ _ _ _ _ _ _ _ _ _ _ _ _} C hR hS hL k => ?_
  have k2 : nx = pc + 1 := k2
  subst k2
  refine lv_ior C.1 C.2.1 k1 ?_
  rw [show (Int32.ofInt x ||| Int32.ofInt z) = Int32.ofInt (iOr x z) from (Int32.ofInt_toInt _).symm]
  exact k _ hL
theorem s_ixor {x z : Int} (hk : okE y pc (.ixor, nx, rs, c0)) (h : Ex d y nx ls (vI (iXor x z) :: r) m Q) : Ex d y pc ls (vI z :: vI x :: r) m Q := by
  obtain ⟨k1, k2, -⟩ := hk.use
  refine Ex_pure h fun {G _ _ _ _ _ _ _ _ _ _ _ _ _ _ _ _} C hR hS hL k => ?_
  have k2 : nx = pc + 1 := k2
  subst k2
  refine lv_ixor C.1 C.2.1 k1 ?_
  rw [show (Int32.ofInt x ^^^ Int32.ofInt z) = Int32.ofInt (iXor x z) from (Int32.ofInt_toInt _).symm]
  exact k _ hL
theorem s_ishl {x z : Int} (hk : okE y pc (.ishl, nx, rs, c0)) (h : Ex d y nx ls (vI (iShl x z) :: r) m Q) : Ex d y pc ls (vI z :: vI x :: r) m Q := by
  obtain ⟨k1, k2, -⟩ := hk.use
  refine Ex_pure h fun {G _ _ _ _ _ _ _ _ _ _ _ _ _ _ _ _} C hR hS hL k => ?_
  have k2 : nx = pc + 1 := k2
  subst k2
  refine lv_ishl C.1 C.2.1 k1 ?_
  rw [show (Int32.ofInt x <<< (Int32.ofInt z &&& 31)) = Int32.ofInt (iShl x z) from (Int32.ofInt_toInt _).symm]
  exact k _ hL
theorem s_ishr {x z : Int} (hk : okE y pc (.ishr, nx, rs, c0)) (h : Ex d y nx ls (vI (iShr x z) :: r) m Q) : Ex d y pc ls (vI z :: vI x :: r) m Q := by
  obtain ⟨k1, k2, -⟩ := hk.use
  refine Ex_pure h fun {G _ _ _ _ _ _ _ _ _ _ _ _ _ _ _ _} C hR hS hL k => ?_
  have k2 : nx = pc + 1 := k2
  subst k2
  refine lv_ishr C.1 C.2.1 k1 ?_
  rw [show (Int32.ofInt x >>> (Int32.ofInt z &&& 31)) = Int32.ofInt (iShr x z) from (Int32.ofInt_toInt _).symm]
  exact k _ hL
theorem s_land {x z : Int} (hk : okE y pc (.land, nx, rs, c0)) (h : Ex d y nx ls (vL (lAnd x z) :: r) m Q) : Ex d y pc ls (vL z :: vL x :: r) m Q := by
  obtain ⟨k1, k2, -⟩ := hk.use
  refine Ex_pure h fun {G _ _ _ _ _ _ _ _ _ _ _ _ _ _ _ _} C hR hS hL k => ?_
  have k2 : nx = pc + 1 := k2
  subst k2
  refine lv_land C.1 C.2.1 k1 ?_
  rw [show (Int64.ofInt x &&& Int64.ofInt z) = Int64.ofInt (lAnd x z) from (Int64.ofInt_toInt _).symm]
  exact k _ hL
theorem s_lor {x z : Int} (hk : okE y pc (.lor, nx, rs, c0)) (h : Ex d y nx ls (vL (lOr x z) :: r) m Q) : Ex d y pc ls (vL z :: vL x :: r) m Q := by
  obtain ⟨k1, k2, -⟩ := hk.use
  refine Ex_pure h fun {G _ _ _ _ _ _ _ _ _ _ _ _ _ _ _ _} C hR hS hL k => ?_
  have k2 : nx = pc + 1 := k2
  subst k2
  refine lv_lor C.1 C.2.1 k1 ?_
  rw [show (Int64.ofInt x ||| Int64.ofInt z) = Int64.ofInt (lOr x z) from (Int64.ofInt_toInt _).symm]
  exact k _ hL
theorem s_lxor {x z : Int} (hk : okE y pc (.lxor, nx, rs, c0)) (h : Ex d y nx ls (vL (lXor x z) :: r) m Q) : Ex d y pc ls (vL z :: vL x :: r) m Q := by
  obtain ⟨k1, k2, -⟩ := hk.use
  refine Ex_pure h fun {G _ _ _ _ _ _ _ _ _ _ _ _ _ _ _ _} C hR hS hL k => ?_
  have k2 : nx = pc + 1 := k2
  subst k2
  refine lv_lxor C.1 C.2.1 k1 ?_
  rw [show (Int64.ofInt x ^^^ Int64.ofInt z) = Int64.ofInt (lXor x z) from (Int64.ofInt_toInt _).symm]
  exact k _ hL
theorem s_iushr {x z : Int} (hk : okE y pc (.iushr, nx, rs, c0)) (h : Ex d y nx ls (vI (iUshr x z) :: r) m Q) : Ex d y pc ls (vI z :: vI x :: r) m Q := by
  obtain ⟨k1, k2, -⟩ := hk.use
  refine Ex_pure h fun {G _ _ _ _ _ _ _ _ _ _ _ _ _ _ _ _} C hR hS hL k => ?_
  have k2 : nx = pc + 1 := k2
  subst k2
  exact lv_iushr C.1 C.2.1 k1 (Int32.ofInt_toInt _).symm (k _ hL)
theorem s_lshl {x z : Int} (hk : okE y pc (.lshl, nx, rs, c0)) (h : Ex d y nx ls (vL (lShl x z) :: r) m Q) : Ex d y pc ls (vI z :: vL x :: r) m Q := by
  obtain ⟨k1, k2, -⟩ := hk.use
  refine Ex_pure h fun {G _ _ _ _ _ _ _ _ _ _ _ _ _ _ _ _} C hR hS hL k => ?_
  have k2 : nx = pc + 1 := k2
  subst k2
  exact lv_lshl C.1 C.2.1 k1 (Int64.ofInt_toInt _).symm (k _ hL)
theorem s_lshr {x z : Int} (hk : okE y pc (.lshr, nx, rs, c0)) (h : Ex d y nx ls (vL (lShr x z) :: r) m Q) : Ex d y pc ls (vI z :: vL x :: r) m Q := by
  obtain ⟨k1, k2, -⟩ := hk.use
  refine Ex_pure h fun {G _ _ _ _ _ _ _ _ _ _ _ _ _ _ _ _} C hR hS hL k => ?_
  have k2 : nx = pc + 1 := k2
  subst k2
  exact lv_lshr C.1 C.2.1 k1 (Int64.ofInt_toInt _).symm (k _ hL)
theorem s_lushr {x z : Int} (hk : okE y pc (.lushr, nx, rs, c0)) (h : Ex d y nx ls (vL (lUshr x z) :: r) m Q) : Ex d y pc ls (vI z :: vL x :: r) m Q := by
  obtain ⟨k1, k2, -⟩ := hk.use
  refine Ex_pure h fun {G _ _ _ _ _ _ _ _ _ _ _ _ _ _ _ _} C hR hS hL k => ?_
  have k2 : nx = pc + 1 := k2
  subst k2
  exact lv_lushr C.1 C.2.1 k1 (Int64.ofInt_toInt _).symm (k _ hL)
theorem w64_w32 (x : Int) : w64 (w32 x) = w32 x := by
  unfold w64 w32
  rw [Int64.toInt_ofInt_of_le]
  · have := Int32.le_toInt (Int32.ofInt x); omega
  · have := Int32.toInt_lt (Int32.ofInt x); omega
theorem s_i2l {x : Int} (hk : okE y pc (.i2l, nx, rs, c0)) (h : Ex d y nx ls (vL (w32 x) :: r) m Q) : Ex d y pc ls (vI x :: r) m Q := by
  obtain ⟨k1, k2, -⟩ := hk.use
  refine Ex_pure h fun {G _ _ _ _ _ _ _ _ _ _ _ _ _ _ _ _} C hR hS hL k => ?_
  have k2 : nx = pc + 1 := k2
  subst k2
  exact lv_i2l C.1 C.2.1 k1 (Int64.toInt_inj.mp (by rw [Int32.toInt_toInt64]; show w32 x = w64 (w32 x); exact (w64_w32 x).symm)) (k _ hL)
theorem s_i2c {x : Int} (hk : okE y pc (.i2c, nx, rs, c0)) (h : Ex d y nx ls (vI (i2cF x) :: r) m Q) : Ex d y pc ls (vI x :: r) m Q := by
  obtain ⟨k1, k2, -⟩ := hk.use
  refine Ex_pure h fun {G _ _ _ _ _ _ _ _ _ _ _ _ _ _ _ _} C hR hS hL k => ?_
  have k2 : nx = pc + 1 := k2
  subst k2
  exact lv_i2c C.1 C.2.1 k1 (Int32.ofInt_toInt _).symm (k _ hL)
theorem s_l2i {x : Int} (hk : okE y pc (.l2i, nx, rs, c0)) (h : Ex d y nx ls (vI (l2iF x) :: r) m Q) : Ex d y pc ls (vL x :: r) m Q := by
  obtain ⟨k1, k2, -⟩ := hk.use
  refine Ex_pure h fun {G _ _ _ _ _ _ _ _ _ _ _ _ _ _ _ _} C hR hS hL k => ?_
  have k2 : nx = pc + 1 := k2
  subst k2
  exact lv_l2i C.1 C.2.1 k1 (Int32.ofInt_toInt _).symm (k _ hL)
theorem s_lcmp {x z : Int} (hk : okE y pc (.lcmp, nx, rs, c0)) (h : Ex d y nx ls (vI (lCmp x z) :: r) m Q) : Ex d y pc ls (vL z :: vL x :: r) m Q := by
  obtain ⟨k1, k2, -⟩ := hk.use
  refine Ex_pure h fun {G _ _ _ _ _ _ _ _ _ _ _ _ _ _ _ _} C hR hS hL k => ?_
  have k2 : nx = pc + 1 := k2
  subst k2
  refine W.lcmp C.1 C.2.1 k1 ?_
  rw [show lg_cmp (Int64.ofInt x) (Int64.ofInt z) = Int32.ofInt (lCmp x z) from (Int32.ofInt_toInt _).symm]
  exact k _ hL
theorem s_ineg {x : Int} (hk : okE y pc (.ineg, nx, rs, c0)) (h : Ex d y nx ls (vI (-x) :: r) m Q) : Ex d y pc ls (vI x :: r) m Q := by
  obtain ⟨k1, k2, -⟩ := hk.use
  refine Ex_pure h fun {G _ _ _ _ _ _ _ _ _ _ _ _ _ _ _ _} C hR hS hL k => ?_
  have k2 : nx = pc + 1 := k2
  subst k2
  refine lv_ineg C.1 C.2.1 k1 ?_
  rw [← Int32.ofInt_neg]
  exact k _ hL
theorem s_idiv {x z : Int} (hz : w32 z ≠ 0) (hk : okE y pc (.idiv, nx, rs, c0)) (h : Ex d y nx ls (vI (iDiv x z) :: r) m Q) : Ex d y pc ls (vI z :: vI x :: r) m Q := by
  obtain ⟨k1, k2, -⟩ := hk.use
  refine Ex_pure h fun {G _ _ _ _ _ _ _ _ _ _ _ _ _ _ _ _} C hR hS hL k => ?_
  have k2 : nx = pc + 1 := k2
  subst k2
  refine lv_idiv C.1 C.2.1 k1 (fun q => hz (w32_eq0.mp q)) ?_
  rw [show (Int32.ofInt x / Int32.ofInt z) = Int32.ofInt (iDiv x z) from (Int32.ofInt_toInt _).symm]
  exact k _ hL
theorem s_irem {x z : Int} (hz : w32 z ≠ 0) (hk : okE y pc (.irem, nx, rs, c0)) (h : Ex d y nx ls (vI (iRem x z) :: r) m Q) : Ex d y pc ls (vI z :: vI x :: r) m Q := by
  obtain ⟨k1, k2, -⟩ := hk.use
  refine Ex_pure h fun {G _ _ _ _ _ _ _ _ _ _ _ _ _ _ _ _} C hR hS hL k => ?_
  have k2 : nx = pc + 1 := k2
  subst k2
  refine lv_irem C.1 C.2.1 k1 (fun q => hz (w32_eq0.mp q)) ?_
  rw [show (Int32.ofInt x - Int32.ofInt x / Int32.ofInt z * Int32.ofInt z) = Int32.ofInt (iRem x z) from (Int32.ofInt_toInt _).symm]
  exact k _ hL
theorem s_ldiv {x z : Int} (hz : w64 z ≠ 0) (hk : okE y pc (.ldiv, nx, rs, c0)) (h : Ex d y nx ls (vL (lDiv x z) :: r) m Q) : Ex d y pc ls (vL z :: vL x :: r) m Q := by
  obtain ⟨k1, k2, -⟩ := hk.use
  refine Ex_pure h fun {G _ _ _ _ _ _ _ _ _ _ _ _ _ _ _ _} C hR hS hL k => ?_
  have k2 : nx = pc + 1 := k2
  subst k2
  refine lv_ldiv C.1 C.2.1 k1 (fun q => hz (w64_eq0.mp q)) ?_
  rw [show (Int64.ofInt x / Int64.ofInt z) = Int64.ofInt (lDiv x z) from (Int64.ofInt_toInt _).symm]
  exact k _ hL
theorem s_lconst {i : Fin 2} (hk : okE y pc (.lconst i, nx, rs, c0)) (h : Ex d y nx ls (vL (i.val : Int) :: st) m Q) : Ex d y pc ls st m Q := by
  obtain ⟨k1, k2, -⟩ := hk.use
  refine Ex_pure h fun {G _ _ _ _ _ _ _ _ _ _ _ _ _ _ _ _} C hR hS hL k => ?_
  have k2 : nx = pc + 1 := k2
  subst k2
  exact lv_lconst C.1 C.2.1 k1 (by rw [← Int64.ofInt_eq_ofNat]) (k _ hL)
theorem s_aconst (hk : okE y pc (.aconst_null, nx, rs, c0)) (h : Ex d y nx ls (vR 0 :: st) m Q) : Ex d y pc ls st m Q := by
  obtain ⟨k1, k2, -⟩ := hk.use
  refine Ex_pure h fun {G _ _ _ _ _ _ _ _ _ _ _ _ _ _ _ _} C hR hS hL k => ?_
  have k2 : nx = pc + 1 := k2
  subst k2
  exact lv_null C.1 C.2.1 k1 (k _ hL)
theorem s_dupI {x : Int} (hk : okE y pc (.dup, nx, rs, c0)) (h : Ex d y nx ls (vI x :: vI x :: r) m Q) : Ex d y pc ls (vI x :: r) m Q := by
  obtain ⟨k1, k2, -⟩ := hk.use
  refine Ex_pure h fun {G _ _ _ _ _ _ _ _ _ _ _ _ _ _ _ _} C hR hS hL k => ?_
  have k2 : nx = pc + 1 := k2
  subst k2
  exact lv_dup C.1 C.2.1 k1 rfl (k _ hL)
theorem s_dupR {x : Nat} (hk : okE y pc (.dup, nx, rs, c0)) (h : Ex d y nx ls (vR x :: vR x :: r) m Q) : Ex d y pc ls (vR x :: r) m Q := by
  obtain ⟨k1, k2, -⟩ := hk.use
  refine Ex_pure h fun {G _ _ _ _ _ _ _ _ _ _ _ _ _ _ _ _} C hR hS hL k => ?_
  have k2 : nx = pc + 1 := k2
  subst k2
  exact lv_dup C.1 C.2.1 k1 (up_cat G (vR x)) (k _ hL)
theorem s_dup2 {i : Int} {x : Nat} (hk : okE y pc (.dup2, nx, rs, c0)) (h : Ex d y nx ls (vI i :: vR x :: vI i :: vR x :: r) m Q) : Ex d y pc ls (vI i :: vR x :: r) m Q := by
  obtain ⟨k1, k2, -⟩ := hk.use
  refine Ex_pure h fun {G _ _ _ _ _ _ _ _ _ _ _ _ _ _ _ _} C hR hS hL k => ?_
  have k2 : nx = pc + 1 := k2
  subst k2
  exact lv_dup2_11 C.1 C.2.1 k1 rfl (up_cat G (vR x)) (k _ hL)
theorem s_popI {x : Int} (hk : okE y pc (.pop, nx, rs, c0)) (h : Ex d y nx ls r m Q) : Ex d y pc ls (vI x :: r) m Q := by
  obtain ⟨k1, k2, -⟩ := hk.use
  refine Ex_pure h fun {G _ _ _ _ _ _ _ _ _ _ _ _ _ _ _ _} C hR hS hL k => ?_
  have k2 : nx = pc + 1 := k2
  subst k2
  exact lv_pop C.1 C.2.1 k1 rfl (k _ hL)
theorem s_popR {x : Nat} (hk : okE y pc (.pop, nx, rs, c0)) (h : Ex d y nx ls r m Q) : Ex d y pc ls (vR x :: r) m Q := by
  obtain ⟨k1, k2, -⟩ := hk.use
  refine Ex_pure h fun {G _ _ _ _ _ _ _ _ _ _ _ _ _ _ _ _} C hR hS hL k => ?_
  have k2 : nx = pc + 1 := k2
  subst k2
  exact lv_pop C.1 C.2.1 k1 (up_cat G (vR x)) (k _ hL)
theorem s_iload {i : Nat} {x : Int} (hl : ls[i]? = some (some (vI x))) (hk : okE y pc (.iload i, nx, rs, c0)) (h : Ex d y nx ls (vI x :: st) m Q) : Ex d y pc ls st m Q := by
  obtain ⟨k1, k2, -⟩ := hk.use
  refine Ex_pure h fun {G _ _ _ _ _ _ _ _ _ _ _ _ _ _ _ _} C hR hS hL k => ?_
  have k2 : nx = pc + 2 := k2
  subst k2
  exact lv_iload C.1 C.2.1 k1 (hL.2.2 _ _ hl) (k _ hL)
theorem s_iload_n {i : Fin 4} {x : Int} (hl : ls[i.val]? = some (some (vI x))) (hk : okE y pc (.iload_n i, nx, rs, c0)) (h : Ex d y nx ls (vI x :: st) m Q) : Ex d y pc ls st m Q := by
  obtain ⟨k1, k2, -⟩ := hk.use
  refine Ex_pure h fun {G _ _ _ _ _ _ _ _ _ _ _ _ _ _ _ _} C hR hS hL k => ?_
  have k2 : nx = pc + 1 := k2
  subst k2
  exact lv_iload_n C.1 C.2.1 k1 rfl (hL.2.2 _ _ hl) (k _ hL)
theorem s_lload {i : Nat} {x : Int} (hl : ls[i]? = some (some (vL x))) (hk : okE y pc (.lload i, nx, rs, c0)) (h : Ex d y nx ls (vL x :: st) m Q) : Ex d y pc ls st m Q := by
  obtain ⟨k1, k2, -⟩ := hk.use
  refine Ex_pure h fun {G _ _ _ _ _ _ _ _ _ _ _ _ _ _ _ _} C hR hS hL k => ?_
  have k2 : nx = pc + 2 := k2
  subst k2
  exact lv_lload C.1 C.2.1 k1 (hL.2.2 _ _ hl) (k _ hL)
theorem s_lload_n {i : Fin 4} {x : Int} (hl : ls[i.val]? = some (some (vL x))) (hk : okE y pc (.lload_n i, nx, rs, c0)) (h : Ex d y nx ls (vL x :: st) m Q) : Ex d y pc ls st m Q := by
  obtain ⟨k1, k2, -⟩ := hk.use
  refine Ex_pure h fun {G _ _ _ _ _ _ _ _ _ _ _ _ _ _ _ _} C hR hS hL k => ?_
  have k2 : nx = pc + 1 := k2
  subst k2
  exact lv_lload_n C.1 C.2.1 k1 rfl (hL.2.2 _ _ hl) (k _ hL)
theorem s_aload {i : Nat} {x : Nat} (hl : ls[i]? = some (some (vR x))) (hk : okE y pc (.aload i, nx, rs, c0)) (h : Ex d y nx ls (vR x :: st) m Q) : Ex d y pc ls st m Q := by
  obtain ⟨k1, k2, -⟩ := hk.use
  refine Ex_pure h fun {G _ _ _ _ _ _ _ _ _ _ _ _ _ _ _ _} C hR hS hL k => ?_
  have k2 : nx = pc + 2 := k2
  subst k2
  have hv := hL.2.2 _ _ hl
  have k9 := k _ hL
  rw [List.map_cons] at k9
  rcases up_ref G x with e | ⟨q, e⟩
  · rw [e] at hv k9
    exact lv_aloadN C.1 C.2.1 k1 hv k9
  · rw [e] at hv k9
    exact lv_aload C.1 C.2.1 k1 hv k9
theorem s_aload_n {i : Fin 4} {x : Nat} (hl : ls[i.val]? = some (some (vR x))) (hk : okE y pc (.aload_n i, nx, rs, c0)) (h : Ex d y nx ls (vR x :: st) m Q) : Ex d y pc ls st m Q := by
  obtain ⟨k1, k2, -⟩ := hk.use
  refine Ex_pure h fun {G _ _ _ _ _ _ _ _ _ _ _ _ _ _ _ _} C hR hS hL k => ?_
  have k2 : nx = pc + 1 := k2
  subst k2
  have hv := hL.2.2 _ _ hl
  have k9 := k _ hL
  rw [List.map_cons] at k9
  rcases up_ref G x with e | ⟨q, e⟩
  · rw [e] at hv k9
    exact lv_aload_nN C.1 C.2.1 k1 rfl hv k9
  · rw [e] at hv k9
    exact lv_aload_n C.1 C.2.1 k1 rfl hv k9
theorem s_istore {i : Nat} {x : Int} (hk : okE y pc (.istore i, nx, rs, c0)) (h : Ex d y nx (stL ls i (vI x)) r m Q) : Ex d y pc ls (vI x :: r) m Q := by
  obtain ⟨k1, k2, k3⟩ := hk.use
  refine Ex_pure h fun {G _ _ _ _ _ _ _ _ _ _ _ _ _ _ _ _} C hR hS hL k => ?_
  have k2 : nx = pc + 2 := k2
  subst k2
  exact lv_istore C.1 C.2.1 k1 hL.has (of_decide_eq_true k3) rfl (fun ls9 h9 => k _ (LR.store (v := vI x) h9))
theorem s_istore_n {i : Fin 4} {x : Int} (hk : okE y pc (.istore_n i, nx, rs, c0)) (h : Ex d y nx (stL ls i.val (vI x)) r m Q) : Ex d y pc ls (vI x :: r) m Q := by
  obtain ⟨k1, k2, k3⟩ := hk.use
  refine Ex_pure h fun {G _ _ _ _ _ _ _ _ _ _ _ _ _ _ _ _} C hR hS hL k => ?_
  have k2 : nx = pc + 1 := k2
  subst k2
  exact lv_istore_n C.1 C.2.1 k1 rfl hL.has (of_decide_eq_true k3) rfl (fun ls9 h9 => k _ (LR.store (v := vI x) h9))
theorem s_astore {i : Nat} {x : Nat} (hk : okE y pc (.astore i, nx, rs, c0)) (h : Ex d y nx (stL ls i (vR x)) r m Q) : Ex d y pc ls (vR x :: r) m Q := by
  obtain ⟨k1, k2, k3⟩ := hk.use
  refine Ex_pure h fun {G _ _ _ _ _ _ _ _ _ _ _ _ _ _ _ _} C hR hS hL k => ?_
  have k2 : nx = pc + 2 := k2
  subst k2
  rw [List.map_cons]
  rcases up_ref G x with e | ⟨q, e⟩
  · rw [e]
    exact lv_astoreN C.1 C.2.1 k1 hL.has (of_decide_eq_true k3) rfl (fun ls9 h9 => k _ (LR.store (v := vR x) (by rw [e]; exact h9)))
  · rw [e]
    exact lv_astore C.1 C.2.1 k1 hL.has (of_decide_eq_true k3) rfl (fun ls9 h9 => k _ (LR.store (v := vR x) (by rw [e]; exact h9)))
theorem s_astore_n {i : Fin 4} {x : Nat} (hk : okE y pc (.astore_n i, nx, rs, c0)) (h : Ex d y nx (stL ls i.val (vR x)) r m Q) : Ex d y pc ls (vR x :: r) m Q := by
  obtain ⟨k1, k2, k3⟩ := hk.use
  refine Ex_pure h fun {G _ _ _ _ _ _ _ _ _ _ _ _ _ _ _ _} C hR hS hL k => ?_
  have k2 : nx = pc + 1 := k2
  subst k2
  rw [List.map_cons]
  rcases up_ref G x with e | ⟨q, e⟩
  · rw [e]
    exact lv_astore_nN C.1 C.2.1 k1 rfl hL.has (of_decide_eq_true k3) rfl (fun ls9 h9 => k _ (LR.store (v := vR x) (by rw [e]; exact h9)))
  · rw [e]
    exact lv_astore_n C.1 C.2.1 k1 rfl hL.has (of_decide_eq_true k3) rfl (fun ls9 h9 => k _ (LR.store (v := vR x) (by rw [e]; exact h9)))
theorem s_lstore {i : Nat} {x : Int} (hk : okE y pc (.lstore i, nx, rs, c0)) (h : Ex d y nx (stL2 ls i x) r m Q) : Ex d y pc ls (vL x :: r) m Q := by
  obtain ⟨k1, k2, k3⟩ := hk.use
  refine Ex_pure h fun {G _ _ _ _ _ _ _ _ _ _ _ _ _ _ _ _} C hR hS hL k => ?_
  have k2 : nx = pc + 2 := k2
  subst k2
  exact lv_lstore C.1 C.2.1 k1 hL.has (of_decide_eq_true k3) rfl (fun ls9 h9 => k _ (LR.store2 (x := x) h9))
theorem s_lstore_n {i : Fin 4} {x : Int} (hk : okE y pc (.lstore_n i, nx, rs, c0)) (h : Ex d y nx (stL2 ls i.val x) r m Q) : Ex d y pc ls (vL x :: r) m Q := by
  obtain ⟨k1, k2, k3⟩ := hk.use
  refine Ex_pure h fun {G _ _ _ _ _ _ _ _ _ _ _ _ _ _ _ _} C hR hS hL k => ?_
  have k2 : nx = pc + 1 := k2
  subst k2
  exact lv_lstore_n C.1 C.2.1 k1 rfl hL.has (of_decide_eq_true k3) rfl (fun ls9 h9 => k _ (LR.store2 (x := x) h9))
theorem s_iinc {i : Nat} {n x : Int} (hl : ls[i]? = some (some (vI x))) (hk : okE y pc (.iinc i n, nx, rs, c0)) (h : Ex d y nx (stL ls i (vI (x + n))) st m Q) : Ex d y pc ls st m Q := by
  obtain ⟨k1, k2, k3⟩ := hk.use
  refine Ex_pure h fun {G _ _ _ _ _ _ _ _ _ _ _ _ _ _ _ _} C hR hS hL k => ?_
  have k2 : nx = pc + 3 := k2
  subst k2
  obtain ⟨j, hj⟩ := List.mem_iff_getElem?.mp (mem_asc (G := G).mpr ⟨vI x, (show ls[(i, up G (vI x)).1]? = _ from hl), rfl⟩)
  exact lv_iinc (v := Int32.ofInt (x + n)) C.1 C.2.1 k1 hL.has hj (Int32.ofInt_add _ _).symm (of_decide_eq_true k3) rfl (fun ls9 h9 => k _ (LR.store (v := vI (x + n)) h9))
theorem s_goto {o : Int} (hk : okE y pc (.goto o, nx, rs, c0)) (h : Ex d y (n1 (.goto o, nx, rs, c0)) ls st m Q) : Ex d y pc ls st m Q := by
  obtain ⟨k1, -, k3⟩ := hk.use
  refine Ex_pure h fun C hR hS hL k => ?_
  exact lv_goto C.1 C.2.1 k1 (of_decide_eq_true k3) (k _ hL)
theorem cmx_eq {x z : Int} : Int32.ofInt x = Int32.ofInt z ↔ cmpI .eq x z := w32_inj
theorem cmx_ne {x z : Int} : ¬ Int32.ofInt x = Int32.ofInt z ↔ cmpI .ne x z := not_congr w32_inj
theorem cmx_lt {x z : Int} : Int32.ofInt x < Int32.ofInt z ↔ cmpI .lt x z := Int32.lt_iff_toInt_lt
theorem cmx_ge {x z : Int} : Int32.ofInt z ≤ Int32.ofInt x ↔ cmpI .ge x z := Int32.le_iff_toInt_le
theorem cmx_gt {x z : Int} : Int32.ofInt z < Int32.ofInt x ↔ cmpI .gt x z := Int32.lt_iff_toInt_lt
theorem cmx_le {x z : Int} : Int32.ofInt x ≤ Int32.ofInt z ↔ cmpI .le x z := Int32.le_iff_toInt_le
theorem s_icmp_eq {o : Int} {x z : Int} (hk : okE y pc (.if_icmp .eq o, nx, rs, c0)) (h : (cmpI .eq x z → Ex d y (n1 (.if_icmp .eq o, nx, rs, c0)) ls r m Q) ∧ (¬ cmpI .eq x z → Ex d y nx ls r m Q)) : Ex d y pc ls (vI z :: vI x :: r) m Q := by
  obtain ⟨k1, k2, k3⟩ := hk.use
  have k2 : nx = pc + 3 := k2
  subst k2
  by_cases hc : cmpI .eq x z
  · refine Ex_pure (h.1 hc) fun C hR hS hL k => ?_
    exact lv_icmp_eq C.1 C.2.1 k1 (of_decide_eq_true k3) (fun _ => k _ hL) (fun q => absurd ((cmx_eq (x := x) (z := z)).mpr hc) q)
  · refine Ex_pure (h.2 hc) fun C hR hS hL k => ?_
    exact lv_icmp_eq C.1 C.2.1 k1 (of_decide_eq_true k3) (fun q => absurd ((cmx_eq (x := x) (z := z)).mp q) hc) (fun _ => k _ hL)
theorem s_if_eq {o : Int} {x : Int} (hk : okE y pc (.ifCond .eq o, nx, rs, c0)) (h : (cmpI .eq x 0 → Ex d y (n1 (.ifCond .eq o, nx, rs, c0)) ls r m Q) ∧ (¬ cmpI .eq x 0 → Ex d y nx ls r m Q)) : Ex d y pc ls (vI x :: r) m Q := by
  obtain ⟨k1, k2, k3⟩ := hk.use
  have k2 : nx = pc + 3 := k2
  subst k2
  by_cases hc : cmpI .eq x 0
  · refine Ex_pure (h.1 hc) fun C hR hS hL k => ?_
    exact lv_if_eq C.1 C.2.1 k1 (of_decide_eq_true k3) (fun _ => k _ hL) (fun q => absurd ((cmx_eq (x := x) (z := 0)).mpr hc) q)
  · refine Ex_pure (h.2 hc) fun C hR hS hL k => ?_
    exact lv_if_eq C.1 C.2.1 k1 (of_decide_eq_true k3) (fun q => absurd ((cmx_eq (x := x) (z := 0)).mp q) hc) (fun _ => k _ hL)
theorem s_icmp_ne {o : Int} {x z : Int} (hk : okE y pc (.if_icmp .ne o, nx, rs, c0)) (h : (cmpI .ne x z → Ex d y (n1 (.if_icmp .ne o, nx, rs, c0)) ls r m Q) ∧ (¬ cmpI .ne x z → Ex d y nx ls r m Q)) : Ex d y pc ls (vI z :: vI x :: r) m Q := by
  obtain ⟨k1, k2, k3⟩ := hk.use
  have k2 : nx = pc + 3 := k2
  subst k2
  by_cases hc : cmpI .ne x z
  · refine Ex_pure (h.1 hc) fun C hR hS hL k => ?_
    exact lv_icmp_ne C.1 C.2.1 k1 (of_decide_eq_true k3) (fun _ => k _ hL) (fun q => absurd q ((cmx_ne (x := x) (z := z)).mpr hc))
  · refine Ex_pure (h.2 hc) fun C hR hS hL k => ?_
    exact lv_icmp_ne C.1 C.2.1 k1 (of_decide_eq_true k3) (fun q => absurd ((cmx_ne (x := x) (z := z)).mp q) hc) (fun _ => k _ hL)
theorem s_if_ne {o : Int} {x : Int} (hk : okE y pc (.ifCond .ne o, nx, rs, c0)) (h : (cmpI .ne x 0 → Ex d y (n1 (.ifCond .ne o, nx, rs, c0)) ls r m Q) ∧ (¬ cmpI .ne x 0 → Ex d y nx ls r m Q)) : Ex d y pc ls (vI x :: r) m Q := by
  obtain ⟨k1, k2, k3⟩ := hk.use
  have k2 : nx = pc + 3 := k2
  subst k2
  by_cases hc : cmpI .ne x 0
  · refine Ex_pure (h.1 hc) fun C hR hS hL k => ?_
    exact lv_if_ne C.1 C.2.1 k1 (of_decide_eq_true k3) (fun _ => k _ hL) (fun q => absurd q ((cmx_ne (x := x) (z := 0)).mpr hc))
  · refine Ex_pure (h.2 hc) fun C hR hS hL k => ?_
    exact lv_if_ne C.1 C.2.1 k1 (of_decide_eq_true k3) (fun q => absurd ((cmx_ne (x := x) (z := 0)).mp q) hc) (fun _ => k _ hL)
theorem s_icmp_lt {o : Int} {x z : Int} (hk : okE y pc (.if_icmp .lt o, nx, rs, c0)) (h : (cmpI .lt x z → Ex d y (n1 (.if_icmp .lt o, nx, rs, c0)) ls r m Q) ∧ (¬ cmpI .lt x z → Ex d y nx ls r m Q)) : Ex d y pc ls (vI z :: vI x :: r) m Q := by
  obtain ⟨k1, k2, k3⟩ := hk.use
  have k2 : nx = pc + 3 := k2
  subst k2
  by_cases hc : cmpI .lt x z
  · refine Ex_pure (h.1 hc) fun C hR hS hL k => ?_
    exact lv_icmp_lt C.1 C.2.1 k1 (of_decide_eq_true k3) (fun _ => k _ hL) (fun q => absurd ((cmx_lt (x := x) (z := z)).mpr hc) q)
  · refine Ex_pure (h.2 hc) fun C hR hS hL k => ?_
    exact lv_icmp_lt C.1 C.2.1 k1 (of_decide_eq_true k3) (fun q => absurd ((cmx_lt (x := x) (z := z)).mp q) hc) (fun _ => k _ hL)
theorem s_if_lt {o : Int} {x : Int} (hk : okE y pc (.ifCond .lt o, nx, rs, c0)) (h : (cmpI .lt x 0 → Ex d y (n1 (.ifCond .lt o, nx, rs, c0)) ls r m Q) ∧ (¬ cmpI .lt x 0 → Ex d y nx ls r m Q)) : Ex d y pc ls (vI x :: r) m Q := by
  obtain ⟨k1, k2, k3⟩ := hk.use
  have k2 : nx = pc + 3 := k2
  subst k2
  by_cases hc : cmpI .lt x 0
  · refine Ex_pure (h.1 hc) fun C hR hS hL k => ?_
    exact lv_if_lt C.1 C.2.1 k1 (of_decide_eq_true k3) (fun _ => k _ hL) (fun q => absurd ((cmx_lt (x := x) (z := 0)).mpr hc) q)
  · refine Ex_pure (h.2 hc) fun C hR hS hL k => ?_
    exact lv_if_lt C.1 C.2.1 k1 (of_decide_eq_true k3) (fun q => absurd ((cmx_lt (x := x) (z := 0)).mp q) hc) (fun _ => k _ hL)
theorem s_icmp_ge {o : Int} {x z : Int} (hk : okE y pc (.if_icmp .ge o, nx, rs, c0)) (h : (cmpI .ge x z → Ex d y (n1 (.if_icmp .ge o, nx, rs, c0)) ls r m Q) ∧ (¬ cmpI .ge x z → Ex d y nx ls r m Q)) : Ex d y pc ls (vI z :: vI x :: r) m Q := by
  obtain ⟨k1, k2, k3⟩ := hk.use
  have k2 : nx = pc + 3 := k2
  subst k2
  by_cases hc : cmpI .ge x z
  · refine Ex_pure (h.1 hc) fun C hR hS hL k => ?_
    exact lv_icmp_ge C.1 C.2.1 k1 (of_decide_eq_true k3) (fun _ => k _ hL) (fun q => absurd ((cmx_ge (x := x) (z := z)).mpr hc) q)
  · refine Ex_pure (h.2 hc) fun C hR hS hL k => ?_
    exact lv_icmp_ge C.1 C.2.1 k1 (of_decide_eq_true k3) (fun q => absurd ((cmx_ge (x := x) (z := z)).mp q) hc) (fun _ => k _ hL)
theorem s_if_ge {o : Int} {x : Int} (hk : okE y pc (.ifCond .ge o, nx, rs, c0)) (h : (cmpI .ge x 0 → Ex d y (n1 (.ifCond .ge o, nx, rs, c0)) ls r m Q) ∧ (¬ cmpI .ge x 0 → Ex d y nx ls r m Q)) : Ex d y pc ls (vI x :: r) m Q := by
  obtain ⟨k1, k2, k3⟩ := hk.use
  have k2 : nx = pc + 3 := k2
  subst k2
  by_cases hc : cmpI .ge x 0
  · refine Ex_pure (h.1 hc) fun C hR hS hL k => ?_
    exact lv_if_ge C.1 C.2.1 k1 (of_decide_eq_true k3) (fun _ => k _ hL) (fun q => absurd ((cmx_ge (x := x) (z := 0)).mpr hc) q)
  · refine Ex_pure (h.2 hc) fun C hR hS hL k => ?_
    exact lv_if_ge C.1 C.2.1 k1 (of_decide_eq_true k3) (fun q => absurd ((cmx_ge (x := x) (z := 0)).mp q) hc) (fun _ => k _ hL)
theorem s_icmp_gt {o : Int} {x z : Int} (hk : okE y pc (.if_icmp .gt o, nx, rs, c0)) (h : (cmpI .gt x z → Ex d y (n1 (.if_icmp .gt o, nx, rs, c0)) ls r m Q) ∧ (¬ cmpI .gt x z → Ex d y nx ls r m Q)) : Ex d y pc ls (vI z :: vI x :: r) m Q := by
  obtain ⟨k1, k2, k3⟩ := hk.use
  have k2 : nx = pc + 3 := k2
  subst k2
  by_cases hc : cmpI .gt x z
  · refine Ex_pure (h.1 hc) fun C hR hS hL k => ?_
    exact lv_icmp_gt C.1 C.2.1 k1 (of_decide_eq_true k3) (fun _ => k _ hL) (fun q => absurd ((cmx_gt (x := x) (z := z)).mpr hc) q)
  · refine Ex_pure (h.2 hc) fun C hR hS hL k => ?_
    exact lv_icmp_gt C.1 C.2.1 k1 (of_decide_eq_true k3) (fun q => absurd ((cmx_gt (x := x) (z := z)).mp q) hc) (fun _ => k _ hL)
theorem s_if_gt {o : Int} {x : Int} (hk : okE y pc (.ifCond .gt o, nx, rs, c0)) (h : (cmpI .gt x 0 → Ex d y (n1 (.ifCond .gt o, nx, rs, c0)) ls r m Q) ∧ (¬ cmpI .gt x 0 → Ex d y nx ls r m Q)) : Ex d y pc ls (vI x :: r) m Q := by
  obtain ⟨k1, k2, k3⟩ := hk.use
  have k2 : nx = pc + 3 := k2
  subst k2
  by_cases hc : cmpI .gt x 0
  · refine Ex_pure (h.1 hc) fun C hR hS hL k => ?_
    exact lv_if_gt C.1 C.2.1 k1 (of_decide_eq_true k3) (fun _ => k _ hL) (fun q => absurd ((cmx_gt (x := x) (z := 0)).mpr hc) q)
  · refine Ex_pure (h.2 hc) fun C hR hS hL k => ?_
    exact lv_if_gt C.1 C.2.1 k1 (of_decide_eq_true k3) (fun q => absurd ((cmx_gt (x := x) (z := 0)).mp q) hc) (fun _ => k _ hL)
theorem s_icmp_le {o : Int} {x z : Int} (hk : okE y pc (.if_icmp .le o, nx, rs, c0)) (h : (cmpI .le x z → Ex d y (n1 (.if_icmp .le o, nx, rs, c0)) ls r m Q) ∧ (¬ cmpI .le x z → Ex d y nx ls r m Q)) : Ex d y pc ls (vI z :: vI x :: r) m Q := by
  obtain ⟨k1, k2, k3⟩ := hk.use
  have k2 : nx = pc + 3 := k2
  subst k2
  by_cases hc : cmpI .le x z
  · refine Ex_pure (h.1 hc) fun C hR hS hL k => ?_
    exact lv_icmp_le C.1 C.2.1 k1 (of_decide_eq_true k3) (fun _ => k _ hL) (fun q => absurd ((cmx_le (x := x) (z := z)).mpr hc) q)
  · refine Ex_pure (h.2 hc) fun C hR hS hL k => ?_
    exact lv_icmp_le C.1 C.2.1 k1 (of_decide_eq_true k3) (fun q => absurd ((cmx_le (x := x) (z := z)).mp q) hc) (fun _ => k _ hL)
theorem s_if_le {o : Int} {x : Int} (hk : okE y pc (.ifCond .le o, nx, rs, c0)) (h : (cmpI .le x 0 → Ex d y (n1 (.ifCond .le o, nx, rs, c0)) ls r m Q) ∧ (¬ cmpI .le x 0 → Ex d y nx ls r m Q)) : Ex d y pc ls (vI x :: r) m Q := by
  obtain ⟨k1, k2, k3⟩ := hk.use
  have k2 : nx = pc + 3 := k2
  subst k2
  by_cases hc : cmpI .le x 0
  · refine Ex_pure (h.1 hc) fun C hR hS hL k => ?_
    exact lv_if_le C.1 C.2.1 k1 (of_decide_eq_true k3) (fun _ => k _ hL) (fun q => absurd ((cmx_le (x := x) (z := 0)).mpr hc) q)
  · refine Ex_pure (h.2 hc) fun C hR hS hL k => ?_
    exact lv_if_le C.1 C.2.1 k1 (of_decide_eq_true k3) (fun q => absurd ((cmx_le (x := x) (z := 0)).mp q) hc) (fun _ => k _ hL)
theorem s_ifnull {o : Int} {a : Nat} (hk : okE y pc (.ifnull o, nx, rs, c0)) (h : a ≠ 99 ∧ (a = 0 → Ex d y (n1 (.ifnull o, nx, rs, c0)) ls r m Q) ∧ (a ≠ 0 → Ex d y nx ls r m Q)) : Ex d y pc ls (vR a :: r) m Q := by
  obtain ⟨k1, k2, k3⟩ := hk.use
  have k2 : nx = pc + 3 := k2
  subst k2
  by_cases hc : a = 0
  · refine Ex_pure (h.2.1 hc) fun C hR hS hL k => ?_
    subst hc
    exact lv_ifnullN C.1 C.2.1 k1 (of_decide_eq_true k3) (k _ hL)
  · refine Ex_pure (h.2.2 hc) fun {G _ _ _ _ _ _ _ _ _ _ _ _ _ _ _ _} C hR hS hL k => ?_
    obtain ⟨q, e⟩ := up_ne G hc h.1
    rw [List.map_cons, e]
    exact lv_ifnull C.1 C.2.1 k1 (k _ hL)
theorem s_ifnonnull {o : Int} {a : Nat} (hk : okE y pc (.ifnonnull o, nx, rs, c0)) (h : a ≠ 99 ∧ (a ≠ 0 → Ex d y (n1 (.ifnonnull o, nx, rs, c0)) ls r m Q) ∧ (a = 0 → Ex d y nx ls r m Q)) : Ex d y pc ls (vR a :: r) m Q := by
  obtain ⟨k1, k2, k3⟩ := hk.use
  have k2 : nx = pc + 3 := k2
  subst k2
  by_cases hc : a = 0
  · refine Ex_pure (h.2.2 hc) fun C hR hS hL k => ?_
    subst hc
    exact lv_ifnonnullN C.1 C.2.1 k1 (k _ hL)
  · refine Ex_pure (h.2.1 hc) fun {G _ _ _ _ _ _ _ _ _ _ _ _ _ _ _ _} C hR hS hL k => ?_
    obtain ⟨q, e⟩ := up_ne G hc h.1
    rw [List.map_cons, e]
    exact lv_ifnonnull C.1 C.2.1 k1 (of_decide_eq_true k3) (k _ hL)
theorem s_table {df lo hi : Int} {offs : Array Int} {x : Int} (hk : okE y pc (.tableswitch df lo hi offs, nx, rs, c0)) (h : Ex d y (tsw lo hi rs (w32 x)) ls r m Q) : Ex d y pc ls (vI x :: r) m Q := by
  obtain ⟨k1, -, k3⟩ := hk.use
  unfold okX at k3
  simp only [Bool.and_eq_true, decide_eq_true_eq, List.all_eq_true] at k3
  obtain ⟨⟨g1, g2⟩, g3⟩ := k3
  refine Ex_pure h fun C hR hS hL k => ?_
  by_cases hc : w32 x < lo ∨ hi < w32 x
  · refine lv_tableOut C.1 C.2.1 k1 hc (tgt := tsw lo hi rs (w32 x)) ?_ (k _ hL)
    rw [g1]
    unfold tsw
    rw [if_pos hc]
    rfl
  · have hj : (w32 x - lo).toNat < offs.size := by omega
    have h3 := g3 _ (List.mem_range.mpr hj)
    refine lv_tableIn C.1 C.2.1 k1 (fun q => hc (Or.inl q)) (fun q => hc (Or.inr q)) (off := offs.toList.getD (w32 x - lo).toNat 0) (tgt := tsw lo hi rs (w32 x)) ?_ ?_ (k _ hL)
    · show offs[(w32 x - lo).toNat]? = _
      rw [← Array.getElem?_toList, List.getD_eq_getElem?_getD]
      rw [List.getElem?_eq_getElem (by simpa using hj)]
      rfl
    · rw [h3]
      unfold tsw
      rw [if_neg hc]
end Steps2
end
section
/-! ===== cells out of a heap that stands for a memory ===== -/
theorem kLow_cases (a : Nat) : kLow a = 0 ∨ (kLow a = 20 ∧ a % 2 = 0 ∧ 2 ≤ a ∧ (a - 2) / 2 < nS) ∨ (kLow a = 21 ∧ a % 2 = 1 ∧ 2 ≤ a ∧ (a - 2) / 2 < nS) := by
  unfold kLow
  split
  · exact Or.inl rfl
  · split
    · split
      · exact Or.inr (Or.inl ⟨rfl, by assumption, by omega, by assumption⟩)
      · exact Or.inr (Or.inr ⟨rfl, by omega, by omega, by assumption⟩)
    · exact Or.inl rfl
theorem vwCl_lt {k : Nat} {q : vw_C} (h : vwCl[k]? = some q) : k < 12 := (List.getElem?_eq_some_iff.mp h).1
section Cells
variable {G : Gm} {m : Mem} {U : State} {H : Heap} {a : Nat}
theorem Rep.obj (h : Rep G m U H) {k : Nat} {q : vw_C} (hq : vwCl[k]? = some q) (hk : mK m a = k + 1) : 100 ≤ a ∧ va_at (gD G) vwCl (rho G a, .inr (k, flds G m k a q.2.2)) H := by
  have hk12 := vwCl_lt hq
  have ha : 100 ≤ a := by
    rcases Nat.lt_or_ge a 100 with q | q
    · exfalso
      by_cases e : a = 1
      · rw [e, h.2.2.1.1] at hk; omega
      · rw [h.2.2.1.2.2.2.1 a q e] at hk
        rcases kLow_cases a with e | ⟨e, -⟩ | ⟨e, -⟩ <;> omega
    · exact q
  exact ⟨ha, (h.2.2.2 a ha (h.dom (by omega) ha)).1 k q hq hk⟩
theorem Rep.arr (h : Rep G m U H) {k : Nat} {ty : FieldType} (ht : arTy k = some ty) (hk : mK m a = k) (ha1 : k ≠ 13 ∨ a ≠ 1) : 100 ≤ a ∧ ∃ cA, H[rho G a]? = some (arrV cA (mLen m a) (aval G m k a)) ∧ ArrOfT U cA ty ∧ va_RA U cA ty := by
  have hk0 : k ≠ 0 ∧ k ≠ 20 ∧ k ≠ 21 := by
    refine ⟨?_, ?_, ?_⟩ <;> (intro e; rw [e] at ht; cases ht)
  have ha : 100 ≤ a := by
    rcases Nat.lt_or_ge a 100 with q | q
    · exfalso
      by_cases e : a = 1
      · rw [e, h.2.2.1.1] at hk; rcases ha1 with z | z <;> omega
      · rw [h.2.2.1.2.2.2.1 a q e] at hk
        rcases kLow_cases a with e | ⟨e, -⟩ | ⟨e, -⟩ <;> omega
    · exact q
  exact ⟨ha, (h.2.2.2 a ha (h.dom (by omega) ha)).2.1 k ty ht hk⟩
theorem Rep.txt (h : Rep G m U H) (hk : mK m a = 20) : ∃ i, i < nS ∧ a = 2 + 2 * i := by
  rcases Nat.lt_or_ge a 100 with q | q
  · by_cases e : a = 1
    · rw [e, h.2.2.1.1] at hk; omega
    · rw [h.2.2.1.2.2.2.1 a q e] at hk
      rcases kLow_cases a with e | ⟨e, e1, e2, e3⟩ | ⟨e, -⟩
      · omega
      · exact ⟨(a - 2) / 2, e3, by omega⟩
      · omega
  · exact absurd hk (h.2.2.2 a q (h.dom (by omega) q)).2.2.1
theorem Rep.byt (h : Rep G m U H) (hk : mK m a = 21) : ∃ i, i < nS ∧ a = 3 + 2 * i := by
  rcases Nat.lt_or_ge a 100 with q | q
  · by_cases e : a = 1
    · rw [e, h.2.2.1.1] at hk; omega
    · rw [h.2.2.1.2.2.2.1 a q e] at hk
      rcases kLow_cases a with e | ⟨e, -⟩ | ⟨e, e1, e2, e3⟩
      · omega
      · omega
      · exact ⟨(a - 2) / 2, e3, by omega⟩
  · exact absurd hk (h.2.2.2 a q (h.dom (by omega) q)).2.2.2
theorem flds_get (G : Gm) (m : Mem) (k a : Nat) {N j : Nat} (hj : j < N) : (flds G m k a N)[j]? = some (fval G m k a j) := by
  unfold flds
  rw [List.getElem?_map, List.getElem?_range hj]
  rfl
theorem flds_length (G : Gm) (m : Mem) (k a N : Nat) : (flds G m k a N).length = N := by
  unfold flds
  rw [List.length_map, List.length_range]
theorem rho_k (G : Gm) {i : Nat} (hi : i < nS) : rho G (2 + 2 * i) = gAK G i := by
  have hi' : i < 24 := hi
  unfold rho
  rw [if_neg (by omega), if_pos (by omega), if_pos (by omega)]
  congr 1
  omega
theorem rho_v (G : Gm) {i : Nat} (hi : i < nS) : rho G (3 + 2 * i) = gAV G i := by
  have hi' : i < 24 := hi
  unfold rho
  rw [if_neg (by omega), if_pos (by omega), if_neg (by omega)]
  congr 1
  omega
theorem fOk_own {y idx : Nat} {e : Ent} (h : fOk y e idx = true) (h20 : n2 e ≠ 20) : ∃ q, vwCl[n2 e - 1]? = some q ∧ 1 ≤ n2 e ∧ n1 e = 64 * n2 e + (n1 e - 64 * n2 e) ∧ n1 e - 64 * n2 e < q.2.2 ∧ Cond.fieldLink (mC y) idx (q.2.1 (n1 e - 64 * n2 e)).1 (q.2.1 (n1 e - 64 * n2 e)).2.1 (q.2.1 (n1 e - 64 * n2 e)).2.2.1 ∈ lw_good ∧
    ((n3 e = 0 ∧ clTy (n2 e - 1) (n1 e - 64 * n2 e) = .int) ∨ (n3 e = 1 ∧ clTy (n2 e - 1) (n1 e - 64 * n2 e) = .boolean) ∨ (n3 e = 2 ∧ (clTy (n2 e - 1) (n1 e - 64 * n2 e)).isReference = true)) := by
  unfold fOk at h
  have hb : Nat.beq (n2 e) 20 = false := by
    cases hx : Nat.beq (n2 e) 20 with
    | false => rfl
    | true => exact absurd (Nat.eq_of_beq_eq_true hx) h20
  rw [hb] at h
  simp only [cond_false] at h
  split at h
  · next q hq =>
    simp only [Bool.and_eq_true, decide_eq_true_eq] at h
    obtain ⟨⟨⟨⟨g1, g2⟩, g3⟩, g4⟩, g5⟩ := h
    refine ⟨q, hq, g1, g2, g3, wAt_mem g4, ?_⟩
    split at g5
    · next e => exact Or.inl ⟨e, of_decide_eq_true g5⟩
    · next e => exact Or.inr (Or.inl ⟨e, of_decide_eq_true g5⟩)
    · next e => exact Or.inr (Or.inr ⟨e, g5⟩)
    · cases g5
  · cases h
end Cells
section Steps3
variable {d y pc : Nat} {ls : Ls} {st : List AV} {m : Mem} {Q : Nat → Option AV → Mem → Prop} {nx : Nat} {rs : List Nat} {c0 : Int} {r : List AV}
theorem s_getfield {idx a : Nat} (hk : okE y pc (.getfield idx, nx, rs, c0)) (h : mK m a = n2 (.getfield idx, nx, rs, c0) ∧ Ex d y nx ls ((bif Nat.beq (n3 (.getfield idx, nx, rs, c0)) 2 then vR (mFR m (n1 (.getfield idx, nx, rs, c0)) a) else vI (mFI m (n1 (.getfield idx, nx, rs, c0)) a)) :: r) m Q) : Ex d y pc ls (vR a :: r) m Q := by
  obtain ⟨k1, z2, k3⟩ := hk.use
  have k2 : nx = pc + 3 := z2
  clear z2 hk
  subst k2
  obtain ⟨hka, h⟩ := h
  change fOk y (.getfield idx, pc + 3, rs, c0) idx = true at k3
  generalize he : ((.getfield idx, pc + 3, rs, c0) : Ent) = e at k3 hka h
  by_cases h20 : n2 e = 20
  · rw [h20] at hka
    refine Ex_pure h fun {G _ _ _ _ _ _ _ _ _ _ _ _ _ _ _ _} C hR hS hL k => ?_
    obtain ⟨i, hi, rfl⟩ := hR.txt hka
    have hi' : i < 24 := hi
    obtain ⟨l1, l2, l3, l4⟩ := hR.2.2.1.2.2.2.2 i hi
    have hst := (C.2.2.2.2.2.2.2.2.2.1.2.1 i hi).1 0 (by omega)
    have k9 := k _ hL
    rw [List.map_cons, up_lo G (by omega) (by omega), rho_k G hi]
    unfold fOk at k3
    rw [h20] at k3
    rw [show Nat.beq 20 20 = true from rfl] at k3
    simp only [cond_true] at k3
    cases hb : Nat.beq (n1 e) 1280 with
    | true =>
      have e1 := Nat.eq_of_beq_eq_true hb
      rw [hb] at k3
      simp only [cond_true, Bool.and_eq_true] at k3
      rw [k3.1, e1, l1] at k9
      simp only [cond_true] at k9
      rw [List.map_cons, up_lo G (by omega) (by omega), rho_v G hi] at k9
      subst he
      exact vk_getf C.1 C.2.1 hst.2.2.1 hS C.2.2.2.2.1 (C.2.2.2.2.2.1 _ (wAt_mem k3.2)) (fun x hx => hx) k1 k9
    | false =>
      rw [hb] at k3
      simp only [cond_false, Bool.and_eq_true] at k3
      have e1 := Nat.eq_of_beq_eq_true k3.1.1
      have e2 := Nat.eq_of_beq_eq_true k3.1.2
      rw [e2, e1, l2] at k9
      subst he
      exact vk_getf C.1 C.2.1 hst.2.1 hS C.2.2.2.2.1 (C.2.2.2.2.2.1 _ (wAt_mem k3.2)) (fun x hx => hx) k1 k9
  · obtain ⟨q, hq, g1, g2, g3, g4, g5⟩ := fOk_own k3 h20
    have hka' : mK m a = (n2 e - 1) + 1 := by omega
    refine Ex_pure h fun {G _ _ _ _ _ _ _ _ _ _ _ _ _ _ _ _} C hR hS hL k => ?_
    obtain ⟨ha, hv⟩ := hR.obj hq hka'
    have hP : va_P (gD G) vwCl [(rho G a, .inr (n2 e - 1, flds G m (n2 e - 1) a q.2.2))] _ := fun j z hz => by
      match j, hz with
      | 0, hz => cases hz; exact hv
    have ok := clOk_all hq
    have k9 := k _ hL
    rw [List.map_cons, up_hi G ha]
    have hval : fval G m (n2 e - 1) a (n1 e - 64 * n2 e) = up G (bif Nat.beq (n3 e) 2 then vR (mFR m (n1 e) a) else vI (mFI m (n1 e) a)) := by
      unfold fval
      have e9 : 64 * (n2 e - 1 + 1) + (n1 e - 64 * n2 e) = n1 e := by omega
      rw [e9]
      rcases g5 with ⟨z1, z2⟩ | ⟨z1, z2⟩ | ⟨z1, z2⟩
      · rw [z1, z2]; rfl
      · rw [z1, z2]; rfl
      · rw [z1, if_pos z2]; rfl
    rw [List.map_cons, ← hval] at k9
    subst he
    exact va_get (C := q.1) (T := q.2.1) (N := q.2.2) C.1 C.2.1 C.2.2.2.2.2.1 ok.1 C.2.2.2.2.1 C.2.2.2.2.2.2.2.2.2.1.1 hP 0 rfl hq _ g3 (C.2.2.2.2.2.1 _ g4) (fun x hx => hx) (flds_get G m _ a g3) k1 k9
end Steps3
end
section
/-! ===== rows that write: what else there is stays (after va_put, va_putF of the kit) ===== -/
section MPut
variable {p : Program} {l : Launch} {e : Env} {R : Room} {s : State} {m : MethodId} {args : Array Value} {below : List Frame} {meth : Method} {c : Code} {H : Heap} {locs : List Loc} {cells slots : Nat} {Q : State → Prop}
variable {cc : ByteArray} {pc : Nat} {ls : Array Slot} {rest : List Value} {D : va_G} {cl : List vw_C} {A : Nat → Prop} {a : Nat} {H0 : Heap}
theorem m_put (hexec : p.tables.exec = Jvm.exec) (hb : c.code = cc) {own C : String} {T : u_T} {N ci index : Nat} {Ts : List Cond} (hts : ∀ w ∈ Ts, w.before args s = true) (hin : ∀ w ∈ u_ws C T N, w ∈ Ts) (ty0 : Nat → FieldType) (hty : ∀ k, k < N → parseFieldDescriptor (T k).2.2.1 = some (ty0 k)) (hnm : ∀ a, a < N → ∀ b, b < N → a ≠ b → (T a).2.1 ≠ (T b).2.1) (hown : s.vm.findClass own = some m.cls) (hK : va_K D cl [] s) (hS0 : va_S A H0 H locs) {fs : List Value} (he : va_at D cl (a, .inr (ci, fs)) H) (hc : cl[ci]? = some (C, T, N)) (k : Nat) (hk : k < N) (hlink : (Cond.fieldLink own index (T k).1 (T k).2.1 (T k).2.2.1).before args s = true)
    (hfin : (T k).2.2.2 = false ∨ (meth.name = "<init>" ∧ (T k).1 = own)) {v : Value} (hn : narrow (ty0 k) v = v) (hfit : fits (ty0 k) v = true) (hl : k < fs.length) (ha : A a)
    (hdg : decode cc pc = .ok (.putfield index, 3)) (kk : ∀ (H1 : Heap) (locs1 : List Loc), H1.size = H.size → (∀ q, q ≠ a → H1[q]? = H[q]?) → va_at D cl (a, .inr (ci, fs.set k v)) H1 → va_S A H0 H1 locs1 → W p l e R s m args below meth c H1 locs1 cells slots Q (F0 m (pc + 3) ls rest)) : W p l e R s m args below meth c H locs cells slots Q (F0 m pc ls (v :: .ref a :: rest)) := by
  have hap := va_apart (own := own) hts hin ty0 hty hnm hK hc
  have hd := hty k hk
  obtain ⟨r, h1, cell, q1, q2, q3, q4⟩ := he
  have hr : r = (C, T, N) := Option.some.inj (h1.symm.trans hc)
  subst hr
  obtain ⟨hS, hfc, kC, hkC, hkind⟩ := hK.1 ci _ hc
  obtain ⟨cf, kf, fi, f, hi, hsl⟩ := hS k hk
  have hlay := hts _ (hin _ (u_in_lay hk))
  unfold u_lay at hlay
  have hst := (u_facts hfc hkC (u_lays hts hin hk) hi).1
  cases hf : (T k).2.2.2 with
  | false =>
    rw [if_neg (by rw [hf]; decide)] at hlay
    have h6 := u_store hfc hkC hkind hlay hi hd hn hfit
    refine W.putK hexec hb (f := f) ⟨hown, hlink, ⟨_, _, _, hi⟩, hst⟩ (by rw [q2]; exact h6) q1 q3 (by rw [hsl]; exact k2_hasslot (q4 k hk)) rfl rfl hdg fun H' e1 e2 e3 => ?_
    rw [hsl] at e1 ⊢
    exact kk H' _ e2 e3 ⟨_, hc, t_OB.to (V := updV (vp_V fs) k v) ⟨_, e1, q2, q3, t_set q4 hap hk v⟩ (fun j _ => vp_updV_set hl v j)⟩ (hS0.put e2 e3 ha)
  | true =>
    have hf2 : meth.name = "<init>" ∧ (T k).1 = own := by
      rcases hfin with q | q
      · rw [hf] at q; cases q
      · exact q
    rw [if_pos hf] at hlay
    have hcf : m.cls = cf := by
      obtain ⟨_, _, c', _, _, _, -, -, hf', -, -, -, hown2, -⟩ := Cond.laysFinal_spec hlay
      have e1 : c' = cf := by have := hi.symm.trans hf'; simp at this; exact this.1.symm
      rw [hf2.2] at hown2
      rw [← e1]; exact Option.some.inj (hown.symm.trans hown2)
    have h6 := u_fits hfc hkC hkind (Or.inr hlay) hi hd hn hfit
    refine W.putFinK hexec hb hown hlink hi hst hcf hf2.1 (by rw [q2]; exact h6) q1 q3 (by rw [hsl]; exact k2_hasslot (q4 k hk)) rfl rfl hdg fun H' e1 e2 e3 => ?_
    rw [hsl] at e1 ⊢
    exact kk H' _ e2 e3 ⟨_, hc, t_OB.to (V := updV (vp_V fs) k v) ⟨_, e1, q2, q3, t_set q4 hap hk v⟩ (fun j _ => vp_updV_set hl v j)⟩ (hS0.put e2 e3 ha)
end MPut
/-- one step that writes an old cell -/
theorem Ex_write {d y pc nx : Nat} {ls : Ls} {st st' : List AV} {m m2 : Mem} {Q : Nat → Option AV → Mem → Prop} (h : Ex d y nx ls st' m2 Q) (hN : mN m2 = mN m) (hZ : mZ m2 = mZ m)
    (row : ∀ {G : Gm} {p : Program} {l : Launch} {e : Env} {R : Room} {s : State} {mi : MethodId} {args : Array Value} {below : List Frame} {meth : Method} {c : Code} {H : Heap} {locs : List Loc} {cells slots : Nat} {Qf : State → Prop} {mls : Array Slot},
      Cx G y d p l R s mi args meth c → Rep G m s H → va_S (gA G) s.heap H locs → LR G mls (mL y) ls →
      (∀ H' locs', Rep G m2 s H' → va_S (gA G) s.heap H' locs' → W p l e R s mi args below meth c H' locs' cells slots Qf (F0 mi nx mls (st'.map (up G)))) →
      W p l e R s mi args below meth c H locs cells slots Qf (F0 mi pc mls (st.map (up G)))) : Ex d y pc ls st m Q := by
  obtain ⟨o, v, m', hQ, h1, h2, hE⟩ := h
  refine ⟨o, v, m', hQ, by rw [← hN]; exact h1, by rw [← hZ]; exact h2, fun G p l e R s mi args below meth c n0 z0 H locs mls C c1 c2 c3 c4 hR hS hL => ?_⟩
  refine row C hR hS hL fun H' locs' hR' hS' => ?_
  rw [← hN, ← hZ]
  exact hE G p l e R s mi args below meth c n0 z0 H' locs' mls C c1 c2 (by rw [hN]; exact c3) (by rw [hZ]; exact c4) hR' hS' hL
theorem arTy_13 {k : Nat} {ty : FieldType} (h : arTy k = some ty) : 13 ≤ k ∧ k ≤ 19 := by
  unfold arTy at h
  split at h <;> cases h <;> omega
theorem narrow_ref {ty : FieldType} (h : ty.isReference = true) (v : Value) : narrow ty v = v := by
  cases ty <;> cases h <;> cases v <;> rfl
theorem fits_ref {ty : FieldType} (h : ty.isReference = true) (G : Gm) (a : Nat) : fits ty (up G (vR a)) = true := by
  rcases up_ref G a with e | ⟨q, e⟩ <;> rw [e] <;> cases ty <;> cases h <;> rfl
theorem rho_A (G : Gm) {a : Nat} (h : 100 ≤ a) : gA G (rho G a) := by
  rw [rho_hi G h]
  unfold gA
  omega
theorem pOk_use {y : Nat} {e : Ent} {q : vw_C} (hq : vwCl[n2 e - 1]? = some q) (h : pOk y e = true) : (q.2.1 (n1 e - 64 * n2 e)).2.2.2 = false ∨ ((mNm y).name = "<init>" ∧ (q.2.1 (n1 e - 64 * n2 e)).1 = mC y) := by
  unfold pOk at h
  rw [hq] at h
  simp only [Bool.or_eq_true, Bool.not_eq_true', Bool.and_eq_true, decide_eq_true_eq] at h
  exact h
/-- a field's cell behind a write -/
theorem cOK_put {G : Gm} {U : State} {m m2 : Mem} {a k j : Nat} {q : vw_C} {H' : Heap} {v : Value} (hq : vwCl[k]? = some q) (hk : mK m a = k + 1) (hj : j < q.2.2) (hK : mK m2 = mK m) (hf : ∀ i, i < q.2.2 → fval G m2 k a i = if i = j then v else fval G m k a i)
    (hv : va_at (gD G) vwCl (rho G a, .inr (k, (flds G m k a q.2.2).set j v)) H') : cOK G U m2 a H' := by
  have hk12 := vwCl_lt hq
  refine ⟨fun k' q' hq' hk' => ?_, fun k' ty ht hk' => ?_, by rw [hK, hk]; omega⟩
  · rw [hK, hk] at hk'
    have e : k' = k := by omega
    subst e
    cases Option.some.inj (hq.symm.trans hq')
    have e2 : flds G m2 k' a q.2.2 = (flds G m k' a q.2.2).set j v := by
      refine List.ext_getElem? fun i => ?_
      by_cases hi : i < q.2.2
      · rw [flds_get G m2 k' a hi, hf i hi, List.getElem?_set, flds_length]
        by_cases e : i = j
        · subst e; simp [hi]
        · rw [if_neg e, if_neg (fun z => e z.symm), flds_get G m k' a hi]
      · rw [List.getElem?_eq_none (by rw [flds_length]; omega), List.getElem?_eq_none (by rw [List.length_set, flds_length]; omega)]
    rw [e2]
    exact hv
  · rw [hK, hk] at hk'
    have := arTy_13 ht
    omega
section Steps4
variable {d y pc : Nat} {ls : Ls} {st : List AV} {m : Mem} {Q : Nat → Option AV → Mem → Prop} {nx : Nat} {rs : List Nat} {c0 : Int} {r : List AV}
theorem offA_sFI (m : Mem) (f a : Nat) (x : Int) : offA m (sFI m f a x) a := ⟨rfl, rfl, rfl, fun b hb => ⟨fun f' => if_neg (fun z => hb z.2), fun _ => rfl, rfl, rfl, rfl⟩⟩
theorem offA_sFR (m : Mem) (f a : Nat) (x : Nat) : offA m (sFR m f a x) a := ⟨rfl, rfl, rfl, fun b hb => ⟨fun _ => rfl, fun f' => if_neg (fun z => hb z.2), rfl, rfl, rfl⟩⟩
theorem offA_sAI (m : Mem) (a : Nat) (x : Nat → Int) : offA m (sAI m a x) a := ⟨rfl, rfl, rfl, fun b hb => ⟨fun _ => rfl, fun _ => rfl, if_neg hb, rfl, rfl⟩⟩
theorem offA_sAL (m : Mem) (a : Nat) (x : Nat → Int) : offA m (sAL m a x) a := ⟨rfl, rfl, rfl, fun b hb => ⟨fun _ => rfl, fun _ => rfl, rfl, if_neg hb, rfl⟩⟩
theorem offA_sAR (m : Mem) (a : Nat) (x : Nat → Nat) : offA m (sAR m a x) a := ⟨rfl, rfl, rfl, fun b hb => ⟨fun _ => rfl, fun _ => rfl, rfl, rfl, if_neg hb⟩⟩
theorem s_putI {idx a : Nat} {x : Int} (hk : okE y pc (.putfield idx, nx, rs, c0)) (h : mK m a = n2 (.putfield idx, nx, rs, c0) ∧ (bif Nat.beq (n3 (.putfield idx, nx, rs, c0)) 1 then x = 0 ∨ x = 1 else True) ∧ n3 (.putfield idx, nx, rs, c0) < 2 ∧ Ex d y nx ls r (sFI m (n1 (.putfield idx, nx, rs, c0)) a x) Q) : Ex d y pc ls (vI x :: vR a :: r) m Q := by
  obtain ⟨k1, z2, k3⟩ := hk.use
  have k2 : nx = pc + 3 := z2
  clear z2 hk
  subst k2
  obtain ⟨hka, hb, ht, h⟩ := h
  change (fOk y (.putfield idx, pc + 3, rs, c0) idx && pOk y (.putfield idx, pc + 3, rs, c0) && !(Nat.beq (n2 (.putfield idx, pc + 3, rs, c0)) 20)) = true at k3
  generalize he : ((.putfield idx, pc + 3, rs, c0) : Ent) = e at k3 hka h hb ht
  simp only [Bool.and_eq_true, Bool.not_eq_true'] at k3
  obtain ⟨⟨g0, gp⟩, g20⟩ := k3
  have h20 : n2 e ≠ 20 := fun z => by rw [z] at g20; exact absurd g20 (by decide)
  obtain ⟨q, hq, g1, g2, g3, g4, g5⟩ := fOk_own g0 h20
  have hka' : mK m a = (n2 e - 1) + 1 := by omega
  refine Ex_write h rfl rfl fun {G _ _ _ _ _ _ _ _ _ _ _ _ _ _ _ _} C hR hS hL k => ?_
  obtain ⟨ha, hv⟩ := hR.obj hq hka'
  have ok := clOk_all hq
  rw [List.map_cons, List.map_cons, up_hi G ha]
  have hty : (n3 e = 0 ∧ clTy (n2 e - 1) (n1 e - 64 * n2 e) = .int) ∨ (n3 e = 1 ∧ clTy (n2 e - 1) (n1 e - 64 * n2 e) = .boolean) := by
    rcases g5 with z | z | z
    · exact Or.inl z
    · exact Or.inr z
    · omega
  have hnf : narrow (clTy (n2 e - 1) (n1 e - 64 * n2 e)) (up G (vI x)) = up G (vI x) ∧ fits (clTy (n2 e - 1) (n1 e - 64 * n2 e)) (up G (vI x)) = true ∧ (clTy (n2 e - 1) (n1 e - 64 * n2 e)).isReference = false := by
    rcases hty with ⟨z1, z2⟩ | ⟨z1, z2⟩
    · rw [z2]; exact ⟨rfl, rfl, rfl⟩
    · rw [z1] at hb
      rw [z2]
      have hb : x = 0 ∨ x = 1 := hb
      rcases hb with rfl | rfl
      · exact ⟨(by decide +kernel : narrow .boolean (.int (Int32.ofInt 0)) = .int (Int32.ofInt 0)), (by decide +kernel : fits .boolean (.int (Int32.ofInt 0)) = true), rfl⟩
      · exact ⟨(by decide +kernel : narrow .boolean (.int (Int32.ofInt 1)) = .int (Int32.ofInt 1)), (by decide +kernel : fits .boolean (.int (Int32.ofInt 1)) = true), rfl⟩
  refine m_put (D := gD G) (cl := vwCl) (C := q.1) (T := q.2.1) (N := q.2.2) (index := idx) C.1 C.2.1 C.2.2.2.2.2.1 ok.1 (clTy (n2 e - 1)) ok.2.1 ok.2.2.1 C.2.2.2.2.1 C.2.2.2.2.2.2.2.2.2.1.1 hS hv hq _ g3 (C.2.2.2.2.2.1 _ g4) ?_ hnf.1 hnf.2.1 (by rw [flds_length]; exact g3) (rho_A G ha) k1 (fun H1 locs1 z1 z2 z3 z4 => ?_)
  · rcases pOk_use hq gp with z | ⟨z1, z2⟩
    · exact Or.inl z
    · exact Or.inr ⟨by rw [C.2.2.2.2.2.2.2.2.1]; exact z1, z2⟩
  · refine k H1 locs1 (hR.upd ha (offA_sFI m _ a x) z1 z2 (cOK_put hq hka' g3 rfl (fun i hi => ?_) z3)) z4
    unfold fval
    have e9 : 64 * (n2 e - 1 + 1) + (n1 e - 64 * n2 e) = n1 e := by omega
    by_cases ei : i = n1 e - 64 * n2 e
    · rw [if_pos ei, ei, if_neg (by rw [hnf.2.2]; decide)]
      show Value.int (Int32.ofInt (if _ ∧ _ then x else _)) = _
      rw [if_pos ⟨e9, rfl⟩]
      rfl
    · rw [if_neg ei]
      have e8 : 64 * (n2 e - 1 + 1) + i ≠ n1 e := by omega
      have e7 : mFI (sFI m (n1 e) a x) (64 * (n2 e - 1 + 1) + i) a = mFI m (64 * (n2 e - 1 + 1) + i) a := if_neg (fun z => e8 z.1)
      rw [e7]
      rfl
theorem s_putR {idx a v : Nat} (hk : okE y pc (.putfield idx, nx, rs, c0)) (h : mK m a = n2 (.putfield idx, nx, rs, c0) ∧ n3 (.putfield idx, nx, rs, c0) = 2 ∧ Ex d y nx ls r (sFR m (n1 (.putfield idx, nx, rs, c0)) a v) Q) : Ex d y pc ls (vR v :: vR a :: r) m Q := by
  obtain ⟨k1, z2, k3⟩ := hk.use
  have k2 : nx = pc + 3 := z2
  clear z2 hk
  subst k2
  obtain ⟨hka, ht, h⟩ := h
  change (fOk y (.putfield idx, pc + 3, rs, c0) idx && pOk y (.putfield idx, pc + 3, rs, c0) && !(Nat.beq (n2 (.putfield idx, pc + 3, rs, c0)) 20)) = true at k3
  generalize he : ((.putfield idx, pc + 3, rs, c0) : Ent) = e at k3 hka h ht
  simp only [Bool.and_eq_true, Bool.not_eq_true'] at k3
  obtain ⟨⟨g0, gp⟩, g20⟩ := k3
  have h20 : n2 e ≠ 20 := fun z => by rw [z] at g20; exact absurd g20 (by decide)
  obtain ⟨q, hq, g1, g2, g3, g4, g5⟩ := fOk_own g0 h20
  have hka' : mK m a = (n2 e - 1) + 1 := by omega
  refine Ex_write h rfl rfl fun {G _ _ _ _ _ _ _ _ _ _ _ _ _ _ _ _} C hR hS hL k => ?_
  obtain ⟨ha, hv⟩ := hR.obj hq hka'
  have ok := clOk_all hq
  rw [List.map_cons, List.map_cons, up_hi G ha]
  have hty : (clTy (n2 e - 1) (n1 e - 64 * n2 e)).isReference = true := by
    rcases g5 with z | z | z
    · omega
    · omega
    · exact z.2
  refine m_put (D := gD G) (cl := vwCl) (C := q.1) (T := q.2.1) (N := q.2.2) (index := idx) C.1 C.2.1 C.2.2.2.2.2.1 ok.1 (clTy (n2 e - 1)) ok.2.1 ok.2.2.1 C.2.2.2.2.1 C.2.2.2.2.2.2.2.2.2.1.1 hS hv hq _ g3 (C.2.2.2.2.2.1 _ g4) ?_ (narrow_ref hty _) (fits_ref hty G v) (by rw [flds_length]; exact g3) (rho_A G ha) k1 (fun H1 locs1 z1 z2 z3 z4 => ?_)
  · rcases pOk_use hq gp with z | ⟨z1, z2⟩
    · exact Or.inl z
    · exact Or.inr ⟨by rw [C.2.2.2.2.2.2.2.2.1]; exact z1, z2⟩
  · refine k H1 locs1 (hR.upd ha (offA_sFR m _ a v) z1 z2 (cOK_put hq hka' g3 rfl (fun i hi => ?_) z3)) z4
    unfold fval
    have e9 : 64 * (n2 e - 1 + 1) + (n1 e - 64 * n2 e) = n1 e := by omega
    by_cases ei : i = n1 e - 64 * n2 e
    · rw [if_pos ei, ei, if_pos hty]
      show up G (vR (if _ ∧ _ then v else _)) = _
      rw [if_pos ⟨e9, rfl⟩]
    · rw [if_neg ei]
      have e8 : 64 * (n2 e - 1 + 1) + i ≠ n1 e := by omega
      have e7 : mFR (sFR m (n1 e) a v) (64 * (n2 e - 1 + 1) + i) a = mFR m (64 * (n2 e - 1 + 1) + i) a := if_neg (fun z => e8 z.1)
      rw [e7]
      rfl
end Steps4
end
section
/-! ===== arrays ===== -/
theorem not_in {i : Int} {n : Nat} (h : inR i n) : ¬ (Int32.ofInt i < 0 ∨ n ≤ (Int32.ofInt i).toNatClampNeg) := by
  obtain ⟨h1, h2⟩ := h
  unfold w32 at h1 h2
  rintro (q | q)
  · have := Int32.lt_iff_toInt_lt.mp q
    have e0 : (0 : Int32).toInt = 0 := by decide
    omega
  · have : (Int32.ofInt i).toNatClampNeg = (Int32.ofInt i).toInt.toNat := rfl
    omega
theorem ix_eq (i : Int) : (Int32.ofInt i).toNatClampNeg = ix i := rfl
theorem arrV_get (cA : ClassId) (n : Nat) (f : Nat → Value) {j : Nat} (hj : j < n) : (arrV cA n f).slots[j]? = some (f j) := by
  simp [arrV, hj]
theorem ix_lt {i : Int} {n : Nat} (h : inR i n) : ix i < n := by
  obtain ⟨h1, h2⟩ := h
  unfold ix
  omega
/-- an array's cell behind a write -/
theorem cOK_arr {G : Gm} {U : State} {m m2 : Mem} {a k : Nat} {ty : FieldType} {H' : Heap} {cA : ClassId} (ht : arTy k = some ty) (hk : mK m a = k) (hK : mK m2 = mK m) (hv : H'[rho G a]? = some (arrV cA (mLen m2 a) (aval G m2 k a))) (h1 : ArrOfT U cA ty) (h2 : va_RA U cA ty) : cOK G U m2 a H' := by
  have h13 := arTy_13 ht
  refine ⟨fun k' q' hq' hk' => ?_, fun k' ty' ht' hk' => ?_, by rw [hK, hk]; omega⟩
  · have := vwCl_lt hq'
    rw [hK, hk] at hk'
    omega
  · rw [hK, hk] at hk'
    subst hk'
    cases Option.some.inj (ht.symm.trans ht')
    exact ⟨cA, hv, h1, h2⟩
theorem aval_I {G : Gm} {m : Mem} {k a j : Nat} (h : k = 13 ∨ k = 15) : aval G m k a j = .int (Int32.ofInt (mAI m a j)) := by
  unfold aval
  rw [if_neg (by omega), if_neg (by omega)]
theorem aval_L {G : Gm} {m : Mem} {a j : Nat} : aval G m 14 a j = .long (Int64.ofInt (mAL m a j)) := rfl
theorem aval_R {G : Gm} {m : Mem} {k a j : Nat} (h : 16 ≤ k) : aval G m k a j = up G (vR (mAR m a j)) := by
  unfold aval
  rw [if_neg (by omega), if_pos h]
section Steps5
variable {d y pc : Nat} {ls : Ls} {st : List AV} {m : Mem} {Q : Nat → Option AV → Mem → Prop} {nx : Nat} {rs : List Nat} {c0 : Int} {r : List AV}
theorem s_iaload {a : Nat} {i : Int} (hk : okE y pc (.iaload, nx, rs, c0)) (h : mK m a = 13 ∧ inR i (mLen m a) ∧ Ex d y nx ls (vI (mAI m a (ix i)) :: r) m Q) : Ex d y pc ls (vI i :: vR a :: r) m Q := by
  obtain ⟨k1, k2, -⟩ := hk.use
  have k2 : nx = pc + 1 := k2
  subst k2
  obtain ⟨hka, hin, h⟩ := h
  refine Ex_pure h fun {G _ _ _ _ _ _ _ _ _ _ _ _ _ _ _ _} C hR hS hL k => ?_
  have k9 := k _ hL
  by_cases ha1 : a = 1
  · subst ha1
    have hw := C.2.2.2.2.2.2.2.2.2.1
    have hbb := C.2.2.2.2.2.2.2.2.2.2.1
    have hlt9 := hw.2.2.2.1
    rw [List.map_cons, List.map_cons, up_lo G (by omega) (by omega), show rho G 1 = gB G from rfl]
    have hl := hR.2.2.1
    rw [hl.2.1] at hin
    have e1 := hl.2.2.1 _ (ix_lt hin)
    rw [e1] at k9
    refine va_sld C.1 C.2.1 hw.2.2.1 (by omega) (by unfold gA; omega) hS (not_in hin) k1 ?_
    rw [List.map_cons] at k9
    have e2 : up G (vI (gX G (ix i)).toInt) = .int (gX G (ix i)) := by show Value.int _ = _; rw [Int32.ofInt_toInt]
    rw [e2] at k9
    exact k9
  · obtain ⟨ha, cA, g1, g2, g3⟩ := hR.arr (k := 13) rfl hka (Or.inr ha1)
    rw [List.map_cons, List.map_cons, up_hi G ha]
    refine W.iald C.1 C.2.1 g1 (g2 _ _) (fun q => by cases q) (by rw [arrV_size]; exact not_in hin) (arrV_get _ _ _ (ix_lt hin)) rfl rfl k1 ?_
    rw [aval_I (Or.inl rfl)]
    exact k9
theorem s_baload {a : Nat} {i : Int} (hk : okE y pc (.baload, nx, rs, c0)) (h : (mK m a = 15 ∨ mK m a = 21) ∧ inR i (mLen m a) ∧ Ex d y nx ls (vI (mAI m a (ix i)) :: r) m Q) : Ex d y pc ls (vI i :: vR a :: r) m Q := by
  obtain ⟨k1, k2, -⟩ := hk.use
  have k2 : nx = pc + 1 := k2
  subst k2
  obtain ⟨hka, hin, h⟩ := h
  refine Ex_pure h fun {G _ _ _ _ _ _ _ _ _ _ _ _ _ _ _ _} C hR hS hL k => ?_
  have k9 := k _ hL
  rcases hka with hka | hka
  · obtain ⟨ha, cA, g1, g2, g3⟩ := hR.arr (k := 15) rfl hka (Or.inl (by omega))
    rw [List.map_cons, List.map_cons, up_hi G ha]
    refine W.zald C.1 C.2.1 g1 (g2 _ _) (fun q => by cases q) (by rw [arrV_size]; exact not_in hin) (arrV_get _ _ _ (ix_lt hin)) rfl rfl k1 ?_
    rw [aval_I (Or.inr rfl)]
    exact k9
  · obtain ⟨j, hj, rfl⟩ := hR.byt hka
    have hj' : j < 24 := hj
    obtain ⟨l1, l2, l3, l4⟩ := hR.2.2.1.2.2.2.2 j hj
    rw [l3] at hin
    have hst := ((C.2.2.2.2.2.2.2.2.2.1.2.1 j hj).1 0 (by omega)).2.2.2.kept hS.2.1
    obtain ⟨cell, q1, q2, q3, q4, q5, q6, q7⟩ := hst
    rw [List.map_cons, List.map_cons, up_lo G (by omega) (by omega), rho_v G hj]
    have hlt : ix i < (sB j).length := ix_lt hin
    have hN : ([(sB j).length] : List Nat).getD 0 0 = (sB j).length := rfl
    rw [hN] at q4 q6
    refine W.bald C.1 C.2.1 q1 q2 q3 (fun z => not_in hin (z.elim Or.inl (fun z => Or.inr (Nat.le_trans q4 z)))) (q6 _ hlt) rfl rfl k1 ?_
    rw [l4 _ hlt] at k9
    rw [List.map_cons] at k9
    have e2 : up G (vI ((sB j).getD (ix i) 0).toInt) = .int ((sB j).getD (ix i) 0) := by show Value.int _ = _; rw [Int32.ofInt_toInt]
    rw [e2] at k9
    exact k9
theorem s_laload {a : Nat} {i : Int} (hk : okE y pc (.laload, nx, rs, c0)) (h : mK m a = 14 ∧ inR i (mLen m a) ∧ Ex d y nx ls (vL (mAL m a (ix i)) :: r) m Q) : Ex d y pc ls (vI i :: vR a :: r) m Q := by
  obtain ⟨k1, k2, -⟩ := hk.use
  have k2 : nx = pc + 1 := k2
  subst k2
  obtain ⟨hka, hin, h⟩ := h
  refine Ex_pure h fun {G _ _ _ _ _ _ _ _ _ _ _ _ _ _ _ _} C hR hS hL k => ?_
  have k9 := k _ hL
  obtain ⟨ha, cA, g1, g2, g3⟩ := hR.arr (k := 14) rfl hka (Or.inl (by omega))
  rw [List.map_cons, List.map_cons, up_hi G ha]
  exact W.lald C.1 C.2.1 g1 (g2 _ _) (fun q => by cases q) (by rw [arrV_size]; exact not_in hin) (arrV_get _ _ _ (ix_lt hin)) rfl rfl k1 k9
theorem arTy_ref {k : Nat} (h1 : 16 ≤ k) (h2 : k ≤ 19) : ∃ ty, arTy k = some ty ∧ ty.isReference = true := by
  rcases (by omega : k = 16 ∨ k = 17 ∨ k = 18 ∨ k = 19) with rfl | rfl | rfl | rfl <;> exact ⟨_, rfl, rfl⟩
theorem s_aaload {a : Nat} {i : Int} (hk : okE y pc (.aaload, nx, rs, c0)) (h : 16 ≤ mK m a ∧ mK m a ≤ 19 ∧ inR i (mLen m a) ∧ Ex d y nx ls (vR (mAR m a (ix i)) :: r) m Q) : Ex d y pc ls (vI i :: vR a :: r) m Q := by
  obtain ⟨k1, k2, -⟩ := hk.use
  have k2 : nx = pc + 1 := k2
  subst k2
  obtain ⟨hka, hkb, hin, h⟩ := h
  refine Ex_pure h fun {G _ _ _ _ _ _ _ _ _ _ _ _ _ _ _ _} C hR hS hL k => ?_
  have k9 := k _ hL
  obtain ⟨ty, ht, htr⟩ := arTy_ref hka hkb
  obtain ⟨ha, cA, g1, g2, g3⟩ := hR.arr ht rfl (Or.inl (by omega))
  rw [List.map_cons, List.map_cons, up_hi G ha]
  refine W.aald C.1 C.2.1 g1 (g2 _ _) htr (fun q => by cases q) (by rw [arrV_size]; exact not_in hin) (arrV_get _ _ _ (ix_lt hin)) rfl rfl k1 ?_
  rw [aval_R hka]
  exact k9
theorem s_alen {a : Nat} (hk : okE y pc (.arraylength, nx, rs, c0)) (h : isArr (mK m a) ∧ Ex d y nx ls (vI (mLen m a : Int) :: r) m Q) : Ex d y pc ls (vR a :: r) m Q := by
  obtain ⟨k1, k2, -⟩ := hk.use
  have k2 : nx = pc + 1 := k2
  subst k2
  obtain ⟨hka, h⟩ := h
  refine Ex_pure h fun {G _ _ _ _ _ _ _ _ _ _ _ _ _ _ _ _} C hR hS hL k => ?_
  have k9 := k _ hL
  have e0 : ∀ n : Nat, up G (vI (n : Int)) = .int (Int32.ofNat n) := fun n => by show Value.int _ = _; rw [Int32.ofInt_eq_ofNat]
  rw [List.map_cons, e0] at k9
  by_cases ha1 : a = 1
  · subst ha1
    have hw := C.2.2.2.2.2.2.2.2.2.1
    have hbb := C.2.2.2.2.2.2.2.2.2.2.1
    have hlt9 := hw.2.2.2.1
    rw [hR.2.2.1.2.1] at k9
    rw [List.map_cons, up_lo G (by omega) (by omega), show rho G 1 = gB G from rfl]
    exact va_slen C.1 C.2.1 hw.2.2.1 (by omega) (by unfold gA; omega) hS k1 k9
  · by_cases h21 : mK m a = 21
    · obtain ⟨j, hj, rfl⟩ := hR.byt h21
      have hj' : j < 24 := hj
      obtain ⟨l1, l2, l3, l4⟩ := hR.2.2.1.2.2.2.2 j hj
      have hst := ((C.2.2.2.2.2.2.2.2.2.1.2.1 j hj).1 0 (by omega)).2.2.2.kept hS.2.1
      obtain ⟨cell, q1, q2, q3, q4, q5, q6, q7⟩ := hst
      rw [List.map_cons, up_lo G (by omega) (by omega), rho_v G hj]
      rw [l3] at k9
      exact W.alen C.1 C.2.1 q1 q2 q5 rfl rfl k1 k9
    · have : ∃ ty, arTy (mK m a) = some ty := by
        unfold isArr at hka
        rcases hka with e | e | e | e | e | e | e | e <;> first | (rw [e]; exact ⟨_, rfl⟩) | exact absurd e h21
      obtain ⟨ty, ht⟩ := this
      obtain ⟨ha, cA, g1, g2, g3⟩ := hR.arr ht rfl (Or.inr ha1)
      rw [List.map_cons, up_hi G ha]
      exact W.alen C.1 C.2.1 g1 (g2 _ _) (by rw [arrV_size]) rfl rfl k1 k9
theorem s_iastore {a : Nat} {i x : Int} (hk : okE y pc (.iastore, nx, rs, c0)) (h : mK m a = 13 ∧ a ≠ 1 ∧ inR i (mLen m a) ∧ Ex d y nx ls r (sAI m a (up1 (mAI m a) (ix i) x)) Q) : Ex d y pc ls (vI x :: vI i :: vR a :: r) m Q := by
  obtain ⟨k1, k2, -⟩ := hk.use
  have k2 : nx = pc + 1 := k2
  subst k2
  obtain ⟨hka, ha1, hin, h⟩ := h
  refine Ex_write h rfl rfl fun {G _ _ _ _ _ _ _ _ _ _ _ _ _ _ _ _} C hR hS hL k => ?_
  obtain ⟨ha, cA, g1, g2, g3⟩ := hR.arr (k := 13) rfl hka (Or.inr ha1)
  rw [List.map_cons, List.map_cons, List.map_cons, up_hi G ha]
  refine W.iast C.1 C.2.1 g1 (g2 _ _) (fun q => by cases q) (by rw [arrV_size]; exact not_in hin) rfl rfl k1 (fun H1 z1 z2 z3 => ?_)
  refine k H1 _ (hR.upd ha (offA_sAI m a _) z2 z3 (cOK_arr (m := m) (k := 13) (cA := cA) rfl hka rfl ?_ g2 g3)) (hS.put z2 z3 (rho_A G ha))
  rw [z1, arrV_store]
  congr 2
  funext j
  rw [aval_I (Or.inl rfl)]
  rw [show mAI (sAI m a (up1 (mAI m a) (ix i) x)) a = up1 (mAI m a) (ix i) x from if_pos rfl]
  unfold updV up1
  by_cases e : j = ix i
  · rw [ix_eq, if_pos e, if_pos e]
  · rw [ix_eq, if_neg e, if_neg e, aval_I (Or.inl rfl)]
theorem s_bastore {a : Nat} {i x : Int} (hk : okE y pc (.bastore, nx, rs, c0)) (h : mK m a = 15 ∧ inR i (mLen m a) ∧ (x = 0 ∨ x = 1) ∧ Ex d y nx ls r (sAI m a (up1 (mAI m a) (ix i) x)) Q) : Ex d y pc ls (vI x :: vI i :: vR a :: r) m Q := by
  obtain ⟨k1, k2, -⟩ := hk.use
  have k2 : nx = pc + 1 := k2
  subst k2
  obtain ⟨hka, hin, hx01, h⟩ := h
  refine Ex_write h rfl rfl fun {G _ _ _ _ _ _ _ _ _ _ _ _ _ _ _ _} C hR hS hL k => ?_
  obtain ⟨ha, cA, g1, g2, g3⟩ := hR.arr (k := 15) rfl hka (Or.inl (by omega))
  rw [List.map_cons, List.map_cons, List.map_cons, up_hi G ha]
  refine W.zast C.1 C.2.1 g1 (g2 _ _) (fun q => by cases q) (by rw [arrV_size]; exact not_in hin) rfl rfl k1 (fun H1 z1 z2 z3 => ?_)
  refine k H1 _ (hR.upd ha (offA_sAI m a _) z2 z3 (cOK_arr (m := m) (k := 15) (cA := cA) rfl hka rfl ?_ g2 g3)) (hS.put z2 z3 (rho_A G ha))
  have e8 : narrow .boolean (.int (Int32.ofInt x)) = .int (Int32.ofInt x) := by
    rcases hx01 with rfl | rfl <;> decide +kernel
  rw [z1, e8, arrV_store]
  congr 2
  funext j
  rw [aval_I (Or.inr rfl)]
  rw [show mAI (sAI m a (up1 (mAI m a) (ix i) x)) a = up1 (mAI m a) (ix i) x from if_pos rfl]
  unfold updV up1
  by_cases e : j = ix i
  · rw [ix_eq, if_pos e, if_pos e]
  · rw [ix_eq, if_neg e, if_neg e, aval_I (Or.inr rfl)]
theorem s_lastore {a : Nat} {i x : Int} (hk : okE y pc (.lastore, nx, rs, c0)) (h : mK m a = 14 ∧ inR i (mLen m a) ∧ Ex d y nx ls r (sAL m a (up1 (mAL m a) (ix i) x)) Q) : Ex d y pc ls (vL x :: vI i :: vR a :: r) m Q := by
  obtain ⟨k1, k2, -⟩ := hk.use
  have k2 : nx = pc + 1 := k2
  subst k2
  obtain ⟨hka, hin, h⟩ := h
  refine Ex_write h rfl rfl fun {G _ _ _ _ _ _ _ _ _ _ _ _ _ _ _ _} C hR hS hL k => ?_
  obtain ⟨ha, cA, g1, g2, g3⟩ := hR.arr (k := 14) rfl hka (Or.inl (by omega))
  rw [List.map_cons, List.map_cons, List.map_cons, up_hi G ha]
  refine W.last C.1 C.2.1 g1 (g2 _ _) (fun q => by cases q) (by rw [arrV_size]; exact not_in hin) rfl rfl k1 (fun H1 z1 z2 z3 => ?_)
  refine k H1 _ (hR.upd ha (offA_sAL m a _) z2 z3 (cOK_arr (m := m) (k := 14) (cA := cA) rfl hka rfl ?_ g2 g3)) (hS.put z2 z3 (rho_A G ha))
  rw [z1, arrV_store]
  congr 2
  funext j
  rw [aval_L]
  rw [show mAL (sAL m a (up1 (mAL m a) (ix i) x)) a = up1 (mAL m a) (ix i) x from if_pos rfl]
  unfold updV up1
  by_cases e : j = ix i
  · rw [ix_eq, if_pos e, if_pos e]
  · rw [ix_eq, if_neg e, if_neg e, aval_L]
theorem s_aastore {a v : Nat} {i : Int} (hk : okE y pc (.aastore, nx, rs, c0)) (h : 16 ≤ mK m a ∧ mK m a ≤ 18 ∧ mK m v = mK m a - 15 ∧ inR i (mLen m a) ∧ Ex d y nx ls r (sAR m a (up1 (mAR m a) (ix i) v)) Q) : Ex d y pc ls (vR v :: vI i :: vR a :: r) m Q := by
  obtain ⟨k1, k2, -⟩ := hk.use
  have k2 : nx = pc + 1 := k2
  subst k2
  obtain ⟨hka, hkb, hkv, hin, h⟩ := h
  refine Ex_write h rfl rfl fun {G _ _ _ _ _ _ _ _ _ _ _ _ _ _ _ _} C hR hS hL k => ?_
  obtain ⟨q, hq, ht⟩ : ∃ q, vwCl[mK m a - 16]? = some q ∧ arTy (mK m a) = some (.object q.1) := by
    rcases (by omega : mK m a = 16 ∨ mK m a = 17 ∨ mK m a = 18) with e | e | e <;> rw [e] <;> exact ⟨_, rfl, rfl⟩
  obtain ⟨ha, cA, g1, g2, g3⟩ := hR.arr ht rfl (Or.inl (by omega))
  obtain ⟨hav, r9, hr9, cv, q1, q2, q3, -⟩ := hR.obj hq (a := v) (by omega)
  obtain ⟨kA, comp, f1, f2, f3, f4⟩ := g3
  obtain ⟨-, hfc, kC, hkC, -⟩ := C.2.2.2.2.2.2.2.2.2.1.1.1 _ _ hq
  cases Option.some.inj (f3.symm.trans hfc)
  rw [List.map_cons, List.map_cons, List.map_cons, up_hi G ha, up_hi G hav]
  have hni := not_in hin
  refine W.aast C.1 C.2.1 g1 (fun q => fun e => by cases e) (fun q => by cases q) f1 f2 rfl hkC ⟨fun e => hni (Or.inl e), by rw [arrV_size]; exact Nat.not_le.mp (fun e => hni (Or.inr e))⟩ q1 (fun q e => by rw [q3] at e; cases e) (by rw [q2]; exact hkC) (by rw [q2]; exact va_asg _ _) rfl rfl k1 (fun H1 z1 z2 z3 => ?_)
  refine k H1 _ (hR.upd ha (offA_sAR m a _) z2 z3 (cOK_arr (m := m) (cA := cA) ht rfl rfl ?_ g2 ⟨kA, _, f1, f2, hfc, f4⟩)) (hS.put z2 z3 (rho_A G ha))
  rw [z1, arrV_store]
  congr 2
  funext j
  rw [aval_R hka]
  rw [show mAR (sAR m a (up1 (mAR m a) (ix i) v)) a = up1 (mAR m a) (ix i) v from if_pos rfl]
  unfold updV up1
  by_cases e : j = ix i
  · rw [ix_eq, if_pos e, if_pos e, up_hi G hav]
  · rw [ix_eq, if_neg e, if_neg e, aval_R hka]
end Steps5
end
section
/-! ===== rows that make cells ===== -/
theorem Ex_alloc {d y pc nx kc ks : Nat} {ls : Ls} {st st' : List AV} {m m2 : Mem} {Q : Nat → Option AV → Mem → Prop} (h : Ex d y nx ls st' m2 Q) (hN : mN m2 = mN m + kc) (hZ : mZ m2 = mZ m + ks)
    (row : ∀ {G : Gm} {p : Program} {l : Launch} {e : Env} {R : Room} {s : State} {mi : MethodId} {args : Array Value} {below : List Frame} {meth : Method} {c : Code} {H : Heap} {locs : List Loc} {cells slots : Nat} {Qf : State → Prop} {mls : Array Slot},
      Cx G y d p l R s mi args meth c → Rep G m s H → va_S (gA G) s.heap H locs → LR G mls (mL y) ls → cells + kc ≤ R.cells → slots + ks ≤ R.slots →
      (∀ H', Rep G m2 s H' → (∀ q, q < H.size → H'[q]? = H[q]?) → H.size ≤ H'.size → W p l e R s mi args below meth c H' locs (cells + kc) (slots + ks) Qf (F0 mi nx mls (st'.map (up G)))) →
      W p l e R s mi args below meth c H locs cells slots Qf (F0 mi pc mls (st.map (up G)))) : Ex d y pc ls st m Q := by
  obtain ⟨o, v, m', hQ, h1, h2, hE⟩ := h
  rw [hN] at h1
  rw [hZ] at h2
  refine ⟨o, v, m', hQ, by omega, by omega, fun G p l e R s mi args below meth c n0 z0 H locs mls C c1 c2 c3 c4 hR hS hL => ?_⟩
  refine row C hR hS hL (by omega) (by omega) fun H' hR' ho hsz => ?_
  have w := hE G p l e R s mi args below meth c n0 z0 H' locs mls C c1 c2 (by omega) (by omega) hR' ⟨Nat.le_trans hS.1 hsz, fun x x1 x2 => (ho x (Nat.lt_of_lt_of_le x1 hS.1)).trans (hS.2.1 x x1 x2), hS.2.2⟩ hL
  rw [hN, hZ] at w
  rw [show mN m - n0 + kc = mN m + kc - n0 by omega, show mZ m - z0 + ks = mZ m + ks - z0 by omega]
  exact w
theorem clTy_def {k j : Nat} {q : vw_C} (hq : vwCl[k]? = some q) (hj : j < q.2.2) : defaultValue (clTy k j) = if (clTy k j).isReference = true then .null else .int 0 := by
  have all : ∀ k, k < 12 → ∀ j, j < 37 → defaultValue (clTy k j) = if (clTy k j).isReference = true then .null else .int 0 := by decide +kernel
  refine all k (vwCl_lt hq) j ?_
  have b : ∀ k, k < 12 → ((vwCl[k]?).map (fun q => q.2.2)).getD 0 ≤ 37 := by decide +kernel
  have := b k (vwCl_lt hq)
  rw [hq] at this
  exact Nat.lt_of_lt_of_le hj this
theorem fval_new (G : Gm) (m : Mem) (kk len sz k j : Nat) : fval G (alloc m kk len sz) k (100 + mN m) j = if (clTy k j).isReference = true then .null else .int 0 := by
  unfold fval
  rw [show mFR (alloc m kk len sz) (64 * (k + 1) + j) (100 + mN m) = 0 from if_pos rfl, show mFI (alloc m kk len sz) (64 * (k + 1) + j) (100 + mN m) = 0 from if_pos rfl]
  rfl
theorem aval_new (G : Gm) (m : Mem) (kk len sz k j : Nat) : aval G (alloc m kk len sz) k (100 + mN m) j = if k = 14 then .long 0 else if 16 ≤ k then .null else .int 0 := by
  unfold aval
  rw [show mAL (alloc m kk len sz) (100 + mN m) = fun _ => 0 from if_pos rfl, show mAR (alloc m kk len sz) (100 + mN m) = fun _ => 0 from if_pos rfl, show mAI (alloc m kk len sz) (100 + mN m) = fun _ => 0 from if_pos rfl]
  rfl
theorem cOK_newA {G : Gm} {U : State} {m : Mem} {k len sz : Nat} {ty : FieldType} {H' : Heap} {cA : ClassId} {f : Nat → Value} (ht : arTy k = some ty) (hv : H'[rho G (100 + mN m)]? = some (arrV cA len f)) (hf : ∀ j, f j = if k = 14 then .long 0 else if 16 ≤ k then .null else .int 0) (h1 : ArrOfT U cA ty) (h2 : va_RA U cA ty) : cOK G U (alloc m k len sz) (100 + mN m) H' := by
  have h13 := arTy_13 ht
  have hK : mK (alloc m k len sz) (100 + mN m) = k := if_pos rfl
  have hL : mLen (alloc m k len sz) (100 + mN m) = len := if_pos rfl
  refine ⟨fun k' q' hq' hk' => ?_, fun k' ty' ht' hk' => ?_, by rw [hK]; omega⟩
  · have := vwCl_lt hq'
    rw [hK] at hk'
    omega
  · rw [hK] at hk'
    subst hk'
    cases Option.some.inj (ht.symm.trans ht')
    refine ⟨cA, ?_, h1, h2⟩
    rw [hv, hL]
    congr 2
    funext j
    rw [hf, aval_new]
theorem rho_new (G : Gm) (m : Mem) : rho G (100 + mN m) = gBase G + mN m := by
  rw [rho_hi G (by omega)]
  omega
theorem up_new (G : Gm) (m : Mem) : up G (vR (100 + mN m)) = .ref (gBase G + mN m) := by
  rw [up_hi G (by omega), rho_new]
theorem ix_bound {x : Int} (h0 : 0 ≤ w32 x) (h : w32 x ≤ 100000) : ¬ Int32.ofInt x < 0 ∧ ix x ≤ 100000 := by
  refine ⟨fun q => ?_, by unfold ix; omega⟩
  have := Int32.lt_iff_toInt_lt.mp q
  have e0 : (0 : Int32).toInt = 0 := by decide
  unfold w32 at h0
  omega
section Steps6
variable {d y pc : Nat} {ls : Ls} {st : List AV} {m : Mem} {Q : Nat → Option AV → Mem → Prop} {nx : Nat} {rs : List Nat} {c0 : Int} {r : List AV}
theorem s_new {idx : Nat} (hk : okE y pc (.new idx, nx, rs, c0)) (h : n1 (.new idx, nx, rs, c0) ≤ 12 ∧ Ex d y nx ls (vR (100 + mN m) :: st) (alloc m (n1 (.new idx, nx, rs, c0)) 0 (n2 (.new idx, nx, rs, c0))) Q) : Ex d y pc ls st m Q := by
  obtain ⟨k1, z2, k3⟩ := hk.use
  have k2 : nx = pc + 3 := z2
  clear z2 hk
  subst k2
  obtain ⟨-, h⟩ := h
  change (match vwCl[n1 (.new idx, pc + 3, rs, c0) - 1]? with
    | some q => decide (1 ≤ n1 (.new idx, pc + 3, rs, c0)) && decide (n2 (.new idx, pc + 3, rs, c0) = q.2.2) && wAt (n3 (.new idx, pc + 3, rs, c0)) (.classLink (mC y) idx q.1)
    | none => false) = true at k3
  generalize he : ((.new idx, pc + 3, rs, c0) : Ent) = e at k3 h
  split at k3
  · next q hq =>
    simp only [Bool.and_eq_true, decide_eq_true_eq] at k3
    obtain ⟨⟨g1, g2⟩, g3⟩ := k3
    refine Ex_alloc (kc := 1) (ks := n2 e) h rfl rfl fun {G _ _ _ _ _ _ _ _ _ _ _ _ _ _ _ _} C hR hS hL hc hs k => ?_
    have ok := clOk_all hq
    have hKn := C.2.2.2.2.2.2.2.2.2.1.1.1 _ _ hq
    refine W.newcK C.1 C.2.1 C.2.2.2.2.1 (C.2.2.2.2.2.1 _ (wAt_mem g3)) (n := n2 e) (by rw [g2]; exact C.2.2.2.2.2.1 _ ok.2.2.2.2.1) (C.2.2.2.2.2.1 _ ok.2.2.2.2.2) rfl k1 hc hs hKn.2.1 rfl fun H1 kC hkC e1 z1 o1 => ?_
    have hsz := hR.1
    have k9 := k H1 (hR.new z1 o1 ?_) o1 (by omega)
    · rw [List.map_cons, up_new] at k9
      rw [hsz]
      exact k9
    · have hK : mK (alloc m (n1 e) 0 (n2 e)) (100 + mN m) = n1 e := if_pos rfl
      have hk12 := vwCl_lt hq
      refine ⟨fun k' q' hq' hk' => ?_, fun k' ty ht hk' => ?_, by rw [hK]; omega⟩
      · rw [hK] at hk'
        have e9 : k' = n1 e - 1 := by omega
        subst e9
        cases Option.some.inj (hq.symm.trans hq')
        refine ⟨q, hq, ?_⟩
        rw [rho_new, ← hsz]
        refine (u_born _ C.2.2.2.2.2.1 ok.1 hKn hkC e1 ok.2.1).to fun j hj => ?_
        rw [clTy_def hq hj]
        unfold vp_V
        rw [List.getD_eq_getElem?_getD, flds_get G _ _ _ hj, fval_new]
        rfl
      · have := arTy_13 ht
        rw [hK] at hk'
        omega
  · cases k3
theorem s_newarray {t : ArrayType} {x : Int} (hk : okE y pc (.newarray t, nx, rs, c0)) (h : 0 ≤ w32 x ∧ w32 x ≤ 100000 ∧ Ex d y nx ls (vR (100 + mN m) :: r) (alloc m (n1 (.newarray t, nx, rs, c0)) (ix x) (ix x)) Q) : Ex d y pc ls (vI x :: r) m Q := by
  obtain ⟨k1, z2, k3⟩ := hk.use
  have k2 : nx = pc + 2 := z2
  clear z2 hk
  subst k2
  obtain ⟨h0, hx, h⟩ := h
  change (decide (kindOf t = n1 (.newarray t, pc + 2, rs, c0) ∧ n1 (.newarray t, pc + 2, rs, c0) ≠ 0) && wAt (n2 (.newarray t, pc + 2, rs, c0)) (.arrayClass (newarray.typeOf t))) = true at k3
  generalize he : ((.newarray t, pc + 2, rs, c0) : Ent) = e at k3 h
  simp only [Bool.and_eq_true, decide_eq_true_eq] at k3
  obtain ⟨⟨g1, g2⟩, g3⟩ := k3
  obtain ⟨hn, hb⟩ := ix_bound h0 hx
  have ht : arTy (n1 e) = some (newarray.typeOf t) ∧ (∀ j : Nat, (fun _ => defaultValue (newarray.typeOf t)) j = if n1 e = 14 then Value.long 0 else if 16 ≤ n1 e then .null else .int 0) ∧ componentBytes (newarray.typeOf t) ≤ 8 := by
    rw [← g1]
    rw [← g1] at g2
    cases t <;> first | exact absurd rfl g2 | exact ⟨rfl, fun _ => rfl, by decide⟩
  refine Ex_alloc (kc := 1) (ks := ix x) h rfl rfl fun {G _ _ _ _ _ _ _ _ _ _ _ _ _ _ _ _} C hR hS hL hc hs k => ?_
  have hsz := hR.1
  refine va_newaK C.1 C.2.1 (C.2.2.2.2.2.1 _ (wAt_mem g3)) rfl k1 rfl hn (N := ix x) rfl ?_ hc hs rfl fun H1 cA e1 z1 o1 hAr hNm => ?_
  · have := Nat.mul_le_mul hb ht.2.2
    omega
  · have k9 := k H1 (hR.new z1 o1 (cOK_newA (cA := cA) ht.1 (by rw [rho_new, ← hsz]; exact e1) ht.2.1 hAr ?_)) o1 (by omega)
    · rw [List.map_cons, up_new] at k9
      rw [hsz]
      exact k9
    · cases t <;> exact hNm
theorem s_anewarray {idx : Nat} {x : Int} (hk : okE y pc (.anewarray idx, nx, rs, c0)) (h : 0 ≤ w32 x ∧ w32 x ≤ 100000 ∧ Ex d y nx ls (vR (100 + mN m) :: r) (alloc m (n1 (.anewarray idx, nx, rs, c0)) (ix x) (ix x)) Q) : Ex d y pc ls (vI x :: r) m Q := by
  obtain ⟨k1, z2, k3⟩ := hk.use
  have k2 : nx = pc + 3 := z2
  clear z2 hk
  subst k2
  obtain ⟨h0, hx, h⟩ := h
  obtain ⟨hn, hb⟩ := ix_bound h0 hx
  change (match arTy (n1 (.anewarray idx, pc + 3, rs, c0)) with
    | some (.object C) => decide (16 ≤ n1 (.anewarray idx, pc + 3, rs, c0) ∧ n1 (.anewarray idx, pc + 3, rs, c0) ≤ 18) && wAt (n2 (.anewarray idx, pc + 3, rs, c0)) (.classLink (mC y) idx C) && wAtN (n3 (.anewarray idx, pc + 3, rs, c0)) (.arrayOver (.object C))
    | _ => false) = true at k3
  generalize he : ((.anewarray idx, pc + 3, rs, c0) : Ent) = e at k3 h
  split at k3
  · next C9 hC =>
    simp only [Bool.and_eq_true, decide_eq_true_eq] at k3
    obtain ⟨⟨g1, g2⟩, g3⟩ := k3
    refine Ex_alloc (kc := 1) (ks := ix x) h rfl rfl fun {G _ _ _ _ s9 _ _ _ _ _ H _ _ _ _ _} C hR hS hL hc hs k => ?_
    have hsz := hR.1
    refine W.anew C.1 C.2.1 C.2.2.2.2.1 (C.2.2.2.2.2.1 _ (wAt_mem g2)) (okW2_use (wAtN_use g3).2 (C.2.2.2.2.2.2.2.2.2.1.2.2.2.2.1.2.1 _ (wAtN_use g3).1 (wAtN_use g3).2)) rfl k1 rfl hn (by rw [ix_eq]; omega) hc hs fun cA kA comp f1 f2 f3 f4 => ?_
    generalize hH1 : H.push ({ cls := cA, slots := Array.replicate (Int32.ofInt x).toNatClampNeg .null, vm := .none } : Cell) = H1
    have z1 : H1.size = H.size + 1 := by rw [← hH1, Array.size_push]
    have e1 : H1[H.size]? = some (arrV cA (ix x) (fun _ => .null)) := by rw [← hH1, Array.getElem?_push_size, ← arrV_new]; rfl
    have o1 : ∀ q : Nat, q < H.size → H1[q]? = H[q]? := fun q hq => by rw [← hH1, Array.getElem?_push, if_neg (Nat.ne_of_lt hq)]
    have hAr : ArrOfT s9 cA (.object C9) := fun N z => ⟨(fun k h => by cases h), kA, f2, comp, f3⟩
    have k9 := k _ (hR.new z1 o1 (cOK_newA (cA := cA) hC (f := fun _ => .null) (by rw [rho_new, ← hsz]; exact e1) (fun j => by rw [if_neg (by omega), if_pos g1.1]) hAr ⟨kA, comp, f2, f3, f4, f1⟩)) o1 (by omega)
    rw [List.map_cons, up_new, ← hsz] at k9
    exact k9
  · cases k3
theorem s_objInit {idx a : Nat} (hk : okE y pc (.invokespecial idx, nx, rs, c0)) (h : n1 (.invokespecial idx, nx, rs, c0) = 999 ∧ Ex d y nx ls r m Q) (h100 : 100 ≤ a) (hr : catS r ≤ 8) : Ex d y pc ls (vR a :: r) m Q := by
  obtain ⟨k1, z2, k3⟩ := hk.use
  have k2 : nx = pc + 3 := z2
  clear z2 hk
  subst k2
  obtain ⟨h9, h⟩ := h
  change (bif Nat.beq (n1 (.invokespecial idx, pc + 3, rs, c0)) 999 then wAt (n2 (.invokespecial idx, pc + 3, rs, c0)) (.methodLink (mC y) idx objectInit) && wAt (n3 (.invokespecial idx, pc + 3, rs, c0)) (.instanceMethod objectInit) && wAt (rs.getD 3 0) (.code objectInit ⟨#[0xb1]⟩ 1 none) else _) = true at k3
  rw [h9, show Nat.beq 999 999 = true from rfl] at k3
  simp only [cond_true, Bool.and_eq_true] at k3
  refine Ex_pure h fun {G _ _ _ R s9 _ _ _ _ _ H _ _ _ _ _} C hR hS hL k => ?_
  rw [List.map_cons, up_hi G h100]
  have hfr : frD d ≤ R.frames := C.2.2.2.2.2.2.2.2.2.2.2.2.1
  have hlo : loD d ≤ R.locals := C.2.2.2.2.2.2.2.2.2.2.2.2.2
  unfold frD at hfr
  unfold loD at hlo
  refine W.objInit C.1 C.2.1 C.2.2.2.2.1 (C.2.2.2.2.2.1 _ (wAt_mem k3.1.1)) (C.2.2.2.2.2.1 _ (wAt_mem k3.1.2)) (C.2.2.2.2.2.1 _ (wAt_mem k3.2)) rfl (hL.1.trans C.2.2.2.1.symm) rfl k1 (by omega) ?_ (k _ hL)
  have e1 : ((r.map (up G)).map fun v => v.category).sum = catS r := by
    unfold catS
    rw [List.map_map]
    congr 1
    refine List.map_congr_left fun v _ => ?_
    exact up_cat G v
  rw [e1]
  show 2 * 0 + _ + 12 ≤ _
  omega
/-! ===== constants ===== -/
theorem s_ldcI {idx : Nat} (hk : okE y pc (.ldc idx, nx, rs, c0)) (h1 : n1 (.ldc idx, nx, rs, c0) = 0) (h : Ex d y nx ls (vI c0 :: st) m Q) : Ex d y pc ls st m Q := by
  obtain ⟨k1, k2, k3⟩ := hk.use
  have k2 : nx = pc + 2 := k2
  subst k2
  refine Ex_pure h fun C hR hS hL k => ?_
  change (bif Nat.beq (n1 (.ldc idx, pc + 2, rs, c0)) 0 then wAt (n2 (.ldc idx, pc + 2, rs, c0)) (.constant (mC y) idx (Int32.ofInt c0)) else _) = true at k3
  rw [h1] at k3
  exact lv_ldc C.1 C.2.1 C.2.2.2.2.1 (C.2.2.2.2.2.1 _ (wAt_mem k3)) k1 (k _ hL)
theorem s_ldcS {idx : Nat} (hk : okE y pc (.ldc idx, nx, rs, c0)) (h1 : n1 (.ldc idx, nx, rs, c0) ≠ 0) (h : Ex d y nx ls (vR (n2 (.ldc idx, nx, rs, c0)) :: st) m Q) : Ex d y pc ls st m Q := by
  obtain ⟨k1, k2, k3⟩ := hk.use
  have k2 : nx = pc + 2 := k2
  subst k2
  change (bif Nat.beq (n1 (.ldc idx, pc + 2, rs, c0)) 0 then _ else decide (n2 (.ldc idx, pc + 2, rs, c0) % 2 = 0 ∧ 2 ≤ n2 (.ldc idx, pc + 2, rs, c0) ∧ n2 (.ldc idx, pc + 2, rs, c0) < 98) && decide ((sSite[(n2 (.ldc idx, pc + 2, rs, c0) - 2) / 2]?).map (fun q => (q.1, q.2.1)) = some (mC y, idx))) = true at k3
  have hb : Nat.beq (n1 (.ldc idx, pc + 2, rs, c0)) 0 = false := by
    cases hx : Nat.beq (n1 (.ldc idx, pc + 2, rs, c0)) 0 with
    | false => rfl
    | true => exact absurd (Nat.eq_of_beq_eq_true hx) h1
  rw [hb] at k3
  generalize n2 (.ldc idx, pc + 2, rs, c0) = a at k3 h
  simp only [cond_false, Bool.and_eq_true, decide_eq_true_eq] at k3
  obtain ⟨⟨g1, g2, g3⟩, g4⟩ := k3
  refine Ex_pure h fun {G _ _ _ _ _ _ _ _ _ _ _ _ _ _ _ _} C hR hS hL k => ?_
  have k9 := k _ hL
  rw [List.map_cons, up_lo G (by omega) (by omega)] at k9
  cases hq : sSite[(a - 2) / 2]? with
  | none => rw [hq] at g4; cases g4
  | some q =>
    rw [hq] at g4
    have g4 : (q.1, q.2.1) = (mC y, idx) := Option.some.inj g4
    have e1 : q.1 = mC y := congrArg Prod.fst g4
    have e2 : q.2.1 = idx := congrArg Prod.snd g4
    have hR9 := C.2.2.2.2.2.2.2.2.2.1.2.2.2.2.2.1 _ q hq
    rw [e1, e2] at hR9
    have e3 : rho G a = gAK G ((a - 2) / 2) := by
      unfold rho
      rw [if_neg (by omega), if_pos (by omega), if_pos g1]
    rw [e3] at k9
    exact va_ldcS C.1 C.2.1 C.2.2.2.2.1 hR9 k1 k9
theorem s_ldcw {idx : Nat} (hk : okE y pc (.ldc_w idx, nx, rs, c0)) (h : Ex d y nx ls (vI c0 :: st) m Q) : Ex d y pc ls st m Q := by
  obtain ⟨k1, k2, k3⟩ := hk.use
  have k2 : nx = pc + 3 := k2
  subst k2
  refine Ex_pure h fun C hR hS hL k => ?_
  change wAt (n1 (.ldc_w idx, pc + 3, rs, c0)) (.constant (mC y) idx (Int32.ofInt c0)) = true at k3
  exact lv_ldcw C.1 C.2.1 C.2.2.2.2.1 (C.2.2.2.2.2.1 _ (wAt_mem k3)) k1 (k _ hL)
theorem s_ldc2 {idx : Nat} (hk : okE y pc (.ldc2_w idx, nx, rs, c0)) (h : Ex d y nx ls (vL c0 :: st) m Q) : Ex d y pc ls st m Q := by
  obtain ⟨k1, k2, k3⟩ := hk.use
  have k2 : nx = pc + 3 := k2
  subst k2
  refine Ex_pure h fun C hR hS hL k => ?_
  change wAt (n1 (.ldc2_w idx, pc + 3, rs, c0)) (.constantLong (mC y) idx (Int64.ofInt c0)) = true at k3
  exact lv_ldc2 C.1 C.2.1 C.2.2.2.2.1 (C.2.2.2.2.2.1 _ (wAt_mem k3)) k1 (k _ hL)
theorem s_getstatic {idx : Nat} (hk : okE y pc (.getstatic idx, nx, rs, c0)) (h : Ex d y nx ls ((bif Nat.beq (n1 (.getstatic idx, nx, rs, c0)) 0 then vI c0 else vR 99) :: st) m Q) : Ex d y pc ls st m Q := by
  obtain ⟨k1, k2, k3⟩ := hk.use
  have k2 : nx = pc + 3 := k2
  subst k2
  change (bif Nat.beq (n1 (.getstatic idx, pc + 3, rs, c0)) 0 then decide (c0 = 1) && wAt (n2 (.getstatic idx, pc + 3, rs, c0)) (.fieldLink (mC y) idx "java/lang/String" "COMPACT_STRINGS" "Z") else wAt (n2 (.getstatic idx, pc + 3, rs, c0)) (.fieldLink (mC y) idx "jdk/internal/util/Preconditions" "SIOOBE_FORMATTER" "Ljava/util/function/BiFunction;")) = true at k3
  refine Ex_pure h fun {G _ _ _ _ _ _ _ _ _ _ _ _ _ _ _ _} C hR hS hL k => ?_
  have k9 := k _ hL
  have hw := C.2.2.2.2.2.2.2.2.2.1
  cases hb : Nat.beq (n1 (.getstatic idx, pc + 3, rs, c0)) 0 with
  | true =>
    rw [hb] at k3 k9
    simp only [cond_true, Bool.and_eq_true, decide_eq_true_eq] at k3
    obtain ⟨rfl, g⟩ := k3
    exact va_gets C.1 C.2.1 hw.2.2.2.2.2.2.2.2.1 hS C.2.2.2.2.1 (C.2.2.2.2.2.1 _ (wAt_mem g)) (fun x hx => hx) k1 k9
  | false =>
    rw [hb] at k3 k9
    simp only [cond_false] at k3
    exact va_gets C.1 C.2.1 hw.2.2.2.2.2.2.2.2.2 hS C.2.2.2.2.1 (C.2.2.2.2.2.1 _ (wAt_mem k3)) (fun x hx => hx) k1 k9
theorem lsw_off {pc : Nat} {d0 x : Int} {dt : Nat} (hd : (pc : Int) + d0 = (dt : Int)) : ∀ ps : List (Int × Int), (∀ q ∈ ps, 0 ≤ q.1 ∧ 0 ≤ (pc : Int) + q.2) → (pc : Int) + Op.lookupswitch.offset ps d0 x = (lsw (ps.flatMap fun q => [q.1.toNat, ((pc : Int) + q.2).toNat]) dt x : Nat)
  | [], _ => hd
  | (a, o) :: r, h => by
    have h0 := h (a, o) List.mem_cons_self
    have ih := lsw_off (x := x) hd r (fun q hq => h q (List.mem_cons_of_mem _ hq))
    rw [Op.lookupswitch.offset_cons]
    show _ = ((lsw (a.toNat :: ((pc : Int) + o).toNat :: r.flatMap fun q => [q.1.toNat, ((pc : Int) + q.2).toNat]) dt x : Nat) : Int)
    unfold lsw
    by_cases e : a = x
    · rw [if_pos e, if_pos (by omega)]
      omega
    · rw [if_neg e, if_neg (by omega)]
      exact ih
theorem s_lookup {df : Int} {ps : Array (Int × Int)} {x : Int} (hk : okE y pc (.lookupswitch df ps, nx, rs, c0)) (h : Ex d y (lsw (rs.drop 1) (n1 (.lookupswitch df ps, nx, rs, c0)) (w32 x)) ls r m Q) : Ex d y pc ls (vI x :: r) m Q := by
  obtain ⟨k1, -, k3⟩ := hk.use
  unfold okX at k3
  simp only [Bool.and_eq_true, decide_eq_true_eq, List.all_eq_true] at k3
  obtain ⟨⟨⟨g1, g2⟩, g3⟩, g4⟩ := k3
  refine Ex_pure h fun C hR hS hL k => ?_
  refine lv_lookup C.1 C.2.1 k1 ?_ rfl (tgt := lsw (rs.drop 1) (n1 (.lookupswitch df ps, nx, rs, c0)) (w32 x)) ?_ (k _ hL)
  · rw [List.all_eq_true]
    intro q hq
    exact decide_eq_true (g4 q hq)
  · rw [g2]
    exact lsw_off g1 ps.toList g3
/-! ===== ends ===== -/
theorem Ex_ret {v : Option AV} (hq : Q 0 v m) (row : ∀ {G : Gm} {p : Program} {l : Launch} {e : Env} {R : Room} {s : State} {mi : MethodId} {args : Array Value} {below : List Frame} {meth : Method} {c : Code} {H : Heap} {locs : List Loc} {cells slots : Nat} {mls : Array Slot},
      Cx G y d p l R s mi args meth c → (∀ t : State, t.heap = H → s.WarmedH t.vm → QR G m 0 v args s (.returned (v.map (up G))) t) → (∀ q ∈ locs, gA G q.base) →
      W p l e R s mi args below meth c H locs cells slots (MQ below (QR G m 0 v) args s cells slots (gA G)) (F0 mi pc mls (st.map (up G)))) : Ex d y pc ls st m Q := by
  refine ⟨0, v, m, hq, Nat.le_refl _, Nat.le_refl _, fun G p l e R s mi args below meth c n0 z0 H locs mls C c1 c2 c3 c4 hR hS hL => ?_⟩
  exact vx_ret (row C (fun t ht hW => ⟨rfl, rfl, by rw [ht]; exact hR.moved hW.alike, hS.F ht⟩) hS.2.2)
theorem s_return (hk : okE y pc (.return_, nx, rs, c0)) (h : Q 0 none m) : Ex d y pc ls [] m Q := by
  obtain ⟨k1, -, k3⟩ := hk.use
  refine Ex_ret h fun C hq hf => ?_
  exact W.vret C.1 C.2.1 (C.2.2.1.trans (of_decide_eq_true k3)) hq hf k1 C.2.2.2.2.2.2.1
theorem s_lreturn {x : Int} (hk : okE y pc (.lreturn, nx, rs, c0)) (h : Q 0 (some (vL x)) m) : Ex d y pc ls [vL x] m Q := by
  obtain ⟨k1, -, k3⟩ := hk.use
  refine Ex_ret h fun C hq hf => ?_
  exact W.lret C.1 C.2.1 (C.2.2.1.trans (of_decide_eq_true k3)) hq hf k1 C.2.2.2.2.2.2.1
theorem s_areturn {a : Nat} (hk : okE y pc (.areturn, nx, rs, c0)) (h : Q 0 (some (vR a)) m) : Ex d y pc ls [vR a] m Q := by
  obtain ⟨k1, -, k3⟩ := hk.use
  change (match mR y with
    | some (.object _) => true
    | some (.array _) => true
    | _ => false) = true at k3
  refine Ex_ret h fun {G _ _ _ _ _ _ _ _ _ _ _ _ _ _ _} C hq hf => ?_
  split at k3
  · next e => exact W.aret C.1 C.2.1 (C.2.2.1.trans e) (Or.inl ⟨_, rfl⟩) (up_ref G a) hq hf k1 C.2.2.2.2.2.2.1
  · next e => exact W.aret C.1 C.2.1 (C.2.2.1.trans e) (Or.inr ⟨_, rfl⟩) (up_ref G a) hq hf k1 C.2.2.2.2.2.2.1
  · cases k3
theorem nar_c : ∀ n : Nat, n < 128 → narrow .char (.int (Int32.ofNat n)) = .int (Int32.ofNat n) ∧ narrow .byte (.int (Int32.ofNat n)) = .int (Int32.ofNat n) := by decide +kernel
theorem s_ireturn {x : Int} (hk : okE y pc (.ireturn, nx, rs, c0)) (h : match n1 (.ireturn, nx, rs, c0) with
    | 0 => Q 0 (some (vI x)) m
    | 1 => (x = 0 ∨ x = 1) ∧ Q 0 (some (vI x)) m
    | _ => (0 ≤ x ∧ x ≤ 127) ∧ Q 0 (some (vI x)) m) : Ex d y pc ls [vI x] m Q := by
  obtain ⟨k1, -, k3⟩ := hk.use
  change (match n1 (.ireturn, nx, rs, c0) with
    | 0 => decide (mR y = some .int)
    | 1 => decide (mR y = some .boolean)
    | _ => decide (mR y = some .char) || decide (mR y = some .byte)) = true at k3
  generalize n1 (.ireturn, nx, rs, c0) = t at k3 h
  match t, k3, h with
  | 0, k3, h =>
    refine Ex_ret h fun C hq hf => ?_
    exact W.iret C.1 C.2.1 (C.2.2.1.trans (of_decide_eq_true k3)) hq hf k1 C.2.2.2.2.2.2.1
  | 1, k3, h =>
    refine Ex_ret h.2 fun C hq hf => ?_
    refine W.zret C.1 C.2.1 (C.2.2.1.trans (of_decide_eq_true k3)) ?_ hq hf k1 C.2.2.2.2.2.2.1
    rcases h.1 with rfl | rfl <;> decide +kernel
  | t + 2, k3, h =>
    refine Ex_ret h.2 fun C hq hf => ?_
    obtain ⟨⟨h1, h2⟩, -⟩ := h
    obtain ⟨n, rfl⟩ := Int.eq_ofNat_of_zero_le h1
    have hn := nar_c n (by omega)
    rw [← Int32.ofInt_eq_ofNat] at hn
    have k3 : (decide (mR y = some .char) || decide (mR y = some .byte)) = true := k3
    simp only [Bool.or_eq_true, decide_eq_true_eq] at k3
    rcases k3 with e | e
    · exact W.zret C.1 C.2.1 (C.2.2.1.trans e) hn.1 hq hf k1 C.2.2.2.2.2.2.1
    · exact W.zret C.1 C.2.1 (C.2.2.1.trans e) hn.2 hq hf k1 C.2.2.2.2.2.2.1
end Steps6
end
section
theorem m_outer (c : ClassId) (N h0 : Nat) : ∀ i : Nat, Jvm.Free.Multi.outerC c N h0 i = arrV c N (fun j => va_rf (if j < i then some (h0 + 1 + j) else none))
  | 0 => by
    show ({ cls := c, slots := Array.replicate N .null, vm := .none } : Cell) = _
    rw [arrV_new]
    refine congrArg (arrV c N) (funext fun j => ?_)
    simp [va_rf]
  | i + 1 => by
    show (Jvm.Free.Multi.outerC c N h0 i).setSlot i (.ref (h0 + 1 + i)) = _
    rw [m_outer c N h0 i, arrV_store]
    refine congrArg (arrV c N) (funext fun j => ?_)
    by_cases e : j = i
    · subst e
      simp [updV, va_rf]
    · by_cases h : j < i
      · simp [updV, e, h, Nat.lt_succ_of_lt h]
      · simp [updV, e, h, show ¬ j < i + 1 by omega]
theorem catS_eq (G : Gm) (r : List AV) : ((r.map (up G)).map fun v => v.category).sum = catS r := by
  unfold catS
  rw [List.map_map]
  congr 1
  refine List.map_congr_left fun v _ => ?_
  exact up_cat G v
section MCopy
variable {p : Program} {l : Launch} {e : Env} {R : Room} {s : State} {m : MethodId} {args : Array Value} {below : List Frame} {meth : Method} {c : Code} {H : Heap} {locs : List Loc} {cells slots : Nat} {Q : State → Prop}
variable {cc : ByteArray} {pc : Nat} {ls : Array Slot} {rest : List Value} {A : Nat → Prop} {a : Nat} {H0 : Heap}
/-- System.arraycopy of ints (after va_copyi of the kit): what else there is stays -/
theorem m_copy (hexec : p.tables.exec = Jvm.exec) (hb : c.code = cc) (hml : c.maxLocals = ls.size) {own : String} {index : Nat} (hown : s.vm.findClass own = some m.cls) (hlink : (Cond.methodLink own index arraycopyName).before args s = true) (hnat : (Cond.native arraycopyName).before args s = true) (hstat : (Cond.static arraycopyName).before args s = true) (hini : (Cond.initialized "java/lang/System").before args s = true)
    (hS : va_S A H0 H locs) {a0 : Nat} {c0 c1 : ClassId} {n0 n1 : Nat} {f g : Nat → Int32} (hc0 : H[a0]? = some (vp_cell c0 (n0, .inl f))) (hc1 : H[a]? = some (vp_cell c1 (n1, .inl g))) (ht0 : ArrOfT s c0 .int) (ht1 : ArrOfT s c1 .int) (hAa : A a)
    {sp dp n : Int32} (h1 : ¬ sp < 0) (h2 : ¬ dp < 0) (h3 : ¬ n < 0) (h4 : sp.toNatClampNeg + n.toNatClampNeg ≤ n0) (h5 : dp.toNatClampNeg + n.toNatClampNeg ≤ n1)
    (hframes : 1 ≤ R.frames) (hlocals : (rest.map fun v => v.category).sum + (nativeFrameWords "java/lang/System" "arraycopy" 5 + 11) ≤ R.locals) (hdg : decode cc pc = .ok (.invokestatic index, 3))
    (kk : ∀ (H1 : Heap) (locs1 : List Loc), H1.size = H.size → (∀ q, q ≠ a → H1[q]? = H[q]?) → H1[a]? = some (vp_cell c1 (n1, .inl (va_cpy f g sp.toNatClampNeg dp.toNatClampNeg n.toNatClampNeg))) → va_S A H0 H1 locs1 → W p l e R s m args below meth c H1 locs1 cells slots Q (F0 m (pc + 3) ls rest)) : W p l e R s m args below meth c H locs cells slots Q (F0 m pc ls (.int n :: .int dp :: .ref a :: .int sp :: .ref a0 :: rest)) := by
  have nn : ∀ z : Int32, ¬ z < 0 → z.toInt = (z.toNatClampNeg : Int) := by
    intro z hz
    have hz0 : (0 : Int) ≤ z.toInt := by
      have := Int32.not_lt.mp hz
      simpa using Int32.le_iff_toInt_le.mp this
    show z.toInt = ((z.toInt.toNat : Nat) : Int)
    omega
  intro T hT X
  obtain ⟨-, k0, hk0, cm0, hkk0⟩ := ht0 n0 (fun j => .int (f j))
  obtain ⟨-, k1, hk1, cm1, hkk1⟩ := ht1 n1 (fun j => .int (g j))
  obtain ⟨vm', X', step⟩ := X.arraycopy hexec hown hlink hnat hstat hini (src := a0) (dst := a) (cs := vp_cell c0 (n0, .inl f)) (cd := vp_cell c1 (n1, .inl g)) (srcPos := sp) (destPos := dp) (n := n) (by rw [hT]; exact hc0) (by rw [hT]; exact hc1)
    (fun _ h => by cases h) (fun _ h => by cases h) (fun h => by cases h) (fun h => by cases h) hk0 hk1 hkk0 hkk1 (by simp [refKind]) h1 h2 h3
    (by rw [nn sp h1, nn n h3]; show ¬ _ > ((arrV c0 n0 (fun j => .int (f j))).slots.size : Int); rw [arrV_size]; omega)
    (by rw [nn dp h2, nn n h3]; show ¬ _ > ((arrV c1 n1 (fun j => .int (g j))).slots.size : Int); rw [arrV_size]; omega)
    (fun vm₁ _ i hi => by
      have e : (vp_cell c0 (n0, .inl f)).slots.getD (sp.toNatClampNeg + i) .null = .int (f (sp.toNatClampNeg + i)) := by
        show (arrV c0 n0 (fun j => .int (f j))).slots.getD _ _ = _
        rw [Array.getD_eq_getD_getElem?, arrV_read _ _ (by omega)]
        rfl
      refine ⟨?_, ?_⟩
      · rw [e]
        rfl
      · rw [e]
        exact trivial)
    (g := F0 m pc ls (.int n :: .int dp :: .ref a :: .int sp :: .ref a0 :: rest)) rfl (by rw [hml]) (rest := rest) rfl (by rw [hb]; exact hdg) hframes (by show 2 * 0 + _ + _ ≤ _; omega)
  have e1 : copied (vp_cell c0 (n0, .inl f)) (vp_cell c1 (n1, .inl g)) sp dp n = vp_cell c1 (n1, .inl (va_cpy f g sp.toNatClampNeg dp.toNatClampNeg n.toNatClampNeg)) := va_copied (fun z => .int z) c0 c1 f g h4
  rw [e1] at X' step
  have hl : a < H.size := (Array.getElem?_eq_some_iff.mp hc1).1
  have hheap : ((T.setVm vm').setCell a (vp_cell c1 (n1, .inl (va_cpy f g sp.toNatClampNeg dp.toNatClampNeg n.toNatClampNeg)))).heap = H.setIfInBounds a (vp_cell c1 (n1, .inl (va_cpy f g sp.toNatClampNeg dp.toNatClampNeg n.toNatClampNeg))) := by rw [← hT]; rfl
  have oq : ∀ q : Nat, q ≠ a → (H.setIfInBounds a (vp_cell c1 (n1, .inl (va_cpy f g sp.toNatClampNeg dp.toNatClampNeg n.toNatClampNeg))))[q]? = H[q]? := fun q hq => by simp [Array.getElem?_setIfInBounds, Ne.symm hq]
  obtain ⟨t, a1, b1⟩ := kk _ _ (by simp) oq (show (H.setIfInBounds a _)[a]? = some _ by simp [Array.getElem?_setIfInBounds, hl]) ⟨by simp; exact hS.1, fun q g1 g2 => by
      rw [oq q (fun e => g2 (by rw [e]; exact hAa))]
      exact hS.2.1 q g1 g2, fun q hq => by
      rcases List.mem_append.mp hq with h | h
      · exact hS.2.2 q h
      · obtain ⟨z, -, hz⟩ := List.mem_map.mp h
        rw [← hz]
        exact hAa⟩ _ hheap X'
  exact ⟨t, step t a1, b1⟩
end MCopy
theorem allocs_N (m : Mem) (k len sz : Nat) : ∀ n, mN (allocs m k len sz n) = mN m + n
  | 0 => rfl
  | n + 1 => by
    show mN (allocs m k len sz n) + 1 = _
    rw [allocs_N m k len sz n]
    omega
theorem allocs_Z (m : Mem) (k len sz : Nat) : ∀ n, mZ (allocs m k len sz n) = mZ m + n * sz
  | 0 => by simp [allocs]
  | n + 1 => by
    show mZ (allocs m k len sz n) + sz = _
    rw [allocs_Z m k len sz n, Nat.add_mul]
    omega
theorem allocs_off (m : Mem) (k len sz : Nat) {a : Nat} : ∀ n, (a < 100 + mN m ∨ 100 + mN m + n ≤ a) → mK (allocs m k len sz n) a = mK m a ∧ mLen (allocs m k len sz n) a = mLen m a ∧ (∀ f, mFI (allocs m k len sz n) f a = mFI m f a) ∧ (∀ f, mFR (allocs m k len sz n) f a = mFR m f a) ∧ mAI (allocs m k len sz n) a = mAI m a ∧ mAL (allocs m k len sz n) a = mAL m a ∧ mAR (allocs m k len sz n) a = mAR m a
  | 0, _ => ⟨rfl, rfl, fun _ => rfl, fun _ => rfl, rfl, rfl, rfl⟩
  | n + 1, h => by
    obtain ⟨h1, h2, h3, h4, h5, h6, h7⟩ := allocs_off m k len sz n (a := a) (by omega)
    have hne : a ≠ 100 + mN (allocs m k len sz n) := by rw [allocs_N]; omega
    exact ⟨(if_neg hne).trans h1, (if_neg hne).trans h2, fun f => (if_neg hne).trans (h3 f), fun f => (if_neg hne).trans (h4 f), (if_neg hne).trans h5, (if_neg hne).trans h6, (if_neg hne).trans h7⟩
theorem allocs_in (m : Mem) (k len sz : Nat) : ∀ n j, j < n → mK (allocs m k len sz n) (100 + mN m + j) = k ∧ mLen (allocs m k len sz n) (100 + mN m + j) = len ∧ mAI (allocs m k len sz n) (100 + mN m + j) = (fun _ => 0)
  | 0, _, h => absurd h (by omega)
  | n + 1, j, h => by
    by_cases e : j = n
    · subst e
      have he : 100 + mN m + j = 100 + mN (allocs m k len sz j) := by rw [allocs_N]; omega
      exact ⟨if_pos he, if_pos he, if_pos he⟩
    · obtain ⟨h1, h2, h3⟩ := allocs_in m k len sz n j (by omega)
      have hne : 100 + mN m + j ≠ 100 + mN (allocs m k len sz n) := by rw [allocs_N]; omega
      exact ⟨(if_neg hne).trans h1, (if_neg hne).trans h2, (if_neg hne).trans h3⟩
section Steps7
variable {d y pc : Nat} {ls : Ls} {st : List AV} {m : Mem} {Q : Nat → Option AV → Mem → Prop} {nx : Nat} {rs : List Nat} {c0 : Int} {r : List AV}
theorem s_copy {idx a b : Nat} {sp dp n : Int} (hk : okE y pc (.invokestatic idx, nx, rs, c0)) (h9 : n1 (.invokestatic idx, nx, rs, c0) = 998) (h : mK m a = 13 ∧ mK m b = 13 ∧ 100 ≤ a ∧ 100 ≤ b ∧ a ≠ b ∧ catS r ≤ 8 ∧ 0 ≤ w32 sp ∧ 0 ≤ w32 dp ∧ 0 ≤ w32 n ∧ w32 sp + w32 n ≤ (mLen m a : Int) ∧ w32 dp + w32 n ≤ (mLen m b : Int) ∧
        Ex d y nx ls r (sAI m b (cpy1 (mAI m a) (mAI m b) (ix sp) (ix dp) (ix n))) Q) : Ex d y pc ls (vI n :: vI dp :: vR b :: vI sp :: vR a :: r) m Q := by
  obtain ⟨k1, z2, k3⟩ := hk.use
  have k2 : nx = pc + 3 := z2
  clear z2 hk
  subst k2
  obtain ⟨hka, hkb, ha, hb, hne, hcat, g1, g2, g3, g4, g5, h⟩ := h
  change (bif Nat.beq (n1 (.invokestatic idx, pc + 3, rs, c0)) 998 then wAt (n2 (.invokestatic idx, pc + 3, rs, c0)) (.methodLink (mC y) idx arraycopyName) && wAt (n3 (.invokestatic idx, pc + 3, rs, c0)) (.native arraycopyName) && wAt (rs.getD 3 0) (.static arraycopyName) && wAt (rs.getD 4 0) (.initialized "java/lang/System") else _) = true at k3
  rw [h9, show Nat.beq 998 998 = true from rfl] at k3
  simp only [cond_true, Bool.and_eq_true] at k3
  have neg : ∀ z : Int, 0 ≤ w32 z → ¬ Int32.ofInt z < 0 := by
    intro z hz q
    have := Int32.lt_iff_toInt_lt.mp q
    have e0 : (0 : Int32).toInt = 0 := by decide
    unfold w32 at hz
    omega
  refine Ex_write h rfl rfl fun {G _ _ _ R s9 _ _ _ _ _ H _ _ _ _ _} C hR hS hL k => ?_
  obtain ⟨-, cA, q1, q2, q3⟩ := hR.arr (k := 13) rfl hka (Or.inr (by omega))
  obtain ⟨-, cB, p1, p2, p3⟩ := hR.arr (k := 13) rfl hkb (Or.inr (by omega))
  have hfr : frD d ≤ R.frames := C.2.2.2.2.2.2.2.2.2.2.2.2.1
  have hlo : loD d ≤ R.locals := C.2.2.2.2.2.2.2.2.2.2.2.2.2
  unfold frD at hfr
  unfold loD at hlo
  have eA : ∀ x, aval G m 13 x = fun j => Value.int (Int32.ofInt (mAI m x j)) := fun x => rfl
  simp only [List.map_cons]
  rw [up_hi G ha, up_hi G hb]
  refine m_copy (f := fun j => Int32.ofInt (mAI m a j)) (g := fun j => Int32.ofInt (mAI m b j)) C.1 C.2.1 (C.2.2.2.1.trans hL.1.symm) C.2.2.2.2.1 (C.2.2.2.2.2.1 _ (wAt_mem k3.1.1.1)) (C.2.2.2.2.2.1 _ (wAt_mem k3.1.1.2)) (C.2.2.2.2.2.1 _ (wAt_mem k3.1.2)) (C.2.2.2.2.2.1 _ (wAt_mem k3.2)) hS (n0 := mLen m a) (n1 := mLen m b) q1 p1 q2 p2 (rho_A G hb) (neg _ g1) (neg _ g2) (neg _ g3) ?_ ?_ (by omega) ?_ k1 (fun H1 locs1 z1 z2 z3 z4 => ?_)
  · show ix sp + ix n ≤ _
    unfold ix
    omega
  · show ix dp + ix n ≤ _
    unfold ix
    omega
  · rw [catS_eq]
    have : nativeFrameWords "java/lang/System" "arraycopy" 5 + 11 ≤ 100 := by decide
    omega
  · refine k H1 locs1 (hR.upd hb (offA_sAI m b _) z1 z2 (cOK_arr (m := m) (k := 13) (cA := cB) rfl hkb rfl ?_ p2 p3)) z4
    rw [z3, vp_cell_i]
    show some (arrV cB (mLen m b) _) = some (arrV cB (mLen m b) _)
    congr 2
    funext j
    rw [aval_I (Or.inl rfl), show mAI (sAI m b (cpy1 (mAI m a) (mAI m b) (ix sp) (ix dp) (ix n))) b = cpy1 (mAI m a) (mAI m b) (ix sp) (ix dp) (ix n) from if_pos rfl]
    show Value.int (va_cpy _ _ (ix sp) (ix dp) (ix n) j) = _
    unfold va_cpy cpy1
    split <;> rfl
theorem s_mna {idx dd : Nat} {x z : Int} (hk : okE y pc (.multianewarray idx dd, nx, rs, c0)) (h : 0 ≤ w32 x ∧ w32 x ≤ 10000 ∧ 0 ≤ w32 z ∧ w32 z ≤ 10000 ∧
      Ex d y nx ls (vR (100 + mN m) :: r) (sAR (allocs (alloc m 19 (ix x) (ix x)) 13 (ix z) (ix z) (ix x)) (100 + mN m) (fun j => if j < ix x then 101 + mN m + j else 0)) Q) : Ex d y pc ls (vI z :: vI x :: r) m Q := by
  obtain ⟨k1, z2, k3⟩ := hk.use
  have k2 : nx = pc + 4 := z2
  clear z2 hk
  subst k2
  obtain ⟨g1, g2, g3, g4, h⟩ := h
  change (decide (dd = 2) && wAt (n1 (.multianewarray idx dd, pc + 4, rs, c0)) (.classLink (mC y) idx "[[I") && wAtN (n2 (.multianewarray idx dd, pc + 4, rs, c0)) (.arrayOver (.array .int)) && wAt (n3 (.multianewarray idx dd, pc + 4, rs, c0)) (.arrayClass .int)) = true at k3
  simp only [Bool.and_eq_true, decide_eq_true_eq] at k3
  obtain ⟨⟨⟨rfl, w1⟩, w2⟩, w3⟩ := k3
  obtain ⟨nx1, bx1⟩ := ix_bound g1 (by omega)
  obtain ⟨nz1, bz1⟩ := ix_bound g3 (by omega)
  have bx : ix x ≤ 10000 := by unfold ix; omega
  have bz : ix z ≤ 10000 := by unfold ix; omega
  have hmn : mN (alloc m 19 (ix x) (ix x)) = mN m + 1 := rfl
  generalize hF : sAR (allocs (alloc m 19 (ix x) (ix x)) 13 (ix z) (ix z) (ix x)) (100 + mN m) (fun j => if j < ix x then 101 + mN m + j else 0) = mF at h
  have eN : mN mF = mN m + (1 + ix x) := by
    rw [← hF]
    show mN (allocs _ _ _ _ _) = _
    rw [allocs_N, hmn]
    omega
  have eZ : mZ mF = mZ m + (ix x + ix x * ix z) := by
    rw [← hF]
    show mZ (allocs _ _ _ _ _) = _
    rw [allocs_Z]
    show mZ m + ix x + _ = _
    omega
  have eOff : ∀ a, (a < 100 + mN m ∨ 101 + mN m + ix x ≤ a) → mK mF a = mK m a ∧ mLen mF a = mLen m a ∧ (∀ f, mFI mF f a = mFI m f a) ∧ (∀ f, mFR mF f a = mFR m f a) ∧ mAI mF a = mAI m a ∧ mAL mF a = mAL m a ∧ mAR mF a = mAR m a := by
    intro a ha
    obtain ⟨h1, h2, h3, h4, h5, h6, h7⟩ := allocs_off (alloc m 19 (ix x) (ix x)) 13 (ix z) (ix z) (a := a) (ix x) (by rw [hmn]; omega)
    have hne : a ≠ 100 + mN m := by omega
    rw [← hF]
    exact ⟨h1.trans (if_neg hne), h2.trans (if_neg hne), fun f => (h3 f).trans (if_neg hne), fun f => (h4 f).trans (if_neg hne), h5.trans (if_neg hne), h6.trans (if_neg hne), (if_neg hne).trans (h7.trans (if_neg hne))⟩
  have eOut : mK mF (100 + mN m) = 19 ∧ mLen mF (100 + mN m) = ix x ∧ mAR mF (100 + mN m) = fun j => if j < ix x then 101 + mN m + j else 0 := by
    obtain ⟨h1, h2, -⟩ := allocs_off (alloc m 19 (ix x) (ix x)) 13 (ix z) (ix z) (a := 100 + mN m) (ix x) (by rw [hmn]; omega)
    rw [← hF]
    exact ⟨h1.trans (if_pos rfl), h2.trans (if_pos rfl), if_pos rfl⟩
  have eIn : ∀ j, j < ix x → mK mF (101 + mN m + j) = 13 ∧ mLen mF (101 + mN m + j) = ix z ∧ mAI mF (101 + mN m + j) = fun _ => 0 := by
    intro j hj
    have := allocs_in (alloc m 19 (ix x) (ix x)) 13 (ix z) (ix z) (ix x) j hj
    rw [hmn] at this
    rw [← hF, show 101 + mN m + j = 100 + (mN m + 1) + j by omega]
    exact this
  refine Ex_alloc (kc := 1 + ix x) (ks := ix x + ix x * ix z) h eN eZ fun {G _ _ _ R s9 _ _ _ _ _ H _ cells slots _ mls} C hR hS hL hc hs k => ?_
  intro T hT Xs
  obtain ⟨vm₁, cA, comp, -, fA, fC, hO, hI, X', step⟩ := Xs.multianewarray2F (ty := .int) C.1 C.2.2.2.2.1 (C.2.2.2.2.2.1 _ (wAt_mem w1)) (okW2_use (wAtN_use w2).2 (C.2.2.2.2.2.2.2.2.2.1.2.2.2.2.1.2.1 _ (wAtN_use w2).1 (wAtN_use w2).2)) (C.2.2.2.2.2.1 _ (wAt_mem w3)) (g := F0 _ pc mls (.int (Int32.ofInt z) :: .int (Int32.ofInt x) :: r.map (up G))) rfl (by rw [C.2.1]; exact k1) rfl nx1 nz1 (by rw [ix_eq]; omega) (by rw [ix_eq]; show _ * 4 ≤ _; omega) (by rw [ix_eq]; omega) rfl rfl hc hs
  rw [ix_eq, ix_eq] at X' step
  generalize hFF : Jvm.Free.Multi.fill (T.setVm vm₁) cA comp (ix x) (ix z) (defaultValue .int) (ix x) = F at X' step
  have hTh : (T.setVm vm₁).heap = H := hT
  obtain ⟨f1, f2, -, -⟩ := Jvm.Free.Multi.fill_facts (T.setVm vm₁) cA comp (ix x) (ix z) (defaultValue .int) (ix x)
  rw [hFF, hTh] at f1 f2
  have hold : ∀ q : Nat, q < H.size → F.heap[q]? = H[q]? := fun q hq => by
    have := Jvm.Free.Multi.fill_old (T.setVm vm₁) cA comp (ix x) (ix z) (defaultValue .int) (a := q) (by rw [hTh]; exact hq) (ix x)
    rw [hFF, hTh] at this
    exact this
  have hrow : ∀ j : Nat, j < ix x → F.heap[H.size + 1 + j]? = some (arrV comp (ix z) (fun _ => .int 0)) := fun j hj => by
    have := Jvm.Free.Multi.fill_inner (T.setVm vm₁) cA comp (ix x) (ix z) (defaultValue .int) (ix x) j hj
    rw [hFF, hTh] at this
    rw [this]
    exact congrArg some (arrV_new comp (ix z) (.int 0))
  rw [m_outer] at f2
  have hsz := hR.1
  have hAr1 : ArrOfT s9 cA (.array .int) := fun N v => by
    obtain ⟨⟨-, kA, q1, q2⟩, -⟩ := hO 0 0 0
    exact ⟨(fun k h => by cases h), kA, q1, q2⟩
  have hAr2 : ArrOfT s9 comp .int := fun N v => by
    obtain ⟨⟨-, kA, q1, q2⟩, -⟩ := hI 0 .null
    exact ⟨(fun k h => by cases h), kA, q1, q2⟩
  have hRF : Rep G mF s9 F.heap := by
    obtain ⟨r1, r2, r3, r4⟩ := hR
    refine ⟨by rw [f1, eN]; omega, fun a ha => ?_, ?_, fun a ha1 ha2 => ?_⟩
    · rw [eN] at ha
      rw [(eOff a (by omega)).1]
      exact r2 a (by omega)
    · obtain ⟨h1, h2, h3, h4, h5⟩ := r3
      refine ⟨by rw [(eOff 1 (by omega)).1]; exact h1, by rw [(eOff 1 (by omega)).2.1]; exact h2, fun j hj => by rw [(eOff 1 (by omega)).2.2.2.2.1]; exact h3 j hj, fun b hb hb1 => by rw [(eOff b (by omega)).1]; exact h4 b hb hb1, fun i hi => ?_⟩
      have hi' : i < 24 := hi
      obtain ⟨g1, g2, g3, g4⟩ := h5 i hi
      exact ⟨by rw [(eOff _ (by omega)).2.2.2.1]; exact g1, by rw [(eOff _ (by omega)).2.2.1]; exact g2, by rw [(eOff _ (by omega)).2.1]; exact g3, fun j hj => by rw [(eOff _ (by omega)).2.2.2.2.1]; exact g4 j hj⟩
    · rw [eN] at ha2
      by_cases e1 : a < 100 + mN m
      · obtain ⟨o1, o2, o3, o4, o5, o6, o7⟩ := eOff a (by omega)
        refine (r4 a ha1 e1).off o1 o2 o3 o4 o5 o6 o7 (hold _ ?_)
        rw [rho_hi G ha1]
        omega
      · by_cases e2 : a = 100 + mN m
        · subst e2
          refine cOK_arr (m := mF) (k := 19) (cA := cA) rfl eOut.1 rfl ?_ hAr1 fA
          rw [rho_new, ← hsz, f2, eOut.2.1]
          congr 2
          funext j
          rw [aval_R (by omega), eOut.2.2]
          show _ = up G (vR (if j < ix x then 101 + mN m + j else 0))
          by_cases e3 : j < ix x
          · rw [if_pos e3, if_pos e3, up_hi G (by omega), rho_hi G (by omega)]
            have e5 : H.size + 1 + j = gBase G + (101 + mN m + j - 100) := by omega
            rw [e5]
            rfl
          · rw [if_neg e3, if_neg e3]
            rfl
        · obtain ⟨j, hj, rfl⟩ : ∃ j, j < ix x ∧ a = 101 + mN m + j := ⟨a - (101 + mN m), by omega, by omega⟩
          obtain ⟨i1, i2, i3⟩ := eIn j hj
          refine cOK_arr (m := mF) (k := 13) (cA := comp) rfl i1 rfl ?_ hAr2 fC
          rw [rho_hi G (by omega), show gBase G + (101 + mN m + j - 100) = H.size + 1 + j by omega, hrow j hj, i2]
          congr 2
          funext q
          rw [aval_I (Or.inl rfl), i3]
          rfl
  have k9 := k F.heap hRF hold (by rw [f1]; omega)
  rw [List.map_cons, up_new, ← hsz] at k9
  obtain ⟨t, a1, b1⟩ := k9 F rfl (by rw [show cells + (1 + ix x) = cells + 1 + ix x by omega, show slots + (ix x + ix x * ix z) = slots + ix x + ix x * ix z by omega]; exact X')
  refine ⟨t, step t ?_, b1⟩
  rw [hT]
  exact a1
end Steps7
end
section
/-! ===== one step ===== -/
theorem qI_use {st : List AV} {k : Int → List AV → Prop} (h : qI st k) : ∃ x r, st = vI x :: r ∧ k x r := by
  unfold qI at h
  split at h
  · exact ⟨_, _, rfl, h⟩
  · cases h
theorem qII_use {st : List AV} {k : Int → Int → List AV → Prop} (h : qII st k) : ∃ x z r, st = vI z :: vI x :: r ∧ k x z r := by
  unfold qII at h
  split at h
  · exact ⟨_, _, _, rfl, h⟩
  · cases h
theorem qL_use {st : List AV} {k : Int → List AV → Prop} (h : qL st k) : ∃ x r, st = vL x :: r ∧ k x r := by
  unfold qL at h
  split at h
  · exact ⟨_, _, rfl, h⟩
  · cases h
theorem qLL_use {st : List AV} {k : Int → Int → List AV → Prop} (h : qLL st k) : ∃ x z r, st = vL z :: vL x :: r ∧ k x z r := by
  unfold qLL at h
  split at h
  · exact ⟨_, _, _, rfl, h⟩
  · cases h
theorem qLI_use {st : List AV} {k : Int → Int → List AV → Prop} (h : qLI st k) : ∃ x z r, st = vI z :: vL x :: r ∧ k x z r := by
  unfold qLI at h
  split at h
  · exact ⟨_, _, _, rfl, h⟩
  · cases h
theorem qR_use {st : List AV} {k : Nat → List AV → Prop} (h : qR st k) : ∃ x r, st = vR x :: r ∧ k x r := by
  unfold qR at h
  split at h
  · exact ⟨_, _, rfl, h⟩
  · cases h
theorem qRI_use {st : List AV} {k : Nat → Int → List AV → Prop} (h : qRI st k) : ∃ a i r, st = vI i :: vR a :: r ∧ k a i r := by
  unfold qRI at h
  split at h
  · exact ⟨_, _, _, rfl, h⟩
  · cases h
theorem lkI_use {ls : Ls} {i : Nat} {k : Int → Prop} (h : lkI ls i k) : ∃ x, ls[i]? = some (some (vI x)) ∧ k x := by
  unfold lkI at h
  split at h
  · next x e => exact ⟨x, e, h⟩
  · cases h
theorem lkL_use {ls : Ls} {i : Nat} {k : Int → Prop} (h : lkL ls i k) : ∃ x, ls[i]? = some (some (vL x)) ∧ k x := by
  unfold lkL at h
  split at h
  · next x e => exact ⟨x, e, h⟩
  · cases h
theorem lkR_use {ls : Ls} {i : Nat} {k : Nat → Prop} (h : lkR ls i k) : ∃ x, ls[i]? = some (some (vR x)) ∧ k x := by
  unfold lkR at h
  split at h
  · next x e => exact ⟨x, e, h⟩
  · cases h
set_option maxHeartbeats 4000000 in
theorem Ex_step {d y pc : Nat} {e : Ent} {ls : Ls} {st : List AV} {m : Mem} {Q : Nat → Option AV → Mem → Prop} (hk : okE y pc e) (h : wp1 e ls st m (KE d y Q) (Q 0)) : Ex d y pc ls st m Q := by
  obtain ⟨i, nx, rs, c0⟩ := e
  match i, hk, h with
  | .iconst i, hk, h =>
    exact s_iconst hk h
  | .bipush i, hk, h =>
    exact s_bipush hk h
  | .sipush i, hk, h =>
    exact s_sipush hk h
  | .lconst i, hk, h =>
    exact s_lconst hk h
  | .aconst_null, hk, h =>
    exact s_aconst hk h
  | .ldc i, hk, h =>
    by_cases e0 : n1 (.ldc i, nx, rs, c0) = 0
    · refine s_ldcI hk e0 ?_
      have h : Ex d y nx ls ((bif Nat.beq (n1 (.ldc i, nx, rs, c0)) 0 then vI c0 else vR (n2 (.ldc i, nx, rs, c0))) :: st) m Q := h
      rw [e0] at h
      exact h
    · refine s_ldcS hk e0 ?_
      have h : Ex d y nx ls ((bif Nat.beq (n1 (.ldc i, nx, rs, c0)) 0 then vI c0 else vR (n2 (.ldc i, nx, rs, c0))) :: st) m Q := h
      have hb : Nat.beq (n1 (.ldc i, nx, rs, c0)) 0 = false := by
        cases hx : Nat.beq (n1 (.ldc i, nx, rs, c0)) 0 with
        | false => rfl
        | true => exact absurd (Nat.eq_of_beq_eq_true hx) e0
      rw [hb] at h
      exact h
  | .ldc_w i, hk, h =>
    exact s_ldcw hk h
  | .ldc2_w i, hk, h =>
    exact s_ldc2 hk h
  | .iload i, hk, h =>
    obtain ⟨x, e, h⟩ := lkI_use h
    exact s_iload e hk h
  | .iload_n i, hk, h =>
    obtain ⟨x, e, h⟩ := lkI_use h
    exact s_iload_n e hk h
  | .lload i, hk, h =>
    obtain ⟨x, e, h⟩ := lkL_use h
    exact s_lload e hk h
  | .lload_n i, hk, h =>
    obtain ⟨x, e, h⟩ := lkL_use h
    exact s_lload_n e hk h
  | .aload i, hk, h =>
    obtain ⟨x, e, h⟩ := lkR_use h
    exact s_aload e hk h
  | .aload_n i, hk, h =>
    obtain ⟨x, e, h⟩ := lkR_use h
    exact s_aload_n e hk h
  | .istore i, hk, h =>
    obtain ⟨x, r, rfl, h⟩ := qI_use h
    exact s_istore hk h
  | .istore_n i, hk, h =>
    obtain ⟨x, r, rfl, h⟩ := qI_use h
    exact s_istore_n hk h
  | .lstore i, hk, h =>
    obtain ⟨x, r, rfl, h⟩ := qL_use h
    exact s_lstore hk h
  | .lstore_n i, hk, h =>
    obtain ⟨x, r, rfl, h⟩ := qL_use h
    exact s_lstore_n hk h
  | .astore i, hk, h =>
    obtain ⟨x, r, rfl, h⟩ := qR_use h
    exact s_astore hk h
  | .astore_n i, hk, h =>
    obtain ⟨x, r, rfl, h⟩ := qR_use h
    exact s_astore_n hk h
  | .iinc i n, hk, h =>
    obtain ⟨x, e, h⟩ := lkI_use h
    exact s_iinc e hk h
  | .iadd, hk, h =>
    obtain ⟨x, z, r, rfl, h⟩ := qII_use h
    exact s_iadd hk h
  | .isub, hk, h =>
    obtain ⟨x, z, r, rfl, h⟩ := qII_use h
    exact s_isub hk h
  | .imul, hk, h =>
    obtain ⟨x, z, r, rfl, h⟩ := qII_use h
    exact s_imul hk h
  | .iand, hk, h =>
    obtain ⟨x, z, r, rfl, h⟩ := qII_use h
    exact s_iand hk h
  | .ior, hk, h =>
    obtain ⟨x, z, r, rfl, h⟩ := qII_use h
    exact s_ior hk h
  | .ixor, hk, h =>
    obtain ⟨x, z, r, rfl, h⟩ := qII_use h
    exact s_ixor hk h
  | .ishl, hk, h =>
    obtain ⟨x, z, r, rfl, h⟩ := qII_use h
    exact s_ishl hk h
  | .ishr, hk, h =>
    obtain ⟨x, z, r, rfl, h⟩ := qII_use h
    exact s_ishr hk h
  | .iushr, hk, h =>
    obtain ⟨x, z, r, rfl, h⟩ := qII_use h
    exact s_iushr hk h
  | .idiv, hk, h =>
    obtain ⟨x, z, r, rfl, h⟩ := qII_use h
    exact s_idiv h.1 hk h.2
  | .irem, hk, h =>
    obtain ⟨x, z, r, rfl, h⟩ := qII_use h
    exact s_irem h.1 hk h.2
  | .ineg, hk, h =>
    obtain ⟨x, r, rfl, h⟩ := qI_use h
    exact s_ineg hk h
  | .i2l, hk, h =>
    obtain ⟨x, r, rfl, h⟩ := qI_use h
    exact s_i2l hk h
  | .i2c, hk, h =>
    obtain ⟨x, r, rfl, h⟩ := qI_use h
    exact s_i2c hk h
  | .l2i, hk, h =>
    obtain ⟨x, r, rfl, h⟩ := qL_use h
    exact s_l2i hk h
  | .ladd, hk, h =>
    obtain ⟨x, z, r, rfl, h⟩ := qLL_use h
    exact s_ladd hk h
  | .lsub, hk, h =>
    obtain ⟨x, z, r, rfl, h⟩ := qLL_use h
    exact s_lsub hk h
  | .lmul, hk, h =>
    obtain ⟨x, z, r, rfl, h⟩ := qLL_use h
    exact s_lmul hk h
  | .land, hk, h =>
    obtain ⟨x, z, r, rfl, h⟩ := qLL_use h
    exact s_land hk h
  | .lor, hk, h =>
    obtain ⟨x, z, r, rfl, h⟩ := qLL_use h
    exact s_lor hk h
  | .lxor, hk, h =>
    obtain ⟨x, z, r, rfl, h⟩ := qLL_use h
    exact s_lxor hk h
  | .lcmp, hk, h =>
    obtain ⟨x, z, r, rfl, h⟩ := qLL_use h
    exact s_lcmp hk h
  | .ldiv, hk, h =>
    obtain ⟨x, z, r, rfl, h⟩ := qLL_use h
    exact s_ldiv h.1 hk h.2
  | .lshl, hk, h =>
    obtain ⟨x, z, r, rfl, h⟩ := qLI_use h
    exact s_lshl hk h
  | .lshr, hk, h =>
    obtain ⟨x, z, r, rfl, h⟩ := qLI_use h
    exact s_lshr hk h
  | .lushr, hk, h =>
    obtain ⟨x, z, r, rfl, h⟩ := qLI_use h
    exact s_lushr hk h
  | .dup, hk, h =>
    match st, h with
    | .inl x :: r, h => exact s_dupI hk h
    | .inr (.inr a) :: r, h => exact s_dupR hk h
  | .dup2, hk, h =>
    match st, h with
    | .inl x :: .inr (.inr a) :: r, h => exact s_dup2 hk h
  | .pop, hk, h =>
    match st, h with
    | .inl x :: r, h => exact s_popI hk h
    | .inr (.inr a) :: r, h => exact s_popR hk h
  | .goto o, hk, h =>
    exact s_goto hk h
  | .ifCond .eq o, hk, h =>
    obtain ⟨x, r, rfl, h⟩ := qI_use h
    exact s_if_eq hk h
  | .if_icmp .eq o, hk, h =>
    obtain ⟨x, z, r, rfl, h⟩ := qII_use h
    exact s_icmp_eq hk h
  | .ifCond .ne o, hk, h =>
    obtain ⟨x, r, rfl, h⟩ := qI_use h
    exact s_if_ne hk h
  | .if_icmp .ne o, hk, h =>
    obtain ⟨x, z, r, rfl, h⟩ := qII_use h
    exact s_icmp_ne hk h
  | .ifCond .lt o, hk, h =>
    obtain ⟨x, r, rfl, h⟩ := qI_use h
    exact s_if_lt hk h
  | .if_icmp .lt o, hk, h =>
    obtain ⟨x, z, r, rfl, h⟩ := qII_use h
    exact s_icmp_lt hk h
  | .ifCond .ge o, hk, h =>
    obtain ⟨x, r, rfl, h⟩ := qI_use h
    exact s_if_ge hk h
  | .if_icmp .ge o, hk, h =>
    obtain ⟨x, z, r, rfl, h⟩ := qII_use h
    exact s_icmp_ge hk h
  | .ifCond .gt o, hk, h =>
    obtain ⟨x, r, rfl, h⟩ := qI_use h
    exact s_if_gt hk h
  | .if_icmp .gt o, hk, h =>
    obtain ⟨x, z, r, rfl, h⟩ := qII_use h
    exact s_icmp_gt hk h
  | .ifCond .le o, hk, h =>
    obtain ⟨x, r, rfl, h⟩ := qI_use h
    exact s_if_le hk h
  | .if_icmp .le o, hk, h =>
    obtain ⟨x, z, r, rfl, h⟩ := qII_use h
    exact s_icmp_le hk h
  | .ifnull o, hk, h =>
    obtain ⟨x, r, rfl, h⟩ := qR_use h
    exact s_ifnull hk h
  | .ifnonnull o, hk, h =>
    obtain ⟨x, r, rfl, h⟩ := qR_use h
    exact s_ifnonnull hk h
  | .tableswitch df lo hi offs, hk, h =>
    obtain ⟨x, r, rfl, h⟩ := qI_use h
    exact s_table hk h
  | .lookupswitch df ps, hk, h =>
    obtain ⟨x, r, rfl, h⟩ := qI_use h
    exact s_lookup hk h
  | .getfield i, hk, h =>
    obtain ⟨x, r, rfl, h⟩ := qR_use h
    exact s_getfield hk h
  | .putfield i, hk, h =>
    match st, h with
    | .inl x :: .inr (.inr a) :: r, h => exact s_putI hk h
    | .inr (.inr v) :: .inr (.inr a) :: r, h => exact s_putR hk h
  | .getstatic i, hk, h =>
    exact s_getstatic hk h
  | .arraylength, hk, h =>
    obtain ⟨x, r, rfl, h⟩ := qR_use h
    exact s_alen hk h
  | .iaload, hk, h =>
    obtain ⟨a, i, r, rfl, h⟩ := qRI_use h
    exact s_iaload hk h
  | .baload, hk, h =>
    obtain ⟨a, i, r, rfl, h⟩ := qRI_use h
    exact s_baload hk h
  | .laload, hk, h =>
    obtain ⟨a, i, r, rfl, h⟩ := qRI_use h
    exact s_laload hk h
  | .aaload, hk, h =>
    obtain ⟨a, i, r, rfl, h⟩ := qRI_use h
    exact s_aaload hk h
  | .iastore, hk, h =>
    match st, h with
    | .inl x :: .inl i :: .inr (.inr a) :: r, h => exact s_iastore hk h
  | .bastore, hk, h =>
    match st, h with
    | .inl x :: .inl i :: .inr (.inr a) :: r, h => exact s_bastore hk h
  | .lastore, hk, h =>
    match st, h with
    | .inr (.inl x) :: .inl i :: .inr (.inr a) :: r, h => exact s_lastore hk h
  | .aastore, hk, h =>
    match st, h with
    | .inr (.inr v) :: .inl i :: .inr (.inr a) :: r, h => exact s_aastore hk h
  | .new i, hk, h =>
    exact s_new hk h
  | .newarray t, hk, h =>
    obtain ⟨x, r, rfl, h⟩ := qI_use h
    exact s_newarray hk h
  | .anewarray i, hk, h =>
    obtain ⟨x, r, rfl, h⟩ := qI_use h
    exact s_anewarray hk h
  | .multianewarray i dd, hk, h =>
    obtain ⟨x, z, r, rfl, h⟩ := qII_use h
    exact s_mna hk h
  | .invokespecial i, hk, h =>
    obtain ⟨h9, h⟩ := h
    obtain ⟨a, r, rfl, h1, h2, h⟩ := qR_use h
    exact s_objInit hk ⟨h9, h⟩ h1 h2
  | .invokestatic i, hk, h =>
    obtain ⟨h9, h⟩ := h
    match st, h with
    | .inl n :: .inl dp :: .inr (.inr b) :: .inl sp :: .inr (.inr a) :: r, h => exact s_copy hk h9 h
  | .ireturn, hk, h =>
    obtain ⟨x, r, e1, e2, h9⟩ := qI_use h
    subst e2
    subst e1
    exact s_ireturn hk h9
  | .lreturn, hk, h =>
    obtain ⟨x, r, e1, e2, h9⟩ := qL_use h
    subst e2
    subst e1
    exact s_lreturn hk h9
  | .areturn, hk, h =>
    obtain ⟨x, r, e1, e2, h9⟩ := qR_use h
    subst e2
    subst e1
    exact s_areturn hk h9
  | .return_, hk, h =>
    obtain ⟨e1, h9⟩ := h
    subst e1
    exact s_return hk h9
end
section
section VXIA
variable {p : Program} {l : Launch} {e : Env} {R : Room} {s : State} {m : MethodId} {args : Array Value} {below : List Frame} {meth : Method} {c : Code} {T : State} {locs : List Loc} {cells slots : Nat}
theorem vx_callI (X : Stand p l e R s m args below meth c T locs cells slots) (hexec : p.tables.exec = Jvm.exec) {own : String} {index : Nat} {y : MethodName} {bytes : ByteArray} {maxL : Nat}
    (hown : s.vm.findClass own = some m.cls) (hy1 : y.name = "<init>") (hlink : (Cond.methodLink own index y).before args s = true) (hinst : (Cond.instanceMethod y).before args s = true)
    (hcode : (Cond.code y bytes maxL none).before args s = true) (hy : y.cls ≠ "java/lang/invoke/MethodHandle" ∧ y.cls ≠ "java/lang/invoke/VarHandle")
    {W9 : Nat} {Pre : Pt → Array Value → Prop} {Post : Pt → Array Value → Option Value → Pt → Prop} {PostX : Pt → Array Value → Addr → Pt → Prop} (hK : vx_Back l R p e below s args y 3 W9 Pre Post PostX)
    {g : JFrame} (hg : g.method = m) (hsize : g.locals.size = c.maxLocals) {a : Addr} {argsL rest : List Value} (hlen : ∀ sig, parseMethodDescriptor y.desc = some sig → argsL.length = sig.parameters.length)
    (hstack : g.stack = argsL.reverse ++ .ref a :: rest) (hW : 2 * g.monitorRoom + (rest.map fun v => v.category).sum ≤ W9) (hdg : decode c.code g.pc = .ok (.invokespecial index, 3))
    (hpre : ∀ vm₁, s.WarmedH vm₁ → Pre ⟨T.setVm vm₁, locs, cells, slots⟩ (Value.ref a :: argsL).toArray) :
    (∃ (v : Option Value) (vm₁ : Vm) (B : Pt), s.WarmedH vm₁ ∧ Stand p l e R s m args below meth c B.U B.locs B.cells B.slots ∧ Post ⟨T.setVm vm₁, locs, cells, slots⟩ (Value.ref a :: argsL).toArray v B ∧
      ∀ target, Steps p.tables e below (B.U.setTop { g with pc := g.pc + 3, stack := v.toList ++ rest }) target → Steps p.tables e below (T.setTop g) target) ∨
    (∃ (q : Addr) (vm₁ : Vm) (B : Pt), s.WarmedH vm₁ ∧ Stand p l e R s m args below meth c B.U B.locs B.cells B.slots ∧ PostX ⟨T.setVm vm₁, locs, cells, slots⟩ (Value.ref a :: argsL).toArray q B ∧
      Steps p.tables e below (T.setTop g) ((B.U.setTop { g with stack := rest }).pushFrame (.throwing q))) := by
  subst hg
  have hpl : e.platform.magicAccessors = ({} : Platform).magicAccessors := by rw [X.admits.platform]
  obtain ⟨mk, methM, cM, kP, vm₁, hnamed, hmethM, hcodeM, -, hlocalsM, -, hkP, -, hW₁, hstep₁⟩ := Steps.initColdArgs (e := e) X.here hexec X.warmed hpl hown hy1 hy hlink hinst hcode (f := g) rfl hlen hstack hdg
  have X₁ := X.noted hW₁
  rcases hK g.method meth c ⟨T.setVm vm₁, locs, cells, slots⟩ { g with stack := rest } (.invokespecial index) mk (Value.ref a :: argsL).toArray X₁ rfl hsize hdg hW (X₁.named hnamed) (hpre vm₁ X₁.warmed) with ⟨v, B, X', hpost, hsteps⟩ | ⟨q, B, X', hpost, hsteps⟩
  · exact Or.inl ⟨v, vm₁, B, X₁.warmed, X', hpost, fun target h => hstep₁ _ fun acts => by rw [doInvoke_state]; exact hsteps.trans h⟩
  · exact Or.inr ⟨q, vm₁, B, X₁.warmed, X', hpost, hstep₁ _ fun acts => by rw [doInvoke_state]; exact hsteps⟩
end VXIA
section VXIB
variable {p : Program} {l : Launch} {e : Env} {R : Room} {s : State} {m : MethodId} {args : Array Value} {below : List Frame} {meth : Method} {c : Code} {H : Heap} {locs : List Loc} {cells slots : Nat}
variable {y : MethodName} {bytes cc : ByteArray} {maxL nL mc ms n index : Nat} {ret : Option FieldType} {ws : List Cond} {rm : Room} {Pc : Array Value → State → Prop} {Qc : Array Value → State → Outcome → State → Prop} {XC : String → State → State → Prop} {free : Addr → Prop} {Ts : List Cond} {own C : String} {b : Addr} {As rest : List Value} {g : JFrame}
theorem vx_runI (S : CallFix p m c cc nL s args Ts own) (hM : vx_Met l y ws rm Pc Qc XC mc ms free) (cw : CallB R s args own index y bytes maxL none ws rm mc ms n ∧ y.name = "<init>" ∧ (Cond.instanceMethod y).before args s = true) (hp : PreS s H Pc (.ref b :: As))
    (hg : g.method = m) (hn : As.length = n) (hsize : g.locals.size = nL) (hstack : g.stack = As.reverse ++ .ref b :: rest) (hW : 2 * g.monitorRoom + (rest.map fun v => v.category).sum ≤ 8) (hdg : decode cc g.pc = .ok (.invokespecial index, 3)) (hf : cells + mc ≤ R.cells ∧ slots + ms ≤ R.slots) :
    vx_Run p l e R s m args below meth c H locs cells slots mc ms g rest (Qc (Value.ref b :: As).toArray) XC free := by
  have hK : vx_Back l R p e below s args y 3 8 (PreOf R mc ms Pc) (PostOf Qc mc ms free) (vx_Post XC mc ms free) := vx_callBack cw.1 hM hp.1
  obtain ⟨⟨-, -, -, -, -, -, hcode, -, hy, hlen, hl⟩, hy1, hin⟩ := cw
  obtain ⟨hx, hb, hml, ho, -⟩ := S
  have hPc := hp.2
  intro T hT X
  rcases vx_callI X hx (bytes := bytes) (maxL := maxL) ho hy1 hl hin hcode hy hK hg (hsize.trans hml.symm) (a := b) (argsL := As) (rest := rest) (fun sig h => hn.trans (hlen sig h)) hstack hW (by rw [hb]; exact hdg)
    (fun vm₁ hW₁ => ⟨hf.1, hf.2, hPc (T.setVm vm₁) hT hW₁⟩) with ⟨v, vm₁, ⟨U', l2, c2, s2⟩, hW₁, X', ⟨g', mk, t, L, e1, e2, hq, h1, hL, h2, h3⟩, st⟩ | ⟨q, vm₁, ⟨U', l2, c2, s2⟩, hW₁, X', ⟨g', mk, t, L, E, ce, e1, e2, hq, hce, hcv, hcl, h1, hL, h2, h3⟩, st⟩
  · dsimp only [Pt.U, Pt.locs, Pt.cells, Pt.slots] at X' e1 e2 h1 h2 h3 st
    subst h1; subst h2; subst h3
    exact Or.inl ⟨v, (T.setVm vm₁).calling g' mk (Value.ref b :: As).toArray, t, U', L, hT, X', hL, e1, e2, hq, st⟩
  · dsimp only [Pt.U, Pt.locs, Pt.cells, Pt.slots] at X' e1 e2 h1 h2 h3 st hcl
    subst h1; subst h2; subst h3
    exact Or.inr ⟨q, (T.setVm vm₁).calling g' mk (Value.ref b :: As).toArray, t, U', L, E, ce, hT, X', hL, e1, e2, hq, hce, hcv, vx_cls hW₁ hcl, st⟩
end VXIB
/-! ===== calls ===== -/
def laySl : List AV → Ls
  | [] => []
  | .inr (.inl x) :: r => some (vL x) :: none :: laySl r
  | .inl x :: r => some (vI x) :: laySl r
  | .inr (.inr a) :: r => some (vR a) :: laySl r
def entL (y : Nat) (av : List AV) : Ls := laySl av ++ List.replicate (mL y - (laySl av).length) none
theorem lay_len (G : Gm) : ∀ av : List AV, (lg_sl (av.map (up G))).length = (laySl av).length
  | [] => rfl
  | v :: r => by
    have ih := lay_len G r
    show (lg_sl (up G v :: r.map (up G))).length = _
    have e : lg_sl (up G v :: r.map (up G)) = (if (up G v).category = 2 then [.val (up G v), .second] else [.val (up G v)]) ++ lg_sl (r.map (up G)) := rfl
    rw [e, List.length_append, ih, up_cat]
    match v with
    | .inl x => show 1 + _ = (laySl r).length + 1; omega
    | .inr (.inl x) => show 2 + _ = (laySl r).length + 1 + 1; omega
    | .inr (.inr a) => show 1 + _ = (laySl r).length + 1; omega
theorem lay_args (G : Gm) : ∀ (av : List AV) (j i : Nat) (v : AV), (laySl av)[i]? = some (some v) → (j + i, up G v) ∈ lv_args j (av.map (up G))
  | [], j, i, v, h => by cases h
  | w :: r, j, i, v, h => by
    show _ ∈ (j, up G w) :: lv_args (if (up G w).category = 2 then j + 2 else j + 1) (r.map (up G))
    rw [up_cat]
    match w, h with
    | .inl x, h =>
      match i, h with
      | 0, h => cases h; exact List.mem_cons_self
      | i + 1, h =>
        refine List.mem_cons_of_mem _ ?_
        have := lay_args G r (j + 1) i v h
        rw [show j + 1 + i = j + (i + 1) by omega] at this
        exact this
    | .inr (.inl x), h =>
      match i, h with
      | 0, h => cases h; exact List.mem_cons_self
      | 1, h => cases h
      | i + 2, h =>
        refine List.mem_cons_of_mem _ ?_
        have := lay_args G r (j + 2) i v h
        rw [show j + 2 + i = j + (i + 2) by omega] at this
        exact this
    | .inr (.inr a), h =>
      match i, h with
      | 0, h => cases h; exact List.mem_cons_self
      | i + 1, h =>
        refine List.mem_cons_of_mem _ ?_
        have := lay_args G r (j + 1) i v h
        rw [show j + 1 + i = j + (i + 1) by omega] at this
        exact this
theorem LR_entry (G : Gm) {y : Nat} {av : List AV} (hlen : (laySl av).length ≤ mL y) : LR G ((lg_sl (av.map (up G)) ++ List.replicate (mL y - (lg_sl (av.map (up G))).length) Slot.unset).toArray) (mL y) (entL y av) := by
  obtain ⟨h1, h2, h3⟩ := lv_entry (av.map (up G)) (n := mL y) (by rw [lay_len]; exact hlen)
  refine ⟨h1, h2, fun i v h => ?_⟩
  unfold entL at h
  rw [List.getElem?_append] at h
  split at h
  · have := lay_args G av 0 i v h
    rw [Nat.zero_add] at this
    exact h3 (i, up G v) this
  · rw [List.getElem?_replicate] at h
    split at h <;> cases h
def headW (y : Nat) : Cond := match mH y with
  | [] => .code (mNm y) (mB y) (mL y) (mR y)
  | h :: t => .codeWith (mNm y) (mB y) (mL y) (mR y) (h :: t)
def wsO (y : Nat) : List Cond := headW y :: lw_good
def mOk (y : Nat) : Prop := headW y ∈ lw_good ∧ plainName (mC y) = true ∧ Cond.initialized (mC y) ∈ lw_good ∧ (mC y ≠ "java/lang/invoke/MethodHandle" ∧ mC y ≠ "java/lang/invoke/VarHandle") ∧ (parseMethodDescriptor (mNm y).desc).map (fun d => d.parameters.length) = some (mI y 2) ∧ mL y ≤ 30 ∧
  (mI y 0 = 1 → Cond.static (mNm y) ∈ lw_good) ∧ (mI y 0 = 0 → Cond.instanceMethod (mNm y) ∈ lw_good) ∧ (mI y 0 = 0 → (mNm y).name ≠ "<init>" → Cond.selects (mC y) (mNm y) (mNm y) ∈ lw_good) ∧
  (mI y 0 = 0 → (mI y 1 = 20 ∧ mC y = "java/lang/String") ∨ (1 ≤ mI y 1 ∧ ∃ q, vwCl[mI y 1 - 1]? = some q ∧ q.1 = mC y)) ∧ (mI y 0 = 0 → mH y = [])
def rmO (d : Nat) (m m' : Mem) : Room := { frames := frD d, cells := mN m' - mN m, slots := mZ m' - mZ m, locals := loD d }
def PcO (G : Gm) (av : List AV) (m : Mem) : Array Value → State → Prop := va_Pc (av.map (up G)) (fun U => Rep G m U U.heap ∧ Wd G U U.heap ∧ gBase G ≤ U.heap.size)
theorem good_word {w : Cond} (h : w ∈ lw_good) : (w.onTables && w.keeps) = true ∨ ∃ ty, w = .arrayClass ty := good_of_word (List.mem_filter.mp h).2
theorem Met_of {d y : Nat} {av : List AV} {m m' : Mem} {o : Nat} {v : Option AV} (hm : mOk y) (hlen : (laySl av).length ≤ mL y) (h : Ev d y 0 (entL y av) [] m m' o v) (l : Launch) (hl : l.stackTraces = false) (G : Gm) :
    vx_Met l (mNm y) (wsO y) (rmO d m m') (PcO G av m) (QR G m' o v) (QX G m' o) (mN m' - mN m) (mZ m' - mZ m) (gA G) := by
  obtain ⟨h1, h2, hE⟩ := h
  have body : ∀ (p : Program) (e : Env) (s : State) (mi : MethodId) (args : Array Value) (below : List Frame) (meth : Method) (c : Code) (s₁ : State), BodyLoose p l (mNm y) (headSpec (wsO y) (rmO d m m')) (mB y) (mL y) (mR y) e s mi args below meth c s₁ → c.maxLocals = mL y → c.exceptionTable.toList = tableOf (mH y) → PcO G av m args s →
      W p l e (headSpec (wsO y) (rmO d m m')).room s mi args below meth c s.heap [] 0 0 (vx_MQ below (QR G m' o v) (QX G m' o) args s (mN m' - mN m) (mZ m' - mZ m) (gA G)) (entryFrame mi args (mL y)) := by
    intro p e s mi args below meth c s₁ B hml htab hP
    obtain ⟨rfl, hR, hW, hb⟩ := hP
    have hts : ∀ w ∈ wsO y, w.before (av.map (up G)).toArray s = true := atoms_spec (ws := wsO y) B.pre
    rw [lg_entry_eq]
    have w := hE G p l e (headSpec (wsO y) (rmO d m m')).room s mi (av.map (up G)).toArray below meth c (mN m) (mZ m) s.heap [] _ ⟨B.exec, B.bytes, B.returns, hml, findClass_of_methodNamed B.named, fun w hw => hts w (List.mem_cons_of_mem _ hw), B.notSynchronized, htab, (name_of_methodNamed B.named B.method).1, hW, hb, hl, Nat.le_refl _, Nat.le_refl _⟩ (Nat.le_refl _) (Nat.le_refl _) (Nat.le_refl _) (Nat.le_refl _) hR va_S.rf (LR_entry G hlen)
    rw [Nat.sub_self, Nat.sub_self] at w
    exact w
  cases hh : mH y with
  | nil =>
    refine vx_ofW (cc := mB y) (maxL := mL y) (ret := mR y) (ws' := lw_good) hm.2.1 ?_ ?_
    · unfold wsO headW
      rw [hh]
    · intro p e s mi args below meth c s₁ B hml ht hP
      refine body p e s mi args below meth c s₁ B hml ?_ hP
      rw [hh]
      cases hx : c.exceptionTable.toList with
      | nil => rfl
      | cons a b => exact (ht a (by rw [hx]; exact List.mem_cons_self)).elim
  | cons a b =>
    refine vx_ofWH (cc := mB y) (maxL := mL y) (ret := mR y) (hh := a :: b) (ws' := lw_good) hm.2.1 ?_ ?_
    · unfold wsO headW
      rw [hh]
    · intro p e s mi args below meth c s₁ B hml hP
      refine body p e s mi args below meth c s₁ B hml ?_ hP
      rw [hh]
      refine vx_table (x := mNm y) (y := mNm y) B (bytes := mB y) (maxL' := mL y) (ret' := mR y) ?_
      have := atoms_spec (ws := wsO y) B.pre (headW y) List.mem_cons_self
      unfold headW at this
      rw [hh] at this
      exact this
theorem PcO_blind (G : Gm) (av : List AV) (m : Mem) : FrameBlind (PcO G av m) := by
  intro a U g mk h
  obtain ⟨h1, h2, h3, h4⟩ := h
  have ha : U.vm.Alike (U.calling g mk a).vm := Vm.Alike.refl _
  have hw : U.WarmedH (U.calling g mk a).vm := State.WarmedH.refl U
  exact ⟨h1, h2.moved ha, h3.moved hw, h4⟩
/-- what a call does to its caller -/
def RunOK (d y pc : Nat) (ls : Ls) (st r : List AV) (m m1 : Mem) (o1 : Nat) (v1 : Option AV) : Prop :=
  ∀ (G : Gm) (p : Program) (l : Launch) (e : Env) (R : Room) (s : State) (mi : MethodId) (args : Array Value) (below : List Frame) (meth : Method) (c : Code) (H : Heap) (locs : List Loc) (cells slots : Nat) (mls : Array Slot),
    Cx G y (d + 1) p l R s mi args meth c → Rep G m s H → va_S (gA G) s.heap H locs → LR G mls (mL y) ls → cells + (mN m1 - mN m) ≤ R.cells → slots + (mZ m1 - mZ m) ≤ R.slots →
    ∃ a : Array Value, vx_Run p l e R s mi args below meth c H locs cells slots (mN m1 - mN m) (mZ m1 - mZ m) (F0 mi pc mls (st.map (up G))) (r.map (up G)) (QR G m1 o1 v1 a) (QX G m1 o1) (gA G)
theorem Ex_after {d y pc : Nat} {ls : Ls} {st r : List AV} {m m1 : Mem} {o1 : Nat} {v1 : Option AV} {Q : Nat → Option AV → Mem → Prop} (hrun : RunOK d y pc ls st r m m1 o1 v1) (h1 : mN m ≤ mN m1) (h2 : mZ m ≤ mZ m1)
    (hQ : (o1 = 0 → Ex (d + 1) y (pc + 3) ls (v1.toList ++ r) m1 Q) ∧ (o1 ≠ 0 → mH y = [] ∧ Q o1 none m1)) : Ex (d + 1) y pc ls st m Q := by
  by_cases ho : o1 = 0
  · obtain ⟨o, v, m', hq, g1, g2, hE⟩ := hQ.1 ho
    refine ⟨o, v, m', hq, by omega, by omega, fun G p l e R s mi args below meth c n0 z0 H locs mls C c1 c2 c3 c4 hR hS hL => ?_⟩
    intro T hT X
    obtain ⟨a, hr⟩ := hrun G p l e R s mi args below meth c H locs (mN m - n0) (mZ m - z0) mls C hR hS hL (by omega) (by omega)
    rcases hr T hT X with ⟨v0, st₀, t, T', L, h0, X', hLf, e1, e2, ⟨-, hv, hR1, hF⟩, st1⟩ | ⟨q, st₀, t, T', L, E, ce, h0, X', hLf, e1, e2, ⟨hne, -⟩, -⟩
    · obtain ⟨k1, k2, k3⟩ := vx_keep (A0 := gA G) h0 e1 hS (fun _ _ z => z) (fun _ z => z) hLf hF
      have hal : t.vm.Alike s.vm := by rw [← e2]; exact X'.warmed.alike.symm
      have hR' : Rep G m1 s T'.heap := by rw [e1]; exact hR1.moved hal
      have w := hE G p l e R s mi args below meth c n0 z0 T'.heap (locs ++ L) mls C c1 c2 (by omega) (by omega) hR' k3 hL
      rw [show mN m1 - n0 = mN m - n0 + (mN m1 - mN m) by omega, show mZ m1 - z0 = mZ m - z0 + (mZ m1 - mZ m) by omega] at w
      obtain ⟨t2, a1, b1⟩ := w T' rfl X'
      refine ⟨t2, st1 t2 ?_, b1⟩
      cases hv
      have ev : (v1.toList ++ r).map (up G) = (v1.map (up G)).toList ++ r.map (up G) := by cases v1 <;> rfl
      rw [ev] at a1
      exact a1
    · exact absurd ho hne
  · obtain ⟨hmh, hq⟩ := hQ.2 ho
    refine ⟨o1, none, m1, hq, h1, h2, fun G p l e R s mi args below meth c n0 z0 H locs mls C c1 c2 c3 c4 hR hS hL => ?_⟩
    intro T hT X
    obtain ⟨a, hr⟩ := hrun G p l e R s mi args below meth c H locs (mN m - n0) (mZ m - z0) mls C hR hS hL (by omega) (by omega)
    rcases hr T hT X with ⟨v0, st₀, t, T', L, h0, X', hLf, e1, e2, ⟨h00, -⟩, -⟩ | ⟨q, st₀, t, T', L, E, ce, h0, X', hLf, e1, e2, ⟨hne, hE, hR1, hF⟩, hce, hcv, hcl, st1⟩
    · exact absurd h00 ho
    · obtain ⟨k1, k2, k3⟩ := vx_keep (A0 := gA G) h0 e1 hS (fun _ _ z => z) (fun _ z => z) hLf hF
      have hal : t.vm.Alike s.vm := by rw [← e2]; exact X'.warmed.alike.symm
      have hR' : Rep G m1 s T'.heap := by rw [e1]; exact hR1.moved hal
      have hw : vx_W p l e R s mi args below meth c T'.heap (locs ++ L) (mN m - n0 + (mN m1 - mN m)) (mZ m - z0 + (mZ m1 - mZ m)) (vx_MQ below (QR G m1 o1 none) (QX G m1 o1) args s (mN m1 - n0) (mZ m1 - z0) (gA G)) (F0 mi pc mls (r.map (up G))) q := by
        refine vx_out ?_ C.2.2.2.2.2.2.1 (by rw [e1]; exact hce) hcv hcl (fun t9 ht9 ha9 => ⟨ho, hE, by rw [ht9]; exact hR'.moved ha9, k3.F ht9⟩) k3.2.2 (by omega) (by omega)
        intro x hx
        rw [C.2.2.2.2.2.2.2.1, hmh] at hx
        cases hx
      obtain ⟨t2, a1, b1⟩ := hw T' rfl X'
      exact ⟨t2, st1.trans a1, b1⟩
section CallRows
variable {d y pc : Nat} {ls : Ls} {r : List AV} {m m1 : Mem} {o1 : Nat} {v1 : Option AV}
theorem callB_O {G : Gm} {y y1 idx : Nat} {p : Program} {l : Launch} {R : Room} {s : State} {mi : MethodId} {args : Array Value} {meth : Method} {c : Code} (hm : mOk y1) (hmh : mH y1 = []) (hlink : Cond.methodLink (mC y) idx (mNm y1) ∈ lw_good) (C : Cx G y (d + 1) p l R s mi args meth c) :
    CallB R s args (mC y) idx (mNm y1) (mB y1) (mL y1) (mR y1) (wsO y1) (rmO d m m1) (mN m1 - mN m) (mZ m1 - mZ m) (mI y1 2) := by
  have hfr : frD (d + 1) ≤ R.frames := C.2.2.2.2.2.2.2.2.2.2.2.2.1
  have hlo : loD (d + 1) ≤ R.locals := C.2.2.2.2.2.2.2.2.2.2.2.2.2
  have hL30 := hm.2.2.2.2.2.1
  have hg : ∀ w ∈ wsO y1, w ∈ lw_good := fun w hw => (List.mem_cons.mp hw).elim (fun e => by rw [e]; exact hm.1) id
  have hh : headW y1 = .code (mNm y1) (mB y1) (mL y1) (mR y1) := by unfold headW; rw [hmh]
  refine ⟨rfl, rfl, ?_, ?_, pay_in C.2.2.2.2.2.1 (fun w hw => ⟨hg w hw, good_word (hg w hw)⟩), by rw [← hh]; exact List.mem_cons_self, by rw [← hh]; exact C.2.2.2.2.2.1 _ hm.1, C.2.2.2.2.2.1 _ hm.2.2.1, hm.2.2.2.1, fun sig hs => ?_, C.2.2.2.2.2.1 _ hlink⟩
  · show frD d + 1 ≤ _
    unfold frD at hfr ⊢
    omega
  · show 8 + (mL y1 + 11) + loD d ≤ _
    unfold loD at hlo ⊢
    omega
  · have := hm.2.2.2.2.1
    rw [hs] at this
    exact (Option.some.inj this).symm
theorem Pre_O {G : Gm} {av : List AV} {s : State} {H : Heap} {locs : List Loc} (hW : Wd G s s.heap) (hb : gBase G ≤ s.heap.size) (hR : Rep G m s H) (hS : va_S (gA G) s.heap H locs) : ∀ U : State, U.heap = H → s.WarmedH U.vm → PcO G av m (av.map (up G)).toArray U := by
  intro U hU hw
  refine ⟨rfl, ?_, ?_, ?_⟩
  · rw [hU]; exact hR.moved hw.alike
  · rw [hU]
    exact (hW.kept hb (fun a h1 h2 => hS.2.1 a h1 h2)).moved hw
  · rw [hU]; exact Nat.le_trans hb hS.1
theorem run_S {y1 idx nx : Nat} {rs : List Nat} {c0 : Int} {av : List AV} (hk : okE y pc (.invokestatic idx, nx, rs, c0)) (h9 : n1 (.invokestatic idx, nx, rs, c0) = y1) (h998 : y1 ≠ 998) (hm : mOk y1) (hst : mI y1 0 = 1) (hmh : mH y1 = []) (hn : av.length = mI y1 2) (hcat : catS r ≤ 8) (hlen : (laySl av).length ≤ mL y1) (h : Ev d y1 0 (entL y1 av) [] m m1 o1 v1) :
    RunOK d y pc ls (av.reverse ++ r) r m m1 o1 v1 := by
  obtain ⟨k1, -, k3⟩ := hk.use
  change (bif Nat.beq (n1 (.invokestatic idx, nx, rs, c0)) 998 then _ else wAt (n2 (.invokestatic idx, nx, rs, c0)) (.methodLink (mC y) idx (mNm (n1 (.invokestatic idx, nx, rs, c0))))) = true at k3
  rw [h9] at k3
  have hb : Nat.beq y1 998 = false := by
    cases hx : Nat.beq y1 998 with
    | false => rfl
    | true => exact absurd (Nat.eq_of_beq_eq_true hx) h998
  rw [hb] at k3
  simp only [cond_false] at k3
  intro G p l e R s mi args below meth c H locs cells slots mls C hR hS hL hc hs
  refine ⟨_, vx_runS (As := av.map (up G)) (n := mI y1 2) ⟨C.1, C.2.1, C.2.2.2.1, C.2.2.2.2.1, C.2.2.2.2.2.1⟩ (Met_of hm hlen h l C.2.2.2.2.2.2.2.2.2.2.2.1 G) ⟨callB_O hm hmh (wAt_mem k3) C, C.2.2.2.2.2.1 _ (hm.2.2.2.2.2.2.1 hst)⟩ ⟨PcO_blind G av m, Pre_O C.2.2.2.2.2.2.2.2.2.1 C.2.2.2.2.2.2.2.2.2.2.1 hR hS⟩ rfl (by rw [List.length_map]; exact hn) hL.1 ?_ ?_ k1 ⟨hc, hs⟩⟩
  · show (av.reverse ++ r).map (up G) = _
    rw [List.map_append, List.map_reverse]
  · rw [catS_eq]
    show 2 * 0 + _ ≤ 8
    omega
theorem run_I {y1 idx nx : Nat} {rs : List Nat} {c0 : Int} {av : List AV} {a : Nat} (hk : okE y pc (.invokespecial idx, nx, rs, c0)) (h9 : n1 (.invokespecial idx, nx, rs, c0) = y1) (h999 : y1 ≠ 999) (hm : mOk y1) (hst : mI y1 0 = 0) (hr0 : mR y1 = none) (hn : av.length = mI y1 2) (hcat : catS r ≤ 8) (ha : 100 ≤ a) (hlen : (laySl (vR a :: av)).length ≤ mL y1) (h : Ev d y1 0 (entL y1 (vR a :: av)) [] m m1 o1 v1) :
    RunOK d y pc ls (av.reverse ++ vR a :: r) r m m1 o1 v1 := by
  obtain ⟨k1, -, k3⟩ := hk.use
  change (bif Nat.beq (n1 (.invokespecial idx, nx, rs, c0)) 999 then _ else wAt (n2 (.invokespecial idx, nx, rs, c0)) (.methodLink (mC y) idx (mNm (n1 (.invokespecial idx, nx, rs, c0)))) && decide ((mNm (n1 (.invokespecial idx, nx, rs, c0))).name = "<init>")) = true at k3
  rw [h9] at k3
  have hb : Nat.beq y1 999 = false := by
    cases hx : Nat.beq y1 999 with
    | false => rfl
    | true => exact absurd (Nat.eq_of_beq_eq_true hx) h999
  rw [hb] at k3
  simp only [cond_false, Bool.and_eq_true, decide_eq_true_eq] at k3
  intro G p l e R s mi args below meth c H locs cells slots mls C hR hS hL hc hs
  have cb := callB_O (m := m) (m1 := m1) hm (hm.2.2.2.2.2.2.2.2.2.2 hst) (wAt_mem k3.1) C
  rw [hr0] at cb
  have pp := Pre_O (av := vR a :: av) C.2.2.2.2.2.2.2.2.2.1 C.2.2.2.2.2.2.2.2.2.2.1 hR hS
  have e1 : (vR a :: av).map (up G) = .ref (rho G a) :: av.map (up G) := by rw [List.map_cons, up_hi G ha]
  rw [e1] at pp
  refine ⟨_, vx_runI (As := av.map (up G)) (b := rho G a) (n := mI y1 2) ⟨C.1, C.2.1, C.2.2.2.1, C.2.2.2.2.1, C.2.2.2.2.2.1⟩ (Met_of hm hlen h l C.2.2.2.2.2.2.2.2.2.2.2.1 G) ⟨cb, k3.2, C.2.2.2.2.2.1 _ (hm.2.2.2.2.2.2.2.1 hst)⟩ ⟨PcO_blind G _ m, pp⟩ rfl (by rw [List.length_map]; exact hn) hL.1 ?_ ?_ k1 ⟨hc, hs⟩⟩
  · show (av.reverse ++ vR a :: r).map (up G) = _
    rw [List.map_append, List.map_reverse, List.map_cons, up_hi G ha]
  · rw [catS_eq]
    show 2 * 0 + _ ≤ 8
    omega
theorem run_V {y1 idx nx : Nat} {rs : List Nat} {c0 : Int} {av : List AV} {a : Nat} (hk : okE y pc (.invokevirtual idx, nx, rs, c0)) (h9 : n1 (.invokevirtual idx, nx, rs, c0) = y1) (hm : mOk y1) (hst : mI y1 0 = 0) (hini : (mNm y1).name ≠ "<init>") (hn : av.length = mI y1 2) (hcat : catS r ≤ 8) (hka : mK m a = mI y1 1) (hlen : (laySl (vR a :: av)).length ≤ mL y1) (h : Ev d y1 0 (entL y1 (vR a :: av)) [] m m1 o1 v1) :
    RunOK d y pc ls (av.reverse ++ vR a :: r) r m m1 o1 v1 := by
  obtain ⟨k1, -, k3⟩ := hk.use
  change wAt (n2 (.invokevirtual idx, nx, rs, c0)) (.methodLink (mC y) idx (mNm (n1 (.invokevirtual idx, nx, rs, c0)))) = true at k3
  rw [h9] at k3
  intro G p l e R s mi args below meth c H locs cells slots mls C hR hS hL hc hs
  have cb := callB_O (m := m) (m1 := m1) hm (hm.2.2.2.2.2.2.2.2.2.2 hst) (wAt_mem k3) C
  have pp := Pre_O (av := vR a :: av) C.2.2.2.2.2.2.2.2.2.1 C.2.2.2.2.2.2.2.2.2.2.1 hR hS
  have hrc : up G (vR a) = .ref (rho G a) ∧ ∃ cellB : Cell, H[rho G a]? = some cellB ∧ cellB.vm.isStatics = false ∧ s.vm.findClass (mC y1) = some cellB.cls := by
    rcases hm.2.2.2.2.2.2.2.2.2.1 hst with ⟨g1, g2⟩ | ⟨g0, q, hq, g2⟩
    · rw [g1] at hka
      obtain ⟨i, hi, rfl⟩ := hR.txt hka
      have hi' : i < 24 := hi
      have := vk_recv (C.2.2.2.2.2.2.2.2.2.1.2.1 i hi) (i := 0) (by omega) hS
      rw [rho_k G hi, g2]
      refine ⟨?_, this⟩
      rw [up_lo G (by omega) (by omega), rho_k G hi]
    · have hka' : mK m a = (mI y1 1 - 1) + 1 := by omega
      obtain ⟨ha, r9, hr9, cell, z1, z2, z3, -⟩ := hR.obj hq hka'
      refine ⟨up_hi G ha, cell, z1, by rw [z3]; rfl, ?_⟩
      rw [z2, ← g2]
      exact (C.2.2.2.2.2.2.2.2.2.1.1.1 _ _ hq).2.1
  have e1 : (vR a :: av).map (up G) = .ref (rho G a) :: av.map (up G) := by rw [List.map_cons, hrc.1]
  rw [e1] at pp
  refine ⟨_, vx_runV (As := av.map (up G)) (b := rho G a) (n := mI y1 2) (C := mC y1) ⟨C.1, C.2.1, C.2.2.2.1, C.2.2.2.2.1, C.2.2.2.2.2.1⟩ (Met_of hm hlen h l C.2.2.2.2.2.2.2.2.2.2.2.1 G) ⟨cb, C.2.2.2.2.2.1 _ (hm.2.2.2.2.2.2.2.1 hst), C.2.2.2.2.2.1 _ (hm.2.2.2.2.2.2.2.2.1 hst hini)⟩ ⟨PcO_blind G _ m, hrc.2, pp⟩ rfl (by rw [List.length_map]; exact hn) hL.1 ?_ ?_ k1 ⟨hc, hs⟩⟩
  · show (av.reverse ++ vR a :: r).map (up G) = _
    rw [List.map_append, List.map_reverse, List.map_cons, hrc.1]
  · rw [catS_eq]
    show 2 * 0 + _ ≤ 8
    omega
end CallRows
end
section
/-! ===== throws (after vx_throwS of the kit: the heap has one cell more) ===== -/
section MThrow
variable {p : Program} {l : Launch} {e : Env} {R : Room} {s : State} {m : MethodId} {args : Array Value} {below : List Frame} {meth : Method} {c : Code} {H : Heap} {locs : List Loc} {cells slots : Nat} {Q : State → Prop}
variable {mc ms : Nat} {free : Addr → Prop} {A0 A1 : Nat → Prop} {H0 : Heap} {a : Array Value} {ls : Array Slot} {st0 rest : List Value}
variable {Qc : Array Value → State → Outcome → State → Prop} {XC : String → State → State → Prop}
theorem m_throwS {cc : ByteArray} {pc : Nat} (hexec : p.tables.exec = Jvm.exec) (hb : c.code = cc) (hl : l.stackTraces = false) {own cls text : String} {names : List String} {ik is ic mc ms sa : Nat} {A : Nat → Prop}
    (hown : s.vm.findClass own = some m.cls) (hcls : Bundle.fit cls = true) (hnames : ∀ n ∈ names, Bundle.fit n = true)
    (hk : (Cond.classLink own ik cls).before args s = true) (hini : (Cond.initialized cls).before args s = true) (hstr : vk_R own is text sa s) (hat : ∀ w ∈ vx_atS own ic cls names, w.before args s = true)
    (hgood : ∀ w ∈ Cond.classLink own ik cls :: Cond.initialized cls :: vx_atS own ic cls names, vx_ot w = true)
    (hU : vx_Zq Bundle.tN "UNASSIGNED_STACK" Bundle.steD A s s.heap) (hN : vx_Zq Bundle.tN "SUPPRESSED_SENTINEL" Bundle.listD A s s.heap) (hS : va_S A s.heap H locs) (hsize : ls.size = c.maxLocals)
    (d0 : decode cc pc = .ok (.new ik, 3)) (d3 : decode cc (pc + 3) = .ok (.dup, 1)) (d4 : decode cc (pc + 4) = .ok (.ldc is, 2)) (d6 : decode cc (pc + 6) = .ok (.invokespecial ic, 3)) (d9 : decode cc (pc + 9) = .ok (.athrow, 1))
    (hout : ∀ x ∈ c.exceptionTable.toList, covers x (pc + 9) = false)
    (hRframes : names.length + 3 < R.frames) (hRlocals : (rest.map fun v => v.category).sum + (13 * (names.length + 1) + 43) ≤ R.locals) (hRcells : cells + 1 ≤ R.cells) (hRslots : slots + 6 ≤ R.slots) (hlocks : meth.locks = false)
    (hx : ∀ t : State, s.vm.Alike t.vm → t.heap.size = H.size + 1 → (∀ q : Nat, q < H.size → t.heap[q]? = H[q]?) → XC cls s t)
    (hf : ∀ z ∈ locs, free z.base) (hc : cells + 1 ≤ mc) (hs : slots + 6 ≤ ms) :
    W p l e R s m args below meth c H locs cells slots (vx_MQ below Qc XC args s mc ms free) (F0 m pc ls rest) := by
  intro T hT X
  have htr : e.platform.stackTraces = false := (show e.platform.stackTraces = l.stackTraces by rw [X.admits.platform]).trans hl
  have Y := vx_rebase X (R' := { frames := R.frames, locals := R.locals, cells := 1, slots := 6 }) (Nat.le_refl _) (Nat.le_refl _) hRcells hRslots
  obtain ⟨s', hA⟩ : ∃ z, z = (T.setVm s.vm).setFrames (.invoking m args :: below) := ⟨_, rfl⟩
  rw [← hA] at Y
  have hvm : s'.vm = s.vm := by rw [hA]; rfl
  have hhp : s'.heap = H := by rw [hA]; exact hT
  have hW0 : s.WarmedH s'.vm := by rw [hvm]; exact State.WarmedH.refl s
  have hat' : ∀ w ∈ vx_atS own ic cls names, w.before args s' = true := fun w hw => vx_ot_at hW0 hvm.symm (hgood w (List.mem_cons_of_mem _ (List.mem_cons_of_mem _ hw))) (hat w hw)
  have hk' : (Cond.classLink own ik cls).before args s' = true := vx_ot_at hW0 hvm.symm (hgood _ List.mem_cons_self) hk
  have hini' : (Cond.initialized cls).before args s' = true := vx_ot_at hW0 hvm.symm (hgood _ (List.mem_cons_of_mem _ List.mem_cons_self)) hini
  have hU' : vx_Zq Bundle.tN "UNASSIGNED_STACK" Bundle.steD A s' s'.heap := by rw [hhp]; exact vx_Zq.moved hW0.alike (hU.kept hS.2.1)
  have hN' : vx_Zq Bundle.tN "SUPPRESSED_SENTINEL" Bundle.listD A s' s'.heap := by rw [hhp]; exact vx_Zq.moved hW0.alike (hN.kept hS.2.1)
  have h : ∀ w ∈ Bundle.ownAtoms own ic cls names, w.before args s' = true := vx_own hat' (vx_isRefq hU'.1) (vx_isRefq hN'.1) hU'.2.word hN'.2.word
  have hown' : s'.vm.findClass own = some m.cls := by rw [hvm]; exact hown
  have hins : (Cond.instantiable cls 6).before args s' = true := h _ (by simp [Bundle.ownAtoms])
  obtain ⟨vm₁, cX, kX, hfX, hkX, -, -, X₁, st1⟩ := Y.newCold hexec (own := own) (C := cls) (index := ik) (n := 6) hown' hk' hins hini'
    (g := F0 m pc ls rest) rfl (by rw [hb]; exact d0) (Nat.le_refl _) (Nat.le_refl _)
  generalize hT1 : (T.setVm vm₁).pushCell { cls := cX, slots := kX.instanceTypes.map defaultValue, vm := .none } = T1 at X₁ st1
  have hcat : (Value.ref T.heap.size).category = 1 := rfl
  have hcellA : T1.heap[T.heap.size]? = some (freshCell cX kX) := by rw [← hT1]; exact State.heap_pushCell_size _ _
  have d3' : decode c.code (pc + 3) = .ok (.dup, 1) := by rw [hb]; exact d3
  have d4' : decode c.code (pc + 4) = .ok (.ldc is, 2) := by rw [hb]; exact d4
  have hstr' : vk_R own is text sa s' := vk_R.warm hW0 hstr
  obtain ⟨U, hsteps, hrun, hend, hW, hsame, ce, hce, hO⟩ := X₁.ctorThrowS hexec htr (own := own) (cls := cls) (names := names) (ic := ic) hown' hcls hnames h (fun x hx => nomatch hx) hfX hkX hcellA (by rw [hhp, hT]; exact Nat.le_refl _) (msg := .ref sa) rfl
    (g := { method := m, pc := pc + 6, locals := ls, stack := .ref sa :: .ref T.heap.size :: .ref T.heap.size :: rest, locked := none }) rfl hsize rfl rfl (rest := rest) rfl
    (by rw [hb]; exact d6) (by rw [hb]; exact d9) hout hRframes (by simp only [List.map_cons, List.sum_cons, hcat]; omega) hlocks
  obtain ⟨f1, f2⟩ := vx_frame hsame
  have f9 : U.heap.size = H.size + 1 := by
    have g1 := hsame.2.2.1
    have g2 : U.heap.size ≤ s'.heap.size + (0 + 1) := g1
    have g3 := (Array.getElem?_eq_some_iff.mp hce).1
    rw [hhp] at g2
    rw [hT] at g3
    omega
  rw [hhp] at f1 f2
  have hWs : s.WarmedH U.vm := State.WarmedH.trans hW0 hW
  have hcl : s.vm.findClass cls = some ce.cls := by
    have h9 := hO.cls
    rw [hvm] at h9
    exact h9
  have hall : s.sameButNew ({ U with vm := s.vm } : State) locs mc ms := by
    subst hA
    obtain ⟨e1, e2⟩ := hsame
    rw [State.setFrames_setFrames] at e1
    have h2 : (T.setVm s.vm).sameButNew ({ U with vm := s.vm } : State) [] (0 + 1) (0 + 6) := ⟨e1, e2⟩
    have h3 := X.same.trans h2
    rw [List.append_nil] at h3
    exact h3.mono hc hs
  refine ⟨U, ?_, .threw T.heap.size, hrun, hend, Or.inr ⟨T.heap.size, rfl, cls, ce, locs, hx U hWs.alike f9 (fun q hq => f2 q hq (fun z hz => nomatch hz)), hce, hO.vm, hcl, hWs, hall, hf⟩⟩
  refine st1 _ ?_
  show Steps p.tables e below (T1.setTop { method := m, pc := pc + 3, locals := ls, stack := .ref T.heap.size :: rest, locked := none }) _
  jvm_step X₁.here [X₁.here.top, hexec, d3', Value.category]
  exact X₁.ldcString hexec (own := own) (text := text) (index := is) (a := sa) hown' hstr'.1 hstr'.2
    (g := { method := m, pc := pc + 4, locals := ls, stack := .ref T.heap.size :: .ref T.heap.size :: rest, locked := none }) rfl d4' _ hsteps
end MThrow
end
section
/-! ===== the constructor of an exception whose class calls its own super at another entry (after Stand.ctorThrowS of the library, with Bundle.chainSX) ===== -/
section MCtor
variable {p : Program} {l : Launch} {e : Env} {R : Room} {s : State} {m₀ : MethodId} {args : Array Value} {below : List Frame} {meth : Method} {c : Code} {W : State} {locs : List Loc} {cells slots : Nat}
set_option maxHeartbeats 1000000 in
theorem m_ctorX (X : Stand p l e R s m₀ args below meth c W locs cells slots) (hexec : p.tables.exec = Jvm.exec) (htr : e.platform.stackTraces = false) {own cls : String} {names : List String} {ic ix : Nat} {rx : ByteArray} (x0 : decode rx 0 = .ok (.aload_n 0, 1)) (x1 : decode rx 1 = .ok (.aload_n 1, 1)) (x2 : decode rx 2 = .ok (.invokespecial ix, 3)) (x5 : decode rx 5 = .ok (.return_, 1))
    (hown : s.vm.findClass own = some m₀.cls) (hcls : Bundle.fit cls = true) (hnames : ∀ n ∈ names, Bundle.fit n = true)
    (h : ∀ a ∈ Bundle.ownAtomsX own ic cls ix rx names, a.before args s = true)
    (hlocs : ∀ x ∈ locs, ∀ cell, s.heap[x.base]? = some cell → cell.vm.isStatics = false)
    {a : Addr} {cX : ClassId} {kX : Class} (hfoundX : s.vm.findClass cls = some cX) (hkX : s.vm.classes[cX]? = some kX) (hcell : W.heap[a]? = some (freshCell cX kX)) (hnew : s.heap.size ≤ a)
    {msg : Value} (hmsg : msg.isRef = true)
    {g : JFrame} (hg : g.method = m₀) (hsize : g.locals.size = c.maxLocals) (hlocked : g.locked = none) (hentered : g.entered = []) {rest : List Value} (hstack : g.stack = msg :: .ref a :: .ref a :: rest)
    (hd6 : decode c.code g.pc = .ok (.invokespecial ic, 3)) (hd9 : decode c.code (g.pc + 3) = .ok (.athrow, 1)) (hout : ∀ x ∈ c.exceptionTable.toList, covers x (g.pc + 3) = false)
    (hRframes : names.length + 3 < R.frames) (hRlocals : 2 * g.monitorRoom + ((Value.ref a :: rest).map fun v => v.category).sum + (13 * (names.length + 1) + 42) ≤ R.locals) (hlocks : meth.locks = false) :
    ∃ U : State, Steps p.tables e below (W.setTop g) U ∧ U.status = .running ∧ Ended U below (.threw a) ∧ s.WarmedH U.vm ∧ s.sameButNew ({ U with vm := s.vm } : State) locs cells slots ∧
      ∃ ce, U.heap[a]? = some ce ∧ ce.vm = .none ∧ s.vm.findClass cls = some ce.cls := by
  have howns : e.platform.frameOwnsMonitors = true := by rw [X.admits.platform]
  have hfin : e.platform.finalization = false := by rw [X.admits.platform]
  have hpl : e.platform.magicAccessors = ({} : Platform).magicAccessors := by rw [X.admits.platform]
  have a' : ∀ x, x ∈ Bundle.ownAtomsX own ic cls ix rx names → x.holds args s none s [] = true := fun x hx => h x hx
  obtain ⟨T, Z0, L, -, Y⟩ := ThrowableC.of_atoms (args := args) howns hfin hpl (fun x hx => h x (by simp [Bundle.ownAtomsX, hx]))
  obtain ⟨Z, M, LZ, LM, hnZ⟩ := Init0T.ofS_atoms (args := args) hpl L Y (fun x hx => h x (by simp [Bundle.ownAtomsX, hx]))
  obtain ⟨P1, Ps, hlen, L1, hL, hP1m, hlink1, hlink⟩ := Bundle.chainSX (args := args) hpl hnZ x0 x1 x2 x5 names cls hcls hnames (fun x hx => h x (by simp [Bundle.ownAtomsX, hx]))
  have hfound : s.vm.findClass cls = some P1.m.cls := findClass_of_methodNamed hP1m
  cases Option.some.inj (hfoundX.symm.trans hfound)
  obtain ⟨c1, kX', hc1, hk, hord, -, -, hn6⟩ := Cond.instantiable_spec (a' (.instantiable cls 6) (by simp [Bundle.ownAtomsX]))
  cases Option.some.inj (hc1.symm.trans hfound)
  cases Option.some.inj (hkX.symm.trans hk)
  have hsel0 : selectMethod e.platform s.vm P1.m.cls T.fill0 = .method T.fill0 := by
    obtain ⟨c2, r2, m2, q1, q2, q3, q4, -⟩ := Cond.selects_spec (a' (.selects cls Bundle.tFill0 Bundle.tFill0) (by simp [Bundle.ownAtomsX]))
    cases Option.some.inj (q1.symm.trans hfound)
    cases Option.some.inj (q2.symm.trans (State.methodFound?_of_named Y.fill0 (by decide)))
    cases Option.some.inj (q3.symm.trans Y.fill0)
    rw [Launch.admits_selectMethod X.admits]; exact q4
  have hselF : selectMethod e.platform s.vm P1.m.cls T.fill = .method T.fill := by
    obtain ⟨c2, r2, m2, q1, q2, q3, q4, -⟩ := Cond.selects_spec (a' (.selects cls Bundle.tFill Bundle.tFill) (by simp [Bundle.ownAtomsX]))
    cases Option.some.inj (q1.symm.trans hfound)
    cases Option.some.inj (q2.symm.trans (State.methodFound?_of_named Y.fill (by decide)))
    cases Option.some.inj (q3.symm.trans Y.fill)
    rw [Launch.admits_selectMethod X.admits]; exact q4
  obtain ⟨cellS0, hcS0, hiss⟩ := Y.statics
  obtain ⟨u0, hu0⟩ := Cond.staticRefV Y.unassigned L.unassignedStatic L.statics hcS0 hiss (a' (.isRef (.static Bundle.tN "UNASSIGNED_STACK" Bundle.steD)) (by simp [Bundle.ownAtomsX]))
  obtain ⟨sen, hsen⟩ := Cond.staticRefV Y.sentinel L.sentinelStatic L.statics hcS0 hiss (a' (.isRef (.static Bundle.tN "SUPPRESSED_SENTINEL" Bundle.listD)) (by simp [Bundle.ownAtomsX]))
  obtain ⟨ci198, i198, fB, hk198, hg198, ha198, hsB, -, hnB, htB, hffB⟩ := Cond.ownField (t := .object "java/lang/Object") Y.found L.cls (by decide +kernel) (a' (.fieldLink Bundle.tN 198 Bundle.tN "backtrace" "Ljava/lang/Object;") (by simp [Bundle.ownAtomsX])) (a' (.lays Bundle.tN Bundle.tN "backtrace" "Ljava/lang/Object;") (by simp [Bundle.ownAtomsX])) e.platform hpl
  obtain ⟨cellS, hcS', heS, -, hkeep⟩ := X.same.2.2.2.2.2 T.aS cellS0 hcS0
  have hcellS : W.heap[T.aS]? = some cellS := hcS'
  have hout' : ∀ i, (⟨T.aS, i⟩ : Loc) ∉ locs := fun i hmem => by
    have := hlocs _ hmem cellS0 hcS0
    rw [hiss] at this; cases this
  have hknownS : cellS.vm ≠ .unknown := by
    rw [heS]; intro hu
    rw [show cellS0.vm = .unknown from hu] at hiss
    cases hiss
  have hneS : T.aS ≠ a := Nat.ne_of_lt (Nat.lt_of_lt_of_le (Array.getElem?_eq_some_iff.mp hcS0).1 hnew)
  obtain ⟨iM, hffM⟩ := Y.msg
  obtain ⟨tyC, dC, hdC, hdnC⟩ := Cond.laysAt hfound hk Y.cause (a' (.lays cls Bundle.tN "cause" "Ljava/lang/Throwable;") (by simp [Bundle.ownAtomsX]))
  obtain ⟨tyS, dS, hdS, hdnS⟩ := Cond.laysAt hfound hk Y.stack (a' (.lays cls Bundle.tN "stackTrace" Bundle.steD) (by simp [Bundle.ownAtomsX]))
  obtain ⟨tyP, dP, hdP, hdnP⟩ := Cond.laysAt hfound hk Y.supp (a' (.lays cls Bundle.tN "suppressedExceptions" Bundle.listD) (by simp [Bundle.ownAtomsX]))
  obtain ⟨tyM, dM, hdM, hdnM⟩ := Cond.laysAt hfound hk hffM (a' (.lays cls Bundle.tN "detailMessage" "Ljava/lang/String;") (by simp [Bundle.ownAtomsX]))
  obtain ⟨tyB, dB, hdB, hdnB⟩ := Cond.laysAt hfound hk hffB (a' (.lays cls Bundle.tN "backtrace" "Ljava/lang/Object;") (by simp [Bundle.ownAtomsX]))
  have bC := Cond.laysApart hdB hdC hdnB hdnC (by rw [hnB, Y.causeName]; decide)
  have bS := Cond.laysApart hdB hdS hdnB hdnS (by rw [hnB, Y.stackName]; decide)
  have bP := Cond.laysApart hdB hdP hdnB hdnP (by rw [hnB, Y.suppName]; decide)
  have hskip : SkipFacts T e.platform s (fun u => u) u0 ((preparedCellV T.toThrowableT (freshCell P1.m.cls kX) a u0 sen).withEntry W.cur) :=
    ⟨{ ci198 := ci198, i198 := i198, fBack := fB }, ⟨hk198, hg198, ha198, hsB⟩, by
      have := fresh_default (c := P1.m.cls) tyB
      rw [htB] at this
      simpa [preparedCellV, Cell.setSlot, Cell.withEntry, Array.getElem?_setIfInBounds, bC, bS, bP, bC.symm, bS.symm, bP.symm, defaultValue] using this, fun _ _ => rfl⟩
  obtain ⟨tm, methC, cdC, kC, vm₁, hnC, -, -, -, -, -, -, -, hW₁, st1⟩ := Steps.initColdS (tb := p.tables) (e := e) (below := below) (s := s) (U := W) X.here hexec X.warmed hpl hown (t := Bundle.initS cls) rfl rfl (Bundle.fit_spec hcls).2
    (a' (.methodLink own ic (Bundle.initS cls)) (by simp [Bundle.ownAtomsX])) (h (.instanceMethod (Bundle.initS cls)) (by cases names <;> simp [Bundle.ownAtomsX, Bundle.chainSAtomsX, Bundle.passSAtoms])) (bytes := rx) (maxL := 2) (h (.code (Bundle.initS cls) rx 2 none) (by cases names <;> simp [Bundle.ownAtomsX, Bundle.chainSAtomsX, Bundle.passSAtoms]))
    (f := g) hg (a := a) (msg := msg) (rest := .ref a :: rest) hstack hd6
  cases Option.some.inj (hnC.symm.trans hP1m)
  have X₁ := X.noted hW₁
  obtain ⟨vm₂, X₂, st2⟩ := X₁.ctorMessageOffV hexec (g := { g with stack := .ref a :: rest }) hg hsize T L Z LZ M LM (P1 :: Ps)
    (fun P hP => by rcases List.mem_cons.mp hP with rfl | hP; exact L1; exact hL P hP) ⟨hlink1, hlink⟩ (u0 := u0) (sen := sen) (self := a) hmsg (cell := freshCell P1.m.cls kX) (cellS := cellS)
    hcell (fun _ => by simp) (by simp) rfl rfl hsel0 hselF hcellS hneS hknownS (by rw [hkeep _ (hout' _)]; exact hu0) (by rw [hkeep _ (hout' _)]; exact hsen)
    (Takes.of_laid hk hord tyC (by rw [Y.causeType]; rfl)) (Takes.of_laid hk hord tyS (by rw [Y.stackType]; exact fits_refV_array _ u0)) (Takes.of_laid hk hord tyP (by rw [Y.suppType]; exact fits_refV_object _ sen))
    (Takes.of_laid hk hord tyM (by rw [Y.msgType]; exact fits_refV_object _ ⟨msg, hmsg⟩)) Y.objLocals hskip htr [] hd6
    (by simp only [List.length_cons, hlen]; omega) (by simp only [List.length_cons, hlen]; exact hRlocals)
  obtain ⟨hwalk, hrun, hended, hWU, hsame⟩ := X₂.athrowLeaves (hlocks := hlocks) hexec (g := { g with stack := .ref a :: rest, pc := g.pc + 3 }) hg hlocked hentered hout (a := a) (rest := rest) rfl hd9
  obtain ⟨c3, c4, hc3, hc4, hasg⟩ := Cond.castable_spec (a' (.castable cls cls) (by simp [Bundle.ownAtomsX]))
  cases Option.some.inj (hc3.symm.trans hfound)
  cases Option.some.inj (hc4.symm.trans hfound)
  have hlt : a < ((W.setVm vm₁).setVm vm₂).heap.size := (Array.getElem?_eq_some_iff.mp hcell).1
  have hU := heapAt_setCell_self (s := (W.setVm vm₁).setVm vm₂) (plainBareV T.toThrowableT (freshCell P1.m.cls kX) a u0 sen msg) hlt
  refine ⟨_, st1 _ (fun acts => ?_), hrun, hended, hWU, hsame.weaken (fun y hy hlt9 => ?_) (Nat.le_refl _) (Nat.le_refl _), _, hU, rfl, hfound⟩
  · rw [doInvoke_state]
    exact st2 _ hwalk
  · rcases List.mem_append.mp hy with h1 | h1
    · exact h1
    · exfalso
      have hb : y.base = a := by
        simp only [List.mem_cons, List.not_mem_nil, or_false] at h1
        rcases h1 with rfl | rfl | rfl | rfl | rfl <;> rfl
      rw [hb] at hlt9
      exact Nat.not_lt.mpr hnew hlt9
end MCtor
section MThrowX
variable {p : Program} {l : Launch} {e : Env} {R : Room} {s : State} {m : MethodId} {args : Array Value} {below : List Frame} {meth : Method} {c : Code} {H : Heap} {locs : List Loc} {cells slots : Nat} {Q : State → Prop}
variable {mc ms : Nat} {free : Addr → Prop} {A0 A1 : Nat → Prop} {H0 : Heap} {a : Array Value} {ls : Array Slot} {st0 rest : List Value}
variable {Qc : Array Value → State → Outcome → State → Prop} {XC : String → State → State → Prop}
theorem m_throwX {cc : ByteArray} {pc : Nat} (hexec : p.tables.exec = Jvm.exec) (hb : c.code = cc) (hl : l.stackTraces = false) {own cls text : String} {names : List String} {ik is ic ix mc ms sa : Nat} {rx : ByteArray} (x0 : decode rx 0 = .ok (.aload_n 0, 1)) (x1 : decode rx 1 = .ok (.aload_n 1, 1)) (x2 : decode rx 2 = .ok (.invokespecial ix, 3)) (x5 : decode rx 5 = .ok (.return_, 1)) {A : Nat → Prop}
    (hown : s.vm.findClass own = some m.cls) (hcls : Bundle.fit cls = true) (hnames : ∀ n ∈ names, Bundle.fit n = true)
    (hk : (Cond.classLink own ik cls).before args s = true) (hini : (Cond.initialized cls).before args s = true) (hstr : vk_R own is text sa s) (hat : ∀ w ∈ (Bundle.ownAtomsX own ic cls ix rx names).filter vx_no, w.before args s = true)
    (hgood : ∀ w ∈ Cond.classLink own ik cls :: Cond.initialized cls :: (Bundle.ownAtomsX own ic cls ix rx names).filter vx_no, vx_ot w = true)
    (hU : vx_Zq Bundle.tN "UNASSIGNED_STACK" Bundle.steD A s s.heap) (hN : vx_Zq Bundle.tN "SUPPRESSED_SENTINEL" Bundle.listD A s s.heap) (hS : va_S A s.heap H locs) (hsize : ls.size = c.maxLocals)
    (d0 : decode cc pc = .ok (.new ik, 3)) (d3 : decode cc (pc + 3) = .ok (.dup, 1)) (d4 : decode cc (pc + 4) = .ok (.ldc is, 2)) (d6 : decode cc (pc + 6) = .ok (.invokespecial ic, 3)) (d9 : decode cc (pc + 9) = .ok (.athrow, 1))
    (hout : ∀ x ∈ c.exceptionTable.toList, covers x (pc + 9) = false)
    (hRframes : names.length + 3 < R.frames) (hRlocals : (rest.map fun v => v.category).sum + (13 * (names.length + 1) + 43) ≤ R.locals) (hRcells : cells + 1 ≤ R.cells) (hRslots : slots + 6 ≤ R.slots) (hlocks : meth.locks = false)
    (hx : ∀ t : State, s.vm.Alike t.vm → t.heap.size = H.size + 1 → (∀ q : Nat, q < H.size → t.heap[q]? = H[q]?) → XC cls s t)
    (hf : ∀ z ∈ locs, free z.base) (hc : cells + 1 ≤ mc) (hs : slots + 6 ≤ ms) :
    W p l e R s m args below meth c H locs cells slots (vx_MQ below Qc XC args s mc ms free) (F0 m pc ls rest) := by
  intro T hT X
  have htr : e.platform.stackTraces = false := (show e.platform.stackTraces = l.stackTraces by rw [X.admits.platform]).trans hl
  have Y := vx_rebase X (R' := { frames := R.frames, locals := R.locals, cells := 1, slots := 6 }) (Nat.le_refl _) (Nat.le_refl _) hRcells hRslots
  obtain ⟨s', hA⟩ : ∃ z, z = (T.setVm s.vm).setFrames (.invoking m args :: below) := ⟨_, rfl⟩
  rw [← hA] at Y
  have hvm : s'.vm = s.vm := by rw [hA]; rfl
  have hhp : s'.heap = H := by rw [hA]; exact hT
  have hW0 : s.WarmedH s'.vm := by rw [hvm]; exact State.WarmedH.refl s
  have hat' : ∀ w ∈ (Bundle.ownAtomsX own ic cls ix rx names).filter vx_no, w.before args s' = true := fun w hw => vx_ot_at hW0 hvm.symm (hgood w (List.mem_cons_of_mem _ (List.mem_cons_of_mem _ hw))) (hat w hw)
  have hk' : (Cond.classLink own ik cls).before args s' = true := vx_ot_at hW0 hvm.symm (hgood _ List.mem_cons_self) hk
  have hini' : (Cond.initialized cls).before args s' = true := vx_ot_at hW0 hvm.symm (hgood _ (List.mem_cons_of_mem _ List.mem_cons_self)) hini
  have hU' : vx_Zq Bundle.tN "UNASSIGNED_STACK" Bundle.steD A s' s'.heap := by rw [hhp]; exact vx_Zq.moved hW0.alike (hU.kept hS.2.1)
  have hN' : vx_Zq Bundle.tN "SUPPRESSED_SENTINEL" Bundle.listD A s' s'.heap := by rw [hhp]; exact vx_Zq.moved hW0.alike (hN.kept hS.2.1)
  have h : ∀ w ∈ Bundle.ownAtomsX own ic cls ix rx names, w.before args s' = true := vx_own hat' (vx_isRefq hU'.1) (vx_isRefq hN'.1) hU'.2.word hN'.2.word
  have hown' : s'.vm.findClass own = some m.cls := by rw [hvm]; exact hown
  have hins : (Cond.instantiable cls 6).before args s' = true := h _ (by simp [Bundle.ownAtomsX])
  obtain ⟨vm₁, cX, kX, hfX, hkX, -, -, X₁, st1⟩ := Y.newCold hexec (own := own) (C := cls) (index := ik) (n := 6) hown' hk' hins hini'
    (g := F0 m pc ls rest) rfl (by rw [hb]; exact d0) (Nat.le_refl _) (Nat.le_refl _)
  generalize hT1 : (T.setVm vm₁).pushCell { cls := cX, slots := kX.instanceTypes.map defaultValue, vm := .none } = T1 at X₁ st1
  have hcat : (Value.ref T.heap.size).category = 1 := rfl
  have hcellA : T1.heap[T.heap.size]? = some (freshCell cX kX) := by rw [← hT1]; exact State.heap_pushCell_size _ _
  have d3' : decode c.code (pc + 3) = .ok (.dup, 1) := by rw [hb]; exact d3
  have d4' : decode c.code (pc + 4) = .ok (.ldc is, 2) := by rw [hb]; exact d4
  have hstr' : vk_R own is text sa s' := vk_R.warm hW0 hstr
  obtain ⟨U, hsteps, hrun, hend, hW, hsame, ce, hce, hOv, hOc⟩ := m_ctorX X₁ hexec htr x0 x1 x2 x5 (own := own) (cls := cls) (names := names) (ic := ic) hown' hcls hnames h (fun x hx => nomatch hx) hfX hkX hcellA (by rw [hhp, hT]; exact Nat.le_refl _) (msg := .ref sa) rfl
    (g := { method := m, pc := pc + 6, locals := ls, stack := .ref sa :: .ref T.heap.size :: .ref T.heap.size :: rest, locked := none }) rfl hsize rfl rfl (rest := rest) rfl
    (by rw [hb]; exact d6) (by rw [hb]; exact d9) hout hRframes (by simp only [List.map_cons, List.sum_cons, hcat]; omega) hlocks
  obtain ⟨f1, f2⟩ := vx_frame hsame
  have f9 : U.heap.size = H.size + 1 := by
    have g1 := hsame.2.2.1
    have g2 : U.heap.size ≤ s'.heap.size + (0 + 1) := g1
    have g3 := (Array.getElem?_eq_some_iff.mp hce).1
    rw [hhp] at g2
    rw [hT] at g3
    omega
  rw [hhp] at f1 f2
  have hWs : s.WarmedH U.vm := State.WarmedH.trans hW0 hW
  have hcl : s.vm.findClass cls = some ce.cls := by
    have h9 := hOc
    rw [hvm] at h9
    exact h9
  have hall : s.sameButNew ({ U with vm := s.vm } : State) locs mc ms := by
    subst hA
    obtain ⟨e1, e2⟩ := hsame
    rw [State.setFrames_setFrames] at e1
    have h2 : (T.setVm s.vm).sameButNew ({ U with vm := s.vm } : State) [] (0 + 1) (0 + 6) := ⟨e1, e2⟩
    have h3 := X.same.trans h2
    rw [List.append_nil] at h3
    exact h3.mono hc hs
  refine ⟨U, ?_, .threw T.heap.size, hrun, hend, Or.inr ⟨T.heap.size, rfl, cls, ce, locs, hx U hWs.alike f9 (fun q hq => f2 q hq (fun z hz => nomatch hz)), hce, hOv, hcl, hWs, hall, hf⟩⟩
  refine st1 _ ?_
  show Steps p.tables e below (T1.setTop { method := m, pc := pc + 3, locals := ls, stack := .ref T.heap.size :: rest, locked := none }) _
  jvm_step X₁.here [X₁.here.top, hexec, d3', Value.category]
  exact X₁.ldcString hexec (own := own) (text := text) (index := is) (a := sa) hown' hstr'.1 hstr'.2
    (g := { method := m, pc := pc + 4, locals := ls, stack := .ref T.heap.size :: .ref T.heap.size :: rest, locked := none }) rfl d4' _ hsteps
end MThrowX
end
section
/-! ===== 'throw new E("text")' as one step ===== -/
abbrev exNames : List String := ["java/lang/RuntimeException", "java/lang/Exception"]
def thAt (y ic o ix : Nat) (rx : ByteArray) : List Cond := (Bundle.ownAtomsX (mC y) ic (exN o) ix rx exNames).filter vx_no
/-- the five instructions, their words and text -/
def thOk (y pc o : Nat) : Prop := ∃ (ik is ic ix i : Nat) (rx : ByteArray) (text : String), (decode (mB y) pc = .ok (.new ik, 3) ∧ decode (mB y) (pc + 3) = .ok (.dup, 1) ∧ decode (mB y) (pc + 4) = .ok (.ldc is, 2) ∧ decode (mB y) (pc + 6) = .ok (.invokespecial ic, 3) ∧ decode (mB y) (pc + 9) = .ok (.athrow, 1)) ∧
  (decode rx 0 = .ok (.aload_n 0, 1) ∧ decode rx 1 = .ok (.aload_n 1, 1) ∧ decode rx 2 = .ok (.invokespecial ix, 3) ∧ decode rx 5 = .ok (.return_, 1)) ∧
  sSite[i]? = some (mC y, is, text) ∧ Cond.classLink (mC y) ik (exN o) ∈ lw_good ∧ Cond.initialized (exN o) ∈ lw_good ∧ (∀ w ∈ thAt y ic o ix rx, w ∈ lw_tbl ∧ (goodWord w = true ∨ (okW2 w = true ∧ w.onTables = true)))
theorem exN_fit (o : Nat) : Bundle.fit (exN o) = true := by
  unfold exN
  split <;> decide +kernel
set_option maxHeartbeats 4000000 in
theorem Ex_throw {d y pc o : Nat} {ls : Ls} {st : List AV} {m : Mem} {Q : Nat → Option AV → Mem → Prop} (hT : thOk y pc o) (ho : o ≠ 0) (hmh : mH y = []) (hcat : catS st ≤ 8) (hQ : Q o none (alloc m 22 0 6)) : Ex d y pc ls st m Q := by
  obtain ⟨ik, is, ic, ix, i, rx, text, ⟨d0, d3, d4, d6, d9⟩, ⟨x0, x1, x2, x5⟩, hs, w1, w2, w3⟩ := hT
  refine ⟨o, none, _, hQ, Nat.le_succ _, Nat.le_add_right _ _, fun G p l e R s mi args below meth c n0 z0 H locs mls C c1 c2 c3 c4 hR hS hL => ?_⟩
  have hw := C.2.2.2.2.2.2.2.2.2.1
  have hfr : frD d ≤ R.frames := C.2.2.2.2.2.2.2.2.2.2.2.2.1
  have hlo : loD d ≤ R.locals := C.2.2.2.2.2.2.2.2.2.2.2.2.2
  unfold frD at hfr
  unfold loD at hlo
  have hin : ∀ w ∈ thAt y ic o ix rx, w.before args s = true := fun w hw9 => by
    rcases w3 w hw9 with ⟨z1, z2 | ⟨z2, z3⟩⟩
    · exact C.2.2.2.2.2.1 w (List.mem_filter.mpr ⟨z1, z2⟩)
    · exact va_Nw.use z3 (hw.2.2.2.2.1.2.1 w z1 z2)
  have hN : mN (alloc m 22 0 6) = mN m + 1 := rfl
  have hZ : mZ (alloc m 22 0 6) = mZ m + 6 := rfl
  rw [hN] at c1
  rw [hZ] at c2
  refine m_throwX (names := exNames) (ix := ix) (A := gA G) C.1 C.2.1 C.2.2.2.2.2.2.2.2.2.2.2.1 x0 x1 x2 x5 C.2.2.2.2.1 (exN_fit o) (by decide +kernel) (C.2.2.2.2.2.1 _ w1) (C.2.2.2.2.2.1 _ w2) (hw.2.2.2.2.2.1 i _ hs) hin ?_ hw.2.2.2.2.2.2.1 hw.2.2.2.2.2.2.2.1 hS (hL.1.trans C.2.2.2.1.symm) d0 d3 d4 d6 d9 ?_ ?_ ?_ (by omega) (by omega) C.2.2.2.2.2.2.1 ?_ hS.2.2 (by rw [hN]; omega) (by rw [hZ]; omega)
  · intro w hw9
    unfold vx_ot
    rcases List.mem_cons.mp hw9 with e1 | hw9
    · rw [e1]; rfl
    · rcases List.mem_cons.mp hw9 with e1 | hw9
      · rw [e1]; rfl
      · rcases w3 w hw9 with ⟨-, z2 | ⟨-, z3⟩⟩
        · rw [z2, Bool.or_true]
        · rw [z3, Bool.true_or]
  · intro x hx
    rw [C.2.2.2.2.2.2.2.1, hmh] at hx
    cases hx
  · show 2 + 3 < _
    omega
  · rw [catS_eq]
    show _ + (13 * (2 + 1) + 43) ≤ _
    omega
  · intro t ha hsz hold
    have hR9 : Rep G m t H := hR.moved ha
    refine ⟨ho, rfl, hR9.new hsz hold ?_, ?_, ?_⟩
    · have hK : mK (alloc m 22 0 6) (100 + mN m) = 22 := if_pos rfl
      refine ⟨fun k' q' hq' hk' => ?_, fun k' ty ht hk' => ?_, by rw [hK]; omega⟩
      · have := vwCl_lt hq'
        rw [hK] at hk'
        omega
      · have := arTy_13 ht
        rw [hK] at hk'
        omega
    · rw [hsz]
      have := hS.1
      omega
    · intro q h1 h2
      rw [hold q (Nat.lt_of_lt_of_le h1 hS.1)]
      exact hS.2.1 q h1 h2
end
section
/-! ===== a call in a method with a table, whose handlers store, push a number and return it ===== -/
def catchOk (y pc o : Nat) (n : Int) : Prop := ∃ (pre : List ExceptionTableEntry) (x : ExceptionTableEntry) (suf : List ExceptionTableEntry) (i ln : Nat), tableOf (mH y) = pre ++ x :: suf ∧
  (∀ z ∈ pre, covers z pc = false ∨ (z.catchType ≠ 0 ∧ Cond.classLink (mC y) z.catchType "java/util/NoSuchElementException" ∈ lw_good ∧ exN o = "java/lang/IllegalArgumentException")) ∧ covers x pc = true ∧ x.catchType ≠ 0 ∧ Cond.classLink (mC y) x.catchType (exN o) ∈ lw_good ∧ Cond.castable (exN o) (exN o) ∈ lw_tbl ∧
  i < mL y ∧ ((decode (mB y) x.handlerPc = .ok (.astore i, 2) ∧ ln = 2) ∨ (∃ k : Fin 4, k.val = i ∧ decode (mB y) x.handlerPc = .ok (.astore_n k, 1) ∧ ln = 1)) ∧ decode (mB y) (x.handlerPc + ln) = .ok (.iconst n, 1) ∧ decode (mB y) (x.handlerPc + ln + 1) = .ok (.ireturn, 1) ∧ mR y = some .int
theorem Ex_afterC {d y pc : Nat} {ls : Ls} {st r : List AV} {m m1 : Mem} {o1 : Nat} {v1 : Option AV} {Q : Nat → Option AV → Mem → Prop} {n : Int} (hrun : RunOK d y pc ls st r m m1 o1 v1) (h1 : mN m ≤ mN m1) (h2 : mZ m ≤ mZ m1) (ho : o1 ≠ 0) (hc : catchOk y pc o1 n) (hq : Q 0 (some (vI n)) m1) : Ex (d + 1) y pc ls st m Q := by
  obtain ⟨pre, x, suf, i, ln, t1, t2, t3, t4, t5, t6, t7, t8, t9, t10, t11⟩ := hc
  refine ⟨0, some (vI n), m1, hq, h1, h2, fun G p l e R s mi args below meth c n0 z0 H locs mls C c1 c2 c3 c4 hR hS hL => ?_⟩
  intro T hT X
  obtain ⟨a, hr⟩ := hrun G p l e R s mi args below meth c H locs (mN m - n0) (mZ m - z0) mls C hR hS hL (by omega) (by omega)
  have hw := C.2.2.2.2.2.2.2.2.2.1
  rcases hr T hT X with ⟨v0, st₀, t, T', L, h0, X', hLf, e1, e2, ⟨h00, -⟩, -⟩ | ⟨q, st₀, t, T', L, E, ce, h0, X', hLf, e1, e2, ⟨hne, hE, hR1, hF⟩, hce, hcv, hcl, st1⟩
  · exact absurd h00 ho
  · subst hE
    obtain ⟨k1, k2, k3⟩ := vx_keep (A0 := gA G) h0 e1 hS (fun _ _ z => z) (fun _ z => z) hLf hF
    have hal : t.vm.Alike s.vm := by rw [← e2]; exact X'.warmed.alike.symm
    have hR' : Rep G m1 s T'.heap := by rw [e1]; exact hR1.moved hal
    have fin : ∀ mls9 : Array Slot, W p l e R s mi args below meth c T'.heap (locs ++ L) (mN m1 - n0) (mZ m1 - z0) (vx_MQ below (QR G m1 0 (some (vI n))) (QX G m1 0) args s (mN m1 - n0) (mZ m1 - z0) (gA G)) (F0 mi (x.handlerPc + ln) mls9 []) := by
      intro mls9
      refine lv_iconst C.1 C.2.1 t9 rfl ?_
      exact vx_ret (W.iret C.1 C.2.1 (C.2.2.1.trans t11) (fun t9 ht9 hW9 => ⟨rfl, rfl, by rw [ht9]; exact hR'.moved hW9.alike, k3.F ht9⟩) k3.2.2 t10 C.2.2.2.2.2.2.1)
    have hx : W p l e R s mi args below meth c T'.heap (locs ++ L) (mN m1 - n0) (mZ m1 - z0) (vx_MQ below (QR G m1 0 (some (vI n))) (QX G m1 0) args s (mN m1 - n0) (mZ m1 - z0) (gA G)) (F0 mi x.handlerPc mls [.ref q]) := by
      rcases t8 with ⟨t8, rfl⟩ | ⟨k, rfl, t8, rfl⟩
      · exact lv_astore C.1 C.2.1 t8 hL.has t7 rfl (fun ls9 _ => fin ls9)
      · exact lv_astore_n C.1 C.2.1 t8 rfl hL.has t7 rfl (fun ls9 _ => fin ls9)
    have hv : vx_W p l e R s mi args below meth c T'.heap (locs ++ L) (mN m1 - n0) (mZ m1 - z0) (vx_MQ below (QR G m1 0 (some (vI n))) (QX G m1 0) args s (mN m1 - n0) (mZ m1 - z0) (gA G)) (F0 mi pc mls (r.map (up G))) q := by
      refine vx_catch C.2.2.2.2.1 pre x suf (by rw [C.2.2.2.2.2.2.2.1]; exact t1) (fun z hz => ?_) t3 t4 (C.2.2.2.2.2.1 _ t5) (va_Nw.use rfl (hw.2.2.2.2.1.2.1 _ t6 rfl)) (by rw [e1]; exact hce) hcv hcl hx
      rcases t2 z hz with g | ⟨g1, g2, g3⟩
      · exact Or.inl g
      · refine Or.inr ⟨g1, _, C.2.2.2.2.2.1 _ g2, ?_⟩
        rw [g3]
        exact hw.2.2.2.2.1.2.2
    rw [show mN m1 - n0 = mN m - n0 + (mN m1 - mN m) by omega, show mZ m1 - z0 = mZ m - z0 + (mZ m1 - mZ m) by omega] at hv
    obtain ⟨t2, a1, b1⟩ := hv T' rfl X'
    refine ⟨t2, st1.trans a1, ?_⟩
    rw [show mN m1 - n0 = mN m - n0 + (mN m1 - mN m) by omega, show mZ m1 - z0 = mZ m - z0 + (mZ m1 - mZ m) by omega]
    exact b1
theorem run_SX {d y pc : Nat} {ls : Ls} {r : List AV} {m m1 : Mem} {o1 : Nat} {v1 : Option AV} {y1 idx nx : Nat} {rs : List Nat} {c0 : Int} {av : List AV} (hk : okE y pc (.invokestatic idx, nx, rs, c0)) (h9 : n1 (.invokestatic idx, nx, rs, c0) = y1) (h998 : y1 ≠ 998) (hm : mOk y1) (hst : mI y1 0 = 1) {a9 : Nat × Nat × Nat × Nat} {b9 : List (Nat × Nat × Nat × Nat)} (hmh : mH y1 = a9 :: b9) (hn : av.length = mI y1 2) (hcat : catS r ≤ 8) (hlen : (laySl av).length ≤ mL y1) (h : Ev d y1 0 (entL y1 av) [] m m1 o1 v1) :
    RunOK d y pc ls (av.reverse ++ r) r m m1 o1 v1 := by
  obtain ⟨k1, -, k3⟩ := hk.use
  change (bif Nat.beq (n1 (.invokestatic idx, nx, rs, c0)) 998 then _ else wAt (n2 (.invokestatic idx, nx, rs, c0)) (.methodLink (mC y) idx (mNm (n1 (.invokestatic idx, nx, rs, c0))))) = true at k3
  rw [h9] at k3
  have hb : Nat.beq y1 998 = false := by
    cases hx : Nat.beq y1 998 with
    | false => rfl
    | true => exact absurd (Nat.eq_of_beq_eq_true hx) h998
  rw [hb] at k3
  simp only [cond_false] at k3
  intro G p l e R s mi args below meth c H locs cells slots mls C hR hS hL hc hs
  have hfr : frD (d + 1) ≤ R.frames := C.2.2.2.2.2.2.2.2.2.2.2.2.1
  have hlo : loD (d + 1) ≤ R.locals := C.2.2.2.2.2.2.2.2.2.2.2.2.2
  have hL30 := hm.2.2.2.2.2.1
  have hg : ∀ w ∈ wsO y1, w ∈ lw_good := fun w hw => (List.mem_cons.mp hw).elim (fun e => by rw [e]; exact hm.1) id
  have hh : headW y1 = .codeWith (mNm y1) (mB y1) (mL y1) (mR y1) (a9 :: b9) := by unfold headW; rw [hmh]
  refine ⟨_, vx_runSX (As := av.map (up G)) (n := mI y1 2) (hh := a9 :: b9) (bytes := mB y1) (maxL := mL y1) (ret := mR y1) ⟨C.1, C.2.1, C.2.2.2.1, C.2.2.2.2.1, C.2.2.2.2.2.1⟩ (Met_of hm hlen h l C.2.2.2.2.2.2.2.2.2.2.2.1 G) ⟨⟨rfl, rfl, ?_, ?_, pay_in C.2.2.2.2.2.1 (fun w hw => ⟨hg w hw, good_word (hg w hw)⟩), by rw [← hh]; exact List.mem_cons_self⟩, by rw [← hh]; exact C.2.2.2.2.2.1 _ hm.1, C.2.2.2.2.2.1 _ hm.2.2.1, hm.2.2.2.1, fun sig hs => ?_, C.2.2.2.2.2.1 _ (wAt_mem k3), C.2.2.2.2.2.1 _ (hm.2.2.2.2.2.2.1 hst)⟩ ⟨PcO_blind G av m, Pre_O C.2.2.2.2.2.2.2.2.2.1 C.2.2.2.2.2.2.2.2.2.2.1 hR hS⟩ rfl (by rw [List.length_map]; exact hn) hL.1 ?_ ?_ k1 ⟨hc, hs⟩⟩
  · show frD d + 1 ≤ _
    unfold frD at hfr ⊢
    omega
  · show 8 + (mL y1 + 11) + loD d ≤ _
    unfold loD at hlo ⊢
    omega
  · have := hm.2.2.2.2.1
    rw [hs] at this
    exact (Option.some.inj this).symm
  · show (av.reverse ++ r).map (up G) = _
    rw [List.map_append, List.map_reverse]
  · rw [catS_eq]
    show 2 * 0 + _ ≤ 8
    omega
/-! ===== calls as steps: what the callee ends with goes on here ===== -/
section CallSteps
variable {d y pc : Nat} {ls : Ls} {r : List AV} {m : Mem} {Q Q1 : Nat → Option AV → Mem → Prop} {nx idx : Nat} {rs : List Nat} {c0 : Int} {av : List AV}
theorem Ex_cV {y1 a : Nat} (hk : okE y pc (.invokevirtual idx, nx, rs, c0)) (hm : mOk y1) (h9 : n1 (.invokevirtual idx, nx, rs, c0) = y1 ∧ mI y1 0 = 0 ∧ (mNm y1).name ≠ "<init>" ∧ av.length = mI y1 2 ∧ catS r ≤ 8 ∧ (laySl (vR a :: av)).length ≤ mL y1) (hka : mK m a = mI y1 1) (h : Ex d y1 0 (entL y1 (vR a :: av)) [] m Q1)
    (hQ : ∀ o v m', Q1 o v m' → (o = 0 → Ex (d + 1) y nx ls (v.toList ++ r) m' Q) ∧ (o ≠ 0 → mH y = [] ∧ Q o none m')) : Ex (d + 1) y pc ls (av.reverse ++ vR a :: r) m Q := by
  obtain ⟨o, v, m', hq, hE⟩ := h
  have k2 : nx = pc + 3 := hk.use.2.1
  subst k2
  exact Ex_after (run_V hk h9.1 hm h9.2.1 h9.2.2.1 h9.2.2.2.1 h9.2.2.2.2.1 hka h9.2.2.2.2.2 hE) hE.1 hE.2.1 (hQ o v m' hq)
theorem Ex_cS {y1 : Nat} (hk : okE y pc (.invokestatic idx, nx, rs, c0)) (hm : mOk y1) (h9 : n1 (.invokestatic idx, nx, rs, c0) = y1 ∧ y1 ≠ 998 ∧ mI y1 0 = 1 ∧ mH y1 = [] ∧ av.length = mI y1 2 ∧ catS r ≤ 8 ∧ (laySl av).length ≤ mL y1) (h : Ex d y1 0 (entL y1 av) [] m Q1)
    (hQ : ∀ o v m', Q1 o v m' → (o = 0 → Ex (d + 1) y nx ls (v.toList ++ r) m' Q) ∧ (o ≠ 0 → mH y = [] ∧ Q o none m')) : Ex (d + 1) y pc ls (av.reverse ++ r) m Q := by
  obtain ⟨o, v, m', hq, hE⟩ := h
  have k2 : nx = pc + 3 := hk.use.2.1
  subst k2
  exact Ex_after (run_S hk h9.1 h9.2.1 hm h9.2.2.1 h9.2.2.2.1 h9.2.2.2.2.1 h9.2.2.2.2.2.1 h9.2.2.2.2.2.2 hE) hE.1 hE.2.1 (hQ o v m' hq)
theorem Ex_cI {y1 a : Nat} (hk : okE y pc (.invokespecial idx, nx, rs, c0)) (hm : mOk y1) (h9 : n1 (.invokespecial idx, nx, rs, c0) = y1 ∧ y1 ≠ 999 ∧ mI y1 0 = 0 ∧ mR y1 = none ∧ av.length = mI y1 2 ∧ catS r ≤ 8 ∧ (laySl (vR a :: av)).length ≤ mL y1) (ha : 100 ≤ a) (h : Ex d y1 0 (entL y1 (vR a :: av)) [] m Q1)
    (hQ : ∀ o v m', Q1 o v m' → (o = 0 → Ex (d + 1) y nx ls (v.toList ++ r) m' Q) ∧ (o ≠ 0 → mH y = [] ∧ Q o none m')) : Ex (d + 1) y pc ls (av.reverse ++ vR a :: r) m Q := by
  obtain ⟨o, v, m', hq, hE⟩ := h
  have k2 : nx = pc + 3 := hk.use.2.1
  subst k2
  exact Ex_after (run_I hk h9.1 h9.2.1 hm h9.2.2.1 h9.2.2.2.1 h9.2.2.2.2.1 h9.2.2.2.2.2.1 ha h9.2.2.2.2.2.2 hE) hE.1 hE.2.1 (hQ o v m' hq)
theorem Ex_cSX {y1 : Nat} {a9 : Nat × Nat × Nat × Nat} {b9 : List (Nat × Nat × Nat × Nat)} (hk : okE y pc (.invokestatic idx, nx, rs, c0)) (hm : mOk y1) (h9 : n1 (.invokestatic idx, nx, rs, c0) = y1 ∧ y1 ≠ 998 ∧ mI y1 0 = 1 ∧ mH y1 = a9 :: b9 ∧ av.length = mI y1 2 ∧ catS r ≤ 8 ∧ (laySl av).length ≤ mL y1) (h : Ex d y1 0 (entL y1 av) [] m Q1)
    (hQ : ∀ o v m', Q1 o v m' → (o = 0 → Ex (d + 1) y nx ls (v.toList ++ r) m' Q) ∧ (o ≠ 0 → mH y = [] ∧ Q o none m')) : Ex (d + 1) y pc ls (av.reverse ++ r) m Q := by
  obtain ⟨o, v, m', hq, hE⟩ := h
  have k2 : nx = pc + 3 := hk.use.2.1
  subst k2
  exact Ex_after (run_SX hk h9.1 h9.2.1 hm h9.2.2.1 h9.2.2.2.1 h9.2.2.2.2.1 h9.2.2.2.2.2.1 h9.2.2.2.2.2.2 hE) hE.1 hE.2.1 (hQ o v m' hq)
/-- the call of a wrapper: the callee ends, or throws what the table takes -/
theorem Ex_cVC {y1 a : Nat} (hk : okE y pc (.invokevirtual idx, nx, rs, c0)) (hm : mOk y1) (h9 : n1 (.invokevirtual idx, nx, rs, c0) = y1 ∧ mI y1 0 = 0 ∧ (mNm y1).name ≠ "<init>" ∧ av.length = mI y1 2 ∧ catS r ≤ 8 ∧ (laySl (vR a :: av)).length ≤ mL y1) (hka : mK m a = mI y1 1) (h : Ex d y1 0 (entL y1 (vR a :: av)) [] m Q1)
    (hQ : ∀ o v m', Q1 o v m' → (o = 0 → Ex (d + 1) y nx ls (v.toList ++ r) m' Q) ∧ (o ≠ 0 → ∃ n, catchOk y pc o n ∧ Q 0 (some (vI n)) m')) : Ex (d + 1) y pc ls (av.reverse ++ vR a :: r) m Q := by
  obtain ⟨o, v, m', hq, hE⟩ := h
  have k2 : nx = pc + 3 := hk.use.2.1
  subst k2
  have hr := run_V (ls := ls) hk h9.1 hm h9.2.1 h9.2.2.1 h9.2.2.2.1 h9.2.2.2.2.1 hka h9.2.2.2.2.2 hE
  by_cases ho : o = 0
  · exact Ex_after hr hE.1 hE.2.1 ⟨(hQ o v m' hq).1, fun z => absurd ho z⟩
  · obtain ⟨n, hc, hq9⟩ := (hQ o v m' hq).2 ho
    exact Ex_afterC hr hE.1 hE.2.1 ho hc hq9
end CallSteps
end
section
/-! ===== the methods' instructions, by program ===== -/
def cutC (N : Nat) (f : Nat → Option Ent) (pc : Nat) : Option Ent := bif Nat.ble N pc then none else f pc
def chkC (y N : Nat) (f : Nat → Option Ent) : Bool := (List.range N).all fun pc => match f pc with
  | some e => okB y pc e
  | none => true
theorem cutC_ok {y N pc : Nat} {f : Nat → Option Ent} {e : Ent} (hc : chkC y N f = true) (h : cutC N f pc = some e) : okE y pc e := by
  unfold cutC at h
  cases hb : Nat.ble N pc with
  | true => rw [hb] at h; cases h
  | false =>
    rw [hb] at h
    have hlt : pc < N := by
      rcases Nat.lt_or_ge pc N with q | q
      · exact q
      · rw [Nat.ble_eq_true_of_le q] at hb; cases hb
    have := List.all_eq_true.mp hc pc (List.mem_range.mpr hlt)
    rw [show f pc = some e from h] at this
    exact this
def mOkB (y : Nat) : Bool := wAt (mI y 3) (headW y) && plainName (mC y) && wAt (mI y 4) (.initialized (mC y)) && decide (mC y ≠ "java/lang/invoke/MethodHandle" ∧ mC y ≠ "java/lang/invoke/VarHandle") && decide ((parseMethodDescriptor (mNm y).desc).map (fun d => d.parameters.length) = some (mI y 2)) && decide (mL y ≤ 30) &&
  (match mI y 0 with
    | 1 => wAt (mI y 5) (.static (mNm y))
    | 0 => wAt (mI y 5) (.instanceMethod (mNm y)) && (decide ((mNm y).name = "<init>") || wAt (mI y 6) (.selects (mC y) (mNm y) (mNm y))) && (decide (mI y 1 = 20 ∧ mC y = "java/lang/String") || (decide (1 ≤ mI y 1) && (match vwCl[mI y 1 - 1]? with
        | some q => decide (q.1 = mC y)
        | none => false))) && (mH y).isEmpty
    | _ => false)
theorem mOk_of {y : Nat} (h : mOkB y = true) : mOk y := by
  unfold mOkB at h
  simp only [Bool.and_eq_true, decide_eq_true_eq] at h
  obtain ⟨⟨⟨⟨⟨⟨h1, h2⟩, h3⟩, h4⟩, h5⟩, h6⟩, h7⟩ := h
  refine ⟨wAt_mem h1, h2, wAt_mem h3, h4, h5, h6, ?_⟩
  split at h7
  · next e => exact ⟨fun _ => wAt_mem h7, fun z => by omega, fun z => by omega, fun z => by omega, fun z => by omega⟩
  · next e =>
    simp only [Bool.and_eq_true, Bool.or_eq_true, decide_eq_true_eq] at h7
    obtain ⟨⟨⟨g1, g2⟩, g3⟩, g4⟩ := h7
    refine ⟨fun z => by omega, fun _ => wAt_mem g1, fun _ hne => g2.elim (fun z => absurd z hne) wAt_mem, fun _ => ?_, fun _ => List.isEmpty_iff.mp g4⟩
    rcases g3 with g3 | ⟨g3, g5⟩
    · exact Or.inl g3
    · refine Or.inr ⟨g3, ?_⟩
      split at g5
      · next q hq => exact ⟨q, hq, of_decide_eq_true g5⟩
      · cases g5
  · cases h7
def code_Best_init : Nat → Option Ent := cutC 16 fun pc => (bif Nat.ble pc 6 then (bif Nat.ble pc 1 then (bif Nat.ble pc 0 then (bif Nat.beq pc 0 then some (.aload_n 0, 1, [], 0) else none) else (bif Nat.beq pc 1 then some (.invokespecial 3, 4, [999, 291, 111, 112], 0) else none)) else (bif Nat.ble pc 4 then (bif Nat.beq pc 4 then some (.aload_n 0, 5, [], 0) else none) else (bif Nat.ble pc 5 then (bif Nat.beq pc 5 then some (.iconst 0, 6, [], 0) else none) else (bif Nat.beq pc 6 then some (.putfield 9, 9, [64, 1, 1, 296], 0) else none)))) else (bif Nat.ble pc 10 then (bif Nat.ble pc 9 then (bif Nat.beq pc 9 then some (.aload_n 0, 10, [], 0) else none) else (bif Nat.beq pc 10 then some (.iconst 0, 11, [], 0) else none)) else (bif Nat.ble pc 11 then (bif Nat.beq pc 11 then some (.iconst 0, 12, [], 0) else none) else (bif Nat.ble pc 12 then (bif Nat.beq pc 12 then some (.invokevirtual 15, 15, [1, 292], 0) else none) else (bif Nat.beq pc 15 then some (.return_, 16, [], 0) else none)))))
set_option maxRecDepth 100000 in
theorem tk_Best_init {pc : Nat} {e : Ent} (h : code_Best_init pc = some e) : okE Best_init pc e := cutC_ok (by decide +kernel) h
set_option maxRecDepth 100000 in
theorem mk_Best_init : mOk Best_init := mOk_of (by decide +kernel)
def code_Best_begin : Nat → Option Ent := cutC 26 fun pc => (bif Nat.ble pc 11 then (bif Nat.ble pc 5 then (bif Nat.ble pc 1 then (bif Nat.ble pc 0 then (bif Nat.beq pc 0 then some (.aload_n 0, 1, [], 0) else none) else (bif Nat.beq pc 1 then some (.iconst 0, 2, [], 0) else none)) else (bif Nat.ble pc 2 then (bif Nat.beq pc 2 then some (.putfield 19, 5, [65, 1, 0, 298], 0) else none) else (bif Nat.beq pc 5 then some (.aload_n 0, 6, [], 0) else none))) else (bif Nat.ble pc 7 then (bif Nat.ble pc 6 then (bif Nat.beq pc 6 then some (.iconst 1, 7, [], 0) else none) else (bif Nat.beq pc 7 then some (.putfield 23, 10, [66, 1, 0, 300], 0) else none)) else (bif Nat.ble pc 10 then (bif Nat.beq pc 10 then some (.aload_n 0, 11, [], 0) else none) else (bif Nat.beq pc 11 then some (.iconst 0, 12, [], 0) else none)))) else (bif Nat.ble pc 17 then (bif Nat.ble pc 15 then (bif Nat.ble pc 12 then (bif Nat.beq pc 12 then some (.putfield 26, 15, [67, 1, 0, 302], 0) else none) else (bif Nat.beq pc 15 then some (.aload_n 0, 16, [], 0) else none)) else (bif Nat.ble pc 16 then (bif Nat.beq pc 16 then some (.iload_n 1, 17, [], 0) else none) else (bif Nat.beq pc 17 then some (.putfield 29, 20, [68, 1, 0, 305], 0) else none))) else (bif Nat.ble pc 21 then (bif Nat.ble pc 20 then (bif Nat.beq pc 20 then some (.aload_n 0, 21, [], 0) else none) else (bif Nat.beq pc 21 then some (.iload_n 2, 22, [], 0) else none)) else (bif Nat.ble pc 22 then (bif Nat.beq pc 22 then some (.putfield 32, 25, [69, 1, 0, 308], 0) else none) else (bif Nat.beq pc 25 then some (.return_, 26, [], 0) else none)))))
set_option maxRecDepth 100000 in
theorem tk_Best_begin {pc : Nat} {e : Ent} (h : code_Best_begin pc = some e) : okE Best_begin pc e := cutC_ok (by decide +kernel) h
set_option maxRecDepth 100000 in
theorem mk_Best_begin : mOk Best_begin := mOk_of (by decide +kernel)
def code_Best_isWhole : Nat → Option Ent := cutC 17 fun pc => (bif Nat.ble pc 5 then (bif Nat.ble pc 1 then (bif Nat.ble pc 0 then (bif Nat.beq pc 0 then some (.aload_n 0, 1, [], 0) else none) else (bif Nat.beq pc 1 then some (.getfield 19, 4, [65, 1, 0, 298], 0) else none)) else (bif Nat.ble pc 4 then (bif Nat.beq pc 4 then some (.aload_n 0, 5, [], 0) else none) else (bif Nat.beq pc 5 then some (.getfield 23, 8, [66, 1, 0, 300], 0) else none))) else (bif Nat.ble pc 11 then (bif Nat.ble pc 8 then (bif Nat.beq pc 8 then some (.if_icmp .ne 7, 11, [15], 0) else none) else (bif Nat.beq pc 11 then some (.iconst 1, 12, [], 0) else none)) else (bif Nat.ble pc 12 then (bif Nat.beq pc 12 then some (.goto 4, 15, [16], 0) else none) else (bif Nat.ble pc 15 then (bif Nat.beq pc 15 then some (.iconst 0, 16, [], 0) else none) else (bif Nat.beq pc 16 then some (.ireturn, 17, [1], 0) else none)))))
set_option maxRecDepth 100000 in
theorem tk_Best_isWhole {pc : Nat} {e : Ent} (h : code_Best_isWhole pc = some e) : okE Best_isWhole pc e := cutC_ok (by decide +kernel) h
set_option maxRecDepth 100000 in
theorem mk_Best_isWhole : mOk Best_isWhole := mOk_of (by decide +kernel)
def code_Best_isBelow : Nat → Option Ent := cutC 21 fun pc => (bif Nat.ble pc 7 then (bif Nat.ble pc 2 then (bif Nat.ble pc 0 then (bif Nat.beq pc 0 then some (.iload_n 1, 1, [], 0) else none) else (bif Nat.ble pc 1 then (bif Nat.beq pc 1 then some (.aload_n 0, 2, [], 0) else none) else (bif Nat.beq pc 2 then some (.getfield 23, 5, [66, 1, 0, 300], 0) else none))) else (bif Nat.ble pc 5 then (bif Nat.beq pc 5 then some (.imul, 6, [], 0) else none) else (bif Nat.ble pc 6 then (bif Nat.beq pc 6 then some (.aload_n 0, 7, [], 0) else none) else (bif Nat.beq pc 7 then some (.getfield 19, 10, [65, 1, 0, 298], 0) else none)))) else (bif Nat.ble pc 12 then (bif Nat.ble pc 10 then (bif Nat.beq pc 10 then some (.iload_n 2, 11, [], 0) else none) else (bif Nat.ble pc 11 then (bif Nat.beq pc 11 then some (.imul, 12, [], 0) else none) else (bif Nat.beq pc 12 then some (.if_icmp .le 7, 15, [19], 0) else none))) else (bif Nat.ble pc 16 then (bif Nat.ble pc 15 then (bif Nat.beq pc 15 then some (.iconst 1, 16, [], 0) else none) else (bif Nat.beq pc 16 then some (.goto 4, 19, [20], 0) else none)) else (bif Nat.ble pc 19 then (bif Nat.beq pc 19 then some (.iconst 0, 20, [], 0) else none) else (bif Nat.beq pc 20 then some (.ireturn, 21, [1], 0) else none)))))
set_option maxRecDepth 100000 in
theorem tk_Best_isBelow {pc : Nat} {e : Ent} (h : code_Best_isBelow pc = some e) : okE Best_isBelow pc e := cutC_ok (by decide +kernel) h
set_option maxRecDepth 100000 in
theorem mk_Best_isBelow : mOk Best_isBelow := mOk_of (by decide +kernel)
def code_Best_thousandths : Nat → Option Ent := cutC 25 fun pc => (bif Nat.ble pc 11 then (bif Nat.ble pc 4 then (bif Nat.ble pc 0 then (bif Nat.beq pc 0 then some (.aload_n 0, 1, [], 0) else none) else (bif Nat.ble pc 1 then (bif Nat.beq pc 1 then some (.getfield 23, 4, [66, 1, 0, 300], 0) else none) else (bif Nat.beq pc 4 then some (.ifCond .ne 7, 7, [11], 0) else none))) else (bif Nat.ble pc 7 then (bif Nat.beq pc 7 then some (.iconst 0, 8, [], 0) else none) else (bif Nat.ble pc 8 then (bif Nat.beq pc 8 then some (.goto 16, 11, [24], 0) else none) else (bif Nat.beq pc 11 then some (.aload_n 0, 12, [], 0) else none)))) else (bif Nat.ble pc 18 then (bif Nat.ble pc 12 then (bif Nat.beq pc 12 then some (.getfield 19, 15, [65, 1, 0, 298], 0) else none) else (bif Nat.ble pc 15 then (bif Nat.beq pc 15 then some (.sipush 1000, 18, [], 0) else none) else (bif Nat.beq pc 18 then some (.imul, 19, [], 0) else none))) else (bif Nat.ble pc 20 then (bif Nat.ble pc 19 then (bif Nat.beq pc 19 then some (.aload_n 0, 20, [], 0) else none) else (bif Nat.beq pc 20 then some (.getfield 23, 23, [66, 1, 0, 300], 0) else none)) else (bif Nat.ble pc 23 then (bif Nat.beq pc 23 then some (.idiv, 24, [], 0) else none) else (bif Nat.beq pc 24 then some (.ireturn, 25, [0], 0) else none)))))
set_option maxRecDepth 100000 in
theorem tk_Best_thousandths {pc : Nat} {e : Ent} (h : code_Best_thousandths pc = some e) : okE Best_thousandths pc e := cutC_ok (by decide +kernel) h
set_option maxRecDepth 100000 in
theorem mk_Best_thousandths : mOk Best_thousandths := mOk_of (by decide +kernel)
def code_Best_isAbove : Nat → Option Ent := cutC 13 fun pc => (bif Nat.ble pc 2 then (bif Nat.ble pc 0 then (bif Nat.beq pc 0 then some (.aload_n 1, 1, [], 0) else none) else (bif Nat.ble pc 1 then (bif Nat.beq pc 1 then some (.aload_n 0, 2, [], 0) else none) else (bif Nat.beq pc 2 then some (.getfield 19, 5, [65, 1, 0, 298], 0) else none))) else (bif Nat.ble pc 6 then (bif Nat.ble pc 5 then (bif Nat.beq pc 5 then some (.aload_n 0, 6, [], 0) else none) else (bif Nat.beq pc 6 then some (.getfield 23, 9, [66, 1, 0, 300], 0) else none)) else (bif Nat.ble pc 9 then (bif Nat.beq pc 9 then some (.invokevirtual 35, 12, [3, 561], 0) else none) else (bif Nat.beq pc 12 then some (.ireturn, 13, [1], 0) else none))))
set_option maxRecDepth 100000 in
theorem tk_Best_isAbove {pc : Nat} {e : Ent} (h : code_Best_isAbove pc = some e) : okE Best_isAbove pc e := cutC_ok (by decide +kernel) h
set_option maxRecDepth 100000 in
theorem mk_Best_isAbove : mOk Best_isAbove := mOk_of (by decide +kernel)
def code_Best_above : Nat → Option Ent := cutC 9 fun pc => (bif Nat.ble pc 1 then (bif Nat.ble pc 0 then (bif Nat.beq pc 0 then some (.aload_n 0, 1, [], 0) else none) else (bif Nat.beq pc 1 then some (.aload_n 0, 2, [], 0) else none)) else (bif Nat.ble pc 2 then (bif Nat.beq pc 2 then some (.getfield 19, 5, [65, 1, 0, 298], 0) else none) else (bif Nat.ble pc 5 then (bif Nat.beq pc 5 then some (.invokevirtual 39, 8, [7, 1054], 0) else none) else (bif Nat.beq pc 8 then some (.ireturn, 9, [0], 0) else none))))
set_option maxRecDepth 100000 in
theorem tk_Best_above {pc : Nat} {e : Ent} (h : code_Best_above pc = some e) : okE Best_above pc e := cutC_ok (by decide +kernel) h
set_option maxRecDepth 100000 in
theorem mk_Best_above : mOk Best_above := mOk_of (by decide +kernel)
def code_Best_lowered : Nat → Option Ent := cutC 24 fun pc => (bif Nat.ble pc 12 then (bif Nat.ble pc 4 then (bif Nat.ble pc 0 then (bif Nat.beq pc 0 then some (.aload_n 0, 1, [], 0) else none) else (bif Nat.ble pc 1 then (bif Nat.beq pc 1 then some (.getfield 23, 4, [66, 1, 0, 300], 0) else none) else (bif Nat.beq pc 4 then some (.aload_n 0, 5, [], 0) else none))) else (bif Nat.ble pc 8 then (bif Nat.ble pc 5 then (bif Nat.beq pc 5 then some (.getfield 19, 8, [65, 1, 0, 298], 0) else none) else (bif Nat.beq pc 8 then some (.invokestatic 43, 11, [8, 1058], 0) else none)) else (bif Nat.ble pc 11 then (bif Nat.beq pc 11 then some (.istore_n 2, 12, [], 0) else none) else (bif Nat.beq pc 12 then some (.iload_n 2, 13, [], 0) else none)))) else (bif Nat.ble pc 17 then (bif Nat.ble pc 13 then (bif Nat.beq pc 13 then some (.ifCond .ne 7, 16, [20], 0) else none) else (bif Nat.ble pc 16 then (bif Nat.beq pc 16 then some (.iload_n 1, 17, [], 0) else none) else (bif Nat.beq pc 17 then some (.goto 6, 20, [23], 0) else none))) else (bif Nat.ble pc 21 then (bif Nat.ble pc 20 then (bif Nat.beq pc 20 then some (.iload_n 1, 21, [], 0) else none) else (bif Nat.beq pc 21 then some (.iload_n 2, 22, [], 0) else none)) else (bif Nat.ble pc 22 then (bif Nat.beq pc 22 then some (.idiv, 23, [], 0) else none) else (bif Nat.beq pc 23 then some (.ireturn, 24, [0], 0) else none)))))
set_option maxRecDepth 100000 in
theorem tk_Best_lowered {pc : Nat} {e : Ent} (h : code_Best_lowered pc = some e) : okE Best_lowered pc e := cutC_ok (by decide +kernel) h
set_option maxRecDepth 100000 in
theorem mk_Best_lowered : mOk Best_lowered := mOk_of (by decide +kernel)
def code_Best_greatestCommon : Nat → Option Ent := cutC 37 fun pc => (bif Nat.ble pc 16 then (bif Nat.ble pc 4 then (bif Nat.ble pc 1 then (bif Nat.ble pc 0 then (bif Nat.beq pc 0 then some (.iload_n 0, 1, [], 0) else none) else (bif Nat.beq pc 1 then some (.istore_n 2, 2, [], 0) else none)) else (bif Nat.ble pc 2 then (bif Nat.beq pc 2 then some (.iload_n 1, 3, [], 0) else none) else (bif Nat.ble pc 3 then (bif Nat.beq pc 3 then some (.istore_n 3, 4, [], 0) else none) else (bif Nat.beq pc 4 then some (.iconst 0, 5, [], 0) else none)))) else (bif Nat.ble pc 9 then (bif Nat.ble pc 5 then (bif Nat.beq pc 5 then some (.istore 4, 7, [], 0) else none) else (bif Nat.ble pc 7 then (bif Nat.beq pc 7 then some (.iload 4, 9, [], 0) else none) else (bif Nat.beq pc 9 then some (.sipush 9999, 12, [], 0) else none))) else (bif Nat.ble pc 12 then (bif Nat.beq pc 12 then some (.if_icmp .ge 23, 15, [35], 0) else none) else (bif Nat.ble pc 15 then (bif Nat.beq pc 15 then some (.iload_n 3, 16, [], 0) else none) else (bif Nat.beq pc 16 then some (.ifCond .le 19, 19, [35], 0) else none))))) else (bif Nat.ble pc 25 then (bif Nat.ble pc 21 then (bif Nat.ble pc 19 then (bif Nat.beq pc 19 then some (.iload_n 2, 20, [], 0) else none) else (bif Nat.ble pc 20 then (bif Nat.beq pc 20 then some (.iload_n 3, 21, [], 0) else none) else (bif Nat.beq pc 21 then some (.irem, 22, [], 0) else none))) else (bif Nat.ble pc 22 then (bif Nat.beq pc 22 then some (.istore 5, 24, [], 0) else none) else (bif Nat.ble pc 24 then (bif Nat.beq pc 24 then some (.iload_n 3, 25, [], 0) else none) else (bif Nat.beq pc 25 then some (.istore_n 2, 26, [], 0) else none)))) else (bif Nat.ble pc 29 then (bif Nat.ble pc 26 then (bif Nat.beq pc 26 then some (.iload 5, 28, [], 0) else none) else (bif Nat.ble pc 28 then (bif Nat.beq pc 28 then some (.istore_n 3, 29, [], 0) else none) else (bif Nat.beq pc 29 then some (.iinc 4 1, 32, [], 0) else none))) else (bif Nat.ble pc 32 then (bif Nat.beq pc 32 then some (.goto (-25), 35, [7], 0) else none) else (bif Nat.ble pc 35 then (bif Nat.beq pc 35 then some (.iload_n 2, 36, [], 0) else none) else (bif Nat.beq pc 36 then some (.ireturn, 37, [0], 0) else none))))))
set_option maxRecDepth 100000 in
theorem tk_Best_greatestCommon {pc : Nat} {e : Ent} (h : code_Best_greatestCommon pc = some e) : okE Best_greatestCommon pc e := cutC_ok (by decide +kernel) h
set_option maxRecDepth 100000 in
theorem mk_Best_greatestCommon : mOk Best_greatestCommon := mOk_of (by decide +kernel)
def code_Best_below : Nat → Option Ent := cutC 9 fun pc => (bif Nat.ble pc 1 then (bif Nat.ble pc 0 then (bif Nat.beq pc 0 then some (.aload_n 0, 1, [], 0) else none) else (bif Nat.beq pc 1 then some (.aload_n 0, 2, [], 0) else none)) else (bif Nat.ble pc 2 then (bif Nat.beq pc 2 then some (.getfield 23, 5, [66, 1, 0, 300], 0) else none) else (bif Nat.ble pc 5 then (bif Nat.beq pc 5 then some (.invokevirtual 39, 8, [7, 1054], 0) else none) else (bif Nat.beq pc 8 then some (.ireturn, 9, [0], 0) else none))))
set_option maxRecDepth 100000 in
theorem tk_Best_below {pc : Nat} {e : Ent} (h : code_Best_below pc = some e) : okE Best_below pc e := cutC_ok (by decide +kernel) h
set_option maxRecDepth 100000 in
theorem mk_Best_below : mOk Best_below := mOk_of (by decide +kernel)
def code_Book_init : Nat → Option Ent := cutC 51 fun pc => (bif Nat.ble pc 22 then (bif Nat.ble pc 10 then (bif Nat.ble pc 4 then (bif Nat.ble pc 0 then (bif Nat.beq pc 0 then some (.aload_n 0, 1, [], 0) else none) else (bif Nat.ble pc 1 then (bif Nat.beq pc 1 then some (.invokespecial 3, 4, [999, 118, 111, 112], 0) else none) else (bif Nat.beq pc 4 then some (.aload_n 0, 5, [], 0) else none))) else (bif Nat.ble pc 5 then (bif Nat.beq pc 5 then some (.bipush 6, 7, [], 0) else none) else (bif Nat.ble pc 7 then (bif Nat.beq pc 7 then some (.anewarray 9, 10, [18, 119, 120], 0) else none) else (bif Nat.beq pc 10 then some (.putfield 11, 13, [128, 2, 2, 154], 0) else none)))) else (bif Nat.ble pc 15 then (bif Nat.ble pc 13 then (bif Nat.beq pc 13 then some (.iconst 0, 14, [], 0) else none) else (bif Nat.ble pc 14 then (bif Nat.beq pc 14 then some (.istore_n 1, 15, [], 0) else none) else (bif Nat.beq pc 15 then some (.iload_n 1, 16, [], 0) else none))) else (bif Nat.ble pc 18 then (bif Nat.ble pc 16 then (bif Nat.beq pc 16 then some (.bipush 6, 18, [], 0) else none) else (bif Nat.beq pc 18 then some (.if_icmp .ge 22, 21, [40], 0) else none)) else (bif Nat.ble pc 21 then (bif Nat.beq pc 21 then some (.aload_n 0, 22, [], 0) else none) else (bif Nat.beq pc 22 then some (.getfield 11, 25, [128, 2, 2, 154], 0) else none))))) else (bif Nat.ble pc 37 then (bif Nat.ble pc 29 then (bif Nat.ble pc 25 then (bif Nat.beq pc 25 then some (.iload_n 1, 26, [], 0) else none) else (bif Nat.ble pc 26 then (bif Nat.beq pc 26 then some (.new 9, 29, [3, 5, 119], 0) else none) else (bif Nat.beq pc 29 then some (.dup, 30, [], 0) else none))) else (bif Nat.ble pc 33 then (bif Nat.ble pc 30 then (bif Nat.beq pc 30 then some (.invokespecial 17, 33, [13, 122], 0) else none) else (bif Nat.beq pc 33 then some (.aastore, 34, [], 0) else none)) else (bif Nat.ble pc 34 then (bif Nat.beq pc 34 then some (.iinc 1 1, 37, [], 0) else none) else (bif Nat.beq pc 37 then some (.goto (-22), 40, [15], 0) else none)))) else (bif Nat.ble pc 42 then (bif Nat.ble pc 40 then (bif Nat.beq pc 40 then some (.aload_n 0, 41, [], 0) else none) else (bif Nat.ble pc 41 then (bif Nat.beq pc 41 then some (.iconst 0, 42, [], 0) else none) else (bif Nat.beq pc 42 then some (.putfield 18, 45, [129, 2, 0, 158], 0) else none))) else (bif Nat.ble pc 46 then (bif Nat.ble pc 45 then (bif Nat.beq pc 45 then some (.aload_n 0, 46, [], 0) else none) else (bif Nat.beq pc 46 then some (.aconst_null, 47, [], 0) else none)) else (bif Nat.ble pc 47 then (bif Nat.beq pc 47 then some (.putfield 22, 50, [130, 2, 2, 162], 0) else none) else (bif Nat.beq pc 50 then some (.return_, 51, [], 0) else none))))))
set_option maxRecDepth 100000 in
theorem tk_Book_init {pc : Nat} {e : Ent} (h : code_Book_init pc = some e) : okE Book_init pc e := cutC_ok (by decide +kernel) h
set_option maxRecDepth 100000 in
theorem mk_Book_init : mOk Book_init := mOk_of (by decide +kernel)
def code_Book_copyFrom : Nat → Option Ent := cutC 48 fun pc => (bif Nat.ble pc 20 then (bif Nat.ble pc 7 then (bif Nat.ble pc 2 then (bif Nat.ble pc 0 then (bif Nat.beq pc 0 then some (.iconst 0, 1, [], 0) else none) else (bif Nat.ble pc 1 then (bif Nat.beq pc 1 then some (.istore_n 2, 2, [], 0) else none) else (bif Nat.beq pc 2 then some (.iload_n 2, 3, [], 0) else none))) else (bif Nat.ble pc 3 then (bif Nat.beq pc 3 then some (.aload_n 1, 4, [], 0) else none) else (bif Nat.ble pc 4 then (bif Nat.beq pc 4 then some (.getfield 18, 7, [129, 2, 0, 158], 0) else none) else (bif Nat.beq pc 7 then some (.if_icmp .ge 24, 10, [31], 0) else none)))) else (bif Nat.ble pc 14 then (bif Nat.ble pc 10 then (bif Nat.beq pc 10 then some (.aload_n 0, 11, [], 0) else none) else (bif Nat.ble pc 11 then (bif Nat.beq pc 11 then some (.getfield 11, 14, [128, 2, 2, 154], 0) else none) else (bif Nat.beq pc 14 then some (.iload_n 2, 15, [], 0) else none))) else (bif Nat.ble pc 16 then (bif Nat.ble pc 15 then (bif Nat.beq pc 15 then some (.aaload, 16, [], 0) else none) else (bif Nat.beq pc 16 then some (.aload_n 1, 17, [], 0) else none)) else (bif Nat.ble pc 17 then (bif Nat.beq pc 17 then some (.getfield 11, 20, [128, 2, 2, 154], 0) else none) else (bif Nat.beq pc 20 then some (.iload_n 2, 21, [], 0) else none))))) else (bif Nat.ble pc 32 then (bif Nat.ble pc 25 then (bif Nat.ble pc 21 then (bif Nat.beq pc 21 then some (.aaload, 22, [], 0) else none) else (bif Nat.ble pc 22 then (bif Nat.beq pc 22 then some (.invokevirtual 26, 25, [24, 896], 0) else none) else (bif Nat.beq pc 25 then some (.iinc 2 1, 28, [], 0) else none))) else (bif Nat.ble pc 28 then (bif Nat.beq pc 28 then some (.goto (-26), 31, [2], 0) else none) else (bif Nat.ble pc 31 then (bif Nat.beq pc 31 then some (.aload_n 0, 32, [], 0) else none) else (bif Nat.beq pc 32 then some (.aload_n 1, 33, [], 0) else none)))) else (bif Nat.ble pc 39 then (bif Nat.ble pc 33 then (bif Nat.beq pc 33 then some (.getfield 18, 36, [129, 2, 0, 158], 0) else none) else (bif Nat.ble pc 36 then (bif Nat.beq pc 36 then some (.putfield 18, 39, [129, 2, 0, 158], 0) else none) else (bif Nat.beq pc 39 then some (.aload_n 0, 40, [], 0) else none))) else (bif Nat.ble pc 41 then (bif Nat.ble pc 40 then (bif Nat.beq pc 40 then some (.aload_n 1, 41, [], 0) else none) else (bif Nat.beq pc 41 then some (.getfield 22, 44, [130, 2, 2, 162], 0) else none)) else (bif Nat.ble pc 44 then (bif Nat.beq pc 44 then some (.putfield 22, 47, [130, 2, 2, 162], 0) else none) else (bif Nat.beq pc 47 then some (.return_, 48, [], 0) else none))))))
set_option maxRecDepth 100000 in
theorem tk_Book_copyFrom {pc : Nat} {e : Ent} (h : code_Book_copyFrom pc = some e) : okE Book_copyFrom pc e := cutC_ok (by decide +kernel) h
set_option maxRecDepth 100000 in
theorem mk_Book_copyFrom : mOk Book_copyFrom := mOk_of (by decide +kernel)
def code_Book_remove : Nat → Option Ent := cutC 73 fun pc => (bif Nat.ble pc 33 then (bif Nat.ble pc 18 then (bif Nat.ble pc 6 then (bif Nat.ble pc 1 then (bif Nat.ble pc 0 then (bif Nat.beq pc 0 then some (.iload_n 1, 1, [], 0) else none) else (bif Nat.beq pc 1 then some (.ifCond .lt 11, 4, [12], 0) else none)) else (bif Nat.ble pc 4 then (bif Nat.beq pc 4 then some (.iload_n 1, 5, [], 0) else none) else (bif Nat.ble pc 5 then (bif Nat.beq pc 5 then some (.aload_n 0, 6, [], 0) else none) else (bif Nat.beq pc 6 then some (.getfield 18, 9, [129, 2, 0, 158], 0) else none)))) else (bif Nat.ble pc 13 then (bif Nat.ble pc 9 then (bif Nat.beq pc 9 then some (.if_icmp .lt 4, 12, [13], 0) else none) else (bif Nat.ble pc 12 then (bif Nat.beq pc 12 then some (.return_, 13, [], 0) else none) else (bif Nat.beq pc 13 then some (.aload_n 0, 14, [], 0) else none))) else (bif Nat.ble pc 14 then (bif Nat.beq pc 14 then some (.getfield 11, 17, [128, 2, 2, 154], 0) else none) else (bif Nat.ble pc 17 then (bif Nat.beq pc 17 then some (.iload_n 1, 18, [], 0) else none) else (bif Nat.beq pc 18 then some (.aaload, 19, [], 0) else none))))) else (bif Nat.ble pc 23 then (bif Nat.ble pc 20 then (bif Nat.ble pc 19 then (bif Nat.beq pc 19 then some (.astore_n 2, 20, [], 0) else none) else (bif Nat.beq pc 20 then some (.iload_n 1, 21, [], 0) else none)) else (bif Nat.ble pc 21 then (bif Nat.beq pc 21 then some (.iconst 1, 22, [], 0) else none) else (bif Nat.ble pc 22 then (bif Nat.beq pc 22 then some (.iadd, 23, [], 0) else none) else (bif Nat.beq pc 23 then some (.istore_n 3, 24, [], 0) else none)))) else (bif Nat.ble pc 26 then (bif Nat.ble pc 24 then (bif Nat.beq pc 24 then some (.iload_n 3, 25, [], 0) else none) else (bif Nat.ble pc 25 then (bif Nat.beq pc 25 then some (.aload_n 0, 26, [], 0) else none) else (bif Nat.beq pc 26 then some (.getfield 18, 29, [129, 2, 0, 158], 0) else none))) else (bif Nat.ble pc 29 then (bif Nat.beq pc 29 then some (.if_icmp .ge 23, 32, [52], 0) else none) else (bif Nat.ble pc 32 then (bif Nat.beq pc 32 then some (.aload_n 0, 33, [], 0) else none) else (bif Nat.beq pc 33 then some (.getfield 11, 36, [128, 2, 2, 154], 0) else none)))))) else (bif Nat.ble pc 52 then (bif Nat.ble pc 40 then (bif Nat.ble pc 37 then (bif Nat.ble pc 36 then (bif Nat.beq pc 36 then some (.iload_n 3, 37, [], 0) else none) else (bif Nat.beq pc 37 then some (.iconst 1, 38, [], 0) else none)) else (bif Nat.ble pc 38 then (bif Nat.beq pc 38 then some (.isub, 39, [], 0) else none) else (bif Nat.ble pc 39 then (bif Nat.beq pc 39 then some (.aload_n 0, 40, [], 0) else none) else (bif Nat.beq pc 40 then some (.getfield 11, 43, [128, 2, 2, 154], 0) else none)))) else (bif Nat.ble pc 45 then (bif Nat.ble pc 43 then (bif Nat.beq pc 43 then some (.iload_n 3, 44, [], 0) else none) else (bif Nat.ble pc 44 then (bif Nat.beq pc 44 then some (.aaload, 45, [], 0) else none) else (bif Nat.beq pc 45 then some (.aastore, 46, [], 0) else none))) else (bif Nat.ble pc 46 then (bif Nat.beq pc 46 then some (.iinc 3 1, 49, [], 0) else none) else (bif Nat.ble pc 49 then (bif Nat.beq pc 49 then some (.goto (-25), 52, [24], 0) else none) else (bif Nat.beq pc 52 then some (.aload_n 0, 53, [], 0) else none))))) else (bif Nat.ble pc 62 then (bif Nat.ble pc 57 then (bif Nat.ble pc 53 then (bif Nat.beq pc 53 then some (.dup, 54, [], 0) else none) else (bif Nat.ble pc 54 then (bif Nat.beq pc 54 then some (.getfield 18, 57, [129, 2, 0, 158], 0) else none) else (bif Nat.beq pc 57 then some (.iconst 1, 58, [], 0) else none))) else (bif Nat.ble pc 58 then (bif Nat.beq pc 58 then some (.isub, 59, [], 0) else none) else (bif Nat.ble pc 59 then (bif Nat.beq pc 59 then some (.putfield 18, 62, [129, 2, 0, 158], 0) else none) else (bif Nat.beq pc 62 then some (.aload_n 0, 63, [], 0) else none)))) else (bif Nat.ble pc 67 then (bif Nat.ble pc 63 then (bif Nat.beq pc 63 then some (.getfield 11, 66, [128, 2, 2, 154], 0) else none) else (bif Nat.ble pc 66 then (bif Nat.beq pc 66 then some (.aload_n 0, 67, [], 0) else none) else (bif Nat.beq pc 67 then some (.getfield 18, 70, [129, 2, 0, 158], 0) else none))) else (bif Nat.ble pc 70 then (bif Nat.beq pc 70 then some (.aload_n 2, 71, [], 0) else none) else (bif Nat.ble pc 71 then (bif Nat.beq pc 71 then some (.aastore, 72, [], 0) else none) else (bif Nat.beq pc 72 then some (.return_, 73, [], 0) else none)))))))
set_option maxRecDepth 100000 in
theorem tk_Book_remove {pc : Nat} {e : Ent} (h : code_Book_remove pc = some e) : okE Book_remove pc e := cutC_ok (by decide +kernel) h
set_option maxRecDepth 100000 in
theorem mk_Book_remove : mOk Book_remove := mOk_of (by decide +kernel)
def code_Des_init : Nat → Option Ent := cutC 36 fun pc => (bif Nat.ble pc 15 then (bif Nat.ble pc 6 then (bif Nat.ble pc 1 then (bif Nat.ble pc 0 then (bif Nat.beq pc 0 then some (.aload_n 0, 1, [], 0) else none) else (bif Nat.beq pc 1 then some (.invokespecial 3, 4, [999, 125, 111, 112], 0) else none)) else (bif Nat.ble pc 4 then (bif Nat.beq pc 4 then some (.aload_n 0, 5, [], 0) else none) else (bif Nat.ble pc 5 then (bif Nat.beq pc 5 then some (.iconst 0, 6, [], 0) else none) else (bif Nat.beq pc 6 then some (.putfield 9, 9, [192, 3, 0, 126], 0) else none)))) else (bif Nat.ble pc 10 then (bif Nat.ble pc 9 then (bif Nat.beq pc 9 then some (.aload_n 0, 10, [], 0) else none) else (bif Nat.beq pc 10 then some (.iconst 0, 11, [], 0) else none)) else (bif Nat.ble pc 11 then (bif Nat.beq pc 11 then some (.putfield 15, 14, [193, 3, 0, 128], 0) else none) else (bif Nat.ble pc 14 then (bif Nat.beq pc 14 then some (.aload_n 0, 15, [], 0) else none) else (bif Nat.beq pc 15 then some (.iconst 0, 16, [], 0) else none))))) else (bif Nat.ble pc 24 then (bif Nat.ble pc 19 then (bif Nat.ble pc 16 then (bif Nat.beq pc 16 then some (.putfield 18, 19, [194, 3, 0, 133], 0) else none) else (bif Nat.beq pc 19 then some (.aload_n 0, 20, [], 0) else none)) else (bif Nat.ble pc 20 then (bif Nat.beq pc 20 then some (.bipush 10, 22, [], 0) else none) else (bif Nat.ble pc 22 then (bif Nat.beq pc 22 then some (.newarray .int, 24, [13, 153], 0) else none) else (bif Nat.beq pc 24 then some (.putfield 21, 27, [195, 3, 2, 138], 0) else none)))) else (bif Nat.ble pc 28 then (bif Nat.ble pc 27 then (bif Nat.beq pc 27 then some (.aload_n 0, 28, [], 0) else none) else (bif Nat.beq pc 28 then some (.bipush 10, 30, [], 0) else none)) else (bif Nat.ble pc 30 then (bif Nat.beq pc 30 then some (.newarray .int, 32, [13, 153], 0) else none) else (bif Nat.ble pc 32 then (bif Nat.beq pc 32 then some (.putfield 25, 35, [196, 3, 2, 140], 0) else none) else (bif Nat.beq pc 35 then some (.return_, 36, [], 0) else none))))))
set_option maxRecDepth 100000 in
theorem tk_Des_init {pc : Nat} {e : Ent} (h : code_Des_init pc = some e) : okE Des_init pc e := cutC_ok (by decide +kernel) h
set_option maxRecDepth 100000 in
theorem mk_Des_init : mOk Des_init := mOk_of (by decide +kernel)
def code_Des_copyTurned : Nat → Option Ent := cutC 146 fun pc => (bif Nat.ble pc 71 then (bif Nat.ble pc 32 then (bif Nat.ble pc 12 then (bif Nat.ble pc 3 then (bif Nat.ble pc 1 then (bif Nat.ble pc 0 then (bif Nat.beq pc 0 then some (.iload_n 2, 1, [], 0) else none) else (bif Nat.beq pc 1 then some (.iconst 1, 2, [], 0) else none)) else (bif Nat.ble pc 2 then (bif Nat.beq pc 2 then some (.iand, 3, [], 0) else none) else (bif Nat.beq pc 3 then some (.ifCond .ne 7, 6, [10], 0) else none))) else (bif Nat.ble pc 7 then (bif Nat.ble pc 6 then (bif Nat.beq pc 6 then some (.iconst 1, 7, [], 0) else none) else (bif Nat.beq pc 7 then some (.goto 4, 10, [11], 0) else none)) else (bif Nat.ble pc 10 then (bif Nat.beq pc 10 then some (.iconst 0, 11, [], 0) else none) else (bif Nat.ble pc 11 then (bif Nat.beq pc 11 then some (.istore_n 3, 12, [], 0) else none) else (bif Nat.beq pc 12 then some (.aload_n 0, 13, [], 0) else none))))) else (bif Nat.ble pc 21 then (bif Nat.ble pc 14 then (bif Nat.ble pc 13 then (bif Nat.beq pc 13 then some (.iload_n 3, 14, [], 0) else none) else (bif Nat.beq pc 14 then some (.ifCond .eq 10, 17, [24], 0) else none)) else (bif Nat.ble pc 17 then (bif Nat.beq pc 17 then some (.aload_n 1, 18, [], 0) else none) else (bif Nat.ble pc 18 then (bif Nat.beq pc 18 then some (.getfield 15, 21, [193, 3, 0, 128], 0) else none) else (bif Nat.beq pc 21 then some (.goto 7, 24, [28], 0) else none)))) else (bif Nat.ble pc 25 then (bif Nat.ble pc 24 then (bif Nat.beq pc 24 then some (.aload_n 1, 25, [], 0) else none) else (bif Nat.beq pc 25 then some (.getfield 18, 28, [194, 3, 0, 133], 0) else none)) else (bif Nat.ble pc 28 then (bif Nat.beq pc 28 then some (.iload_n 3, 29, [], 0) else none) else (bif Nat.ble pc 29 then (bif Nat.beq pc 29 then some (.ifCond .eq 10, 32, [39], 0) else none) else (bif Nat.beq pc 32 then some (.aload_n 1, 33, [], 0) else none)))))) else (bif Nat.ble pc 51 then (bif Nat.ble pc 40 then (bif Nat.ble pc 36 then (bif Nat.ble pc 33 then (bif Nat.beq pc 33 then some (.getfield 18, 36, [194, 3, 0, 133], 0) else none) else (bif Nat.beq pc 36 then some (.goto 7, 39, [43], 0) else none)) else (bif Nat.ble pc 39 then (bif Nat.beq pc 39 then some (.aload_n 1, 40, [], 0) else none) else (bif Nat.beq pc 40 then some (.getfield 15, 43, [193, 3, 0, 128], 0) else none))) else (bif Nat.ble pc 46 then (bif Nat.ble pc 43 then (bif Nat.beq pc 43 then some (.invokevirtual 28, 46, [15, 488], 0) else none) else (bif Nat.beq pc 46 then some (.iconst 0, 47, [], 0) else none)) else (bif Nat.ble pc 47 then (bif Nat.beq pc 47 then some (.istore 4, 49, [], 0) else none) else (bif Nat.ble pc 49 then (bif Nat.beq pc 49 then some (.iload 4, 51, [], 0) else none) else (bif Nat.beq pc 51 then some (.aload_n 1, 52, [], 0) else none))))) else (bif Nat.ble pc 61 then (bif Nat.ble pc 55 then (bif Nat.ble pc 52 then (bif Nat.beq pc 52 then some (.getfield 18, 55, [194, 3, 0, 133], 0) else none) else (bif Nat.beq pc 55 then some (.if_icmp .ge 90, 58, [145], 0) else none)) else (bif Nat.ble pc 58 then (bif Nat.beq pc 58 then some (.iconst 0, 59, [], 0) else none) else (bif Nat.ble pc 59 then (bif Nat.beq pc 59 then some (.istore 5, 61, [], 0) else none) else (bif Nat.beq pc 61 then some (.iload 5, 63, [], 0) else none)))) else (bif Nat.ble pc 64 then (bif Nat.ble pc 63 then (bif Nat.beq pc 63 then some (.aload_n 1, 64, [], 0) else none) else (bif Nat.beq pc 64 then some (.getfield 15, 67, [193, 3, 0, 128], 0) else none)) else (bif Nat.ble pc 67 then (bif Nat.beq pc 67 then some (.if_icmp .ge 72, 70, [139], 0) else none) else (bif Nat.ble pc 70 then (bif Nat.beq pc 70 then some (.iload_n 2, 71, [], 0) else none) else (bif Nat.beq pc 71 then some (.iconst 4, 72, [], 0) else none))))))) else (bif Nat.ble pc 104 then (bif Nat.ble pc 87 then (bif Nat.ble pc 79 then (bif Nat.ble pc 75 then (bif Nat.ble pc 72 then (bif Nat.beq pc 72 then some (.if_icmp .lt 15, 75, [87], 0) else none) else (bif Nat.beq pc 75 then some (.aload_n 1, 76, [], 0) else none)) else (bif Nat.ble pc 76 then (bif Nat.beq pc 76 then some (.getfield 15, 79, [193, 3, 0, 128], 0) else none) else (bif Nat.beq pc 79 then some (.iconst 1, 80, [], 0) else none))) else (bif Nat.ble pc 81 then (bif Nat.ble pc 80 then (bif Nat.beq pc 80 then some (.isub, 81, [], 0) else none) else (bif Nat.beq pc 81 then some (.iload 5, 83, [], 0) else none)) else (bif Nat.ble pc 83 then (bif Nat.beq pc 83 then some (.isub, 84, [], 0) else none) else (bif Nat.ble pc 84 then (bif Nat.beq pc 84 then some (.goto 5, 87, [89], 0) else none) else (bif Nat.beq pc 87 then some (.iload 5, 89, [], 0) else none))))) else (bif Nat.ble pc 94 then (bif Nat.ble pc 91 then (bif Nat.ble pc 89 then (bif Nat.beq pc 89 then some (.istore 6, 91, [], 0) else none) else (bif Nat.beq pc 91 then some (.aload_n 1, 92, [], 0) else none)) else (bif Nat.ble pc 92 then (bif Nat.beq pc 92 then some (.iload_n 2, 93, [], 0) else none) else (bif Nat.ble pc 93 then (bif Nat.beq pc 93 then some (.iconst 3, 94, [], 0) else none) else (bif Nat.beq pc 94 then some (.iand, 95, [], 0) else none)))) else (bif Nat.ble pc 97 then (bif Nat.ble pc 95 then (bif Nat.beq pc 95 then some (.iload 6, 97, [], 0) else none) else (bif Nat.beq pc 97 then some (.iload 4, 99, [], 0) else none)) else (bif Nat.ble pc 99 then (bif Nat.beq pc 99 then some (.invokevirtual 48, 102, [16, 495], 0) else none) else (bif Nat.ble pc 102 then (bif Nat.beq pc 102 then some (.istore 7, 104, [], 0) else none) else (bif Nat.beq pc 104 then some (.aload_n 1, 105, [], 0) else none)))))) else (bif Nat.ble pc 120 then (bif Nat.ble pc 110 then (bif Nat.ble pc 106 then (bif Nat.ble pc 105 then (bif Nat.beq pc 105 then some (.iload_n 2, 106, [], 0) else none) else (bif Nat.beq pc 106 then some (.iconst 3, 107, [], 0) else none)) else (bif Nat.ble pc 107 then (bif Nat.beq pc 107 then some (.iand, 108, [], 0) else none) else (bif Nat.ble pc 108 then (bif Nat.beq pc 108 then some (.iload 6, 110, [], 0) else none) else (bif Nat.beq pc 110 then some (.iload 4, 112, [], 0) else none)))) else (bif Nat.ble pc 115 then (bif Nat.ble pc 112 then (bif Nat.beq pc 112 then some (.invokevirtual 52, 115, [17, 499], 0) else none) else (bif Nat.beq pc 115 then some (.istore 8, 117, [], 0) else none)) else (bif Nat.ble pc 117 then (bif Nat.beq pc 117 then some (.aload_n 0, 118, [], 0) else none) else (bif Nat.ble pc 118 then (bif Nat.beq pc 118 then some (.iload 7, 120, [], 0) else none) else (bif Nat.beq pc 120 then some (.iload 8, 122, [], 0) else none))))) else (bif Nat.ble pc 130 then (bif Nat.ble pc 123 then (bif Nat.ble pc 122 then (bif Nat.beq pc 122 then some (.aload_n 1, 123, [], 0) else none) else (bif Nat.beq pc 123 then some (.iload 5, 125, [], 0) else none)) else (bif Nat.ble pc 125 then (bif Nat.beq pc 125 then some (.iload 4, 127, [], 0) else none) else (bif Nat.ble pc 127 then (bif Nat.beq pc 127 then some (.invokevirtual 55, 130, [18, 503], 0) else none) else (bif Nat.beq pc 130 then some (.invokevirtual 59, 133, [20, 511], 0) else none)))) else (bif Nat.ble pc 136 then (bif Nat.ble pc 133 then (bif Nat.beq pc 133 then some (.iinc 5 1, 136, [], 0) else none) else (bif Nat.beq pc 136 then some (.goto (-75), 139, [61], 0) else none)) else (bif Nat.ble pc 139 then (bif Nat.beq pc 139 then some (.iinc 4 1, 142, [], 0) else none) else (bif Nat.ble pc 142 then (bif Nat.beq pc 142 then some (.goto (-93), 145, [49], 0) else none) else (bif Nat.beq pc 145 then some (.return_, 146, [], 0) else none))))))))
set_option maxRecDepth 100000 in
theorem tk_Des_copyTurned {pc : Nat} {e : Ent} (h : code_Des_copyTurned pc = some e) : okE Des_copyTurned pc e := cutC_ok (by decide +kernel) h
set_option maxRecDepth 100000 in
theorem mk_Des_copyTurned : mOk Des_copyTurned := mOk_of (by decide +kernel)
def code_Des_resize : Nat → Option Ent := cutC 27 fun pc => (bif Nat.ble pc 10 then (bif Nat.ble pc 2 then (bif Nat.ble pc 0 then (bif Nat.beq pc 0 then some (.aload_n 0, 1, [], 0) else none) else (bif Nat.ble pc 1 then (bif Nat.beq pc 1 then some (.iload_n 1, 2, [], 0) else none) else (bif Nat.beq pc 2 then some (.putfield 15, 5, [193, 3, 0, 128], 0) else none))) else (bif Nat.ble pc 6 then (bif Nat.ble pc 5 then (bif Nat.beq pc 5 then some (.aload_n 0, 6, [], 0) else none) else (bif Nat.beq pc 6 then some (.iload_n 2, 7, [], 0) else none)) else (bif Nat.ble pc 7 then (bif Nat.beq pc 7 then some (.putfield 18, 10, [194, 3, 0, 133], 0) else none) else (bif Nat.beq pc 10 then some (.aload_n 0, 11, [], 0) else none)))) else (bif Nat.ble pc 18 then (bif Nat.ble pc 14 then (bif Nat.ble pc 11 then (bif Nat.beq pc 11 then some (.getfield 21, 14, [195, 3, 2, 138], 0) else none) else (bif Nat.beq pc 14 then some (.iconst 0, 15, [], 0) else none)) else (bif Nat.ble pc 15 then (bif Nat.beq pc 15 then some (.invokestatic 32, 18, [206, 492], 0) else none) else (bif Nat.beq pc 18 then some (.aload_n 0, 19, [], 0) else none))) else (bif Nat.ble pc 22 then (bif Nat.ble pc 19 then (bif Nat.beq pc 19 then some (.getfield 25, 22, [196, 3, 2, 140], 0) else none) else (bif Nat.beq pc 22 then some (.iconst 0, 23, [], 0) else none)) else (bif Nat.ble pc 23 then (bif Nat.beq pc 23 then some (.invokestatic 32, 26, [206, 492], 0) else none) else (bif Nat.beq pc 26 then some (.return_, 27, [], 0) else none)))))
set_option maxRecDepth 100000 in
theorem tk_Des_resize {pc : Nat} {e : Ent} (h : code_Des_resize pc = some e) : okE Des_resize pc e := cutC_ok (by decide +kernel) h
set_option maxRecDepth 100000 in
theorem mk_Des_resize : mOk Des_resize := mOk_of (by decide +kernel)
def code_Des_columnBehind : Nat → Option Ent := cutC 50 fun pc => (bif Nat.ble pc 37 then (bif Nat.ble pc 30 then (bif Nat.ble pc 1 then (bif Nat.ble pc 0 then (bif Nat.beq pc 0 then some (.iload_n 1, 1, [], 0) else none) else (bif Nat.beq pc 1 then some (.tableswitch 47 0 2 #[27, 29, 38], 28, [48, 28, 30, 39], 0) else none)) else (bif Nat.ble pc 28 then (bif Nat.beq pc 28 then some (.iload_n 2, 29, [], 0) else none) else (bif Nat.ble pc 29 then (bif Nat.beq pc 29 then some (.ireturn, 30, [0], 0) else none) else (bif Nat.beq pc 30 then some (.aload_n 0, 31, [], 0) else none)))) else (bif Nat.ble pc 34 then (bif Nat.ble pc 31 then (bif Nat.beq pc 31 then some (.getfield 18, 34, [194, 3, 0, 133], 0) else none) else (bif Nat.beq pc 34 then some (.iconst 1, 35, [], 0) else none)) else (bif Nat.ble pc 35 then (bif Nat.beq pc 35 then some (.isub, 36, [], 0) else none) else (bif Nat.ble pc 36 then (bif Nat.beq pc 36 then some (.iload_n 3, 37, [], 0) else none) else (bif Nat.beq pc 37 then some (.isub, 38, [], 0) else none))))) else (bif Nat.ble pc 44 then (bif Nat.ble pc 39 then (bif Nat.ble pc 38 then (bif Nat.beq pc 38 then some (.ireturn, 39, [0], 0) else none) else (bif Nat.beq pc 39 then some (.aload_n 0, 40, [], 0) else none)) else (bif Nat.ble pc 40 then (bif Nat.beq pc 40 then some (.getfield 15, 43, [193, 3, 0, 128], 0) else none) else (bif Nat.ble pc 43 then (bif Nat.beq pc 43 then some (.iconst 1, 44, [], 0) else none) else (bif Nat.beq pc 44 then some (.isub, 45, [], 0) else none)))) else (bif Nat.ble pc 46 then (bif Nat.ble pc 45 then (bif Nat.beq pc 45 then some (.iload_n 2, 46, [], 0) else none) else (bif Nat.beq pc 46 then some (.isub, 47, [], 0) else none)) else (bif Nat.ble pc 47 then (bif Nat.beq pc 47 then some (.ireturn, 48, [0], 0) else none) else (bif Nat.ble pc 48 then (bif Nat.beq pc 48 then some (.iload_n 3, 49, [], 0) else none) else (bif Nat.beq pc 49 then some (.ireturn, 50, [0], 0) else none))))))
set_option maxRecDepth 100000 in
theorem tk_Des_columnBehind {pc : Nat} {e : Ent} (h : code_Des_columnBehind pc = some e) : okE Des_columnBehind pc e := cutC_ok (by decide +kernel) h
set_option maxRecDepth 100000 in
theorem mk_Des_columnBehind : mOk Des_columnBehind := mOk_of (by decide +kernel)
def code_Des_rowBehind : Nat → Option Ent := cutC 50 fun pc => (bif Nat.ble pc 37 then (bif Nat.ble pc 30 then (bif Nat.ble pc 1 then (bif Nat.ble pc 0 then (bif Nat.beq pc 0 then some (.iload_n 1, 1, [], 0) else none) else (bif Nat.beq pc 1 then some (.tableswitch 40 0 2 #[27, 29, 31], 28, [41, 28, 30, 32], 0) else none)) else (bif Nat.ble pc 28 then (bif Nat.beq pc 28 then some (.iload_n 3, 29, [], 0) else none) else (bif Nat.ble pc 29 then (bif Nat.beq pc 29 then some (.ireturn, 30, [0], 0) else none) else (bif Nat.beq pc 30 then some (.iload_n 2, 31, [], 0) else none)))) else (bif Nat.ble pc 32 then (bif Nat.ble pc 31 then (bif Nat.beq pc 31 then some (.ireturn, 32, [0], 0) else none) else (bif Nat.beq pc 32 then some (.aload_n 0, 33, [], 0) else none)) else (bif Nat.ble pc 33 then (bif Nat.beq pc 33 then some (.getfield 18, 36, [194, 3, 0, 133], 0) else none) else (bif Nat.ble pc 36 then (bif Nat.beq pc 36 then some (.iconst 1, 37, [], 0) else none) else (bif Nat.beq pc 37 then some (.isub, 38, [], 0) else none))))) else (bif Nat.ble pc 42 then (bif Nat.ble pc 39 then (bif Nat.ble pc 38 then (bif Nat.beq pc 38 then some (.iload_n 3, 39, [], 0) else none) else (bif Nat.beq pc 39 then some (.isub, 40, [], 0) else none)) else (bif Nat.ble pc 40 then (bif Nat.beq pc 40 then some (.ireturn, 41, [0], 0) else none) else (bif Nat.ble pc 41 then (bif Nat.beq pc 41 then some (.aload_n 0, 42, [], 0) else none) else (bif Nat.beq pc 42 then some (.getfield 15, 45, [193, 3, 0, 128], 0) else none)))) else (bif Nat.ble pc 46 then (bif Nat.ble pc 45 then (bif Nat.beq pc 45 then some (.iconst 1, 46, [], 0) else none) else (bif Nat.beq pc 46 then some (.isub, 47, [], 0) else none)) else (bif Nat.ble pc 47 then (bif Nat.beq pc 47 then some (.iload_n 2, 48, [], 0) else none) else (bif Nat.ble pc 48 then (bif Nat.beq pc 48 then some (.isub, 49, [], 0) else none) else (bif Nat.beq pc 49 then some (.ireturn, 50, [0], 0) else none))))))
set_option maxRecDepth 100000 in
theorem tk_Des_rowBehind {pc : Nat} {e : Ent} (h : code_Des_rowBehind pc = some e) : okE Des_rowBehind pc e := cutC_ok (by decide +kernel) h
set_option maxRecDepth 100000 in
theorem mk_Des_rowBehind : mOk Des_rowBehind := mOk_of (by decide +kernel)
def code_Des_sortAt : Nat → Option Ent := cutC 35 fun pc => (bif Nat.ble pc 18 then (bif Nat.ble pc 9 then (bif Nat.ble pc 2 then (bif Nat.ble pc 0 then (bif Nat.beq pc 0 then some (.aload_n 0, 1, [], 0) else none) else (bif Nat.ble pc 1 then (bif Nat.beq pc 1 then some (.iload_n 1, 2, [], 0) else none) else (bif Nat.beq pc 2 then some (.iload_n 2, 3, [], 0) else none))) else (bif Nat.ble pc 3 then (bif Nat.beq pc 3 then some (.invokevirtual 44, 6, [19, 507], 0) else none) else (bif Nat.ble pc 6 then (bif Nat.beq pc 6 then some (.ifCond .ne 5, 9, [11], 0) else none) else (bif Nat.beq pc 9 then some (.iconst 0, 10, [], 0) else none)))) else (bif Nat.ble pc 12 then (bif Nat.ble pc 10 then (bif Nat.beq pc 10 then some (.ireturn, 11, [0], 0) else none) else (bif Nat.ble pc 11 then (bif Nat.beq pc 11 then some (.aload_n 0, 12, [], 0) else none) else (bif Nat.beq pc 12 then some (.getfield 21, 15, [195, 3, 2, 138], 0) else none))) else (bif Nat.ble pc 16 then (bif Nat.ble pc 15 then (bif Nat.beq pc 15 then some (.iload_n 2, 16, [], 0) else none) else (bif Nat.beq pc 16 then some (.iaload, 17, [], 0) else none)) else (bif Nat.ble pc 17 then (bif Nat.beq pc 17 then some (.iload_n 1, 18, [], 0) else none) else (bif Nat.beq pc 18 then some (.ishr, 19, [], 0) else none))))) else (bif Nat.ble pc 27 then (bif Nat.ble pc 21 then (bif Nat.ble pc 19 then (bif Nat.beq pc 19 then some (.iconst 1, 20, [], 0) else none) else (bif Nat.ble pc 20 then (bif Nat.beq pc 20 then some (.iand, 21, [], 0) else none) else (bif Nat.beq pc 21 then some (.iconst 2, 22, [], 0) else none))) else (bif Nat.ble pc 23 then (bif Nat.ble pc 22 then (bif Nat.beq pc 22 then some (.aload_n 0, 23, [], 0) else none) else (bif Nat.beq pc 23 then some (.getfield 25, 26, [196, 3, 2, 140], 0) else none)) else (bif Nat.ble pc 26 then (bif Nat.beq pc 26 then some (.iload_n 2, 27, [], 0) else none) else (bif Nat.beq pc 27 then some (.iaload, 28, [], 0) else none)))) else (bif Nat.ble pc 30 then (bif Nat.ble pc 28 then (bif Nat.beq pc 28 then some (.iload_n 1, 29, [], 0) else none) else (bif Nat.ble pc 29 then (bif Nat.beq pc 29 then some (.ishr, 30, [], 0) else none) else (bif Nat.beq pc 30 then some (.iconst 1, 31, [], 0) else none))) else (bif Nat.ble pc 32 then (bif Nat.ble pc 31 then (bif Nat.beq pc 31 then some (.iand, 32, [], 0) else none) else (bif Nat.beq pc 32 then some (.imul, 33, [], 0) else none)) else (bif Nat.ble pc 33 then (bif Nat.beq pc 33 then some (.iadd, 34, [], 0) else none) else (bif Nat.beq pc 34 then some (.ireturn, 35, [0], 0) else none))))))
set_option maxRecDepth 100000 in
theorem tk_Des_sortAt {pc : Nat} {e : Ent} (h : code_Des_sortAt pc = some e) : okE Des_sortAt pc e := cutC_ok (by decide +kernel) h
set_option maxRecDepth 100000 in
theorem mk_Des_sortAt : mOk Des_sortAt := mOk_of (by decide +kernel)
def code_Des_hasCell : Nat → Option Ent := cutC 30 fun pc => (bif Nat.ble pc 13 then (bif Nat.ble pc 5 then (bif Nat.ble pc 1 then (bif Nat.ble pc 0 then (bif Nat.beq pc 0 then some (.iload_n 1, 1, [], 0) else none) else (bif Nat.beq pc 1 then some (.ifCond .lt 27, 4, [28], 0) else none)) else (bif Nat.ble pc 4 then (bif Nat.beq pc 4 then some (.iload_n 1, 5, [], 0) else none) else (bif Nat.beq pc 5 then some (.aload_n 0, 6, [], 0) else none))) else (bif Nat.ble pc 9 then (bif Nat.ble pc 6 then (bif Nat.beq pc 6 then some (.getfield 15, 9, [193, 3, 0, 128], 0) else none) else (bif Nat.beq pc 9 then some (.if_icmp .ge 19, 12, [28], 0) else none)) else (bif Nat.ble pc 12 then (bif Nat.beq pc 12 then some (.iload_n 2, 13, [], 0) else none) else (bif Nat.beq pc 13 then some (.ifCond .lt 15, 16, [28], 0) else none)))) else (bif Nat.ble pc 21 then (bif Nat.ble pc 17 then (bif Nat.ble pc 16 then (bif Nat.beq pc 16 then some (.iload_n 2, 17, [], 0) else none) else (bif Nat.beq pc 17 then some (.aload_n 0, 18, [], 0) else none)) else (bif Nat.ble pc 18 then (bif Nat.beq pc 18 then some (.getfield 18, 21, [194, 3, 0, 133], 0) else none) else (bif Nat.beq pc 21 then some (.if_icmp .ge 7, 24, [28], 0) else none))) else (bif Nat.ble pc 25 then (bif Nat.ble pc 24 then (bif Nat.beq pc 24 then some (.iconst 1, 25, [], 0) else none) else (bif Nat.beq pc 25 then some (.goto 4, 28, [29], 0) else none)) else (bif Nat.ble pc 28 then (bif Nat.beq pc 28 then some (.iconst 0, 29, [], 0) else none) else (bif Nat.beq pc 29 then some (.ireturn, 30, [1], 0) else none)))))
set_option maxRecDepth 100000 in
theorem tk_Des_hasCell {pc : Nat} {e : Ent} (h : code_Des_hasCell pc = some e) : okE Des_hasCell pc e := cutC_ok (by decide +kernel) h
set_option maxRecDepth 100000 in
theorem mk_Des_hasCell : mOk Des_hasCell := mOk_of (by decide +kernel)
def code_Des_put : Nat → Option Ent := cutC 73 fun pc => (bif Nat.ble pc 41 then (bif Nat.ble pc 22 then (bif Nat.ble pc 10 then (bif Nat.ble pc 4 then (bif Nat.ble pc 0 then (bif Nat.beq pc 0 then some (.iload_n 1, 1, [], 0) else none) else (bif Nat.ble pc 1 then (bif Nat.beq pc 1 then some (.ifCond .lt 19, 4, [20], 0) else none) else (bif Nat.beq pc 4 then some (.iload_n 1, 5, [], 0) else none))) else (bif Nat.ble pc 5 then (bif Nat.beq pc 5 then some (.bipush 10, 7, [], 0) else none) else (bif Nat.ble pc 7 then (bif Nat.beq pc 7 then some (.if_icmp .ge 13, 10, [20], 0) else none) else (bif Nat.beq pc 10 then some (.iload_n 2, 11, [], 0) else none)))) else (bif Nat.ble pc 15 then (bif Nat.ble pc 11 then (bif Nat.beq pc 11 then some (.ifCond .lt 9, 14, [20], 0) else none) else (bif Nat.ble pc 14 then (bif Nat.beq pc 14 then some (.iload_n 2, 15, [], 0) else none) else (bif Nat.beq pc 15 then some (.bipush 10, 17, [], 0) else none))) else (bif Nat.ble pc 20 then (bif Nat.ble pc 17 then (bif Nat.beq pc 17 then some (.if_icmp .lt 4, 20, [21], 0) else none) else (bif Nat.beq pc 20 then some (.return_, 21, [], 0) else none)) else (bif Nat.ble pc 21 then (bif Nat.beq pc 21 then some (.iconst 1, 22, [], 0) else none) else (bif Nat.beq pc 22 then some (.iload_n 1, 23, [], 0) else none))))) else (bif Nat.ble pc 29 then (bif Nat.ble pc 25 then (bif Nat.ble pc 23 then (bif Nat.beq pc 23 then some (.ishl, 24, [], 0) else none) else (bif Nat.ble pc 24 then (bif Nat.beq pc 24 then some (.iconst (-1), 25, [], 0) else none) else (bif Nat.beq pc 25 then some (.ixor, 26, [], 0) else none))) else (bif Nat.ble pc 26 then (bif Nat.beq pc 26 then some (.istore 4, 28, [], 0) else none) else (bif Nat.ble pc 28 then (bif Nat.beq pc 28 then some (.aload_n 0, 29, [], 0) else none) else (bif Nat.beq pc 29 then some (.getfield 21, 32, [195, 3, 2, 138], 0) else none)))) else (bif Nat.ble pc 34 then (bif Nat.ble pc 32 then (bif Nat.beq pc 32 then some (.iload_n 2, 33, [], 0) else none) else (bif Nat.ble pc 33 then (bif Nat.beq pc 33 then some (.aload_n 0, 34, [], 0) else none) else (bif Nat.beq pc 34 then some (.getfield 21, 37, [195, 3, 2, 138], 0) else none))) else (bif Nat.ble pc 38 then (bif Nat.ble pc 37 then (bif Nat.beq pc 37 then some (.iload_n 2, 38, [], 0) else none) else (bif Nat.beq pc 38 then some (.iaload, 39, [], 0) else none)) else (bif Nat.ble pc 39 then (bif Nat.beq pc 39 then some (.iload 4, 41, [], 0) else none) else (bif Nat.beq pc 41 then some (.iand, 42, [], 0) else none)))))) else (bif Nat.ble pc 58 then (bif Nat.ble pc 47 then (bif Nat.ble pc 44 then (bif Nat.ble pc 42 then (bif Nat.beq pc 42 then some (.iload_n 3, 43, [], 0) else none) else (bif Nat.ble pc 43 then (bif Nat.beq pc 43 then some (.iconst 1, 44, [], 0) else none) else (bif Nat.beq pc 44 then some (.iand, 45, [], 0) else none))) else (bif Nat.ble pc 45 then (bif Nat.beq pc 45 then some (.iload_n 1, 46, [], 0) else none) else (bif Nat.ble pc 46 then (bif Nat.beq pc 46 then some (.ishl, 47, [], 0) else none) else (bif Nat.beq pc 47 then some (.ior, 48, [], 0) else none)))) else (bif Nat.ble pc 50 then (bif Nat.ble pc 48 then (bif Nat.beq pc 48 then some (.iastore, 49, [], 0) else none) else (bif Nat.ble pc 49 then (bif Nat.beq pc 49 then some (.aload_n 0, 50, [], 0) else none) else (bif Nat.beq pc 50 then some (.getfield 25, 53, [196, 3, 2, 140], 0) else none))) else (bif Nat.ble pc 54 then (bif Nat.ble pc 53 then (bif Nat.beq pc 53 then some (.iload_n 2, 54, [], 0) else none) else (bif Nat.beq pc 54 then some (.aload_n 0, 55, [], 0) else none)) else (bif Nat.ble pc 55 then (bif Nat.beq pc 55 then some (.getfield 25, 58, [196, 3, 2, 140], 0) else none) else (bif Nat.beq pc 58 then some (.iload_n 2, 59, [], 0) else none))))) else (bif Nat.ble pc 65 then (bif Nat.ble pc 62 then (bif Nat.ble pc 59 then (bif Nat.beq pc 59 then some (.iaload, 60, [], 0) else none) else (bif Nat.ble pc 60 then (bif Nat.beq pc 60 then some (.iload 4, 62, [], 0) else none) else (bif Nat.beq pc 62 then some (.iand, 63, [], 0) else none))) else (bif Nat.ble pc 63 then (bif Nat.beq pc 63 then some (.iload_n 3, 64, [], 0) else none) else (bif Nat.ble pc 64 then (bif Nat.beq pc 64 then some (.iconst 1, 65, [], 0) else none) else (bif Nat.beq pc 65 then some (.ishr, 66, [], 0) else none)))) else (bif Nat.ble pc 68 then (bif Nat.ble pc 66 then (bif Nat.beq pc 66 then some (.iconst 1, 67, [], 0) else none) else (bif Nat.ble pc 67 then (bif Nat.beq pc 67 then some (.iand, 68, [], 0) else none) else (bif Nat.beq pc 68 then some (.iload_n 1, 69, [], 0) else none))) else (bif Nat.ble pc 70 then (bif Nat.ble pc 69 then (bif Nat.beq pc 69 then some (.ishl, 70, [], 0) else none) else (bif Nat.beq pc 70 then some (.ior, 71, [], 0) else none)) else (bif Nat.ble pc 71 then (bif Nat.beq pc 71 then some (.iastore, 72, [], 0) else none) else (bif Nat.beq pc 72 then some (.return_, 73, [], 0) else none)))))))
set_option maxRecDepth 100000 in
theorem tk_Des_put {pc : Nat} {e : Ent} (h : code_Des_put pc = some e) : okE Des_put pc e := cutC_ok (by decide +kernel) h
set_option maxRecDepth 100000 in
theorem mk_Des_put : mOk Des_put := mOk_of (by decide +kernel)
def code_Des_freedom : Nat → Option Ent := cutC 40 fun pc => (bif Nat.ble pc 18 then (bif Nat.ble pc 9 then (bif Nat.ble pc 4 then (bif Nat.ble pc 0 then (bif Nat.beq pc 0 then some (.aload_n 0, 1, [], 0) else none) else (bif Nat.ble pc 1 then (bif Nat.beq pc 1 then some (.getfield 15, 4, [193, 3, 0, 128], 0) else none) else (bif Nat.beq pc 4 then some (.aload_n 0, 5, [], 0) else none))) else (bif Nat.ble pc 5 then (bif Nat.beq pc 5 then some (.getfield 18, 8, [194, 3, 0, 133], 0) else none) else (bif Nat.ble pc 8 then (bif Nat.beq pc 8 then some (.imul, 9, [], 0) else none) else (bif Nat.beq pc 9 then some (.istore_n 1, 10, [], 0) else none)))) else (bif Nat.ble pc 12 then (bif Nat.ble pc 10 then (bif Nat.beq pc 10 then some (.iload_n 1, 11, [], 0) else none) else (bif Nat.ble pc 11 then (bif Nat.beq pc 11 then some (.aload_n 0, 12, [], 0) else none) else (bif Nat.beq pc 12 then some (.iconst 2, 13, [], 0) else none))) else (bif Nat.ble pc 16 then (bif Nat.ble pc 13 then (bif Nat.beq pc 13 then some (.invokevirtual 63, 16, [22, 541], 0) else none) else (bif Nat.beq pc 16 then some (.isub, 17, [], 0) else none)) else (bif Nat.ble pc 17 then (bif Nat.beq pc 17 then some (.aload_n 0, 18, [], 0) else none) else (bif Nat.beq pc 18 then some (.iconst 3, 19, [], 0) else none))))) else (bif Nat.ble pc 28 then (bif Nat.ble pc 23 then (bif Nat.ble pc 19 then (bif Nat.beq pc 19 then some (.invokevirtual 63, 22, [22, 541], 0) else none) else (bif Nat.ble pc 22 then (bif Nat.beq pc 22 then some (.isub, 23, [], 0) else none) else (bif Nat.beq pc 23 then some (.istore_n 2, 24, [], 0) else none))) else (bif Nat.ble pc 24 then (bif Nat.beq pc 24 then some (.iload_n 1, 25, [], 0) else none) else (bif Nat.ble pc 25 then (bif Nat.beq pc 25 then some (.ifCond .ne 7, 28, [32], 0) else none) else (bif Nat.beq pc 28 then some (.iconst 0, 29, [], 0) else none)))) else (bif Nat.ble pc 33 then (bif Nat.ble pc 29 then (bif Nat.beq pc 29 then some (.goto 10, 32, [39], 0) else none) else (bif Nat.ble pc 32 then (bif Nat.beq pc 32 then some (.iload_n 2, 33, [], 0) else none) else (bif Nat.beq pc 33 then some (.sipush 1000, 36, [], 0) else none))) else (bif Nat.ble pc 37 then (bif Nat.ble pc 36 then (bif Nat.beq pc 36 then some (.imul, 37, [], 0) else none) else (bif Nat.beq pc 37 then some (.iload_n 1, 38, [], 0) else none)) else (bif Nat.ble pc 38 then (bif Nat.beq pc 38 then some (.idiv, 39, [], 0) else none) else (bif Nat.beq pc 39 then some (.ireturn, 40, [0], 0) else none))))))
set_option maxRecDepth 100000 in
theorem tk_Des_freedom {pc : Nat} {e : Ent} (h : code_Des_freedom pc = some e) : okE Des_freedom pc e := cutC_ok (by decide +kernel) h
set_option maxRecDepth 100000 in
theorem mk_Des_freedom : mOk Des_freedom := mOk_of (by decide +kernel)
def code_Des_countOfSort : Nat → Option Ent := cutC 52 fun pc => (bif Nat.ble pc 18 then (bif Nat.ble pc 5 then (bif Nat.ble pc 2 then (bif Nat.ble pc 0 then (bif Nat.beq pc 0 then some (.iconst 0, 1, [], 0) else none) else (bif Nat.ble pc 1 then (bif Nat.beq pc 1 then some (.istore_n 2, 2, [], 0) else none) else (bif Nat.beq pc 2 then some (.iconst 0, 3, [], 0) else none))) else (bif Nat.ble pc 3 then (bif Nat.beq pc 3 then some (.istore_n 3, 4, [], 0) else none) else (bif Nat.ble pc 4 then (bif Nat.beq pc 4 then some (.iload_n 3, 5, [], 0) else none) else (bif Nat.beq pc 5 then some (.aload_n 0, 6, [], 0) else none)))) else (bif Nat.ble pc 12 then (bif Nat.ble pc 6 then (bif Nat.beq pc 6 then some (.getfield 18, 9, [194, 3, 0, 133], 0) else none) else (bif Nat.ble pc 9 then (bif Nat.beq pc 9 then some (.if_icmp .ge 41, 12, [50], 0) else none) else (bif Nat.beq pc 12 then some (.iconst 0, 13, [], 0) else none))) else (bif Nat.ble pc 15 then (bif Nat.ble pc 13 then (bif Nat.beq pc 13 then some (.istore 4, 15, [], 0) else none) else (bif Nat.beq pc 15 then some (.iload 4, 17, [], 0) else none)) else (bif Nat.ble pc 17 then (bif Nat.beq pc 17 then some (.aload_n 0, 18, [], 0) else none) else (bif Nat.beq pc 18 then some (.getfield 15, 21, [193, 3, 0, 128], 0) else none))))) else (bif Nat.ble pc 32 then (bif Nat.ble pc 25 then (bif Nat.ble pc 21 then (bif Nat.beq pc 21 then some (.if_icmp .ge 23, 24, [44], 0) else none) else (bif Nat.ble pc 24 then (bif Nat.beq pc 24 then some (.aload_n 0, 25, [], 0) else none) else (bif Nat.beq pc 25 then some (.iload 4, 27, [], 0) else none))) else (bif Nat.ble pc 28 then (bif Nat.ble pc 27 then (bif Nat.beq pc 27 then some (.iload_n 3, 28, [], 0) else none) else (bif Nat.beq pc 28 then some (.invokevirtual 55, 31, [18, 503], 0) else none)) else (bif Nat.ble pc 31 then (bif Nat.beq pc 31 then some (.iload_n 1, 32, [], 0) else none) else (bif Nat.beq pc 32 then some (.if_icmp .ne 6, 35, [38], 0) else none)))) else (bif Nat.ble pc 41 then (bif Nat.ble pc 35 then (bif Nat.beq pc 35 then some (.iinc 2 1, 38, [], 0) else none) else (bif Nat.ble pc 38 then (bif Nat.beq pc 38 then some (.iinc 4 1, 41, [], 0) else none) else (bif Nat.beq pc 41 then some (.goto (-26), 44, [15], 0) else none))) else (bif Nat.ble pc 47 then (bif Nat.ble pc 44 then (bif Nat.beq pc 44 then some (.iinc 3 1, 47, [], 0) else none) else (bif Nat.beq pc 47 then some (.goto (-43), 50, [4], 0) else none)) else (bif Nat.ble pc 50 then (bif Nat.beq pc 50 then some (.iload_n 2, 51, [], 0) else none) else (bif Nat.beq pc 51 then some (.ireturn, 52, [0], 0) else none))))))
set_option maxRecDepth 100000 in
theorem tk_Des_countOfSort {pc : Nat} {e : Ent} (h : code_Des_countOfSort pc = some e) : okE Des_countOfSort pc e := cutC_ok (by decide +kernel) h
set_option maxRecDepth 100000 in
theorem mk_Des_countOfSort : mOk Des_countOfSort := mOk_of (by decide +kernel)
def code_Des_begin : Nat → Option Ent := cutC 12 fun pc => (bif Nat.ble pc 5 then (bif Nat.ble pc 1 then (bif Nat.ble pc 0 then (bif Nat.beq pc 0 then some (.aload_n 0, 1, [], 0) else none) else (bif Nat.beq pc 1 then some (.iload_n 1, 2, [], 0) else none)) else (bif Nat.ble pc 2 then (bif Nat.beq pc 2 then some (.putfield 9, 5, [192, 3, 0, 126], 0) else none) else (bif Nat.beq pc 5 then some (.aload_n 0, 6, [], 0) else none))) else (bif Nat.ble pc 7 then (bif Nat.ble pc 6 then (bif Nat.beq pc 6 then some (.iconst 0, 7, [], 0) else none) else (bif Nat.beq pc 7 then some (.iconst 0, 8, [], 0) else none)) else (bif Nat.ble pc 8 then (bif Nat.beq pc 8 then some (.invokevirtual 28, 11, [15, 488], 0) else none) else (bif Nat.beq pc 11 then some (.return_, 12, [], 0) else none))))
set_option maxRecDepth 100000 in
theorem tk_Des_begin {pc : Nat} {e : Ent} (h : code_Des_begin pc = some e) : okE Des_begin pc e := cutC_ok (by decide +kernel) h
set_option maxRecDepth 100000 in
theorem mk_Des_begin : mOk Des_begin := mOk_of (by decide +kernel)
def code_Des_copyFrom : Nat → Option Ent := cutC 55 fun pc => (bif Nat.ble pc 25 then (bif Nat.ble pc 10 then (bif Nat.ble pc 2 then (bif Nat.ble pc 0 then (bif Nat.beq pc 0 then some (.aload_n 0, 1, [], 0) else none) else (bif Nat.ble pc 1 then (bif Nat.beq pc 1 then some (.aload_n 1, 2, [], 0) else none) else (bif Nat.beq pc 2 then some (.getfield 9, 5, [192, 3, 0, 126], 0) else none))) else (bif Nat.ble pc 8 then (bif Nat.ble pc 5 then (bif Nat.beq pc 5 then some (.putfield 9, 8, [192, 3, 0, 126], 0) else none) else (bif Nat.beq pc 8 then some (.aload_n 0, 9, [], 0) else none)) else (bif Nat.ble pc 9 then (bif Nat.beq pc 9 then some (.aload_n 1, 10, [], 0) else none) else (bif Nat.beq pc 10 then some (.getfield 15, 13, [193, 3, 0, 128], 0) else none)))) else (bif Nat.ble pc 17 then (bif Nat.ble pc 13 then (bif Nat.beq pc 13 then some (.putfield 15, 16, [193, 3, 0, 128], 0) else none) else (bif Nat.ble pc 16 then (bif Nat.beq pc 16 then some (.aload_n 0, 17, [], 0) else none) else (bif Nat.beq pc 17 then some (.aload_n 1, 18, [], 0) else none))) else (bif Nat.ble pc 21 then (bif Nat.ble pc 18 then (bif Nat.beq pc 18 then some (.getfield 18, 21, [194, 3, 0, 133], 0) else none) else (bif Nat.beq pc 21 then some (.putfield 18, 24, [194, 3, 0, 133], 0) else none)) else (bif Nat.ble pc 24 then (bif Nat.beq pc 24 then some (.aload_n 1, 25, [], 0) else none) else (bif Nat.beq pc 25 then some (.getfield 21, 28, [195, 3, 2, 138], 0) else none))))) else (bif Nat.ble pc 39 then (bif Nat.ble pc 30 then (bif Nat.ble pc 28 then (bif Nat.beq pc 28 then some (.iconst 0, 29, [], 0) else none) else (bif Nat.ble pc 29 then (bif Nat.beq pc 29 then some (.aload_n 0, 30, [], 0) else none) else (bif Nat.beq pc 30 then some (.getfield 21, 33, [195, 3, 2, 138], 0) else none))) else (bif Nat.ble pc 34 then (bif Nat.ble pc 33 then (bif Nat.beq pc 33 then some (.iconst 0, 34, [], 0) else none) else (bif Nat.beq pc 34 then some (.bipush 10, 36, [], 0) else none)) else (bif Nat.ble pc 36 then (bif Nat.beq pc 36 then some (.invokestatic 38, 39, [998, 900, 850, 849, 101], 0) else none) else (bif Nat.beq pc 39 then some (.aload_n 1, 40, [], 0) else none)))) else (bif Nat.ble pc 45 then (bif Nat.ble pc 43 then (bif Nat.ble pc 40 then (bif Nat.beq pc 40 then some (.getfield 25, 43, [196, 3, 2, 140], 0) else none) else (bif Nat.beq pc 43 then some (.iconst 0, 44, [], 0) else none)) else (bif Nat.ble pc 44 then (bif Nat.beq pc 44 then some (.aload_n 0, 45, [], 0) else none) else (bif Nat.beq pc 45 then some (.getfield 25, 48, [196, 3, 2, 140], 0) else none))) else (bif Nat.ble pc 49 then (bif Nat.ble pc 48 then (bif Nat.beq pc 48 then some (.iconst 0, 49, [], 0) else none) else (bif Nat.beq pc 49 then some (.bipush 10, 51, [], 0) else none)) else (bif Nat.ble pc 51 then (bif Nat.beq pc 51 then some (.invokestatic 38, 54, [998, 900, 850, 849, 101], 0) else none) else (bif Nat.beq pc 54 then some (.return_, 55, [], 0) else none))))))
set_option maxRecDepth 100000 in
theorem tk_Des_copyFrom {pc : Nat} {e : Ent} (h : code_Des_copyFrom pc = some e) : okE Des_copyFrom pc e := cutC_ok (by decide +kernel) h
set_option maxRecDepth 100000 in
theorem mk_Des_copyFrom : mOk Des_copyFrom := mOk_of (by decide +kernel)
def code_Des_isDark : Nat → Option Ent := cutC 28 fun pc => (bif Nat.ble pc 14 then (bif Nat.ble pc 3 then (bif Nat.ble pc 1 then (bif Nat.ble pc 0 then (bif Nat.beq pc 0 then some (.aload_n 0, 1, [], 0) else none) else (bif Nat.beq pc 1 then some (.iload_n 1, 2, [], 0) else none)) else (bif Nat.ble pc 2 then (bif Nat.beq pc 2 then some (.iload_n 2, 3, [], 0) else none) else (bif Nat.beq pc 3 then some (.invokevirtual 44, 6, [19, 507], 0) else none))) else (bif Nat.ble pc 9 then (bif Nat.ble pc 6 then (bif Nat.beq pc 6 then some (.ifCond .eq 20, 9, [26], 0) else none) else (bif Nat.beq pc 9 then some (.aload_n 0, 10, [], 0) else none)) else (bif Nat.ble pc 10 then (bif Nat.beq pc 10 then some (.getfield 21, 13, [195, 3, 2, 138], 0) else none) else (bif Nat.ble pc 13 then (bif Nat.beq pc 13 then some (.iload_n 2, 14, [], 0) else none) else (bif Nat.beq pc 14 then some (.iaload, 15, [], 0) else none))))) else (bif Nat.ble pc 18 then (bif Nat.ble pc 16 then (bif Nat.ble pc 15 then (bif Nat.beq pc 15 then some (.iload_n 1, 16, [], 0) else none) else (bif Nat.beq pc 16 then some (.ishr, 17, [], 0) else none)) else (bif Nat.ble pc 17 then (bif Nat.beq pc 17 then some (.iconst 1, 18, [], 0) else none) else (bif Nat.beq pc 18 then some (.iand, 19, [], 0) else none))) else (bif Nat.ble pc 22 then (bif Nat.ble pc 19 then (bif Nat.beq pc 19 then some (.ifCond .eq 7, 22, [26], 0) else none) else (bif Nat.beq pc 22 then some (.iconst 1, 23, [], 0) else none)) else (bif Nat.ble pc 23 then (bif Nat.beq pc 23 then some (.goto 4, 26, [27], 0) else none) else (bif Nat.ble pc 26 then (bif Nat.beq pc 26 then some (.iconst 0, 27, [], 0) else none) else (bif Nat.beq pc 27 then some (.ireturn, 28, [1], 0) else none))))))
set_option maxRecDepth 100000 in
theorem tk_Des_isDark {pc : Nat} {e : Ent} (h : code_Des_isDark pc = some e) : okE Des_isDark pc e := cutC_ok (by decide +kernel) h
set_option maxRecDepth 100000 in
theorem mk_Des_isDark : mOk Des_isDark := mOk_of (by decide +kernel)
def code_Des_hasGridOf : Nat → Option Ent := cutC 84 fun pc => (bif Nat.ble pc 41 then (bif Nat.ble pc 22 then (bif Nat.ble pc 8 then (bif Nat.ble pc 1 then (bif Nat.ble pc 0 then (bif Nat.beq pc 0 then some (.aload_n 0, 1, [], 0) else none) else (bif Nat.beq pc 1 then some (.getfield 15, 4, [193, 3, 0, 128], 0) else none)) else (bif Nat.ble pc 4 then (bif Nat.beq pc 4 then some (.aload_n 1, 5, [], 0) else none) else (bif Nat.ble pc 5 then (bif Nat.beq pc 5 then some (.getfield 15, 8, [193, 3, 0, 128], 0) else none) else (bif Nat.beq pc 8 then some (.if_icmp .ne 18, 11, [26], 0) else none)))) else (bif Nat.ble pc 15 then (bif Nat.ble pc 11 then (bif Nat.beq pc 11 then some (.aload_n 0, 12, [], 0) else none) else (bif Nat.ble pc 12 then (bif Nat.beq pc 12 then some (.getfield 18, 15, [194, 3, 0, 133], 0) else none) else (bif Nat.beq pc 15 then some (.aload_n 1, 16, [], 0) else none))) else (bif Nat.ble pc 16 then (bif Nat.beq pc 16 then some (.getfield 18, 19, [194, 3, 0, 133], 0) else none) else (bif Nat.ble pc 19 then (bif Nat.beq pc 19 then some (.if_icmp .ne 7, 22, [26], 0) else none) else (bif Nat.beq pc 22 then some (.iconst 1, 23, [], 0) else none))))) else (bif Nat.ble pc 30 then (bif Nat.ble pc 27 then (bif Nat.ble pc 23 then (bif Nat.beq pc 23 then some (.goto 4, 26, [27], 0) else none) else (bif Nat.ble pc 26 then (bif Nat.beq pc 26 then some (.iconst 0, 27, [], 0) else none) else (bif Nat.beq pc 27 then some (.istore_n 2, 28, [], 0) else none))) else (bif Nat.ble pc 28 then (bif Nat.beq pc 28 then some (.iconst 0, 29, [], 0) else none) else (bif Nat.ble pc 29 then (bif Nat.beq pc 29 then some (.istore_n 3, 30, [], 0) else none) else (bif Nat.beq pc 30 then some (.iload_n 2, 31, [], 0) else none)))) else (bif Nat.ble pc 35 then (bif Nat.ble pc 31 then (bif Nat.beq pc 31 then some (.ifCond .eq 51, 34, [82], 0) else none) else (bif Nat.ble pc 34 then (bif Nat.beq pc 34 then some (.iload_n 3, 35, [], 0) else none) else (bif Nat.beq pc 35 then some (.bipush 10, 37, [], 0) else none))) else (bif Nat.ble pc 37 then (bif Nat.beq pc 37 then some (.if_icmp .ge 45, 40, [82], 0) else none) else (bif Nat.ble pc 40 then (bif Nat.beq pc 40 then some (.aload_n 0, 41, [], 0) else none) else (bif Nat.beq pc 41 then some (.getfield 21, 44, [195, 3, 2, 138], 0) else none)))))) else (bif Nat.ble pc 61 then (bif Nat.ble pc 51 then (bif Nat.ble pc 46 then (bif Nat.ble pc 44 then (bif Nat.beq pc 44 then some (.iload_n 3, 45, [], 0) else none) else (bif Nat.ble pc 45 then (bif Nat.beq pc 45 then some (.iaload, 46, [], 0) else none) else (bif Nat.beq pc 46 then some (.aload_n 1, 47, [], 0) else none))) else (bif Nat.ble pc 47 then (bif Nat.beq pc 47 then some (.getfield 21, 50, [195, 3, 2, 138], 0) else none) else (bif Nat.ble pc 50 then (bif Nat.beq pc 50 then some (.iload_n 3, 51, [], 0) else none) else (bif Nat.beq pc 51 then some (.iaload, 52, [], 0) else none)))) else (bif Nat.ble pc 56 then (bif Nat.ble pc 52 then (bif Nat.beq pc 52 then some (.if_icmp .ne 22, 55, [74], 0) else none) else (bif Nat.ble pc 55 then (bif Nat.beq pc 55 then some (.aload_n 0, 56, [], 0) else none) else (bif Nat.beq pc 56 then some (.getfield 25, 59, [196, 3, 2, 140], 0) else none))) else (bif Nat.ble pc 59 then (bif Nat.beq pc 59 then some (.iload_n 3, 60, [], 0) else none) else (bif Nat.ble pc 60 then (bif Nat.beq pc 60 then some (.iaload, 61, [], 0) else none) else (bif Nat.beq pc 61 then some (.aload_n 1, 62, [], 0) else none))))) else (bif Nat.ble pc 71 then (bif Nat.ble pc 66 then (bif Nat.ble pc 62 then (bif Nat.beq pc 62 then some (.getfield 25, 65, [196, 3, 2, 140], 0) else none) else (bif Nat.ble pc 65 then (bif Nat.beq pc 65 then some (.iload_n 3, 66, [], 0) else none) else (bif Nat.beq pc 66 then some (.iaload, 67, [], 0) else none))) else (bif Nat.ble pc 67 then (bif Nat.beq pc 67 then some (.if_icmp .ne 7, 70, [74], 0) else none) else (bif Nat.ble pc 70 then (bif Nat.beq pc 70 then some (.iconst 1, 71, [], 0) else none) else (bif Nat.beq pc 71 then some (.goto 4, 74, [75], 0) else none)))) else (bif Nat.ble pc 76 then (bif Nat.ble pc 74 then (bif Nat.beq pc 74 then some (.iconst 0, 75, [], 0) else none) else (bif Nat.ble pc 75 then (bif Nat.beq pc 75 then some (.istore_n 2, 76, [], 0) else none) else (bif Nat.beq pc 76 then some (.iinc 3 1, 79, [], 0) else none))) else (bif Nat.ble pc 79 then (bif Nat.beq pc 79 then some (.goto (-49), 82, [30], 0) else none) else (bif Nat.ble pc 82 then (bif Nat.beq pc 82 then some (.iload_n 2, 83, [], 0) else none) else (bif Nat.beq pc 83 then some (.ireturn, 84, [1], 0) else none)))))))
set_option maxRecDepth 100000 in
theorem tk_Des_hasGridOf {pc : Nat} {e : Ent} (h : code_Des_hasGridOf pc = some e) : okE Des_hasGridOf pc e := cutC_ok (by decide +kernel) h
set_option maxRecDepth 100000 in
theorem mk_Des_hasGridOf : mOk Des_hasGridOf := mOk_of (by decide +kernel)
def code_Hist_init : Nat → Option Ent := cutC 46 fun pc => (bif Nat.ble pc 21 then (bif Nat.ble pc 10 then (bif Nat.ble pc 4 then (bif Nat.ble pc 0 then (bif Nat.beq pc 0 then some (.aload_n 0, 1, [], 0) else none) else (bif Nat.ble pc 1 then (bif Nat.beq pc 1 then some (.invokespecial 3, 4, [999, 177, 111, 112], 0) else none) else (bif Nat.beq pc 4 then some (.aload_n 0, 5, [], 0) else none))) else (bif Nat.ble pc 5 then (bif Nat.beq pc 5 then some (.bipush 8, 7, [], 0) else none) else (bif Nat.ble pc 7 then (bif Nat.beq pc 7 then some (.anewarray 9, 10, [17, 178, 179], 0) else none) else (bif Nat.beq pc 10 then some (.putfield 11, 13, [256, 4, 2, 181], 0) else none)))) else (bif Nat.ble pc 15 then (bif Nat.ble pc 13 then (bif Nat.beq pc 13 then some (.iconst 0, 14, [], 0) else none) else (bif Nat.ble pc 14 then (bif Nat.beq pc 14 then some (.istore_n 1, 15, [], 0) else none) else (bif Nat.beq pc 15 then some (.iload_n 1, 16, [], 0) else none))) else (bif Nat.ble pc 16 then (bif Nat.beq pc 16 then some (.bipush 8, 18, [], 0) else none) else (bif Nat.ble pc 18 then (bif Nat.beq pc 18 then some (.if_icmp .ge 22, 21, [40], 0) else none) else (bif Nat.beq pc 21 then some (.aload_n 0, 22, [], 0) else none))))) else (bif Nat.ble pc 33 then (bif Nat.ble pc 26 then (bif Nat.ble pc 22 then (bif Nat.beq pc 22 then some (.getfield 11, 25, [256, 4, 2, 181], 0) else none) else (bif Nat.ble pc 25 then (bif Nat.beq pc 25 then some (.iload_n 1, 26, [], 0) else none) else (bif Nat.beq pc 26 then some (.new 9, 29, [2, 3, 178], 0) else none))) else (bif Nat.ble pc 29 then (bif Nat.beq pc 29 then some (.dup, 30, [], 0) else none) else (bif Nat.ble pc 30 then (bif Nat.beq pc 30 then some (.invokespecial 17, 33, [10, 180], 0) else none) else (bif Nat.beq pc 33 then some (.aastore, 34, [], 0) else none)))) else (bif Nat.ble pc 40 then (bif Nat.ble pc 34 then (bif Nat.beq pc 34 then some (.iinc 1 1, 37, [], 0) else none) else (bif Nat.ble pc 37 then (bif Nat.beq pc 37 then some (.goto (-22), 40, [15], 0) else none) else (bif Nat.beq pc 40 then some (.aload_n 0, 41, [], 0) else none))) else (bif Nat.ble pc 41 then (bif Nat.beq pc 41 then some (.iconst 0, 42, [], 0) else none) else (bif Nat.ble pc 42 then (bif Nat.beq pc 42 then some (.putfield 18, 45, [257, 4, 0, 182], 0) else none) else (bif Nat.beq pc 45 then some (.return_, 46, [], 0) else none))))))
set_option maxRecDepth 100000 in
theorem tk_Hist_init {pc : Nat} {e : Ent} (h : code_Hist_init pc = some e) : okE Hist_init pc e := cutC_ok (by decide +kernel) h
set_option maxRecDepth 100000 in
theorem mk_Hist_init : mOk Hist_init := mOk_of (by decide +kernel)
def code_Hist_takeBack : Nat → Option Ent := cutC 41 fun pc => (bif Nat.ble pc 19 then (bif Nat.ble pc 9 then (bif Nat.ble pc 4 then (bif Nat.ble pc 0 then (bif Nat.beq pc 0 then some (.aload_n 0, 1, [], 0) else none) else (bif Nat.ble pc 1 then (bif Nat.beq pc 1 then some (.getfield 18, 4, [257, 4, 0, 182], 0) else none) else (bif Nat.beq pc 4 then some (.ifCond .ne 5, 7, [9], 0) else none))) else (bif Nat.ble pc 7 then (bif Nat.beq pc 7 then some (.aload_n 1, 8, [], 0) else none) else (bif Nat.ble pc 8 then (bif Nat.beq pc 8 then some (.areturn, 9, [], 0) else none) else (bif Nat.beq pc 9 then some (.aload_n 0, 10, [], 0) else none)))) else (bif Nat.ble pc 14 then (bif Nat.ble pc 10 then (bif Nat.beq pc 10 then some (.dup, 11, [], 0) else none) else (bif Nat.ble pc 11 then (bif Nat.beq pc 11 then some (.getfield 18, 14, [257, 4, 0, 182], 0) else none) else (bif Nat.beq pc 14 then some (.iconst 1, 15, [], 0) else none))) else (bif Nat.ble pc 15 then (bif Nat.beq pc 15 then some (.isub, 16, [], 0) else none) else (bif Nat.ble pc 16 then (bif Nat.beq pc 16 then some (.putfield 18, 19, [257, 4, 0, 182], 0) else none) else (bif Nat.beq pc 19 then some (.aload_n 0, 20, [], 0) else none))))) else (bif Nat.ble pc 29 then (bif Nat.ble pc 24 then (bif Nat.ble pc 20 then (bif Nat.beq pc 20 then some (.getfield 11, 23, [256, 4, 2, 181], 0) else none) else (bif Nat.ble pc 23 then (bif Nat.beq pc 23 then some (.aload_n 0, 24, [], 0) else none) else (bif Nat.beq pc 24 then some (.getfield 18, 27, [257, 4, 0, 182], 0) else none))) else (bif Nat.ble pc 27 then (bif Nat.beq pc 27 then some (.aaload, 28, [], 0) else none) else (bif Nat.ble pc 28 then (bif Nat.beq pc 28 then some (.astore_n 2, 29, [], 0) else none) else (bif Nat.beq pc 29 then some (.aload_n 0, 30, [], 0) else none)))) else (bif Nat.ble pc 34 then (bif Nat.ble pc 30 then (bif Nat.beq pc 30 then some (.getfield 11, 33, [256, 4, 2, 181], 0) else none) else (bif Nat.ble pc 33 then (bif Nat.beq pc 33 then some (.aload_n 0, 34, [], 0) else none) else (bif Nat.beq pc 34 then some (.getfield 18, 37, [257, 4, 0, 182], 0) else none))) else (bif Nat.ble pc 38 then (bif Nat.ble pc 37 then (bif Nat.beq pc 37 then some (.aload_n 1, 38, [], 0) else none) else (bif Nat.beq pc 38 then some (.aastore, 39, [], 0) else none)) else (bif Nat.ble pc 39 then (bif Nat.beq pc 39 then some (.aload_n 2, 40, [], 0) else none) else (bif Nat.beq pc 40 then some (.areturn, 41, [], 0) else none))))))
set_option maxRecDepth 100000 in
theorem tk_Hist_takeBack {pc : Nat} {e : Ent} (h : code_Hist_takeBack pc = some e) : okE Hist_takeBack pc e := cutC_ok (by decide +kernel) h
set_option maxRecDepth 100000 in
theorem mk_Hist_takeBack : mOk Hist_takeBack := mOk_of (by decide +kernel)
def code_Hist_keep : Nat → Option Ent := cutC 46 fun pc => (bif Nat.ble pc 23 then (bif Nat.ble pc 10 then (bif Nat.ble pc 4 then (bif Nat.ble pc 0 then (bif Nat.beq pc 0 then some (.aload_n 0, 1, [], 0) else none) else (bif Nat.ble pc 1 then (bif Nat.beq pc 1 then some (.getfield 18, 4, [257, 4, 0, 182], 0) else none) else (bif Nat.beq pc 4 then some (.bipush 8, 6, [], 0) else none))) else (bif Nat.ble pc 6 then (bif Nat.beq pc 6 then some (.if_icmp .ne 7, 9, [13], 0) else none) else (bif Nat.ble pc 9 then (bif Nat.beq pc 9 then some (.aload_n 0, 10, [], 0) else none) else (bif Nat.beq pc 10 then some (.invokevirtual 22, 13, [30, 888], 0) else none)))) else (bif Nat.ble pc 17 then (bif Nat.ble pc 13 then (bif Nat.beq pc 13 then some (.aload_n 0, 14, [], 0) else none) else (bif Nat.ble pc 14 then (bif Nat.beq pc 14 then some (.getfield 18, 17, [257, 4, 0, 182], 0) else none) else (bif Nat.beq pc 17 then some (.bipush 8, 19, [], 0) else none))) else (bif Nat.ble pc 19 then (bif Nat.beq pc 19 then some (.if_icmp .ge 26, 22, [45], 0) else none) else (bif Nat.ble pc 22 then (bif Nat.beq pc 22 then some (.aload_n 0, 23, [], 0) else none) else (bif Nat.beq pc 23 then some (.getfield 11, 26, [256, 4, 2, 181], 0) else none))))) else (bif Nat.ble pc 35 then (bif Nat.ble pc 30 then (bif Nat.ble pc 26 then (bif Nat.beq pc 26 then some (.aload_n 0, 27, [], 0) else none) else (bif Nat.ble pc 27 then (bif Nat.beq pc 27 then some (.getfield 18, 30, [257, 4, 0, 182], 0) else none) else (bif Nat.beq pc 30 then some (.aaload, 31, [], 0) else none))) else (bif Nat.ble pc 31 then (bif Nat.beq pc 31 then some (.aload_n 1, 32, [], 0) else none) else (bif Nat.ble pc 32 then (bif Nat.beq pc 32 then some (.invokevirtual 25, 35, [11, 892], 0) else none) else (bif Nat.beq pc 35 then some (.aload_n 0, 36, [], 0) else none)))) else (bif Nat.ble pc 40 then (bif Nat.ble pc 36 then (bif Nat.beq pc 36 then some (.dup, 37, [], 0) else none) else (bif Nat.ble pc 37 then (bif Nat.beq pc 37 then some (.getfield 18, 40, [257, 4, 0, 182], 0) else none) else (bif Nat.beq pc 40 then some (.iconst 1, 41, [], 0) else none))) else (bif Nat.ble pc 41 then (bif Nat.beq pc 41 then some (.iadd, 42, [], 0) else none) else (bif Nat.ble pc 42 then (bif Nat.beq pc 42 then some (.putfield 18, 45, [257, 4, 0, 182], 0) else none) else (bif Nat.beq pc 45 then some (.return_, 46, [], 0) else none))))))
set_option maxRecDepth 100000 in
theorem tk_Hist_keep {pc : Nat} {e : Ent} (h : code_Hist_keep pc = some e) : okE Hist_keep pc e := cutC_ok (by decide +kernel) h
set_option maxRecDepth 100000 in
theorem mk_Hist_keep : mOk Hist_keep := mOk_of (by decide +kernel)
def code_Hist_forgetOldest : Nat → Option Ent := cutC 54 fun pc => (bif Nat.ble pc 23 then (bif Nat.ble pc 9 then (bif Nat.ble pc 5 then (bif Nat.ble pc 1 then (bif Nat.ble pc 0 then (bif Nat.beq pc 0 then some (.aload_n 0, 1, [], 0) else none) else (bif Nat.beq pc 1 then some (.getfield 11, 4, [256, 4, 2, 181], 0) else none)) else (bif Nat.ble pc 4 then (bif Nat.beq pc 4 then some (.iconst 0, 5, [], 0) else none) else (bif Nat.beq pc 5 then some (.aaload, 6, [], 0) else none))) else (bif Nat.ble pc 7 then (bif Nat.ble pc 6 then (bif Nat.beq pc 6 then some (.astore_n 1, 7, [], 0) else none) else (bif Nat.beq pc 7 then some (.iconst 1, 8, [], 0) else none)) else (bif Nat.ble pc 8 then (bif Nat.beq pc 8 then some (.istore_n 2, 9, [], 0) else none) else (bif Nat.beq pc 9 then some (.iload_n 2, 10, [], 0) else none)))) else (bif Nat.ble pc 16 then (bif Nat.ble pc 12 then (bif Nat.ble pc 10 then (bif Nat.beq pc 10 then some (.bipush 8, 12, [], 0) else none) else (bif Nat.beq pc 12 then some (.if_icmp .ge 23, 15, [35], 0) else none)) else (bif Nat.ble pc 15 then (bif Nat.beq pc 15 then some (.aload_n 0, 16, [], 0) else none) else (bif Nat.beq pc 16 then some (.getfield 11, 19, [256, 4, 2, 181], 0) else none))) else (bif Nat.ble pc 20 then (bif Nat.ble pc 19 then (bif Nat.beq pc 19 then some (.iload_n 2, 20, [], 0) else none) else (bif Nat.beq pc 20 then some (.iconst 1, 21, [], 0) else none)) else (bif Nat.ble pc 21 then (bif Nat.beq pc 21 then some (.isub, 22, [], 0) else none) else (bif Nat.ble pc 22 then (bif Nat.beq pc 22 then some (.aload_n 0, 23, [], 0) else none) else (bif Nat.beq pc 23 then some (.getfield 11, 26, [256, 4, 2, 181], 0) else none)))))) else (bif Nat.ble pc 39 then (bif Nat.ble pc 29 then (bif Nat.ble pc 27 then (bif Nat.ble pc 26 then (bif Nat.beq pc 26 then some (.iload_n 2, 27, [], 0) else none) else (bif Nat.beq pc 27 then some (.aaload, 28, [], 0) else none)) else (bif Nat.ble pc 28 then (bif Nat.beq pc 28 then some (.aastore, 29, [], 0) else none) else (bif Nat.beq pc 29 then some (.iinc 2 1, 32, [], 0) else none))) else (bif Nat.ble pc 35 then (bif Nat.ble pc 32 then (bif Nat.beq pc 32 then some (.goto (-23), 35, [9], 0) else none) else (bif Nat.beq pc 35 then some (.aload_n 0, 36, [], 0) else none)) else (bif Nat.ble pc 36 then (bif Nat.beq pc 36 then some (.getfield 11, 39, [256, 4, 2, 181], 0) else none) else (bif Nat.beq pc 39 then some (.bipush 7, 41, [], 0) else none)))) else (bif Nat.ble pc 44 then (bif Nat.ble pc 42 then (bif Nat.ble pc 41 then (bif Nat.beq pc 41 then some (.aload_n 1, 42, [], 0) else none) else (bif Nat.beq pc 42 then some (.aastore, 43, [], 0) else none)) else (bif Nat.ble pc 43 then (bif Nat.beq pc 43 then some (.aload_n 0, 44, [], 0) else none) else (bif Nat.beq pc 44 then some (.dup, 45, [], 0) else none))) else (bif Nat.ble pc 48 then (bif Nat.ble pc 45 then (bif Nat.beq pc 45 then some (.getfield 18, 48, [257, 4, 0, 182], 0) else none) else (bif Nat.beq pc 48 then some (.iconst 1, 49, [], 0) else none)) else (bif Nat.ble pc 49 then (bif Nat.beq pc 49 then some (.isub, 50, [], 0) else none) else (bif Nat.ble pc 50 then (bif Nat.beq pc 50 then some (.putfield 18, 53, [257, 4, 0, 182], 0) else none) else (bif Nat.beq pc 53 then some (.return_, 54, [], 0) else none)))))))
set_option maxRecDepth 100000 in
theorem tk_Hist_forgetOldest {pc : Nat} {e : Ent} (h : code_Hist_forgetOldest pc = some e) : okE Hist_forgetOldest pc e := cutC_ok (by decide +kernel) h
set_option maxRecDepth 100000 in
theorem mk_Hist_forgetOldest : mOk Hist_forgetOldest := mOk_of (by decide +kernel)
def code_Ov_init : Nat → Option Ent := cutC 102 fun pc => (bif Nat.ble pc 48 then (bif Nat.ble pc 21 then (bif Nat.ble pc 10 then (bif Nat.ble pc 4 then (bif Nat.ble pc 0 then (bif Nat.beq pc 0 then some (.aload_n 0, 1, [], 0) else none) else (bif Nat.ble pc 1 then (bif Nat.beq pc 1 then some (.invokespecial 3, 4, [999, 284, 111, 112], 0) else none) else (bif Nat.beq pc 4 then some (.aload_n 0, 5, [], 0) else none))) else (bif Nat.ble pc 5 then (bif Nat.beq pc 5 then some (.bipush 36, 7, [], 0) else none) else (bif Nat.ble pc 7 then (bif Nat.beq pc 7 then some (.anewarray 9, 10, [16, 285, 286], 0) else none) else (bif Nat.beq pc 10 then some (.putfield 11, 13, [320, 5, 2, 326], 0) else none)))) else (bif Nat.ble pc 15 then (bif Nat.ble pc 13 then (bif Nat.beq pc 13 then some (.iconst 0, 14, [], 0) else none) else (bif Nat.ble pc 14 then (bif Nat.beq pc 14 then some (.istore_n 1, 15, [], 0) else none) else (bif Nat.beq pc 15 then some (.iload_n 1, 16, [], 0) else none))) else (bif Nat.ble pc 17 then (bif Nat.ble pc 16 then (bif Nat.beq pc 16 then some (.aload_n 0, 17, [], 0) else none) else (bif Nat.beq pc 17 then some (.getfield 11, 20, [320, 5, 2, 326], 0) else none)) else (bif Nat.ble pc 20 then (bif Nat.beq pc 20 then some (.arraylength, 21, [], 0) else none) else (bif Nat.beq pc 21 then some (.if_icmp .ge 22, 24, [43], 0) else none))))) else (bif Nat.ble pc 33 then (bif Nat.ble pc 28 then (bif Nat.ble pc 24 then (bif Nat.beq pc 24 then some (.aload_n 0, 25, [], 0) else none) else (bif Nat.ble pc 25 then (bif Nat.beq pc 25 then some (.getfield 11, 28, [320, 5, 2, 326], 0) else none) else (bif Nat.beq pc 28 then some (.iload_n 1, 29, [], 0) else none))) else (bif Nat.ble pc 29 then (bif Nat.beq pc 29 then some (.new 9, 32, [1, 6, 285], 0) else none) else (bif Nat.ble pc 32 then (bif Nat.beq pc 32 then some (.dup, 33, [], 0) else none) else (bif Nat.beq pc 33 then some (.invokespecial 17, 36, [0, 288], 0) else none)))) else (bif Nat.ble pc 40 then (bif Nat.ble pc 36 then (bif Nat.beq pc 36 then some (.aastore, 37, [], 0) else none) else (bif Nat.ble pc 37 then (bif Nat.beq pc 37 then some (.iinc 1 1, 40, [], 0) else none) else (bif Nat.beq pc 40 then some (.goto (-25), 43, [15], 0) else none))) else (bif Nat.ble pc 44 then (bif Nat.ble pc 43 then (bif Nat.beq pc 43 then some (.aload_n 0, 44, [], 0) else none) else (bif Nat.beq pc 44 then some (.new 18, 47, [3, 5, 324], 0) else none)) else (bif Nat.ble pc 47 then (bif Nat.beq pc 47 then some (.dup, 48, [], 0) else none) else (bif Nat.beq pc 48 then some (.invokespecial 20, 51, [13, 325], 0) else none)))))) else (bif Nat.ble pc 75 then (bif Nat.ble pc 62 then (bif Nat.ble pc 55 then (bif Nat.ble pc 51 then (bif Nat.beq pc 51 then some (.putfield 21, 54, [323, 5, 2, 329], 0) else none) else (bif Nat.ble pc 54 then (bif Nat.beq pc 54 then some (.aload_n 0, 55, [], 0) else none) else (bif Nat.beq pc 55 then some (.aload_n 0, 56, [], 0) else none))) else (bif Nat.ble pc 56 then (bif Nat.beq pc 56 then some (.getfield 21, 59, [323, 5, 2, 329], 0) else none) else (bif Nat.ble pc 59 then (bif Nat.beq pc 59 then some (.putfield 25, 62, [321, 5, 2, 327], 0) else none) else (bif Nat.beq pc 62 then some (.aload_n 0, 63, [], 0) else none)))) else (bif Nat.ble pc 67 then (bif Nat.ble pc 63 then (bif Nat.beq pc 63 then some (.aload_n 0, 64, [], 0) else none) else (bif Nat.ble pc 64 then (bif Nat.beq pc 64 then some (.getfield 21, 67, [323, 5, 2, 329], 0) else none) else (bif Nat.beq pc 67 then some (.putfield 28, 70, [322, 5, 2, 328], 0) else none))) else (bif Nat.ble pc 71 then (bif Nat.ble pc 70 then (bif Nat.beq pc 70 then some (.aload_n 0, 71, [], 0) else none) else (bif Nat.beq pc 71 then some (.bipush 10, 73, [], 0) else none)) else (bif Nat.ble pc 73 then (bif Nat.beq pc 73 then some (.newarray .int, 75, [13, 153], 0) else none) else (bif Nat.beq pc 75 then some (.putfield 31, 78, [324, 5, 2, 330], 0) else none))))) else (bif Nat.ble pc 88 then (bif Nat.ble pc 81 then (bif Nat.ble pc 78 then (bif Nat.beq pc 78 then some (.aload_n 0, 79, [], 0) else none) else (bif Nat.ble pc 79 then (bif Nat.beq pc 79 then some (.bipush 10, 81, [], 0) else none) else (bif Nat.beq pc 81 then some (.newarray .int, 83, [13, 153], 0) else none))) else (bif Nat.ble pc 86 then (bif Nat.ble pc 83 then (bif Nat.beq pc 83 then some (.putfield 35, 86, [325, 5, 2, 331], 0) else none) else (bif Nat.beq pc 86 then some (.aload_n 0, 87, [], 0) else none)) else (bif Nat.ble pc 87 then (bif Nat.beq pc 87 then some (.iconst 0, 88, [], 0) else none) else (bif Nat.beq pc 88 then some (.putfield 38, 91, [326, 5, 0, 332], 0) else none)))) else (bif Nat.ble pc 93 then (bif Nat.ble pc 91 then (bif Nat.beq pc 91 then some (.aload_n 0, 92, [], 0) else none) else (bif Nat.ble pc 92 then (bif Nat.beq pc 92 then some (.iconst 0, 93, [], 0) else none) else (bif Nat.beq pc 93 then some (.putfield 42, 96, [327, 5, 0, 333], 0) else none))) else (bif Nat.ble pc 97 then (bif Nat.ble pc 96 then (bif Nat.beq pc 96 then some (.aload_n 0, 97, [], 0) else none) else (bif Nat.beq pc 97 then some (.iconst 0, 98, [], 0) else none)) else (bif Nat.ble pc 98 then (bif Nat.beq pc 98 then some (.putfield 45, 101, [328, 5, 0, 335], 0) else none) else (bif Nat.beq pc 101 then some (.return_, 102, [], 0) else none)))))))
set_option maxRecDepth 100000 in
theorem tk_Ov_init {pc : Nat} {e : Ent} (h : code_Ov_init pc = some e) : okE Ov_init pc e := cutC_ok (by decide +kernel) h
set_option maxRecDepth 100000 in
theorem mk_Ov_init : mOk Ov_init := mOk_of (by decide +kernel)
def code_Ov_forgetAll : Nat → Option Ent := cutC 28 fun pc => (bif Nat.ble pc 11 then (bif Nat.ble pc 3 then (bif Nat.ble pc 1 then (bif Nat.ble pc 0 then (bif Nat.beq pc 0 then some (.iconst 0, 1, [], 0) else none) else (bif Nat.beq pc 1 then some (.istore_n 1, 2, [], 0) else none)) else (bif Nat.ble pc 2 then (bif Nat.beq pc 2 then some (.iload_n 1, 3, [], 0) else none) else (bif Nat.beq pc 3 then some (.aload_n 0, 4, [], 0) else none))) else (bif Nat.ble pc 7 then (bif Nat.ble pc 4 then (bif Nat.beq pc 4 then some (.getfield 11, 7, [320, 5, 2, 326], 0) else none) else (bif Nat.beq pc 7 then some (.arraylength, 8, [], 0) else none)) else (bif Nat.ble pc 8 then (bif Nat.beq pc 8 then some (.if_icmp .ge 19, 11, [27], 0) else none) else (bif Nat.beq pc 11 then some (.aload_n 0, 12, [], 0) else none)))) else (bif Nat.ble pc 17 then (bif Nat.ble pc 15 then (bif Nat.ble pc 12 then (bif Nat.beq pc 12 then some (.getfield 11, 15, [320, 5, 2, 326], 0) else none) else (bif Nat.beq pc 15 then some (.iload_n 1, 16, [], 0) else none)) else (bif Nat.ble pc 16 then (bif Nat.beq pc 16 then some (.aaload, 17, [], 0) else none) else (bif Nat.beq pc 17 then some (.iconst 0, 18, [], 0) else none))) else (bif Nat.ble pc 21 then (bif Nat.ble pc 18 then (bif Nat.beq pc 18 then some (.putfield 48, 21, [64, 1, 1, 297], 0) else none) else (bif Nat.beq pc 21 then some (.iinc 1 1, 24, [], 0) else none)) else (bif Nat.ble pc 24 then (bif Nat.beq pc 24 then some (.goto (-22), 27, [2], 0) else none) else (bif Nat.beq pc 27 then some (.return_, 28, [], 0) else none)))))
set_option maxRecDepth 100000 in
theorem tk_Ov_forgetAll {pc : Nat} {e : Ent} (h : code_Ov_forgetAll pc = some e) : okE Ov_forgetAll pc e := cutC_ok (by decide +kernel) h
set_option maxRecDepth 100000 in
theorem mk_Ov_forgetAll : mOk Ov_forgetAll := mOk_of (by decide +kernel)
def code_Ov_learnFrom : Nat → Option Ent := cutC 29 fun pc => (bif Nat.ble pc 11 then (bif Nat.ble pc 3 then (bif Nat.ble pc 1 then (bif Nat.ble pc 0 then (bif Nat.beq pc 0 then some (.iconst 0, 1, [], 0) else none) else (bif Nat.beq pc 1 then some (.istore_n 3, 2, [], 0) else none)) else (bif Nat.ble pc 2 then (bif Nat.beq pc 2 then some (.iload_n 3, 3, [], 0) else none) else (bif Nat.beq pc 3 then some (.aload_n 1, 4, [], 0) else none))) else (bif Nat.ble pc 7 then (bif Nat.ble pc 4 then (bif Nat.beq pc 4 then some (.getfield 52, 7, [129, 2, 0, 161], 0) else none) else (bif Nat.beq pc 7 then some (.if_icmp .ge 21, 10, [28], 0) else none)) else (bif Nat.ble pc 10 then (bif Nat.beq pc 10 then some (.iload_n 3, 11, [], 0) else none) else (bif Nat.beq pc 11 then some (.iload_n 2, 12, [], 0) else none)))) else (bif Nat.ble pc 17 then (bif Nat.ble pc 15 then (bif Nat.ble pc 12 then (bif Nat.beq pc 12 then some (.if_icmp .eq 10, 15, [22], 0) else none) else (bif Nat.beq pc 15 then some (.aload_n 0, 16, [], 0) else none)) else (bif Nat.ble pc 16 then (bif Nat.beq pc 16 then some (.aload_n 1, 17, [], 0) else none) else (bif Nat.beq pc 17 then some (.iload_n 2, 18, [], 0) else none))) else (bif Nat.ble pc 19 then (bif Nat.ble pc 18 then (bif Nat.beq pc 18 then some (.iload_n 3, 19, [], 0) else none) else (bif Nat.beq pc 19 then some (.invokevirtual 57, 22, [34, 453], 0) else none)) else (bif Nat.ble pc 22 then (bif Nat.beq pc 22 then some (.iinc 3 1, 25, [], 0) else none) else (bif Nat.ble pc 25 then (bif Nat.beq pc 25 then some (.goto (-23), 28, [2], 0) else none) else (bif Nat.beq pc 28 then some (.return_, 29, [], 0) else none))))))
set_option maxRecDepth 100000 in
theorem tk_Ov_learnFrom {pc : Nat} {e : Ent} (h : code_Ov_learnFrom pc = some e) : okE Ov_learnFrom pc e := cutC_ok (by decide +kernel) h
set_option maxRecDepth 100000 in
theorem mk_Ov_learnFrom : mOk Ov_learnFrom := mOk_of (by decide +kernel)
def code_Ov_learn : Nat → Option Ent := cutC 45 fun pc => (bif Nat.ble pc 21 then (bif Nat.ble pc 8 then (bif Nat.ble pc 2 then (bif Nat.ble pc 0 then (bif Nat.beq pc 0 then some (.aload_n 0, 1, [], 0) else none) else (bif Nat.ble pc 1 then (bif Nat.beq pc 1 then some (.iload_n 2, 2, [], 0) else none) else (bif Nat.beq pc 2 then some (.iload_n 3, 3, [], 0) else none))) else (bif Nat.ble pc 3 then (bif Nat.beq pc 3 then some (.invokevirtual 61, 6, [35, 457], 0) else none) else (bif Nat.ble pc 6 then (bif Nat.beq pc 6 then some (.astore 4, 8, [], 0) else none) else (bif Nat.beq pc 8 then some (.aload 4, 10, [], 0) else none)))) else (bif Nat.ble pc 16 then (bif Nat.ble pc 10 then (bif Nat.beq pc 10 then some (.getfield 48, 13, [64, 1, 1, 297], 0) else none) else (bif Nat.ble pc 13 then (bif Nat.beq pc 13 then some (.ifCond .ne 31, 16, [44], 0) else none) else (bif Nat.beq pc 16 then some (.aload_n 0, 17, [], 0) else none))) else (bif Nat.ble pc 17 then (bif Nat.beq pc 17 then some (.aload_n 1, 18, [], 0) else none) else (bif Nat.ble pc 18 then (bif Nat.beq pc 18 then some (.getfield 65, 21, [128, 2, 2, 156], 0) else none) else (bif Nat.beq pc 21 then some (.iload_n 2, 22, [], 0) else none))))) else (bif Nat.ble pc 29 then (bif Nat.ble pc 24 then (bif Nat.ble pc 22 then (bif Nat.beq pc 22 then some (.aaload, 23, [], 0) else none) else (bif Nat.ble pc 23 then (bif Nat.beq pc 23 then some (.aload_n 1, 24, [], 0) else none) else (bif Nat.beq pc 24 then some (.getfield 65, 27, [128, 2, 2, 156], 0) else none))) else (bif Nat.ble pc 27 then (bif Nat.beq pc 27 then some (.iload_n 3, 28, [], 0) else none) else (bif Nat.ble pc 28 then (bif Nat.beq pc 28 then some (.aaload, 29, [], 0) else none) else (bif Nat.beq pc 29 then some (.invokevirtual 69, 32, [36, 461], 0) else none)))) else (bif Nat.ble pc 35 then (bif Nat.ble pc 32 then (bif Nat.beq pc 32 then some (.aload_n 0, 33, [], 0) else none) else (bif Nat.ble pc 33 then (bif Nat.beq pc 33 then some (.aload 4, 35, [], 0) else none) else (bif Nat.beq pc 35 then some (.invokevirtual 73, 38, [37, 471], 0) else none))) else (bif Nat.ble pc 40 then (bif Nat.ble pc 38 then (bif Nat.beq pc 38 then some (.aload 4, 40, [], 0) else none) else (bif Nat.beq pc 40 then some (.iconst 1, 41, [], 0) else none)) else (bif Nat.ble pc 41 then (bif Nat.beq pc 41 then some (.putfield 48, 44, [64, 1, 1, 297], 0) else none) else (bif Nat.beq pc 44 then some (.return_, 45, [], 0) else none))))))
set_option maxRecDepth 100000 in
theorem tk_Ov_learn {pc : Nat} {e : Ent} (h : code_Ov_learn pc = some e) : okE Ov_learn pc e := cutC_ok (by decide +kernel) h
set_option maxRecDepth 100000 in
theorem mk_Ov_learn : mOk Ov_learn := mOk_of (by decide +kernel)
def code_Ov_bestOf : Nat → Option Ent := cutC 12 fun pc => (bif Nat.ble pc 5 then (bif Nat.ble pc 1 then (bif Nat.ble pc 0 then (bif Nat.beq pc 0 then some (.aload_n 0, 1, [], 0) else none) else (bif Nat.beq pc 1 then some (.getfield 11, 4, [320, 5, 2, 326], 0) else none)) else (bif Nat.ble pc 4 then (bif Nat.beq pc 4 then some (.iload_n 1, 5, [], 0) else none) else (bif Nat.beq pc 5 then some (.bipush 6, 7, [], 0) else none))) else (bif Nat.ble pc 8 then (bif Nat.ble pc 7 then (bif Nat.beq pc 7 then some (.imul, 8, [], 0) else none) else (bif Nat.beq pc 8 then some (.iload_n 2, 9, [], 0) else none)) else (bif Nat.ble pc 9 then (bif Nat.beq pc 9 then some (.iadd, 10, [], 0) else none) else (bif Nat.ble pc 10 then (bif Nat.beq pc 10 then some (.aaload, 11, [], 0) else none) else (bif Nat.beq pc 11 then some (.areturn, 12, [], 0) else none)))))
set_option maxRecDepth 100000 in
theorem tk_Ov_bestOf {pc : Nat} {e : Ent} (h : code_Ov_bestOf pc = some e) : okE Ov_bestOf pc e := cutC_ok (by decide +kernel) h
set_option maxRecDepth 100000 in
theorem mk_Ov_bestOf : mOk Ov_bestOf := mOk_of (by decide +kernel)
def code_Ov_take : Nat → Option Ent := cutC 79 fun pc => (bif Nat.ble pc 38 then (bif Nat.ble pc 17 then (bif Nat.ble pc 7 then (bif Nat.ble pc 2 then (bif Nat.ble pc 0 then (bif Nat.beq pc 0 then some (.aload_n 0, 1, [], 0) else none) else (bif Nat.ble pc 1 then (bif Nat.beq pc 1 then some (.aload_n 1, 2, [], 0) else none) else (bif Nat.beq pc 2 then some (.putfield 25, 5, [321, 5, 2, 327], 0) else none))) else (bif Nat.ble pc 5 then (bif Nat.beq pc 5 then some (.aload_n 0, 6, [], 0) else none) else (bif Nat.ble pc 6 then (bif Nat.beq pc 6 then some (.aload_n 2, 7, [], 0) else none) else (bif Nat.beq pc 7 then some (.putfield 28, 10, [322, 5, 2, 328], 0) else none)))) else (bif Nat.ble pc 12 then (bif Nat.ble pc 10 then (bif Nat.beq pc 10 then some (.aload_n 0, 11, [], 0) else none) else (bif Nat.ble pc 11 then (bif Nat.beq pc 11 then some (.iconst 0, 12, [], 0) else none) else (bif Nat.beq pc 12 then some (.putfield 38, 15, [326, 5, 0, 332], 0) else none))) else (bif Nat.ble pc 15 then (bif Nat.beq pc 15 then some (.iconst 0, 16, [], 0) else none) else (bif Nat.ble pc 16 then (bif Nat.beq pc 16 then some (.istore_n 3, 17, [], 0) else none) else (bif Nat.beq pc 17 then some (.iload_n 3, 18, [], 0) else none))))) else (bif Nat.ble pc 28 then (bif Nat.ble pc 23 then (bif Nat.ble pc 18 then (bif Nat.beq pc 18 then some (.bipush 10, 20, [], 0) else none) else (bif Nat.ble pc 20 then (bif Nat.beq pc 20 then some (.if_icmp .ge 58, 23, [78], 0) else none) else (bif Nat.beq pc 23 then some (.aload_n 0, 24, [], 0) else none))) else (bif Nat.ble pc 24 then (bif Nat.beq pc 24 then some (.getfield 31, 27, [324, 5, 2, 330], 0) else none) else (bif Nat.ble pc 27 then (bif Nat.beq pc 27 then some (.iload_n 3, 28, [], 0) else none) else (bif Nat.beq pc 28 then some (.aload_n 1, 29, [], 0) else none)))) else (bif Nat.ble pc 33 then (bif Nat.ble pc 29 then (bif Nat.beq pc 29 then some (.getfield 77, 32, [195, 3, 2, 139], 0) else none) else (bif Nat.ble pc 32 then (bif Nat.beq pc 32 then some (.iload_n 3, 33, [], 0) else none) else (bif Nat.beq pc 33 then some (.iaload, 34, [], 0) else none))) else (bif Nat.ble pc 34 then (bif Nat.beq pc 34 then some (.aload_n 1, 35, [], 0) else none) else (bif Nat.ble pc 35 then (bif Nat.beq pc 35 then some (.getfield 80, 38, [196, 3, 2, 141], 0) else none) else (bif Nat.beq pc 38 then some (.iload_n 3, 39, [], 0) else none)))))) else (bif Nat.ble pc 54 then (bif Nat.ble pc 44 then (bif Nat.ble pc 41 then (bif Nat.ble pc 39 then (bif Nat.beq pc 39 then some (.iaload, 40, [], 0) else none) else (bif Nat.ble pc 40 then (bif Nat.beq pc 40 then some (.iconst (-1), 41, [], 0) else none) else (bif Nat.beq pc 41 then some (.ixor, 42, [], 0) else none))) else (bif Nat.ble pc 42 then (bif Nat.beq pc 42 then some (.iand, 43, [], 0) else none) else (bif Nat.ble pc 43 then (bif Nat.beq pc 43 then some (.iastore, 44, [], 0) else none) else (bif Nat.beq pc 44 then some (.aload_n 0, 45, [], 0) else none)))) else (bif Nat.ble pc 49 then (bif Nat.ble pc 45 then (bif Nat.beq pc 45 then some (.dup, 46, [], 0) else none) else (bif Nat.ble pc 46 then (bif Nat.beq pc 46 then some (.getfield 38, 49, [326, 5, 0, 332], 0) else none) else (bif Nat.beq pc 49 then some (.aload_n 0, 50, [], 0) else none))) else (bif Nat.ble pc 50 then (bif Nat.beq pc 50 then some (.getfield 31, 53, [324, 5, 2, 330], 0) else none) else (bif Nat.ble pc 53 then (bif Nat.beq pc 53 then some (.iload_n 3, 54, [], 0) else none) else (bif Nat.beq pc 54 then some (.iaload, 55, [], 0) else none))))) else (bif Nat.ble pc 64 then (bif Nat.ble pc 59 then (bif Nat.ble pc 55 then (bif Nat.beq pc 55 then some (.invokestatic 83, 58, [205, 465], 0) else none) else (bif Nat.ble pc 58 then (bif Nat.beq pc 58 then some (.aload_n 2, 59, [], 0) else none) else (bif Nat.beq pc 59 then some (.getfield 77, 62, [195, 3, 2, 139], 0) else none))) else (bif Nat.ble pc 62 then (bif Nat.beq pc 62 then some (.iload_n 3, 63, [], 0) else none) else (bif Nat.ble pc 63 then (bif Nat.beq pc 63 then some (.iaload, 64, [], 0) else none) else (bif Nat.beq pc 64 then some (.invokestatic 83, 67, [205, 465], 0) else none)))) else (bif Nat.ble pc 69 then (bif Nat.ble pc 67 then (bif Nat.beq pc 67 then some (.iadd, 68, [], 0) else none) else (bif Nat.ble pc 68 then (bif Nat.beq pc 68 then some (.iadd, 69, [], 0) else none) else (bif Nat.beq pc 69 then some (.putfield 38, 72, [326, 5, 0, 332], 0) else none))) else (bif Nat.ble pc 72 then (bif Nat.beq pc 72 then some (.iinc 3 1, 75, [], 0) else none) else (bif Nat.ble pc 75 then (bif Nat.beq pc 75 then some (.goto (-58), 78, [17], 0) else none) else (bif Nat.beq pc 78 then some (.return_, 79, [], 0) else none)))))))
set_option maxRecDepth 100000 in
theorem tk_Ov_take {pc : Nat} {e : Ent} (h : code_Ov_take pc = some e) : okE Ov_take pc e := cutC_ok (by decide +kernel) h
set_option maxRecDepth 100000 in
theorem mk_Ov_take : mOk Ov_take := mOk_of (by decide +kernel)
def code_Ov_seek : Nat → Option Ent := cutC 176 fun pc => (bif Nat.ble pc 80 then (bif Nat.ble pc 38 then (bif Nat.ble pc 18 then (bif Nat.ble pc 6 then (bif Nat.ble pc 1 then (bif Nat.ble pc 0 then (bif Nat.beq pc 0 then some (.aload_n 1, 1, [], 0) else none) else (bif Nat.beq pc 1 then some (.iconst 1, 2, [], 0) else none)) else (bif Nat.ble pc 2 then (bif Nat.beq pc 2 then some (.aload_n 0, 3, [], 0) else none) else (bif Nat.ble pc 3 then (bif Nat.beq pc 3 then some (.getfield 28, 6, [322, 5, 2, 328], 0) else none) else (bif Nat.beq pc 6 then some (.getfield 108, 9, [193, 3, 0, 132], 0) else none)))) else (bif Nat.ble pc 11 then (bif Nat.ble pc 9 then (bif Nat.beq pc 9 then some (.isub, 10, [], 0) else none) else (bif Nat.ble pc 10 then (bif Nat.beq pc 10 then some (.iconst 1, 11, [], 0) else none) else (bif Nat.beq pc 11 then some (.aload_n 0, 12, [], 0) else none))) else (bif Nat.ble pc 12 then (bif Nat.beq pc 12 then some (.getfield 28, 15, [322, 5, 2, 328], 0) else none) else (bif Nat.ble pc 15 then (bif Nat.beq pc 15 then some (.getfield 93, 18, [194, 3, 0, 136], 0) else none) else (bif Nat.beq pc 18 then some (.isub, 19, [], 0) else none))))) else (bif Nat.ble pc 25 then (bif Nat.ble pc 22 then (bif Nat.ble pc 19 then (bif Nat.beq pc 19 then some (.invokevirtual 111, 22, [1, 475], 0) else none) else (bif Nat.beq pc 22 then some (.iconst 0, 23, [], 0) else none)) else (bif Nat.ble pc 23 then (bif Nat.beq pc 23 then some (.istore_n 2, 24, [], 0) else none) else (bif Nat.ble pc 24 then (bif Nat.beq pc 24 then some (.iload_n 2, 25, [], 0) else none) else (bif Nat.beq pc 25 then some (.bipush 8, 27, [], 0) else none)))) else (bif Nat.ble pc 31 then (bif Nat.ble pc 27 then (bif Nat.beq pc 27 then some (.if_icmp .ge 148, 30, [175], 0) else none) else (bif Nat.ble pc 30 then (bif Nat.beq pc 30 then some (.aload_n 1, 31, [], 0) else none) else (bif Nat.beq pc 31 then some (.invokevirtual 115, 34, [2, 476], 0) else none))) else (bif Nat.ble pc 34 then (bif Nat.beq pc 34 then some (.ifCond .ne 141, 37, [175], 0) else none) else (bif Nat.ble pc 37 then (bif Nat.beq pc 37 then some (.aload_n 0, 38, [], 0) else none) else (bif Nat.beq pc 38 then some (.iload_n 2, 39, [], 0) else none)))))) else (bif Nat.ble pc 57 then (bif Nat.ble pc 47 then (bif Nat.ble pc 42 then (bif Nat.ble pc 39 then (bif Nat.beq pc 39 then some (.invokevirtual 119, 42, [38, 480], 0) else none) else (bif Nat.beq pc 42 then some (.iconst 1, 43, [], 0) else none)) else (bif Nat.ble pc 43 then (bif Nat.beq pc 43 then some (.aload_n 0, 44, [], 0) else none) else (bif Nat.ble pc 44 then (bif Nat.beq pc 44 then some (.getfield 21, 47, [323, 5, 2, 329], 0) else none) else (bif Nat.beq pc 47 then some (.getfield 93, 50, [194, 3, 0, 136], 0) else none)))) else (bif Nat.ble pc 52 then (bif Nat.ble pc 50 then (bif Nat.beq pc 50 then some (.isub, 51, [], 0) else none) else (bif Nat.ble pc 51 then (bif Nat.beq pc 51 then some (.istore_n 3, 52, [], 0) else none) else (bif Nat.beq pc 52 then some (.iload_n 3, 53, [], 0) else none))) else (bif Nat.ble pc 53 then (bif Nat.beq pc 53 then some (.aload_n 0, 54, [], 0) else none) else (bif Nat.ble pc 54 then (bif Nat.beq pc 54 then some (.getfield 25, 57, [321, 5, 2, 327], 0) else none) else (bif Nat.beq pc 57 then some (.getfield 93, 60, [194, 3, 0, 136], 0) else none))))) else (bif Nat.ble pc 68 then (bif Nat.ble pc 63 then (bif Nat.ble pc 60 then (bif Nat.beq pc 60 then some (.if_icmp .ge 109, 63, [169], 0) else none) else (bif Nat.beq pc 63 then some (.iconst 1, 64, [], 0) else none)) else (bif Nat.ble pc 64 then (bif Nat.beq pc 64 then some (.aload_n 0, 65, [], 0) else none) else (bif Nat.ble pc 65 then (bif Nat.beq pc 65 then some (.getfield 21, 68, [323, 5, 2, 329], 0) else none) else (bif Nat.beq pc 68 then some (.getfield 108, 71, [193, 3, 0, 132], 0) else none)))) else (bif Nat.ble pc 74 then (bif Nat.ble pc 71 then (bif Nat.beq pc 71 then some (.isub, 72, [], 0) else none) else (bif Nat.ble pc 72 then (bif Nat.beq pc 72 then some (.istore 4, 74, [], 0) else none) else (bif Nat.beq pc 74 then some (.iload 4, 76, [], 0) else none))) else (bif Nat.ble pc 76 then (bif Nat.beq pc 76 then some (.aload_n 0, 77, [], 0) else none) else (bif Nat.ble pc 77 then (bif Nat.beq pc 77 then some (.getfield 25, 80, [321, 5, 2, 327], 0) else none) else (bif Nat.beq pc 80 then some (.getfield 108, 83, [193, 3, 0, 132], 0) else none))))))) else (bif Nat.ble pc 125 then (bif Nat.ble pc 102 then (bif Nat.ble pc 90 then (bif Nat.ble pc 86 then (bif Nat.ble pc 83 then (bif Nat.beq pc 83 then some (.if_icmp .ge 80, 86, [163], 0) else none) else (bif Nat.beq pc 86 then some (.aload_n 0, 87, [], 0) else none)) else (bif Nat.ble pc 87 then (bif Nat.beq pc 87 then some (.iload 4, 89, [], 0) else none) else (bif Nat.ble pc 89 then (bif Nat.beq pc 89 then some (.iload_n 3, 90, [], 0) else none) else (bif Nat.beq pc 90 then some (.invokevirtual 123, 93, [39, 515], 0) else none)))) else (bif Nat.ble pc 97 then (bif Nat.ble pc 93 then (bif Nat.beq pc 93 then some (.aload_n 0, 94, [], 0) else none) else (bif Nat.ble pc 94 then (bif Nat.beq pc 94 then some (.getfield 42, 97, [327, 5, 0, 333], 0) else none) else (bif Nat.beq pc 97 then some (.ifCond .le 60, 100, [157], 0) else none))) else (bif Nat.ble pc 100 then (bif Nat.beq pc 100 then some (.aload_n 1, 101, [], 0) else none) else (bif Nat.ble pc 101 then (bif Nat.beq pc 101 then some (.aload_n 0, 102, [], 0) else none) else (bif Nat.beq pc 102 then some (.getfield 42, 105, [327, 5, 0, 333], 0) else none))))) else (bif Nat.ble pc 113 then (bif Nat.ble pc 106 then (bif Nat.ble pc 105 then (bif Nat.beq pc 105 then some (.aload_n 0, 106, [], 0) else none) else (bif Nat.beq pc 106 then some (.getfield 42, 109, [327, 5, 0, 333], 0) else none)) else (bif Nat.ble pc 109 then (bif Nat.beq pc 109 then some (.aload_n 0, 110, [], 0) else none) else (bif Nat.ble pc 110 then (bif Nat.beq pc 110 then some (.getfield 45, 113, [328, 5, 0, 335], 0) else none) else (bif Nat.beq pc 113 then some (.iadd, 114, [], 0) else none)))) else (bif Nat.ble pc 120 then (bif Nat.ble pc 114 then (bif Nat.beq pc 114 then some (.invokevirtual 126, 117, [3, 524], 0) else none) else (bif Nat.ble pc 117 then (bif Nat.beq pc 117 then some (.ifCond .eq 40, 120, [157], 0) else none) else (bif Nat.beq pc 120 then some (.aload_n 1, 121, [], 0) else none))) else (bif Nat.ble pc 121 then (bif Nat.beq pc 121 then some (.aload_n 0, 122, [], 0) else none) else (bif Nat.ble pc 122 then (bif Nat.beq pc 122 then some (.getfield 42, 125, [327, 5, 0, 333], 0) else none) else (bif Nat.beq pc 125 then some (.putfield 130, 128, [65, 1, 0, 299], 0) else none)))))) else (bif Nat.ble pc 146 then (bif Nat.ble pc 134 then (bif Nat.ble pc 129 then (bif Nat.ble pc 128 then (bif Nat.beq pc 128 then some (.aload_n 1, 129, [], 0) else none) else (bif Nat.beq pc 129 then some (.aload_n 0, 130, [], 0) else none)) else (bif Nat.ble pc 130 then (bif Nat.beq pc 130 then some (.getfield 42, 133, [327, 5, 0, 333], 0) else none) else (bif Nat.ble pc 133 then (bif Nat.beq pc 133 then some (.aload_n 0, 134, [], 0) else none) else (bif Nat.beq pc 134 then some (.getfield 45, 137, [328, 5, 0, 335], 0) else none)))) else (bif Nat.ble pc 141 then (bif Nat.ble pc 137 then (bif Nat.beq pc 137 then some (.iadd, 138, [], 0) else none) else (bif Nat.ble pc 138 then (bif Nat.beq pc 138 then some (.putfield 131, 141, [66, 1, 0, 301], 0) else none) else (bif Nat.beq pc 141 then some (.aload_n 1, 142, [], 0) else none))) else (bif Nat.ble pc 142 then (bif Nat.beq pc 142 then some (.iload_n 2, 143, [], 0) else none) else (bif Nat.ble pc 143 then (bif Nat.beq pc 143 then some (.putfield 134, 146, [67, 1, 0, 303], 0) else none) else (bif Nat.beq pc 146 then some (.aload_n 1, 147, [], 0) else none))))) else (bif Nat.ble pc 157 then (bif Nat.ble pc 152 then (bif Nat.ble pc 147 then (bif Nat.beq pc 147 then some (.iload 4, 149, [], 0) else none) else (bif Nat.ble pc 149 then (bif Nat.beq pc 149 then some (.putfield 137, 152, [68, 1, 0, 306], 0) else none) else (bif Nat.beq pc 152 then some (.aload_n 1, 153, [], 0) else none))) else (bif Nat.ble pc 153 then (bif Nat.beq pc 153 then some (.iload_n 3, 154, [], 0) else none) else (bif Nat.ble pc 154 then (bif Nat.beq pc 154 then some (.putfield 140, 157, [69, 1, 0, 309], 0) else none) else (bif Nat.beq pc 157 then some (.iinc 4 1, 160, [], 0) else none)))) else (bif Nat.ble pc 166 then (bif Nat.ble pc 160 then (bif Nat.beq pc 160 then some (.goto (-86), 163, [74], 0) else none) else (bif Nat.ble pc 163 then (bif Nat.beq pc 163 then some (.iinc 3 1, 166, [], 0) else none) else (bif Nat.beq pc 166 then some (.goto (-114), 169, [52], 0) else none))) else (bif Nat.ble pc 169 then (bif Nat.beq pc 169 then some (.iinc 2 1, 172, [], 0) else none) else (bif Nat.ble pc 172 then (bif Nat.beq pc 172 then some (.goto (-148), 175, [24], 0) else none) else (bif Nat.beq pc 175 then some (.return_, 176, [], 0) else none))))))))
set_option maxRecDepth 100000 in
theorem tk_Ov_seek {pc : Nat} {e : Ent} (h : code_Ov_seek pc = some e) : okE Ov_seek pc e := cutC_ok (by decide +kernel) h
set_option maxRecDepth 100000 in
theorem mk_Ov_seek : mOk Ov_seek := mOk_of (by decide +kernel)
def code_Ov_turnTo : Nat → Option Ent := cutC 54 fun pc => (bif Nat.ble pc 25 then (bif Nat.ble pc 12 then (bif Nat.ble pc 4 then (bif Nat.ble pc 0 then (bif Nat.beq pc 0 then some (.aload_n 0, 1, [], 0) else none) else (bif Nat.ble pc 1 then (bif Nat.beq pc 1 then some (.getfield 21, 4, [323, 5, 2, 329], 0) else none) else (bif Nat.beq pc 4 then some (.aload_n 0, 5, [], 0) else none))) else (bif Nat.ble pc 8 then (bif Nat.ble pc 5 then (bif Nat.beq pc 5 then some (.getfield 28, 8, [322, 5, 2, 328], 0) else none) else (bif Nat.beq pc 8 then some (.iload_n 1, 9, [], 0) else none)) else (bif Nat.ble pc 9 then (bif Nat.beq pc 9 then some (.invokevirtual 89, 12, [14, 484], 0) else none) else (bif Nat.beq pc 12 then some (.iconst 0, 13, [], 0) else none)))) else (bif Nat.ble pc 17 then (bif Nat.ble pc 14 then (bif Nat.ble pc 13 then (bif Nat.beq pc 13 then some (.istore_n 2, 14, [], 0) else none) else (bif Nat.beq pc 14 then some (.iload_n 2, 15, [], 0) else none)) else (bif Nat.ble pc 15 then (bif Nat.beq pc 15 then some (.bipush 10, 17, [], 0) else none) else (bif Nat.beq pc 17 then some (.if_icmp .ge 36, 20, [53], 0) else none))) else (bif Nat.ble pc 21 then (bif Nat.ble pc 20 then (bif Nat.beq pc 20 then some (.aload_n 0, 21, [], 0) else none) else (bif Nat.beq pc 21 then some (.getfield 35, 24, [325, 5, 2, 331], 0) else none)) else (bif Nat.ble pc 24 then (bif Nat.beq pc 24 then some (.iload_n 2, 25, [], 0) else none) else (bif Nat.beq pc 25 then some (.aload_n 0, 26, [], 0) else none))))) else (bif Nat.ble pc 41 then (bif Nat.ble pc 33 then (bif Nat.ble pc 29 then (bif Nat.ble pc 26 then (bif Nat.beq pc 26 then some (.getfield 21, 29, [323, 5, 2, 329], 0) else none) else (bif Nat.beq pc 29 then some (.getfield 80, 32, [196, 3, 2, 141], 0) else none)) else (bif Nat.ble pc 32 then (bif Nat.beq pc 32 then some (.iload_n 2, 33, [], 0) else none) else (bif Nat.beq pc 33 then some (.iaload, 34, [], 0) else none))) else (bif Nat.ble pc 35 then (bif Nat.ble pc 34 then (bif Nat.beq pc 34 then some (.aload_n 0, 35, [], 0) else none) else (bif Nat.beq pc 35 then some (.getfield 21, 38, [323, 5, 2, 329], 0) else none)) else (bif Nat.ble pc 38 then (bif Nat.beq pc 38 then some (.getfield 77, 41, [195, 3, 2, 139], 0) else none) else (bif Nat.beq pc 41 then some (.iload_n 2, 42, [], 0) else none)))) else (bif Nat.ble pc 45 then (bif Nat.ble pc 43 then (bif Nat.ble pc 42 then (bif Nat.beq pc 42 then some (.iaload, 43, [], 0) else none) else (bif Nat.beq pc 43 then some (.iconst (-1), 44, [], 0) else none)) else (bif Nat.ble pc 44 then (bif Nat.beq pc 44 then some (.ixor, 45, [], 0) else none) else (bif Nat.beq pc 45 then some (.iand, 46, [], 0) else none))) else (bif Nat.ble pc 47 then (bif Nat.ble pc 46 then (bif Nat.beq pc 46 then some (.iastore, 47, [], 0) else none) else (bif Nat.beq pc 47 then some (.iinc 2 1, 50, [], 0) else none)) else (bif Nat.ble pc 50 then (bif Nat.beq pc 50 then some (.goto (-36), 53, [14], 0) else none) else (bif Nat.beq pc 53 then some (.return_, 54, [], 0) else none))))))
set_option maxRecDepth 100000 in
theorem tk_Ov_turnTo {pc : Nat} {e : Ent} (h : code_Ov_turnTo pc = some e) : okE Ov_turnTo pc e := cutC_ok (by decide +kernel) h
set_option maxRecDepth 100000 in
theorem mk_Ov_turnTo : mOk Ov_turnTo := mOk_of (by decide +kernel)
def code_Ov_lay : Nat → Option Ent := cutC 148 fun pc => (bif Nat.ble pc 74 then (bif Nat.ble pc 37 then (bif Nat.ble pc 16 then (bif Nat.ble pc 5 then (bif Nat.ble pc 1 then (bif Nat.ble pc 0 then (bif Nat.beq pc 0 then some (.iconst 0, 1, [], 0) else none) else (bif Nat.beq pc 1 then some (.istore_n 3, 2, [], 0) else none)) else (bif Nat.ble pc 2 then (bif Nat.beq pc 2 then some (.iconst 0, 3, [], 0) else none) else (bif Nat.ble pc 3 then (bif Nat.beq pc 3 then some (.istore 4, 5, [], 0) else none) else (bif Nat.beq pc 5 then some (.aload_n 0, 6, [], 0) else none)))) else (bif Nat.ble pc 9 then (bif Nat.ble pc 6 then (bif Nat.beq pc 6 then some (.getfield 25, 9, [321, 5, 2, 327], 0) else none) else (bif Nat.beq pc 9 then some (.getfield 93, 12, [194, 3, 0, 136], 0) else none)) else (bif Nat.ble pc 12 then (bif Nat.beq pc 12 then some (.aload_n 0, 13, [], 0) else none) else (bif Nat.ble pc 13 then (bif Nat.beq pc 13 then some (.getfield 21, 16, [323, 5, 2, 329], 0) else none) else (bif Nat.beq pc 16 then some (.getfield 93, 19, [194, 3, 0, 136], 0) else none))))) else (bif Nat.ble pc 26 then (bif Nat.ble pc 20 then (bif Nat.ble pc 19 then (bif Nat.beq pc 19 then some (.iload_n 2, 20, [], 0) else none) else (bif Nat.beq pc 20 then some (.iadd, 21, [], 0) else none)) else (bif Nat.ble pc 21 then (bif Nat.beq pc 21 then some (.invokestatic 96, 24, [203, 519], 0) else none) else (bif Nat.ble pc 24 then (bif Nat.beq pc 24 then some (.istore 5, 26, [], 0) else none) else (bif Nat.beq pc 26 then some (.iconst 0, 27, [], 0) else none)))) else (bif Nat.ble pc 31 then (bif Nat.ble pc 27 then (bif Nat.beq pc 27 then some (.iload_n 2, 28, [], 0) else none) else (bif Nat.ble pc 28 then (bif Nat.beq pc 28 then some (.invokestatic 102, 31, [204, 520], 0) else none) else (bif Nat.beq pc 31 then some (.istore 6, 33, [], 0) else none))) else (bif Nat.ble pc 33 then (bif Nat.beq pc 33 then some (.iload 6, 35, [], 0) else none) else (bif Nat.ble pc 35 then (bif Nat.beq pc 35 then some (.iload 5, 37, [], 0) else none) else (bif Nat.beq pc 37 then some (.if_icmp .ge 90, 40, [127], 0) else none)))))) else (bif Nat.ble pc 56 then (bif Nat.ble pc 49 then (bif Nat.ble pc 41 then (bif Nat.ble pc 40 then (bif Nat.beq pc 40 then some (.aload_n 0, 41, [], 0) else none) else (bif Nat.beq pc 41 then some (.getfield 21, 44, [323, 5, 2, 329], 0) else none)) else (bif Nat.ble pc 44 then (bif Nat.beq pc 44 then some (.getfield 77, 47, [195, 3, 2, 139], 0) else none) else (bif Nat.ble pc 47 then (bif Nat.beq pc 47 then some (.iload 6, 49, [], 0) else none) else (bif Nat.beq pc 49 then some (.iload_n 2, 50, [], 0) else none)))) else (bif Nat.ble pc 51 then (bif Nat.ble pc 50 then (bif Nat.beq pc 50 then some (.isub, 51, [], 0) else none) else (bif Nat.beq pc 51 then some (.iaload, 52, [], 0) else none)) else (bif Nat.ble pc 52 then (bif Nat.beq pc 52 then some (.iload_n 1, 53, [], 0) else none) else (bif Nat.ble pc 53 then (bif Nat.beq pc 53 then some (.invokestatic 105, 56, [40, 521], 0) else none) else (bif Nat.beq pc 56 then some (.istore 7, 58, [], 0) else none))))) else (bif Nat.ble pc 65 then (bif Nat.ble pc 59 then (bif Nat.ble pc 58 then (bif Nat.beq pc 58 then some (.iload_n 3, 59, [], 0) else none) else (bif Nat.beq pc 59 then some (.aload_n 0, 60, [], 0) else none)) else (bif Nat.ble pc 60 then (bif Nat.beq pc 60 then some (.getfield 31, 63, [324, 5, 2, 330], 0) else none) else (bif Nat.ble pc 63 then (bif Nat.beq pc 63 then some (.iload 6, 65, [], 0) else none) else (bif Nat.beq pc 65 then some (.iaload, 66, [], 0) else none)))) else (bif Nat.ble pc 69 then (bif Nat.ble pc 66 then (bif Nat.beq pc 66 then some (.iload 7, 68, [], 0) else none) else (bif Nat.ble pc 68 then (bif Nat.beq pc 68 then some (.iand, 69, [], 0) else none) else (bif Nat.beq pc 69 then some (.invokestatic 83, 72, [205, 465], 0) else none))) else (bif Nat.ble pc 72 then (bif Nat.beq pc 72 then some (.iadd, 73, [], 0) else none) else (bif Nat.ble pc 73 then (bif Nat.beq pc 73 then some (.istore_n 3, 74, [], 0) else none) else (bif Nat.beq pc 74 then some (.aload_n 0, 75, [], 0) else none))))))) else (bif Nat.ble pc 111 then (bif Nat.ble pc 91 then (bif Nat.ble pc 82 then (bif Nat.ble pc 78 then (bif Nat.ble pc 75 then (bif Nat.beq pc 75 then some (.getfield 35, 78, [325, 5, 2, 331], 0) else none) else (bif Nat.beq pc 78 then some (.iload 6, 80, [], 0) else none)) else (bif Nat.ble pc 80 then (bif Nat.beq pc 80 then some (.iload_n 2, 81, [], 0) else none) else (bif Nat.ble pc 81 then (bif Nat.beq pc 81 then some (.isub, 82, [], 0) else none) else (bif Nat.beq pc 82 then some (.iaload, 83, [], 0) else none)))) else (bif Nat.ble pc 84 then (bif Nat.ble pc 83 then (bif Nat.beq pc 83 then some (.iload_n 1, 84, [], 0) else none) else (bif Nat.beq pc 84 then some (.invokestatic 105, 87, [40, 521], 0) else none)) else (bif Nat.ble pc 87 then (bif Nat.beq pc 87 then some (.istore 8, 89, [], 0) else none) else (bif Nat.ble pc 89 then (bif Nat.beq pc 89 then some (.iload 4, 91, [], 0) else none) else (bif Nat.beq pc 91 then some (.aload_n 0, 92, [], 0) else none))))) else (bif Nat.ble pc 100 then (bif Nat.ble pc 95 then (bif Nat.ble pc 92 then (bif Nat.beq pc 92 then some (.getfield 31, 95, [324, 5, 2, 330], 0) else none) else (bif Nat.beq pc 95 then some (.iload 6, 97, [], 0) else none)) else (bif Nat.ble pc 97 then (bif Nat.beq pc 97 then some (.iaload, 98, [], 0) else none) else (bif Nat.ble pc 98 then (bif Nat.beq pc 98 then some (.iload 8, 100, [], 0) else none) else (bif Nat.beq pc 100 then some (.iand, 101, [], 0) else none)))) else (bif Nat.ble pc 105 then (bif Nat.ble pc 101 then (bif Nat.beq pc 101 then some (.aload_n 0, 102, [], 0) else none) else (bif Nat.ble pc 102 then (bif Nat.beq pc 102 then some (.getfield 25, 105, [321, 5, 2, 327], 0) else none) else (bif Nat.beq pc 105 then some (.getfield 80, 108, [196, 3, 2, 141], 0) else none))) else (bif Nat.ble pc 108 then (bif Nat.beq pc 108 then some (.iload 6, 110, [], 0) else none) else (bif Nat.ble pc 110 then (bif Nat.beq pc 110 then some (.iaload, 111, [], 0) else none) else (bif Nat.beq pc 111 then some (.iload 7, 113, [], 0) else none)))))) else (bif Nat.ble pc 129 then (bif Nat.ble pc 119 then (bif Nat.ble pc 114 then (bif Nat.ble pc 113 then (bif Nat.beq pc 113 then some (.iand, 114, [], 0) else none) else (bif Nat.beq pc 114 then some (.ior, 115, [], 0) else none)) else (bif Nat.ble pc 115 then (bif Nat.beq pc 115 then some (.invokestatic 83, 118, [205, 465], 0) else none) else (bif Nat.ble pc 118 then (bif Nat.beq pc 118 then some (.iadd, 119, [], 0) else none) else (bif Nat.beq pc 119 then some (.istore 4, 121, [], 0) else none)))) else (bif Nat.ble pc 124 then (bif Nat.ble pc 121 then (bif Nat.beq pc 121 then some (.iinc 6 1, 124, [], 0) else none) else (bif Nat.beq pc 124 then some (.goto (-91), 127, [33], 0) else none)) else (bif Nat.ble pc 127 then (bif Nat.beq pc 127 then some (.aload_n 0, 128, [], 0) else none) else (bif Nat.ble pc 128 then (bif Nat.beq pc 128 then some (.iload_n 3, 129, [], 0) else none) else (bif Nat.beq pc 129 then some (.putfield 42, 132, [327, 5, 0, 333], 0) else none))))) else (bif Nat.ble pc 138 then (bif Nat.ble pc 133 then (bif Nat.ble pc 132 then (bif Nat.beq pc 132 then some (.aload_n 0, 133, [], 0) else none) else (bif Nat.beq pc 133 then some (.aload_n 0, 134, [], 0) else none)) else (bif Nat.ble pc 134 then (bif Nat.beq pc 134 then some (.getfield 38, 137, [326, 5, 0, 332], 0) else none) else (bif Nat.ble pc 137 then (bif Nat.beq pc 137 then some (.iconst 2, 138, [], 0) else none) else (bif Nat.beq pc 138 then some (.iload_n 3, 139, [], 0) else none)))) else (bif Nat.ble pc 141 then (bif Nat.ble pc 139 then (bif Nat.beq pc 139 then some (.imul, 140, [], 0) else none) else (bif Nat.ble pc 140 then (bif Nat.beq pc 140 then some (.isub, 141, [], 0) else none) else (bif Nat.beq pc 141 then some (.iload 4, 143, [], 0) else none))) else (bif Nat.ble pc 143 then (bif Nat.beq pc 143 then some (.isub, 144, [], 0) else none) else (bif Nat.ble pc 144 then (bif Nat.beq pc 144 then some (.putfield 45, 147, [328, 5, 0, 335], 0) else none) else (bif Nat.beq pc 147 then some (.return_, 148, [], 0) else none))))))))
set_option maxRecDepth 100000 in
theorem tk_Ov_lay {pc : Nat} {e : Ent} (h : code_Ov_lay pc = some e) : okE Ov_lay pc e := cutC_ok (by decide +kernel) h
set_option maxRecDepth 100000 in
theorem mk_Ov_lay : mOk Ov_lay := mOk_of (by decide +kernel)
def code_Ov_shifted : Nat → Option Ent := cutC 15 fun pc => (bif Nat.ble pc 6 then (bif Nat.ble pc 1 then (bif Nat.ble pc 0 then (bif Nat.beq pc 0 then some (.iload_n 1, 1, [], 0) else none) else (bif Nat.beq pc 1 then some (.ifCond .lt 9, 4, [10], 0) else none)) else (bif Nat.ble pc 4 then (bif Nat.beq pc 4 then some (.iload_n 0, 5, [], 0) else none) else (bif Nat.ble pc 5 then (bif Nat.beq pc 5 then some (.iload_n 1, 6, [], 0) else none) else (bif Nat.beq pc 6 then some (.ishl, 7, [], 0) else none)))) else (bif Nat.ble pc 11 then (bif Nat.ble pc 7 then (bif Nat.beq pc 7 then some (.goto 7, 10, [14], 0) else none) else (bif Nat.ble pc 10 then (bif Nat.beq pc 10 then some (.iload_n 0, 11, [], 0) else none) else (bif Nat.beq pc 11 then some (.iload_n 1, 12, [], 0) else none))) else (bif Nat.ble pc 12 then (bif Nat.beq pc 12 then some (.ineg, 13, [], 0) else none) else (bif Nat.ble pc 13 then (bif Nat.beq pc 13 then some (.ishr, 14, [], 0) else none) else (bif Nat.beq pc 14 then some (.ireturn, 15, [0], 0) else none)))))
set_option maxRecDepth 100000 in
theorem tk_Ov_shifted {pc : Nat} {e : Ent} (h : code_Ov_shifted pc = some e) : okE Ov_shifted pc e := cutC_ok (by decide +kernel) h
set_option maxRecDepth 100000 in
theorem mk_Ov_shifted : mOk Ov_shifted := mOk_of (by decide +kernel)
def code_Ov_forget : Nat → Option Ent := cutC 44 fun pc => (bif Nat.ble pc 19 then (bif Nat.ble pc 7 then (bif Nat.ble pc 2 then (bif Nat.ble pc 0 then (bif Nat.beq pc 0 then some (.iconst 0, 1, [], 0) else none) else (bif Nat.ble pc 1 then (bif Nat.beq pc 1 then some (.istore_n 2, 2, [], 0) else none) else (bif Nat.beq pc 2 then some (.iload_n 2, 3, [], 0) else none))) else (bif Nat.ble pc 3 then (bif Nat.beq pc 3 then some (.aload_n 0, 4, [], 0) else none) else (bif Nat.ble pc 4 then (bif Nat.beq pc 4 then some (.getfield 11, 7, [320, 5, 2, 326], 0) else none) else (bif Nat.beq pc 7 then some (.arraylength, 8, [], 0) else none)))) else (bif Nat.ble pc 12 then (bif Nat.ble pc 8 then (bif Nat.beq pc 8 then some (.if_icmp .ge 35, 11, [43], 0) else none) else (bif Nat.ble pc 11 then (bif Nat.beq pc 11 then some (.iload_n 2, 12, [], 0) else none) else (bif Nat.beq pc 12 then some (.bipush 6, 14, [], 0) else none))) else (bif Nat.ble pc 15 then (bif Nat.ble pc 14 then (bif Nat.beq pc 14 then some (.idiv, 15, [], 0) else none) else (bif Nat.beq pc 15 then some (.iload_n 1, 16, [], 0) else none)) else (bif Nat.ble pc 16 then (bif Nat.beq pc 16 then some (.if_icmp .eq 11, 19, [27], 0) else none) else (bif Nat.beq pc 19 then some (.iload_n 2, 20, [], 0) else none))))) else (bif Nat.ble pc 28 then (bif Nat.ble pc 23 then (bif Nat.ble pc 20 then (bif Nat.beq pc 20 then some (.bipush 6, 22, [], 0) else none) else (bif Nat.ble pc 22 then (bif Nat.beq pc 22 then some (.irem, 23, [], 0) else none) else (bif Nat.beq pc 23 then some (.iload_n 1, 24, [], 0) else none))) else (bif Nat.ble pc 24 then (bif Nat.beq pc 24 then some (.if_icmp .ne 13, 27, [37], 0) else none) else (bif Nat.ble pc 27 then (bif Nat.beq pc 27 then some (.aload_n 0, 28, [], 0) else none) else (bif Nat.beq pc 28 then some (.getfield 11, 31, [320, 5, 2, 326], 0) else none)))) else (bif Nat.ble pc 33 then (bif Nat.ble pc 31 then (bif Nat.beq pc 31 then some (.iload_n 2, 32, [], 0) else none) else (bif Nat.ble pc 32 then (bif Nat.beq pc 32 then some (.aaload, 33, [], 0) else none) else (bif Nat.beq pc 33 then some (.iconst 0, 34, [], 0) else none))) else (bif Nat.ble pc 37 then (bif Nat.ble pc 34 then (bif Nat.beq pc 34 then some (.putfield 48, 37, [64, 1, 1, 297], 0) else none) else (bif Nat.beq pc 37 then some (.iinc 2 1, 40, [], 0) else none)) else (bif Nat.ble pc 40 then (bif Nat.beq pc 40 then some (.goto (-38), 43, [2], 0) else none) else (bif Nat.beq pc 43 then some (.return_, 44, [], 0) else none))))))
set_option maxRecDepth 100000 in
theorem tk_Ov_forget {pc : Nat} {e : Ent} (h : code_Ov_forget pc = some e) : okE Ov_forget pc e := cutC_ok (by decide +kernel) h
set_option maxRecDepth 100000 in
theorem mk_Ov_forget : mOk Ov_forget := mOk_of (by decide +kernel)
def code_Rule_holds : Nat → Option Ent := cutC 130 fun pc => (bif Nat.ble pc 69 then (bif Nat.ble pc 33 then (bif Nat.ble pc 15 then (bif Nat.ble pc 5 then (bif Nat.ble pc 1 then (bif Nat.ble pc 0 then (bif Nat.beq pc 0 then some (.iconst 0, 1, [], 0) else none) else (bif Nat.beq pc 1 then some (.istore_n 3, 2, [], 0) else none)) else (bif Nat.ble pc 2 then (bif Nat.beq pc 2 then some (.iconst 0, 3, [], 0) else none) else (bif Nat.ble pc 3 then (bif Nat.beq pc 3 then some (.istore 4, 5, [], 0) else none) else (bif Nat.beq pc 5 then some (.iload 4, 7, [], 0) else none)))) else (bif Nat.ble pc 8 then (bif Nat.ble pc 7 then (bif Nat.beq pc 7 then some (.aload_n 0, 8, [], 0) else none) else (bif Nat.beq pc 8 then some (.getfield 9, 11, [384, 6, 2, 855], 0) else none)) else (bif Nat.ble pc 11 then (bif Nat.beq pc 11 then some (.arraylength, 12, [], 0) else none) else (bif Nat.ble pc 12 then (bif Nat.beq pc 12 then some (.if_icmp .ge 99, 15, [111], 0) else none) else (bif Nat.beq pc 15 then some (.aload_n 0, 16, [], 0) else none))))) else (bif Nat.ble pc 24 then (bif Nat.ble pc 19 then (bif Nat.ble pc 16 then (bif Nat.beq pc 16 then some (.getfield 9, 19, [384, 6, 2, 855], 0) else none) else (bif Nat.beq pc 19 then some (.iload 4, 21, [], 0) else none)) else (bif Nat.ble pc 21 then (bif Nat.beq pc 21 then some (.iaload, 22, [], 0) else none) else (bif Nat.ble pc 22 then (bif Nat.beq pc 22 then some (.istore 5, 24, [], 0) else none) else (bif Nat.beq pc 24 then some (.iload 5, 26, [], 0) else none)))) else (bif Nat.ble pc 28 then (bif Nat.ble pc 26 then (bif Nat.beq pc 26 then some (.bipush (-10), 28, [], 0) else none) else (bif Nat.beq pc 28 then some (.if_icmp .le 24, 31, [52], 0) else none)) else (bif Nat.ble pc 31 then (bif Nat.beq pc 31 then some (.iload_n 3, 32, [], 0) else none) else (bif Nat.ble pc 32 then (bif Nat.beq pc 32 then some (.aload_n 2, 33, [], 0) else none) else (bif Nat.beq pc 33 then some (.arraylength, 34, [], 0) else none)))))) else (bif Nat.ble pc 52 then (bif Nat.ble pc 41 then (bif Nat.ble pc 37 then (bif Nat.ble pc 34 then (bif Nat.beq pc 34 then some (.if_icmp .ge 71, 37, [105], 0) else none) else (bif Nat.beq pc 37 then some (.aload_n 2, 38, [], 0) else none)) else (bif Nat.ble pc 38 then (bif Nat.beq pc 38 then some (.iload_n 3, 39, [], 0) else none) else (bif Nat.ble pc 39 then (bif Nat.beq pc 39 then some (.iload 5, 41, [], 0) else none) else (bif Nat.beq pc 41 then some (.aload_n 1, 42, [], 0) else none)))) else (bif Nat.ble pc 45 then (bif Nat.ble pc 42 then (bif Nat.beq pc 42 then some (.invokestatic 15, 45, [43, 567], 0) else none) else (bif Nat.beq pc 45 then some (.lastore, 46, [], 0) else none)) else (bif Nat.ble pc 46 then (bif Nat.beq pc 46 then some (.iinc 3 1, 49, [], 0) else none) else (bif Nat.ble pc 49 then (bif Nat.beq pc 49 then some (.goto 56, 52, [105], 0) else none) else (bif Nat.beq pc 52 then some (.iload 5, 54, [], 0) else none))))) else (bif Nat.ble pc 61 then (bif Nat.ble pc 56 then (bif Nat.ble pc 54 then (bif Nat.beq pc 54 then some (.bipush (-13), 56, [], 0) else none) else (bif Nat.beq pc 56 then some (.if_icmp .ne 23, 59, [79], 0) else none)) else (bif Nat.ble pc 59 then (bif Nat.beq pc 59 then some (.iload_n 3, 60, [], 0) else none) else (bif Nat.ble pc 60 then (bif Nat.beq pc 60 then some (.iconst 1, 61, [], 0) else none) else (bif Nat.beq pc 61 then some (.if_icmp .lt 44, 64, [105], 0) else none)))) else (bif Nat.ble pc 66 then (bif Nat.ble pc 64 then (bif Nat.beq pc 64 then some (.aload_n 2, 65, [], 0) else none) else (bif Nat.ble pc 65 then (bif Nat.beq pc 65 then some (.iload_n 3, 66, [], 0) else none) else (bif Nat.beq pc 66 then some (.iconst 1, 67, [], 0) else none))) else (bif Nat.ble pc 67 then (bif Nat.beq pc 67 then some (.isub, 68, [], 0) else none) else (bif Nat.ble pc 68 then (bif Nat.beq pc 68 then some (.lconst 1, 69, [], 0) else none) else (bif Nat.beq pc 69 then some (.aload_n 2, 70, [], 0) else none))))))) else (bif Nat.ble pc 96 then (bif Nat.ble pc 81 then (bif Nat.ble pc 74 then (bif Nat.ble pc 71 then (bif Nat.ble pc 70 then (bif Nat.beq pc 70 then some (.iload_n 3, 71, [], 0) else none) else (bif Nat.beq pc 71 then some (.iconst 1, 72, [], 0) else none)) else (bif Nat.ble pc 72 then (bif Nat.beq pc 72 then some (.isub, 73, [], 0) else none) else (bif Nat.ble pc 73 then (bif Nat.beq pc 73 then some (.laload, 74, [], 0) else none) else (bif Nat.beq pc 74 then some (.lsub, 75, [], 0) else none)))) else (bif Nat.ble pc 76 then (bif Nat.ble pc 75 then (bif Nat.beq pc 75 then some (.lastore, 76, [], 0) else none) else (bif Nat.beq pc 76 then some (.goto 29, 79, [105], 0) else none)) else (bif Nat.ble pc 79 then (bif Nat.beq pc 79 then some (.iload_n 3, 80, [], 0) else none) else (bif Nat.ble pc 80 then (bif Nat.beq pc 80 then some (.iconst 2, 81, [], 0) else none) else (bif Nat.beq pc 81 then some (.if_icmp .lt 24, 84, [105], 0) else none))))) else (bif Nat.ble pc 90 then (bif Nat.ble pc 87 then (bif Nat.ble pc 84 then (bif Nat.beq pc 84 then some (.iinc 3 (-1), 87, [], 0) else none) else (bif Nat.beq pc 87 then some (.aload_n 2, 88, [], 0) else none)) else (bif Nat.ble pc 88 then (bif Nat.beq pc 88 then some (.iload_n 3, 89, [], 0) else none) else (bif Nat.ble pc 89 then (bif Nat.beq pc 89 then some (.iconst 1, 90, [], 0) else none) else (bif Nat.beq pc 90 then some (.isub, 91, [], 0) else none)))) else (bif Nat.ble pc 93 then (bif Nat.ble pc 91 then (bif Nat.beq pc 91 then some (.iload 5, 93, [], 0) else none) else (bif Nat.beq pc 93 then some (.aload_n 2, 94, [], 0) else none)) else (bif Nat.ble pc 94 then (bif Nat.beq pc 94 then some (.iload_n 3, 95, [], 0) else none) else (bif Nat.ble pc 95 then (bif Nat.beq pc 95 then some (.iconst 1, 96, [], 0) else none) else (bif Nat.beq pc 96 then some (.isub, 97, [], 0) else none)))))) else (bif Nat.ble pc 112 then (bif Nat.ble pc 101 then (bif Nat.ble pc 98 then (bif Nat.ble pc 97 then (bif Nat.beq pc 97 then some (.laload, 98, [], 0) else none) else (bif Nat.beq pc 98 then some (.aload_n 2, 99, [], 0) else none)) else (bif Nat.ble pc 99 then (bif Nat.beq pc 99 then some (.iload_n 3, 100, [], 0) else none) else (bif Nat.ble pc 100 then (bif Nat.beq pc 100 then some (.laload, 101, [], 0) else none) else (bif Nat.beq pc 101 then some (.invokestatic 19, 104, [44, 570], 0) else none)))) else (bif Nat.ble pc 105 then (bif Nat.ble pc 104 then (bif Nat.beq pc 104 then some (.lastore, 105, [], 0) else none) else (bif Nat.beq pc 105 then some (.iinc 4 1, 108, [], 0) else none)) else (bif Nat.ble pc 108 then (bif Nat.beq pc 108 then some (.goto (-103), 111, [5], 0) else none) else (bif Nat.ble pc 111 then (bif Nat.beq pc 111 then some (.iload_n 3, 112, [], 0) else none) else (bif Nat.beq pc 112 then some (.iconst 1, 113, [], 0) else none))))) else (bif Nat.ble pc 119 then (bif Nat.ble pc 116 then (bif Nat.ble pc 113 then (bif Nat.beq pc 113 then some (.if_icmp .lt 15, 116, [128], 0) else none) else (bif Nat.beq pc 116 then some (.aload_n 2, 117, [], 0) else none)) else (bif Nat.ble pc 117 then (bif Nat.beq pc 117 then some (.iconst 0, 118, [], 0) else none) else (bif Nat.ble pc 118 then (bif Nat.beq pc 118 then some (.laload, 119, [], 0) else none) else (bif Nat.beq pc 119 then some (.lconst 1, 120, [], 0) else none)))) else (bif Nat.ble pc 124 then (bif Nat.ble pc 120 then (bif Nat.beq pc 120 then some (.lcmp, 121, [], 0) else none) else (bif Nat.ble pc 121 then (bif Nat.beq pc 121 then some (.ifCond .ne 7, 124, [128], 0) else none) else (bif Nat.beq pc 124 then some (.iconst 1, 125, [], 0) else none))) else (bif Nat.ble pc 125 then (bif Nat.beq pc 125 then some (.goto 4, 128, [129], 0) else none) else (bif Nat.ble pc 128 then (bif Nat.beq pc 128 then some (.iconst 0, 129, [], 0) else none) else (bif Nat.beq pc 129 then some (.ireturn, 130, [1], 0) else none))))))))
set_option maxRecDepth 100000 in
theorem tk_Rule_holds {pc : Nat} {e : Ent} (h : code_Rule_holds pc = some e) : okE Rule_holds pc e := cutC_ok (by decide +kernel) h
set_option maxRecDepth 100000 in
theorem mk_Rule_holds : mOk Rule_holds := mOk_of (by decide +kernel)
def code_Rule_valueOf : Nat → Option Ent := cutC 26 fun pc => (bif Nat.ble pc 11 then (bif Nat.ble pc 6 then (bif Nat.ble pc 1 then (bif Nat.ble pc 0 then (bif Nat.beq pc 0 then some (.iload_n 0, 1, [], 0) else none) else (bif Nat.beq pc 1 then some (.ifCond .lt 6, 4, [7], 0) else none)) else (bif Nat.ble pc 4 then (bif Nat.beq pc 4 then some (.iload_n 0, 5, [], 0) else none) else (bif Nat.ble pc 5 then (bif Nat.beq pc 5 then some (.i2l, 6, [], 0) else none) else (bif Nat.beq pc 6 then some (.lreturn, 7, [], 0) else none)))) else (bif Nat.ble pc 8 then (bif Nat.ble pc 7 then (bif Nat.beq pc 7 then some (.iconst (-1), 8, [], 0) else none) else (bif Nat.beq pc 8 then some (.iload_n 0, 9, [], 0) else none)) else (bif Nat.ble pc 9 then (bif Nat.beq pc 9 then some (.isub, 10, [], 0) else none) else (bif Nat.ble pc 10 then (bif Nat.beq pc 10 then some (.istore_n 2, 11, [], 0) else none) else (bif Nat.beq pc 11 then some (.iload_n 2, 12, [], 0) else none))))) else (bif Nat.ble pc 18 then (bif Nat.ble pc 13 then (bif Nat.ble pc 12 then (bif Nat.beq pc 12 then some (.aload_n 1, 13, [], 0) else none) else (bif Nat.beq pc 13 then some (.arraylength, 14, [], 0) else none)) else (bif Nat.ble pc 14 then (bif Nat.beq pc 14 then some (.if_icmp .ge 10, 17, [24], 0) else none) else (bif Nat.ble pc 17 then (bif Nat.beq pc 17 then some (.aload_n 1, 18, [], 0) else none) else (bif Nat.beq pc 18 then some (.iload_n 2, 19, [], 0) else none)))) else (bif Nat.ble pc 20 then (bif Nat.ble pc 19 then (bif Nat.beq pc 19 then some (.iaload, 20, [], 0) else none) else (bif Nat.beq pc 20 then some (.i2l, 21, [], 0) else none)) else (bif Nat.ble pc 21 then (bif Nat.beq pc 21 then some (.goto 4, 24, [25], 0) else none) else (bif Nat.ble pc 24 then (bif Nat.beq pc 24 then some (.lconst 0, 25, [], 0) else none) else (bif Nat.beq pc 25 then some (.lreturn, 26, [], 0) else none))))))
set_option maxRecDepth 100000 in
theorem tk_Rule_valueOf {pc : Nat} {e : Ent} (h : code_Rule_valueOf pc = some e) : okE Rule_valueOf pc e := cutC_ok (by decide +kernel) h
set_option maxRecDepth 100000 in
theorem mk_Rule_valueOf : mOk Rule_valueOf := mOk_of (by decide +kernel)
def code_Rule_worked : Nat → Option Ent := cutC 113 fun pc => (bif Nat.ble pc 75 then (bif Nat.ble pc 57 then (bif Nat.ble pc 51 then (bif Nat.ble pc 48 then (bif Nat.ble pc 0 then (bif Nat.beq pc 0 then some (.iload_n 0, 1, [], 0) else none) else (bif Nat.ble pc 1 then (bif Nat.beq pc 1 then some (.tableswitch 105 (-18) (-11) #[98, 91, 79, 67, 55, 105, 51, 47], 48, [106, 99, 92, 80, 68, 56, 106, 52, 48], 0) else none) else (bif Nat.beq pc 48 then some (.lload_n 1, 49, [], 0) else none))) else (bif Nat.ble pc 49 then (bif Nat.beq pc 49 then some (.lload_n 3, 50, [], 0) else none) else (bif Nat.ble pc 50 then (bif Nat.beq pc 50 then some (.lor, 51, [], 0) else none) else (bif Nat.beq pc 51 then some (.lreturn, 52, [], 0) else none)))) else (bif Nat.ble pc 54 then (bif Nat.ble pc 52 then (bif Nat.beq pc 52 then some (.lload_n 1, 53, [], 0) else none) else (bif Nat.ble pc 53 then (bif Nat.beq pc 53 then some (.lload_n 3, 54, [], 0) else none) else (bif Nat.beq pc 54 then some (.land, 55, [], 0) else none))) else (bif Nat.ble pc 55 then (bif Nat.beq pc 55 then some (.lreturn, 56, [], 0) else none) else (bif Nat.ble pc 56 then (bif Nat.beq pc 56 then some (.lload_n 1, 57, [], 0) else none) else (bif Nat.beq pc 57 then some (.lload_n 3, 58, [], 0) else none))))) else (bif Nat.ble pc 67 then (bif Nat.ble pc 62 then (bif Nat.ble pc 58 then (bif Nat.beq pc 58 then some (.lcmp, 59, [], 0) else none) else (bif Nat.ble pc 59 then (bif Nat.beq pc 59 then some (.ifCond .ge 7, 62, [66], 0) else none) else (bif Nat.beq pc 62 then some (.lconst 1, 63, [], 0) else none))) else (bif Nat.ble pc 63 then (bif Nat.beq pc 63 then some (.goto 4, 66, [67], 0) else none) else (bif Nat.ble pc 66 then (bif Nat.beq pc 66 then some (.lconst 0, 67, [], 0) else none) else (bif Nat.beq pc 67 then some (.lreturn, 68, [], 0) else none)))) else (bif Nat.ble pc 70 then (bif Nat.ble pc 68 then (bif Nat.beq pc 68 then some (.lload_n 1, 69, [], 0) else none) else (bif Nat.ble pc 69 then (bif Nat.beq pc 69 then some (.lload_n 3, 70, [], 0) else none) else (bif Nat.beq pc 70 then some (.lcmp, 71, [], 0) else none))) else (bif Nat.ble pc 71 then (bif Nat.beq pc 71 then some (.ifCond .ne 7, 74, [78], 0) else none) else (bif Nat.ble pc 74 then (bif Nat.beq pc 74 then some (.lconst 1, 75, [], 0) else none) else (bif Nat.beq pc 75 then some (.goto 4, 78, [79], 0) else none)))))) else (bif Nat.ble pc 93 then (bif Nat.ble pc 83 then (bif Nat.ble pc 80 then (bif Nat.ble pc 78 then (bif Nat.beq pc 78 then some (.lconst 0, 79, [], 0) else none) else (bif Nat.ble pc 79 then (bif Nat.beq pc 79 then some (.lreturn, 80, [], 0) else none) else (bif Nat.beq pc 80 then some (.lload_n 1, 81, [], 0) else none))) else (bif Nat.ble pc 81 then (bif Nat.beq pc 81 then some (.lload_n 3, 82, [], 0) else none) else (bif Nat.ble pc 82 then (bif Nat.beq pc 82 then some (.lcmp, 83, [], 0) else none) else (bif Nat.beq pc 83 then some (.ifCond .le 7, 86, [90], 0) else none)))) else (bif Nat.ble pc 90 then (bif Nat.ble pc 86 then (bif Nat.beq pc 86 then some (.lconst 1, 87, [], 0) else none) else (bif Nat.ble pc 87 then (bif Nat.beq pc 87 then some (.goto 4, 90, [91], 0) else none) else (bif Nat.beq pc 90 then some (.lconst 0, 91, [], 0) else none))) else (bif Nat.ble pc 91 then (bif Nat.beq pc 91 then some (.lreturn, 92, [], 0) else none) else (bif Nat.ble pc 92 then (bif Nat.beq pc 92 then some (.lload_n 1, 93, [], 0) else none) else (bif Nat.beq pc 93 then some (.lload_n 3, 94, [], 0) else none))))) else (bif Nat.ble pc 101 then (bif Nat.ble pc 98 then (bif Nat.ble pc 94 then (bif Nat.beq pc 94 then some (.ladd, 95, [], 0) else none) else (bif Nat.ble pc 95 then (bif Nat.beq pc 95 then some (.invokestatic 23, 98, [45, 573], 0) else none) else (bif Nat.beq pc 98 then some (.lreturn, 99, [], 0) else none))) else (bif Nat.ble pc 99 then (bif Nat.beq pc 99 then some (.lload_n 1, 100, [], 0) else none) else (bif Nat.ble pc 100 then (bif Nat.beq pc 100 then some (.lload_n 3, 101, [], 0) else none) else (bif Nat.beq pc 101 then some (.lsub, 102, [], 0) else none)))) else (bif Nat.ble pc 106 then (bif Nat.ble pc 102 then (bif Nat.beq pc 102 then some (.invokestatic 23, 105, [45, 573], 0) else none) else (bif Nat.ble pc 105 then (bif Nat.beq pc 105 then some (.lreturn, 106, [], 0) else none) else (bif Nat.beq pc 106 then some (.lload_n 1, 107, [], 0) else none))) else (bif Nat.ble pc 108 then (bif Nat.ble pc 107 then (bif Nat.beq pc 107 then some (.lload_n 3, 108, [], 0) else none) else (bif Nat.beq pc 108 then some (.lmul, 109, [], 0) else none)) else (bif Nat.ble pc 109 then (bif Nat.beq pc 109 then some (.invokestatic 23, 112, [45, 573], 0) else none) else (bif Nat.beq pc 112 then some (.lreturn, 113, [], 0) else none)))))))
set_option maxRecDepth 100000 in
theorem tk_Rule_worked {pc : Nat} {e : Ent} (h : code_Rule_worked pc = some e) : okE Rule_worked pc e := cutC_ok (by decide +kernel) h
set_option maxRecDepth 100000 in
theorem mk_Rule_worked : mOk Rule_worked := mOk_of (by decide +kernel)
def code_Rule_held : Nat → Option Ent := cutC 14 fun pc => (bif Nat.ble pc 6 then (bif Nat.ble pc 0 then (bif Nat.beq pc 0 then some (.ldc2_w 27, 3, [576], -1000000) else none) else (bif Nat.ble pc 3 then (bif Nat.beq pc 3 then some (.ldc2_w 29, 6, [577], 1000000) else none) else (bif Nat.beq pc 6 then some (.lload_n 0, 7, [], 0) else none))) else (bif Nat.ble pc 7 then (bif Nat.beq pc 7 then some (.invokestatic 31, 10, [207, 578], 0) else none) else (bif Nat.ble pc 10 then (bif Nat.beq pc 10 then some (.invokestatic 37, 13, [208, 581], 0) else none) else (bif Nat.beq pc 13 then some (.lreturn, 14, [], 0) else none))))
set_option maxRecDepth 100000 in
theorem tk_Rule_held {pc : Nat} {e : Ent} (h : code_Rule_held pc = some e) : okE Rule_held pc e := cutC_ok (by decide +kernel) h
set_option maxRecDepth 100000 in
theorem mk_Rule_held : mOk Rule_held := mOk_of (by decide +kernel)
def code_Rule_init : Nat → Option Ent := cutC 10 fun pc => (bif Nat.ble pc 4 then (bif Nat.ble pc 0 then (bif Nat.beq pc 0 then some (.aload_n 0, 1, [], 0) else none) else (bif Nat.ble pc 1 then (bif Nat.beq pc 1 then some (.invokespecial 3, 4, [999, 854, 111, 112], 0) else none) else (bif Nat.beq pc 4 then some (.aload_n 0, 5, [], 0) else none))) else (bif Nat.ble pc 5 then (bif Nat.beq pc 5 then some (.aload_n 1, 6, [], 0) else none) else (bif Nat.ble pc 6 then (bif Nat.beq pc 6 then some (.putfield 9, 9, [384, 6, 2, 855], 0) else none) else (bif Nat.beq pc 9 then some (.return_, 10, [], 0) else none))))
set_option maxRecDepth 100000 in
theorem tk_Rule_init {pc : Nat} {e : Ent} (h : code_Rule_init pc = some e) : okE Rule_init pc e := cutC_ok (by decide +kernel) h
set_option maxRecDepth 100000 in
theorem mk_Rule_init : mOk Rule_init := mOk_of (by decide +kernel)
def code_RR_init : Nat → Option Ent := cutC 37 fun pc => (bif Nat.ble pc 16 then (bif Nat.ble pc 5 then (bif Nat.ble pc 1 then (bif Nat.ble pc 0 then (bif Nat.beq pc 0 then some (.aload_n 0, 1, [], 0) else none) else (bif Nat.beq pc 1 then some (.invokespecial 3, 4, [999, 200, 111, 112], 0) else none)) else (bif Nat.ble pc 4 then (bif Nat.beq pc 4 then some (.aload_n 0, 5, [], 0) else none) else (bif Nat.beq pc 5 then some (.new 9, 8, [8, 5, 201], 0) else none))) else (bif Nat.ble pc 9 then (bif Nat.ble pc 8 then (bif Nat.beq pc 8 then some (.dup, 9, [], 0) else none) else (bif Nat.beq pc 9 then some (.invokespecial 11, 12, [65, 203], 0) else none)) else (bif Nat.ble pc 12 then (bif Nat.beq pc 12 then some (.putfield 12, 15, [448, 7, 2, 243], 0) else none) else (bif Nat.ble pc 15 then (bif Nat.beq pc 15 then some (.aload_n 0, 16, [], 0) else none) else (bif Nat.beq pc 16 then some (.sipush 800, 19, [], 0) else none))))) else (bif Nat.ble pc 25 then (bif Nat.ble pc 21 then (bif Nat.ble pc 19 then (bif Nat.beq pc 19 then some (.newarray .int, 21, [13, 153], 0) else none) else (bif Nat.beq pc 21 then some (.putfield 18, 24, [449, 7, 2, 245], 0) else none)) else (bif Nat.ble pc 24 then (bif Nat.beq pc 24 then some (.aload_n 0, 25, [], 0) else none) else (bif Nat.beq pc 25 then some (.bipush 32, 27, [], 0) else none))) else (bif Nat.ble pc 29 then (bif Nat.ble pc 27 then (bif Nat.beq pc 27 then some (.newarray .int, 29, [13, 153], 0) else none) else (bif Nat.beq pc 29 then some (.putfield 22, 32, [451, 7, 2, 247], 0) else none)) else (bif Nat.ble pc 32 then (bif Nat.beq pc 32 then some (.aload_n 0, 33, [], 0) else none) else (bif Nat.ble pc 33 then (bif Nat.beq pc 33 then some (.invokevirtual 25, 36, [48, 235], 0) else none) else (bif Nat.beq pc 36 then some (.return_, 37, [], 0) else none))))))
set_option maxRecDepth 100000 in
theorem tk_RR_init {pc : Nat} {e : Ent} (h : code_RR_init pc = some e) : okE RR_init pc e := cutC_ok (by decide +kernel) h
set_option maxRecDepth 100000 in
theorem mk_RR_init : mOk RR_init := mOk_of (by decide +kernel)
def code_RR_begin : Nat → Option Ent := cutC 20 fun pc => (bif Nat.ble pc 7 then (bif Nat.ble pc 2 then (bif Nat.ble pc 0 then (bif Nat.beq pc 0 then some (.aload_n 0, 1, [], 0) else none) else (bif Nat.ble pc 1 then (bif Nat.beq pc 1 then some (.iconst 0, 2, [], 0) else none) else (bif Nat.beq pc 2 then some (.putfield 28, 5, [450, 7, 0, 246], 0) else none))) else (bif Nat.ble pc 5 then (bif Nat.beq pc 5 then some (.aload_n 0, 6, [], 0) else none) else (bif Nat.ble pc 6 then (bif Nat.beq pc 6 then some (.iconst 0, 7, [], 0) else none) else (bif Nat.beq pc 7 then some (.putfield 32, 10, [452, 7, 0, 248], 0) else none)))) else (bif Nat.ble pc 12 then (bif Nat.ble pc 10 then (bif Nat.beq pc 10 then some (.aload_n 0, 11, [], 0) else none) else (bif Nat.ble pc 11 then (bif Nat.beq pc 11 then some (.iconst 0, 12, [], 0) else none) else (bif Nat.beq pc 12 then some (.putfield 35, 15, [454, 7, 0, 250], 0) else none))) else (bif Nat.ble pc 15 then (bif Nat.beq pc 15 then some (.aload_n 0, 16, [], 0) else none) else (bif Nat.ble pc 16 then (bif Nat.beq pc 16 then some (.invokevirtual 38, 19, [49, 239], 0) else none) else (bif Nat.beq pc 19 then some (.return_, 20, [], 0) else none)))))
set_option maxRecDepth 100000 in
theorem tk_RR_begin {pc : Nat} {e : Ent} (h : code_RR_begin pc = some e) : okE RR_begin pc e := cutC_ok (by decide +kernel) h
set_option maxRecDepth 100000 in
theorem mk_RR_begin : mOk RR_begin := mOk_of (by decide +kernel)
def code_RR_beginComparison : Nat → Option Ent := cutC 16 fun pc => (bif Nat.ble pc 6 then (bif Nat.ble pc 1 then (bif Nat.ble pc 0 then (bif Nat.beq pc 0 then some (.aload_n 0, 1, [], 0) else none) else (bif Nat.beq pc 1 then some (.iconst 0, 2, [], 0) else none)) else (bif Nat.ble pc 2 then (bif Nat.beq pc 2 then some (.putfield 41, 5, [453, 7, 0, 249], 0) else none) else (bif Nat.ble pc 5 then (bif Nat.beq pc 5 then some (.aload_n 0, 6, [], 0) else none) else (bif Nat.beq pc 6 then some (.iconst 1, 7, [], 0) else none)))) else (bif Nat.ble pc 10 then (bif Nat.ble pc 7 then (bif Nat.beq pc 7 then some (.putfield 44, 10, [455, 7, 1, 251], 0) else none) else (bif Nat.beq pc 10 then some (.aload_n 0, 11, [], 0) else none)) else (bif Nat.ble pc 11 then (bif Nat.beq pc 11 then some (.iconst 0, 12, [], 0) else none) else (bif Nat.ble pc 12 then (bif Nat.beq pc 12 then some (.putfield 48, 15, [456, 7, 1, 252], 0) else none) else (bif Nat.beq pc 15 then some (.return_, 16, [], 0) else none)))))
set_option maxRecDepth 100000 in
theorem tk_RR_beginComparison {pc : Nat} {e : Ent} (h : code_RR_beginComparison pc = some e) : okE RR_beginComparison pc e := cutC_ok (by decide +kernel) h
set_option maxRecDepth 100000 in
theorem mk_RR_beginComparison : mOk RR_beginComparison := mOk_of (by decide +kernel)
def code_RR_readRule : Nat → Option Ent := cutC 112 fun pc => (bif Nat.ble pc 51 then (bif Nat.ble pc 25 then (bif Nat.ble pc 8 then (bif Nat.ble pc 4 then (bif Nat.ble pc 0 then (bif Nat.beq pc 0 then some (.aload_n 0, 1, [], 0) else none) else (bif Nat.ble pc 1 then (bif Nat.beq pc 1 then some (.invokevirtual 25, 4, [48, 235], 0) else none) else (bif Nat.beq pc 4 then some (.iconst 1, 5, [], 0) else none))) else (bif Nat.ble pc 6 then (bif Nat.ble pc 5 then (bif Nat.beq pc 5 then some (.istore_n 1, 6, [], 0) else none) else (bif Nat.beq pc 6 then some (.iconst 0, 7, [], 0) else none)) else (bif Nat.ble pc 7 then (bif Nat.beq pc 7 then some (.istore_n 2, 8, [], 0) else none) else (bif Nat.beq pc 8 then some (.iload_n 2, 9, [], 0) else none)))) else (bif Nat.ble pc 15 then (bif Nat.ble pc 9 then (bif Nat.beq pc 9 then some (.sipush 800, 12, [], 0) else none) else (bif Nat.ble pc 12 then (bif Nat.beq pc 12 then some (.if_icmp .gt 98, 15, [110], 0) else none) else (bif Nat.beq pc 15 then some (.aload_n 0, 16, [], 0) else none))) else (bif Nat.ble pc 19 then (bif Nat.ble pc 16 then (bif Nat.beq pc 16 then some (.getfield 12, 19, [448, 7, 2, 243], 0) else none) else (bif Nat.beq pc 19 then some (.invokevirtual 51, 22, [67, 790], 0) else none)) else (bif Nat.ble pc 22 then (bif Nat.beq pc 22 then some (.ifCond .ne 88, 25, [110], 0) else none) else (bif Nat.beq pc 25 then some (.aload_n 0, 26, [], 0) else none))))) else (bif Nat.ble pc 38 then (bif Nat.ble pc 32 then (bif Nat.ble pc 26 then (bif Nat.beq pc 26 then some (.getfield 12, 29, [448, 7, 2, 243], 0) else none) else (bif Nat.ble pc 29 then (bif Nat.beq pc 29 then some (.invokevirtual 55, 32, [68, 791], 0) else none) else (bif Nat.beq pc 32 then some (.istore_n 3, 33, [], 0) else none))) else (bif Nat.ble pc 34 then (bif Nat.ble pc 33 then (bif Nat.beq pc 33 then some (.iload_n 1, 34, [], 0) else none) else (bif Nat.beq pc 34 then some (.ifCond .eq 20, 37, [54], 0) else none)) else (bif Nat.ble pc 37 then (bif Nat.beq pc 37 then some (.aload_n 0, 38, [], 0) else none) else (bif Nat.beq pc 38 then some (.iload_n 3, 39, [], 0) else none)))) else (bif Nat.ble pc 45 then (bif Nat.ble pc 39 then (bif Nat.beq pc 39 then some (.invokevirtual 59, 42, [51, 792], 0) else none) else (bif Nat.ble pc 42 then (bif Nat.beq pc 42 then some (.ifCond .ne 7, 45, [49], 0) else none) else (bif Nat.beq pc 45 then some (.iconst 1, 46, [], 0) else none))) else (bif Nat.ble pc 49 then (bif Nat.ble pc 46 then (bif Nat.beq pc 46 then some (.goto 4, 49, [50], 0) else none) else (bif Nat.beq pc 49 then some (.iconst 0, 50, [], 0) else none)) else (bif Nat.ble pc 50 then (bif Nat.beq pc 50 then some (.istore_n 1, 51, [], 0) else none) else (bif Nat.beq pc 51 then some (.goto 53, 54, [104], 0) else none)))))) else (bif Nat.ble pc 82 then (bif Nat.ble pc 67 then (bif Nat.ble pc 57 then (bif Nat.ble pc 54 then (bif Nat.beq pc 54 then some (.iload_n 3, 55, [], 0) else none) else (bif Nat.ble pc 55 then (bif Nat.beq pc 55 then some (.bipush 59, 57, [], 0) else none) else (bif Nat.beq pc 57 then some (.if_icmp .ne 41, 60, [98], 0) else none))) else (bif Nat.ble pc 61 then (bif Nat.ble pc 60 then (bif Nat.beq pc 60 then some (.aload_n 0, 61, [], 0) else none) else (bif Nat.beq pc 61 then some (.invokevirtual 63, 64, [56, 824], 0) else none)) else (bif Nat.ble pc 64 then (bif Nat.beq pc 64 then some (.ifCond .eq 34, 67, [98], 0) else none) else (bif Nat.beq pc 67 then some (.aload_n 0, 68, [], 0) else none)))) else (bif Nat.ble pc 74 then (bif Nat.ble pc 68 then (bif Nat.beq pc 68 then some (.getfield 12, 71, [448, 7, 2, 243], 0) else none) else (bif Nat.ble pc 71 then (bif Nat.beq pc 71 then some (.invokevirtual 66, 74, [75, 804], 0) else none) else (bif Nat.beq pc 74 then some (.aload_n 0, 75, [], 0) else none))) else (bif Nat.ble pc 76 then (bif Nat.ble pc 75 then (bif Nat.beq pc 75 then some (.iconst 0, 76, [], 0) else none) else (bif Nat.beq pc 76 then some (.invokevirtual 69, 79, [57, 828], 0) else none)) else (bif Nat.ble pc 79 then (bif Nat.beq pc 79 then some (.new 73, 82, [6, 1, 835], 0) else none) else (bif Nat.beq pc 82 then some (.dup, 83, [], 0) else none))))) else (bif Nat.ble pc 97 then (bif Nat.ble pc 87 then (bif Nat.ble pc 83 then (bif Nat.beq pc 83 then some (.aload_n 0, 84, [], 0) else none) else (bif Nat.ble pc 84 then (bif Nat.beq pc 84 then some (.getfield 18, 87, [449, 7, 2, 245], 0) else none) else (bif Nat.beq pc 87 then some (.aload_n 0, 88, [], 0) else none))) else (bif Nat.ble pc 91 then (bif Nat.ble pc 88 then (bif Nat.beq pc 88 then some (.getfield 28, 91, [450, 7, 0, 246], 0) else none) else (bif Nat.beq pc 91 then some (.invokestatic 75, 94, [216, 837], 0) else none)) else (bif Nat.ble pc 94 then (bif Nat.beq pc 94 then some (.invokespecial 81, 97, [46, 851], 0) else none) else (bif Nat.beq pc 97 then some (.areturn, 98, [], 0) else none)))) else (bif Nat.ble pc 103 then (bif Nat.ble pc 99 then (bif Nat.ble pc 98 then (bif Nat.beq pc 98 then some (.aload_n 0, 99, [], 0) else none) else (bif Nat.beq pc 99 then some (.iload_n 3, 100, [], 0) else none)) else (bif Nat.ble pc 100 then (bif Nat.beq pc 100 then some (.invokevirtual 84, 103, [59, 859], 0) else none) else (bif Nat.beq pc 103 then some (.istore_n 1, 104, [], 0) else none))) else (bif Nat.ble pc 107 then (bif Nat.ble pc 104 then (bif Nat.beq pc 104 then some (.iinc 2 1, 107, [], 0) else none) else (bif Nat.beq pc 107 then some (.goto (-99), 110, [8], 0) else none)) else (bif Nat.ble pc 110 then (bif Nat.beq pc 110 then some (.aconst_null, 111, [], 0) else none) else (bif Nat.beq pc 111 then some (.areturn, 112, [], 0) else none)))))))
set_option maxRecDepth 100000 in
theorem tk_RR_readRule {pc : Nat} {e : Ent} (h : code_RR_readRule pc = some e) : okE RR_readRule pc e := cutC_ok (by decide +kernel) h
set_option maxRecDepth 100000 in
theorem mk_RR_readRule : mOk RR_readRule := mOk_of (by decide +kernel)
def code_RR_takesValue : Nat → Option Ent := cutC 92 fun pc => (bif Nat.ble pc 46 then (bif Nat.ble pc 25 then (bif Nat.ble pc 11 then (bif Nat.ble pc 4 then (bif Nat.ble pc 0 then (bif Nat.beq pc 0 then some (.aload_n 0, 1, [], 0) else none) else (bif Nat.ble pc 1 then (bif Nat.beq pc 1 then some (.getfield 44, 4, [455, 7, 1, 251], 0) else none) else (bif Nat.beq pc 4 then some (.ifCond .eq 23, 7, [27], 0) else none))) else (bif Nat.ble pc 7 then (bif Nat.beq pc 7 then some (.aload_n 0, 8, [], 0) else none) else (bif Nat.ble pc 8 then (bif Nat.beq pc 8 then some (.getfield 12, 11, [448, 7, 2, 243], 0) else none) else (bif Nat.beq pc 11 then some (.ldc 87, 13, [1, 8], 0) else none)))) else (bif Nat.ble pc 19 then (bif Nat.ble pc 13 then (bif Nat.beq pc 13 then some (.invokevirtual 89, 16, [70, 797], 0) else none) else (bif Nat.ble pc 16 then (bif Nat.beq pc 16 then some (.ifCond .eq 11, 19, [27], 0) else none) else (bif Nat.beq pc 19 then some (.aload_n 0, 20, [], 0) else none))) else (bif Nat.ble pc 20 then (bif Nat.beq pc 20 then some (.bipush (-13), 22, [], 0) else none) else (bif Nat.ble pc 22 then (bif Nat.beq pc 22 then some (.invokevirtual 93, 25, [52, 798], 0) else none) else (bif Nat.beq pc 25 then some (.iconst 0, 26, [], 0) else none))))) else (bif Nat.ble pc 33 then (bif Nat.ble pc 28 then (bif Nat.ble pc 26 then (bif Nat.beq pc 26 then some (.ireturn, 27, [1], 0) else none) else (bif Nat.ble pc 27 then (bif Nat.beq pc 27 then some (.aload_n 0, 28, [], 0) else none) else (bif Nat.beq pc 28 then some (.iconst 0, 29, [], 0) else none))) else (bif Nat.ble pc 29 then (bif Nat.beq pc 29 then some (.putfield 44, 32, [455, 7, 1, 251], 0) else none) else (bif Nat.ble pc 32 then (bif Nat.beq pc 32 then some (.iload_n 1, 33, [], 0) else none) else (bif Nat.beq pc 33 then some (.bipush 40, 35, [], 0) else none)))) else (bif Nat.ble pc 39 then (bif Nat.ble pc 35 then (bif Nat.beq pc 35 then some (.if_icmp .ne 11, 38, [46], 0) else none) else (bif Nat.ble pc 38 then (bif Nat.beq pc 38 then some (.aload_n 0, 39, [], 0) else none) else (bif Nat.beq pc 39 then some (.bipush (-10), 41, [], 0) else none))) else (bif Nat.ble pc 44 then (bif Nat.ble pc 41 then (bif Nat.beq pc 41 then some (.invokevirtual 93, 44, [52, 798], 0) else none) else (bif Nat.beq pc 44 then some (.iconst 0, 45, [], 0) else none)) else (bif Nat.ble pc 45 then (bif Nat.beq pc 45 then some (.ireturn, 46, [1], 0) else none) else (bif Nat.beq pc 46 then some (.iload_n 1, 47, [], 0) else none)))))) else (bif Nat.ble pc 70 then (bif Nat.ble pc 58 then (bif Nat.ble pc 53 then (bif Nat.ble pc 47 then (bif Nat.beq pc 47 then some (.invokestatic 96, 50, [73, 809], 0) else none) else (bif Nat.ble pc 50 then (bif Nat.beq pc 50 then some (.ifCond .eq 16, 53, [66], 0) else none) else (bif Nat.beq pc 53 then some (.aload_n 0, 54, [], 0) else none))) else (bif Nat.ble pc 54 then (bif Nat.beq pc 54 then some (.aload_n 0, 55, [], 0) else none) else (bif Nat.ble pc 55 then (bif Nat.beq pc 55 then some (.getfield 12, 58, [448, 7, 2, 243], 0) else none) else (bif Nat.beq pc 58 then some (.invokevirtual 99, 61, [74, 810], 0) else none)))) else (bif Nat.ble pc 65 then (bif Nat.ble pc 61 then (bif Nat.beq pc 61 then some (.invokevirtual 102, 64, [54, 811], 0) else none) else (bif Nat.ble pc 64 then (bif Nat.beq pc 64 then some (.iconst 1, 65, [], 0) else none) else (bif Nat.beq pc 65 then some (.ireturn, 66, [1], 0) else none))) else (bif Nat.ble pc 66 then (bif Nat.beq pc 66 then some (.aload_n 0, 67, [], 0) else none) else (bif Nat.ble pc 67 then (bif Nat.beq pc 67 then some (.invokevirtual 105, 70, [55, 815], 0) else none) else (bif Nat.beq pc 70 then some (.istore_n 2, 71, [], 0) else none))))) else (bif Nat.ble pc 80 then (bif Nat.ble pc 75 then (bif Nat.ble pc 71 then (bif Nat.beq pc 71 then some (.iload_n 2, 72, [], 0) else none) else (bif Nat.ble pc 72 then (bif Nat.beq pc 72 then some (.ifCond .ne 13, 75, [85], 0) else none) else (bif Nat.beq pc 75 then some (.aload_n 0, 76, [], 0) else none))) else (bif Nat.ble pc 76 then (bif Nat.beq pc 76 then some (.getfield 12, 79, [448, 7, 2, 243], 0) else none) else (bif Nat.ble pc 79 then (bif Nat.beq pc 79 then some (.iconst 1, 80, [], 0) else none) else (bif Nat.beq pc 80 then some (.invokevirtual 108, 83, [71, 802], 0) else none)))) else (bif Nat.ble pc 85 then (bif Nat.ble pc 83 then (bif Nat.beq pc 83 then some (.iconst 0, 84, [], 0) else none) else (bif Nat.ble pc 84 then (bif Nat.beq pc 84 then some (.ireturn, 85, [1], 0) else none) else (bif Nat.beq pc 85 then some (.aload_n 0, 86, [], 0) else none))) else (bif Nat.ble pc 87 then (bif Nat.ble pc 86 then (bif Nat.beq pc 86 then some (.iload_n 2, 87, [], 0) else none) else (bif Nat.beq pc 87 then some (.invokevirtual 102, 90, [54, 811], 0) else none)) else (bif Nat.ble pc 90 then (bif Nat.beq pc 90 then some (.iconst 1, 91, [], 0) else none) else (bif Nat.beq pc 91 then some (.ireturn, 92, [1], 0) else none)))))))
set_option maxRecDepth 100000 in
theorem tk_RR_takesValue {pc : Nat} {e : Ent} (h : code_RR_takesValue pc = some e) : okE RR_takesValue pc e := cutC_ok (by decide +kernel) h
set_option maxRecDepth 100000 in
theorem mk_RR_takesValue : mOk RR_takesValue := mOk_of (by decide +kernel)
def code_RR_openOne : Nat → Option Ent := cutC 74 fun pc => (bif Nat.ble pc 37 then (bif Nat.ble pc 17 then (bif Nat.ble pc 8 then (bif Nat.ble pc 1 then (bif Nat.ble pc 0 then (bif Nat.beq pc 0 then some (.aload_n 0, 1, [], 0) else none) else (bif Nat.beq pc 1 then some (.getfield 41, 4, [453, 7, 0, 249], 0) else none)) else (bif Nat.ble pc 4 then (bif Nat.beq pc 4 then some (.aload_n 0, 5, [], 0) else none) else (bif Nat.ble pc 5 then (bif Nat.beq pc 5 then some (.getfield 35, 8, [454, 7, 0, 250], 0) else none) else (bif Nat.beq pc 8 then some (.iadd, 9, [], 0) else none)))) else (bif Nat.ble pc 10 then (bif Nat.ble pc 9 then (bif Nat.beq pc 9 then some (.iconst 4, 10, [], 0) else none) else (bif Nat.beq pc 10 then some (.if_icmp .lt 12, 13, [22], 0) else none)) else (bif Nat.ble pc 13 then (bif Nat.beq pc 13 then some (.aload_n 0, 14, [], 0) else none) else (bif Nat.ble pc 14 then (bif Nat.beq pc 14 then some (.getfield 12, 17, [448, 7, 2, 243], 0) else none) else (bif Nat.beq pc 17 then some (.iconst 4, 18, [], 0) else none))))) else (bif Nat.ble pc 25 then (bif Nat.ble pc 21 then (bif Nat.ble pc 18 then (bif Nat.beq pc 18 then some (.invokevirtual 108, 21, [71, 802], 0) else none) else (bif Nat.beq pc 21 then some (.return_, 22, [], 0) else none)) else (bif Nat.ble pc 22 then (bif Nat.beq pc 22 then some (.iload_n 1, 23, [], 0) else none) else (bif Nat.ble pc 23 then (bif Nat.beq pc 23 then some (.bipush (-13), 25, [], 0) else none) else (bif Nat.beq pc 25 then some (.if_icmp .ne 26, 28, [51], 0) else none)))) else (bif Nat.ble pc 29 then (bif Nat.ble pc 28 then (bif Nat.beq pc 28 then some (.aload_n 0, 29, [], 0) else none) else (bif Nat.beq pc 29 then some (.getfield 12, 32, [448, 7, 2, 243], 0) else none)) else (bif Nat.ble pc 32 then (bif Nat.beq pc 32 then some (.ldc 87, 34, [1, 8], 0) else none) else (bif Nat.ble pc 34 then (bif Nat.beq pc 34 then some (.invokevirtual 111, 37, [72, 803], 0) else none) else (bif Nat.beq pc 37 then some (.pop, 38, [], 0) else none)))))) else (bif Nat.ble pc 55 then (bif Nat.ble pc 44 then (bif Nat.ble pc 39 then (bif Nat.ble pc 38 then (bif Nat.beq pc 38 then some (.aload_n 0, 39, [], 0) else none) else (bif Nat.beq pc 39 then some (.dup, 40, [], 0) else none)) else (bif Nat.ble pc 40 then (bif Nat.beq pc 40 then some (.getfield 41, 43, [453, 7, 0, 249], 0) else none) else (bif Nat.ble pc 43 then (bif Nat.beq pc 43 then some (.iconst 1, 44, [], 0) else none) else (bif Nat.beq pc 44 then some (.iadd, 45, [], 0) else none)))) else (bif Nat.ble pc 48 then (bif Nat.ble pc 45 then (bif Nat.beq pc 45 then some (.putfield 41, 48, [453, 7, 0, 249], 0) else none) else (bif Nat.beq pc 48 then some (.goto 20, 51, [68], 0) else none)) else (bif Nat.ble pc 51 then (bif Nat.beq pc 51 then some (.aload_n 0, 52, [], 0) else none) else (bif Nat.ble pc 52 then (bif Nat.beq pc 52 then some (.getfield 12, 55, [448, 7, 2, 243], 0) else none) else (bif Nat.beq pc 55 then some (.invokevirtual 66, 58, [75, 804], 0) else none))))) else (bif Nat.ble pc 64 then (bif Nat.ble pc 59 then (bif Nat.ble pc 58 then (bif Nat.beq pc 58 then some (.aload_n 0, 59, [], 0) else none) else (bif Nat.beq pc 59 then some (.dup, 60, [], 0) else none)) else (bif Nat.ble pc 60 then (bif Nat.beq pc 60 then some (.getfield 35, 63, [454, 7, 0, 250], 0) else none) else (bif Nat.ble pc 63 then (bif Nat.beq pc 63 then some (.iconst 1, 64, [], 0) else none) else (bif Nat.beq pc 64 then some (.iadd, 65, [], 0) else none)))) else (bif Nat.ble pc 68 then (bif Nat.ble pc 65 then (bif Nat.beq pc 65 then some (.putfield 35, 68, [454, 7, 0, 250], 0) else none) else (bif Nat.beq pc 68 then some (.aload_n 0, 69, [], 0) else none)) else (bif Nat.ble pc 69 then (bif Nat.beq pc 69 then some (.iload_n 1, 70, [], 0) else none) else (bif Nat.ble pc 70 then (bif Nat.beq pc 70 then some (.invokevirtual 114, 73, [53, 805], 0) else none) else (bif Nat.beq pc 73 then some (.return_, 74, [], 0) else none)))))))
set_option maxRecDepth 100000 in
theorem tk_RR_openOne {pc : Nat} {e : Ent} (h : code_RR_openOne pc = some e) : okE RR_openOne pc e := cutC_ok (by decide +kernel) h
set_option maxRecDepth 100000 in
theorem mk_RR_openOne : mOk RR_openOne := mOk_of (by decide +kernel)
def code_RR_pile : Nat → Option Ent := cutC 33 fun pc => (bif Nat.ble pc 16 then (bif Nat.ble pc 5 then (bif Nat.ble pc 1 then (bif Nat.ble pc 0 then (bif Nat.beq pc 0 then some (.aload_n 0, 1, [], 0) else none) else (bif Nat.beq pc 1 then some (.getfield 32, 4, [452, 7, 0, 248], 0) else none)) else (bif Nat.ble pc 4 then (bif Nat.beq pc 4 then some (.aload_n 0, 5, [], 0) else none) else (bif Nat.beq pc 5 then some (.getfield 22, 8, [451, 7, 2, 247], 0) else none))) else (bif Nat.ble pc 9 then (bif Nat.ble pc 8 then (bif Nat.beq pc 8 then some (.arraylength, 9, [], 0) else none) else (bif Nat.beq pc 9 then some (.if_icmp .ge 23, 12, [32], 0) else none)) else (bif Nat.ble pc 12 then (bif Nat.beq pc 12 then some (.aload_n 0, 13, [], 0) else none) else (bif Nat.ble pc 13 then (bif Nat.beq pc 13 then some (.getfield 22, 16, [451, 7, 2, 247], 0) else none) else (bif Nat.beq pc 16 then some (.aload_n 0, 17, [], 0) else none))))) else (bif Nat.ble pc 23 then (bif Nat.ble pc 20 then (bif Nat.ble pc 17 then (bif Nat.beq pc 17 then some (.getfield 32, 20, [452, 7, 0, 248], 0) else none) else (bif Nat.beq pc 20 then some (.iload_n 1, 21, [], 0) else none)) else (bif Nat.ble pc 21 then (bif Nat.beq pc 21 then some (.iastore, 22, [], 0) else none) else (bif Nat.ble pc 22 then (bif Nat.beq pc 22 then some (.aload_n 0, 23, [], 0) else none) else (bif Nat.beq pc 23 then some (.dup, 24, [], 0) else none)))) else (bif Nat.ble pc 27 then (bif Nat.ble pc 24 then (bif Nat.beq pc 24 then some (.getfield 32, 27, [452, 7, 0, 248], 0) else none) else (bif Nat.beq pc 27 then some (.iconst 1, 28, [], 0) else none)) else (bif Nat.ble pc 28 then (bif Nat.beq pc 28 then some (.iadd, 29, [], 0) else none) else (bif Nat.ble pc 29 then (bif Nat.beq pc 29 then some (.putfield 32, 32, [452, 7, 0, 248], 0) else none) else (bif Nat.beq pc 32 then some (.return_, 33, [], 0) else none))))))
set_option maxRecDepth 100000 in
theorem tk_RR_pile {pc : Nat} {e : Ent} (h : code_RR_pile pc = some e) : okE RR_pile pc e := cutC_ok (by decide +kernel) h
set_option maxRecDepth 100000 in
theorem mk_RR_pile : mOk RR_pile := mOk_of (by decide +kernel)
def code_RR_emit : Nat → Option Ent := cutC 33 fun pc => (bif Nat.ble pc 16 then (bif Nat.ble pc 5 then (bif Nat.ble pc 1 then (bif Nat.ble pc 0 then (bif Nat.beq pc 0 then some (.aload_n 0, 1, [], 0) else none) else (bif Nat.beq pc 1 then some (.getfield 28, 4, [450, 7, 0, 246], 0) else none)) else (bif Nat.ble pc 4 then (bif Nat.beq pc 4 then some (.aload_n 0, 5, [], 0) else none) else (bif Nat.beq pc 5 then some (.getfield 18, 8, [449, 7, 2, 245], 0) else none))) else (bif Nat.ble pc 9 then (bif Nat.ble pc 8 then (bif Nat.beq pc 8 then some (.arraylength, 9, [], 0) else none) else (bif Nat.beq pc 9 then some (.if_icmp .ge 23, 12, [32], 0) else none)) else (bif Nat.ble pc 12 then (bif Nat.beq pc 12 then some (.aload_n 0, 13, [], 0) else none) else (bif Nat.ble pc 13 then (bif Nat.beq pc 13 then some (.getfield 18, 16, [449, 7, 2, 245], 0) else none) else (bif Nat.beq pc 16 then some (.aload_n 0, 17, [], 0) else none))))) else (bif Nat.ble pc 23 then (bif Nat.ble pc 20 then (bif Nat.ble pc 17 then (bif Nat.beq pc 17 then some (.getfield 28, 20, [450, 7, 0, 246], 0) else none) else (bif Nat.beq pc 20 then some (.iload_n 1, 21, [], 0) else none)) else (bif Nat.ble pc 21 then (bif Nat.beq pc 21 then some (.iastore, 22, [], 0) else none) else (bif Nat.ble pc 22 then (bif Nat.beq pc 22 then some (.aload_n 0, 23, [], 0) else none) else (bif Nat.beq pc 23 then some (.dup, 24, [], 0) else none)))) else (bif Nat.ble pc 27 then (bif Nat.ble pc 24 then (bif Nat.beq pc 24 then some (.getfield 28, 27, [450, 7, 0, 246], 0) else none) else (bif Nat.beq pc 27 then some (.iconst 1, 28, [], 0) else none)) else (bif Nat.ble pc 28 then (bif Nat.beq pc 28 then some (.iadd, 29, [], 0) else none) else (bif Nat.ble pc 29 then (bif Nat.beq pc 29 then some (.putfield 28, 32, [450, 7, 0, 246], 0) else none) else (bif Nat.beq pc 32 then some (.return_, 33, [], 0) else none))))))
set_option maxRecDepth 100000 in
theorem tk_RR_emit {pc : Nat} {e : Ent} (h : code_RR_emit pc = some e) : okE RR_emit pc e := cutC_ok (by decide +kernel) h
set_option maxRecDepth 100000 in
theorem mk_RR_emit : mOk RR_emit := mOk_of (by decide +kernel)
def code_RR_takeFact : Nat → Option Ent := cutC 78 fun pc => (bif Nat.ble pc 35 then (bif Nat.ble pc 15 then (bif Nat.ble pc 6 then (bif Nat.ble pc 1 then (bif Nat.ble pc 0 then (bif Nat.beq pc 0 then some (.aload_n 0, 1, [], 0) else none) else (bif Nat.beq pc 1 then some (.getfield 12, 4, [448, 7, 2, 243], 0) else none)) else (bif Nat.ble pc 4 then (bif Nat.beq pc 4 then some (.ldc 117, 6, [1, 10], 0) else none) else (bif Nat.beq pc 6 then some (.invokevirtual 111, 9, [72, 803], 0) else none))) else (bif Nat.ble pc 12 then (bif Nat.ble pc 9 then (bif Nat.beq pc 9 then some (.ifCond .eq 5, 12, [14], 0) else none) else (bif Nat.beq pc 12 then some (.iconst (-1), 13, [], 0) else none)) else (bif Nat.ble pc 13 then (bif Nat.beq pc 13 then some (.ireturn, 14, [0], 0) else none) else (bif Nat.ble pc 14 then (bif Nat.beq pc 14 then some (.aload_n 0, 15, [], 0) else none) else (bif Nat.beq pc 15 then some (.getfield 12, 18, [448, 7, 2, 243], 0) else none))))) else (bif Nat.ble pc 26 then (bif Nat.ble pc 20 then (bif Nat.ble pc 18 then (bif Nat.beq pc 18 then some (.ldc 119, 20, [1, 12], 0) else none) else (bif Nat.beq pc 20 then some (.invokevirtual 111, 23, [72, 803], 0) else none)) else (bif Nat.ble pc 23 then (bif Nat.beq pc 23 then some (.ifCond .eq 6, 26, [29], 0) else none) else (bif Nat.beq pc 26 then some (.bipush (-2), 28, [], 0) else none))) else (bif Nat.ble pc 29 then (bif Nat.ble pc 28 then (bif Nat.beq pc 28 then some (.ireturn, 29, [0], 0) else none) else (bif Nat.beq pc 29 then some (.aload_n 0, 30, [], 0) else none)) else (bif Nat.ble pc 30 then (bif Nat.beq pc 30 then some (.getfield 12, 33, [448, 7, 2, 243], 0) else none) else (bif Nat.ble pc 33 then (bif Nat.beq pc 33 then some (.ldc 121, 35, [1, 14], 0) else none) else (bif Nat.beq pc 35 then some (.invokevirtual 111, 38, [72, 803], 0) else none)))))) else (bif Nat.ble pc 56 then (bif Nat.ble pc 44 then (bif Nat.ble pc 41 then (bif Nat.ble pc 38 then (bif Nat.beq pc 38 then some (.ifCond .eq 6, 41, [44], 0) else none) else (bif Nat.beq pc 41 then some (.bipush (-3), 43, [], 0) else none)) else (bif Nat.ble pc 43 then (bif Nat.beq pc 43 then some (.ireturn, 44, [0], 0) else none) else (bif Nat.beq pc 44 then some (.aload_n 0, 45, [], 0) else none))) else (bif Nat.ble pc 48 then (bif Nat.ble pc 45 then (bif Nat.beq pc 45 then some (.getfield 12, 48, [448, 7, 2, 243], 0) else none) else (bif Nat.beq pc 48 then some (.ldc 123, 50, [1, 16], 0) else none)) else (bif Nat.ble pc 50 then (bif Nat.beq pc 50 then some (.invokevirtual 111, 53, [72, 803], 0) else none) else (bif Nat.ble pc 53 then (bif Nat.beq pc 53 then some (.ifCond .eq 6, 56, [59], 0) else none) else (bif Nat.beq pc 56 then some (.bipush (-4), 58, [], 0) else none))))) else (bif Nat.ble pc 65 then (bif Nat.ble pc 59 then (bif Nat.ble pc 58 then (bif Nat.beq pc 58 then some (.ireturn, 59, [0], 0) else none) else (bif Nat.beq pc 59 then some (.aload_n 0, 60, [], 0) else none)) else (bif Nat.ble pc 60 then (bif Nat.beq pc 60 then some (.getfield 12, 63, [448, 7, 2, 243], 0) else none) else (bif Nat.ble pc 63 then (bif Nat.beq pc 63 then some (.ldc 125, 65, [1, 18], 0) else none) else (bif Nat.beq pc 65 then some (.invokevirtual 111, 68, [72, 803], 0) else none)))) else (bif Nat.ble pc 71 then (bif Nat.ble pc 68 then (bif Nat.beq pc 68 then some (.ifCond .eq 8, 71, [76], 0) else none) else (bif Nat.beq pc 71 then some (.bipush (-5), 73, [], 0) else none)) else (bif Nat.ble pc 73 then (bif Nat.beq pc 73 then some (.goto 4, 76, [77], 0) else none) else (bif Nat.ble pc 76 then (bif Nat.beq pc 76 then some (.iconst 0, 77, [], 0) else none) else (bif Nat.beq pc 77 then some (.ireturn, 78, [0], 0) else none)))))))
set_option maxRecDepth 100000 in
theorem tk_RR_takeFact {pc : Nat} {e : Ent} (h : code_RR_takeFact pc = some e) : okE RR_takeFact pc e := cutC_ok (by decide +kernel) h
set_option maxRecDepth 100000 in
theorem mk_RR_takeFact : mOk RR_takeFact := mOk_of (by decide +kernel)
def code_RR_mayEnd : Nat → Option Ent := cutC 20 fun pc => (bif Nat.ble pc 8 then (bif Nat.ble pc 1 then (bif Nat.ble pc 0 then (bif Nat.beq pc 0 then some (.aload_n 0, 1, [], 0) else none) else (bif Nat.beq pc 1 then some (.getfield 48, 4, [456, 7, 1, 252], 0) else none)) else (bif Nat.ble pc 4 then (bif Nat.beq pc 4 then some (.ifCond .eq 14, 7, [18], 0) else none) else (bif Nat.ble pc 7 then (bif Nat.beq pc 7 then some (.aload_n 0, 8, [], 0) else none) else (bif Nat.beq pc 8 then some (.getfield 35, 11, [454, 7, 0, 250], 0) else none)))) else (bif Nat.ble pc 14 then (bif Nat.ble pc 11 then (bif Nat.beq pc 11 then some (.ifCond .ne 7, 14, [18], 0) else none) else (bif Nat.beq pc 14 then some (.iconst 1, 15, [], 0) else none)) else (bif Nat.ble pc 15 then (bif Nat.beq pc 15 then some (.goto 4, 18, [19], 0) else none) else (bif Nat.ble pc 18 then (bif Nat.beq pc 18 then some (.iconst 0, 19, [], 0) else none) else (bif Nat.beq pc 19 then some (.ireturn, 20, [1], 0) else none)))))
set_option maxRecDepth 100000 in
theorem tk_RR_mayEnd {pc : Nat} {e : Ent} (h : code_RR_mayEnd pc = some e) : okE RR_mayEnd pc e := cutC_ok (by decide +kernel) h
set_option maxRecDepth 100000 in
theorem mk_RR_mayEnd : mOk RR_mayEnd := mOk_of (by decide +kernel)
def code_RR_release : Nat → Option Ent := cutC 52 fun pc => (bif Nat.ble pc 25 then (bif Nat.ble pc 12 then (bif Nat.ble pc 4 then (bif Nat.ble pc 0 then (bif Nat.beq pc 0 then some (.aload_n 0, 1, [], 0) else none) else (bif Nat.ble pc 1 then (bif Nat.beq pc 1 then some (.getfield 32, 4, [452, 7, 0, 248], 0) else none) else (bif Nat.beq pc 4 then some (.ifCond .le 47, 7, [51], 0) else none))) else (bif Nat.ble pc 8 then (bif Nat.ble pc 7 then (bif Nat.beq pc 7 then some (.aload_n 0, 8, [], 0) else none) else (bif Nat.beq pc 8 then some (.getfield 22, 11, [451, 7, 2, 247], 0) else none)) else (bif Nat.ble pc 11 then (bif Nat.beq pc 11 then some (.aload_n 0, 12, [], 0) else none) else (bif Nat.beq pc 12 then some (.getfield 32, 15, [452, 7, 0, 248], 0) else none)))) else (bif Nat.ble pc 17 then (bif Nat.ble pc 15 then (bif Nat.beq pc 15 then some (.iconst 1, 16, [], 0) else none) else (bif Nat.ble pc 16 then (bif Nat.beq pc 16 then some (.isub, 17, [], 0) else none) else (bif Nat.beq pc 17 then some (.iaload, 18, [], 0) else none))) else (bif Nat.ble pc 21 then (bif Nat.ble pc 18 then (bif Nat.beq pc 18 then some (.invokestatic 147, 21, [58, 832], 0) else none) else (bif Nat.beq pc 21 then some (.iload_n 1, 22, [], 0) else none)) else (bif Nat.ble pc 22 then (bif Nat.beq pc 22 then some (.if_icmp .lt 29, 25, [51], 0) else none) else (bif Nat.beq pc 25 then some (.aload_n 0, 26, [], 0) else none))))) else (bif Nat.ble pc 36 then (bif Nat.ble pc 30 then (bif Nat.ble pc 26 then (bif Nat.beq pc 26 then some (.dup, 27, [], 0) else none) else (bif Nat.ble pc 27 then (bif Nat.beq pc 27 then some (.getfield 32, 30, [452, 7, 0, 248], 0) else none) else (bif Nat.beq pc 30 then some (.iconst 1, 31, [], 0) else none))) else (bif Nat.ble pc 32 then (bif Nat.ble pc 31 then (bif Nat.beq pc 31 then some (.isub, 32, [], 0) else none) else (bif Nat.beq pc 32 then some (.putfield 32, 35, [452, 7, 0, 248], 0) else none)) else (bif Nat.ble pc 35 then (bif Nat.beq pc 35 then some (.aload_n 0, 36, [], 0) else none) else (bif Nat.beq pc 36 then some (.aload_n 0, 37, [], 0) else none)))) else (bif Nat.ble pc 41 then (bif Nat.ble pc 37 then (bif Nat.beq pc 37 then some (.getfield 22, 40, [451, 7, 2, 247], 0) else none) else (bif Nat.ble pc 40 then (bif Nat.beq pc 40 then some (.aload_n 0, 41, [], 0) else none) else (bif Nat.beq pc 41 then some (.getfield 32, 44, [452, 7, 0, 248], 0) else none))) else (bif Nat.ble pc 45 then (bif Nat.ble pc 44 then (bif Nat.beq pc 44 then some (.iaload, 45, [], 0) else none) else (bif Nat.beq pc 45 then some (.invokevirtual 102, 48, [54, 811], 0) else none)) else (bif Nat.ble pc 48 then (bif Nat.beq pc 48 then some (.goto (-48), 51, [0], 0) else none) else (bif Nat.beq pc 51 then some (.return_, 52, [], 0) else none))))))
set_option maxRecDepth 100000 in
theorem tk_RR_release {pc : Nat} {e : Ent} (h : code_RR_release pc = some e) : okE RR_release pc e := cutC_ok (by decide +kernel) h
set_option maxRecDepth 100000 in
theorem mk_RR_release : mOk RR_release := mOk_of (by decide +kernel)
def code_RR_bindingOf : Nat → Option Ent := cutC 71 fun pc => (bif Nat.ble pc 61 then (bif Nat.ble pc 57 then (bif Nat.ble pc 1 then (bif Nat.ble pc 0 then (bif Nat.beq pc 0 then some (.iload_n 0, 1, [], 0) else none) else (bif Nat.beq pc 1 then some (.tableswitch 68 (-19) (-10) #[65, 63, 63, 68, 68, 68, 61, 59, 57, 55], 56, [69, 66, 64, 64, 69, 69, 69, 62, 60, 58, 56], 0) else none)) else (bif Nat.ble pc 56 then (bif Nat.beq pc 56 then some (.iconst 0, 57, [], 0) else none) else (bif Nat.beq pc 57 then some (.ireturn, 58, [0], 0) else none))) else (bif Nat.ble pc 59 then (bif Nat.ble pc 58 then (bif Nat.beq pc 58 then some (.iconst 1, 59, [], 0) else none) else (bif Nat.beq pc 59 then some (.ireturn, 60, [0], 0) else none)) else (bif Nat.ble pc 60 then (bif Nat.beq pc 60 then some (.iconst 2, 61, [], 0) else none) else (bif Nat.beq pc 61 then some (.ireturn, 62, [0], 0) else none)))) else (bif Nat.ble pc 65 then (bif Nat.ble pc 63 then (bif Nat.ble pc 62 then (bif Nat.beq pc 62 then some (.iconst 3, 63, [], 0) else none) else (bif Nat.beq pc 63 then some (.ireturn, 64, [0], 0) else none)) else (bif Nat.ble pc 64 then (bif Nat.beq pc 64 then some (.iconst 5, 65, [], 0) else none) else (bif Nat.beq pc 65 then some (.ireturn, 66, [0], 0) else none))) else (bif Nat.ble pc 68 then (bif Nat.ble pc 66 then (bif Nat.beq pc 66 then some (.bipush 6, 68, [], 0) else none) else (bif Nat.beq pc 68 then some (.ireturn, 69, [0], 0) else none)) else (bif Nat.ble pc 69 then (bif Nat.beq pc 69 then some (.iconst 4, 70, [], 0) else none) else (bif Nat.beq pc 70 then some (.ireturn, 71, [0], 0) else none)))))
set_option maxRecDepth 100000 in
theorem tk_RR_bindingOf {pc : Nat} {e : Ent} (h : code_RR_bindingOf pc = some e) : okE RR_bindingOf pc e := cutC_ok (by decide +kernel) h
set_option maxRecDepth 100000 in
theorem mk_RR_bindingOf : mOk RR_bindingOf := mOk_of (by decide +kernel)
def code_RR_takesSign : Nat → Option Ent := cutC 134 fun pc => (bif Nat.ble pc 62 then (bif Nat.ble pc 33 then (bif Nat.ble pc 14 then (bif Nat.ble pc 6 then (bif Nat.ble pc 1 then (bif Nat.ble pc 0 then (bif Nat.beq pc 0 then some (.iload_n 1, 1, [], 0) else none) else (bif Nat.beq pc 1 then some (.bipush 41, 3, [], 0) else none)) else (bif Nat.ble pc 3 then (bif Nat.beq pc 3 then some (.if_icmp .ne 23, 6, [26], 0) else none) else (bif Nat.beq pc 6 then some (.aload_n 0, 7, [], 0) else none))) else (bif Nat.ble pc 10 then (bif Nat.ble pc 7 then (bif Nat.beq pc 7 then some (.getfield 35, 10, [454, 7, 0, 250], 0) else none) else (bif Nat.beq pc 10 then some (.ifCond .le 16, 13, [26], 0) else none)) else (bif Nat.ble pc 13 then (bif Nat.beq pc 13 then some (.aload_n 0, 14, [], 0) else none) else (bif Nat.beq pc 14 then some (.getfield 12, 17, [448, 7, 2, 243], 0) else none)))) else (bif Nat.ble pc 24 then (bif Nat.ble pc 20 then (bif Nat.ble pc 17 then (bif Nat.beq pc 17 then some (.invokevirtual 66, 20, [75, 804], 0) else none) else (bif Nat.beq pc 20 then some (.aload_n 0, 21, [], 0) else none)) else (bif Nat.ble pc 21 then (bif Nat.beq pc 21 then some (.invokevirtual 127, 24, [60, 863], 0) else none) else (bif Nat.beq pc 24 then some (.iconst 0, 25, [], 0) else none))) else (bif Nat.ble pc 26 then (bif Nat.ble pc 25 then (bif Nat.beq pc 25 then some (.ireturn, 26, [1], 0) else none) else (bif Nat.beq pc 26 then some (.aload_n 0, 27, [], 0) else none)) else (bif Nat.ble pc 27 then (bif Nat.beq pc 27 then some (.invokevirtual 63, 30, [56, 824], 0) else none) else (bif Nat.ble pc 30 then (bif Nat.beq pc 30 then some (.ifCond .eq 10, 33, [40], 0) else none) else (bif Nat.beq pc 33 then some (.aload_n 0, 34, [], 0) else none)))))) else (bif Nat.ble pc 47 then (bif Nat.ble pc 41 then (bif Nat.ble pc 37 then (bif Nat.ble pc 34 then (bif Nat.beq pc 34 then some (.invokevirtual 130, 37, [61, 867], 0) else none) else (bif Nat.beq pc 37 then some (.goto 4, 40, [41], 0) else none)) else (bif Nat.ble pc 40 then (bif Nat.beq pc 40 then some (.iconst 0, 41, [], 0) else none) else (bif Nat.beq pc 41 then some (.istore_n 2, 42, [], 0) else none))) else (bif Nat.ble pc 43 then (bif Nat.ble pc 42 then (bif Nat.beq pc 42 then some (.iload_n 2, 43, [], 0) else none) else (bif Nat.beq pc 43 then some (.ifCond .eq 14, 46, [57], 0) else none)) else (bif Nat.ble pc 46 then (bif Nat.beq pc 46 then some (.aload_n 0, 47, [], 0) else none) else (bif Nat.beq pc 47 then some (.iload_n 2, 48, [], 0) else none)))) else (bif Nat.ble pc 55 then (bif Nat.ble pc 51 then (bif Nat.ble pc 48 then (bif Nat.beq pc 48 then some (.invokevirtual 133, 51, [62, 873], 0) else none) else (bif Nat.beq pc 51 then some (.aload_n 0, 52, [], 0) else none)) else (bif Nat.ble pc 52 then (bif Nat.beq pc 52 then some (.invokevirtual 38, 55, [49, 239], 0) else none) else (bif Nat.beq pc 55 then some (.iconst 1, 56, [], 0) else none))) else (bif Nat.ble pc 57 then (bif Nat.ble pc 56 then (bif Nat.beq pc 56 then some (.ireturn, 57, [1], 0) else none) else (bif Nat.beq pc 57 then some (.iload_n 1, 58, [], 0) else none)) else (bif Nat.ble pc 58 then (bif Nat.beq pc 58 then some (.invokestatic 136, 61, [63, 877], 0) else none) else (bif Nat.ble pc 61 then (bif Nat.beq pc 61 then some (.istore_n 2, 62, [], 0) else none) else (bif Nat.beq pc 62 then some (.iload_n 2, 63, [], 0) else none))))))) else (bif Nat.ble pc 97 then (bif Nat.ble pc 80 then (bif Nat.ble pc 70 then (bif Nat.ble pc 66 then (bif Nat.ble pc 63 then (bif Nat.beq pc 63 then some (.ifCond .eq 24, 66, [87], 0) else none) else (bif Nat.beq pc 66 then some (.iload_n 2, 67, [], 0) else none)) else (bif Nat.ble pc 67 then (bif Nat.beq pc 67 then some (.invokestatic 140, 70, [64, 880], 0) else none) else (bif Nat.beq pc 70 then some (.ifCond .eq 27, 73, [97], 0) else none))) else (bif Nat.ble pc 74 then (bif Nat.ble pc 73 then (bif Nat.beq pc 73 then some (.aload_n 0, 74, [], 0) else none) else (bif Nat.beq pc 74 then some (.getfield 48, 77, [456, 7, 1, 252], 0) else none)) else (bif Nat.ble pc 77 then (bif Nat.beq pc 77 then some (.ifCond .ne 10, 80, [87], 0) else none) else (bif Nat.beq pc 80 then some (.aload_n 0, 81, [], 0) else none)))) else (bif Nat.ble pc 88 then (bif Nat.ble pc 84 then (bif Nat.ble pc 81 then (bif Nat.beq pc 81 then some (.getfield 35, 84, [454, 7, 0, 250], 0) else none) else (bif Nat.beq pc 84 then some (.ifCond .le 13, 87, [97], 0) else none)) else (bif Nat.ble pc 87 then (bif Nat.beq pc 87 then some (.aload_n 0, 88, [], 0) else none) else (bif Nat.beq pc 88 then some (.getfield 12, 91, [448, 7, 2, 243], 0) else none))) else (bif Nat.ble pc 92 then (bif Nat.ble pc 91 then (bif Nat.beq pc 91 then some (.iconst 1, 92, [], 0) else none) else (bif Nat.beq pc 92 then some (.invokevirtual 108, 95, [71, 802], 0) else none)) else (bif Nat.ble pc 95 then (bif Nat.beq pc 95 then some (.iconst 0, 96, [], 0) else none) else (bif Nat.ble pc 96 then (bif Nat.beq pc 96 then some (.ireturn, 97, [1], 0) else none) else (bif Nat.beq pc 97 then some (.aload_n 0, 98, [], 0) else none)))))) else (bif Nat.ble pc 114 then (bif Nat.ble pc 105 then (bif Nat.ble pc 101 then (bif Nat.ble pc 98 then (bif Nat.beq pc 98 then some (.getfield 12, 101, [448, 7, 2, 243], 0) else none) else (bif Nat.beq pc 101 then some (.invokevirtual 66, 104, [75, 804], 0) else none)) else (bif Nat.ble pc 104 then (bif Nat.beq pc 104 then some (.aload_n 0, 105, [], 0) else none) else (bif Nat.beq pc 105 then some (.iload_n 2, 106, [], 0) else none))) else (bif Nat.ble pc 109 then (bif Nat.ble pc 106 then (bif Nat.beq pc 106 then some (.invokevirtual 133, 109, [62, 873], 0) else none) else (bif Nat.beq pc 109 then some (.aload_n 0, 110, [], 0) else none)) else (bif Nat.ble pc 110 then (bif Nat.beq pc 110 then some (.aload_n 0, 111, [], 0) else none) else (bif Nat.ble pc 111 then (bif Nat.beq pc 111 then some (.getfield 48, 114, [456, 7, 1, 252], 0) else none) else (bif Nat.beq pc 114 then some (.ifCond .ne 10, 117, [124], 0) else none))))) else (bif Nat.ble pc 124 then (bif Nat.ble pc 118 then (bif Nat.ble pc 117 then (bif Nat.beq pc 117 then some (.iload_n 2, 118, [], 0) else none) else (bif Nat.beq pc 118 then some (.invokestatic 140, 121, [64, 880], 0) else none)) else (bif Nat.ble pc 121 then (bif Nat.beq pc 121 then some (.ifCond .eq 7, 124, [128], 0) else none) else (bif Nat.beq pc 124 then some (.iconst 1, 125, [], 0) else none))) else (bif Nat.ble pc 128 then (bif Nat.ble pc 125 then (bif Nat.beq pc 125 then some (.goto 4, 128, [129], 0) else none) else (bif Nat.beq pc 128 then some (.iconst 0, 129, [], 0) else none)) else (bif Nat.ble pc 129 then (bif Nat.beq pc 129 then some (.putfield 48, 132, [456, 7, 1, 252], 0) else none) else (bif Nat.ble pc 132 then (bif Nat.beq pc 132 then some (.iconst 1, 133, [], 0) else none) else (bif Nat.beq pc 133 then some (.ireturn, 134, [1], 0) else none))))))))
set_option maxRecDepth 100000 in
theorem tk_RR_takesSign {pc : Nat} {e : Ent} (h : code_RR_takesSign pc = some e) : okE RR_takesSign pc e := cutC_ok (by decide +kernel) h
set_option maxRecDepth 100000 in
theorem mk_RR_takesSign : mOk RR_takesSign := mOk_of (by decide +kernel)
def code_RR_closeBracket : Nat → Option Ent := cutC 33 fun pc => (bif Nat.ble pc 14 then (bif Nat.ble pc 5 then (bif Nat.ble pc 1 then (bif Nat.ble pc 0 then (bif Nat.beq pc 0 then some (.aload_n 0, 1, [], 0) else none) else (bif Nat.beq pc 1 then some (.iconst 1, 2, [], 0) else none)) else (bif Nat.ble pc 2 then (bif Nat.beq pc 2 then some (.invokevirtual 69, 5, [57, 828], 0) else none) else (bif Nat.beq pc 5 then some (.aload_n 0, 6, [], 0) else none))) else (bif Nat.ble pc 9 then (bif Nat.ble pc 6 then (bif Nat.beq pc 6 then some (.getfield 32, 9, [452, 7, 0, 248], 0) else none) else (bif Nat.beq pc 9 then some (.ifCond .le 13, 12, [22], 0) else none)) else (bif Nat.ble pc 12 then (bif Nat.beq pc 12 then some (.aload_n 0, 13, [], 0) else none) else (bif Nat.ble pc 13 then (bif Nat.beq pc 13 then some (.dup, 14, [], 0) else none) else (bif Nat.beq pc 14 then some (.getfield 32, 17, [452, 7, 0, 248], 0) else none))))) else (bif Nat.ble pc 23 then (bif Nat.ble pc 18 then (bif Nat.ble pc 17 then (bif Nat.beq pc 17 then some (.iconst 1, 18, [], 0) else none) else (bif Nat.beq pc 18 then some (.isub, 19, [], 0) else none)) else (bif Nat.ble pc 19 then (bif Nat.beq pc 19 then some (.putfield 32, 22, [452, 7, 0, 248], 0) else none) else (bif Nat.ble pc 22 then (bif Nat.beq pc 22 then some (.aload_n 0, 23, [], 0) else none) else (bif Nat.beq pc 23 then some (.dup, 24, [], 0) else none)))) else (bif Nat.ble pc 27 then (bif Nat.ble pc 24 then (bif Nat.beq pc 24 then some (.getfield 35, 27, [454, 7, 0, 250], 0) else none) else (bif Nat.beq pc 27 then some (.iconst 1, 28, [], 0) else none)) else (bif Nat.ble pc 28 then (bif Nat.beq pc 28 then some (.isub, 29, [], 0) else none) else (bif Nat.ble pc 29 then (bif Nat.beq pc 29 then some (.putfield 35, 32, [454, 7, 0, 250], 0) else none) else (bif Nat.beq pc 32 then some (.return_, 33, [], 0) else none))))))
set_option maxRecDepth 100000 in
theorem tk_RR_closeBracket {pc : Nat} {e : Ent} (h : code_RR_closeBracket pc = some e) : okE RR_closeBracket pc e := cutC_ok (by decide +kernel) h
set_option maxRecDepth 100000 in
theorem mk_RR_closeBracket : mOk RR_closeBracket := mOk_of (by decide +kernel)
def code_RR_takeJoint : Nat → Option Ent := cutC 34 fun pc => (bif Nat.ble pc 15 then (bif Nat.ble pc 6 then (bif Nat.ble pc 1 then (bif Nat.ble pc 0 then (bif Nat.beq pc 0 then some (.aload_n 0, 1, [], 0) else none) else (bif Nat.beq pc 1 then some (.getfield 12, 4, [448, 7, 2, 243], 0) else none)) else (bif Nat.ble pc 4 then (bif Nat.beq pc 4 then some (.ldc 143, 6, [1, 20], 0) else none) else (bif Nat.beq pc 6 then some (.invokevirtual 111, 9, [72, 803], 0) else none))) else (bif Nat.ble pc 12 then (bif Nat.ble pc 9 then (bif Nat.beq pc 9 then some (.ifCond .eq 6, 12, [15], 0) else none) else (bif Nat.beq pc 12 then some (.bipush (-11), 14, [], 0) else none)) else (bif Nat.ble pc 14 then (bif Nat.beq pc 14 then some (.ireturn, 15, [0], 0) else none) else (bif Nat.beq pc 15 then some (.aload_n 0, 16, [], 0) else none)))) else (bif Nat.ble pc 24 then (bif Nat.ble pc 19 then (bif Nat.ble pc 16 then (bif Nat.beq pc 16 then some (.getfield 12, 19, [448, 7, 2, 243], 0) else none) else (bif Nat.beq pc 19 then some (.ldc 145, 21, [1, 22], 0) else none)) else (bif Nat.ble pc 21 then (bif Nat.beq pc 21 then some (.invokevirtual 111, 24, [72, 803], 0) else none) else (bif Nat.beq pc 24 then some (.ifCond .eq 8, 27, [32], 0) else none))) else (bif Nat.ble pc 29 then (bif Nat.ble pc 27 then (bif Nat.beq pc 27 then some (.bipush (-12), 29, [], 0) else none) else (bif Nat.beq pc 29 then some (.goto 4, 32, [33], 0) else none)) else (bif Nat.ble pc 32 then (bif Nat.beq pc 32 then some (.iconst 0, 33, [], 0) else none) else (bif Nat.beq pc 33 then some (.ireturn, 34, [0], 0) else none)))))
set_option maxRecDepth 100000 in
theorem tk_RR_takeJoint {pc : Nat} {e : Ent} (h : code_RR_takeJoint pc = some e) : okE RR_takeJoint pc e := cutC_ok (by decide +kernel) h
set_option maxRecDepth 100000 in
theorem mk_RR_takeJoint : mOk RR_takeJoint := mOk_of (by decide +kernel)
def code_RR_addSign : Nat → Option Ent := cutC 14 fun pc => (bif Nat.ble pc 5 then (bif Nat.ble pc 1 then (bif Nat.ble pc 0 then (bif Nat.beq pc 0 then some (.aload_n 0, 1, [], 0) else none) else (bif Nat.beq pc 1 then some (.iload_n 1, 2, [], 0) else none)) else (bif Nat.ble pc 2 then (bif Nat.beq pc 2 then some (.invokestatic 147, 5, [58, 832], 0) else none) else (bif Nat.beq pc 5 then some (.invokevirtual 69, 8, [57, 828], 0) else none))) else (bif Nat.ble pc 9 then (bif Nat.ble pc 8 then (bif Nat.beq pc 8 then some (.aload_n 0, 9, [], 0) else none) else (bif Nat.beq pc 9 then some (.iload_n 1, 10, [], 0) else none)) else (bif Nat.ble pc 10 then (bif Nat.beq pc 10 then some (.invokevirtual 114, 13, [53, 805], 0) else none) else (bif Nat.beq pc 13 then some (.return_, 14, [], 0) else none))))
set_option maxRecDepth 100000 in
theorem tk_RR_addSign {pc : Nat} {e : Ent} (h : code_RR_addSign pc = some e) : okE RR_addSign pc e := cutC_ok (by decide +kernel) h
set_option maxRecDepth 100000 in
theorem mk_RR_addSign : mOk RR_addSign := mOk_of (by decide +kernel)
def code_RR_signOf : Nat → Option Ent := cutC 80 fun pc => (bif Nat.ble pc 68 then (bif Nat.ble pc 62 then (bif Nat.ble pc 1 then (bif Nat.ble pc 0 then (bif Nat.beq pc 0 then some (.iload_n 0, 1, [], 0) else none) else (bif Nat.beq pc 1 then some (.lookupswitch 77 #[(42, 74), (43, 68), (45, 71), (60, 59), (61, 62), (62, 65)], 60, [78, 42, 75, 43, 69, 45, 72, 60, 60, 61, 63, 62, 66], 0) else none)) else (bif Nat.ble pc 60 then (bif Nat.beq pc 60 then some (.bipush (-14), 62, [], 0) else none) else (bif Nat.beq pc 62 then some (.ireturn, 63, [0], 0) else none))) else (bif Nat.ble pc 65 then (bif Nat.ble pc 63 then (bif Nat.beq pc 63 then some (.bipush (-15), 65, [], 0) else none) else (bif Nat.beq pc 65 then some (.ireturn, 66, [0], 0) else none)) else (bif Nat.ble pc 66 then (bif Nat.beq pc 66 then some (.bipush (-16), 68, [], 0) else none) else (bif Nat.beq pc 68 then some (.ireturn, 69, [0], 0) else none)))) else (bif Nat.ble pc 74 then (bif Nat.ble pc 71 then (bif Nat.ble pc 69 then (bif Nat.beq pc 69 then some (.bipush (-17), 71, [], 0) else none) else (bif Nat.beq pc 71 then some (.ireturn, 72, [0], 0) else none)) else (bif Nat.ble pc 72 then (bif Nat.beq pc 72 then some (.bipush (-18), 74, [], 0) else none) else (bif Nat.beq pc 74 then some (.ireturn, 75, [0], 0) else none))) else (bif Nat.ble pc 77 then (bif Nat.ble pc 75 then (bif Nat.beq pc 75 then some (.bipush (-19), 77, [], 0) else none) else (bif Nat.beq pc 77 then some (.ireturn, 78, [0], 0) else none)) else (bif Nat.ble pc 78 then (bif Nat.beq pc 78 then some (.iconst 0, 79, [], 0) else none) else (bif Nat.beq pc 79 then some (.ireturn, 80, [0], 0) else none)))))
set_option maxRecDepth 100000 in
theorem tk_RR_signOf {pc : Nat} {e : Ent} (h : code_RR_signOf pc = some e) : okE RR_signOf pc e := cutC_ok (by decide +kernel) h
set_option maxRecDepth 100000 in
theorem mk_RR_signOf : mOk RR_signOf := mOk_of (by decide +kernel)
def code_RR_isComparison : Nat → Option Ent := cutC 24 fun pc => (bif Nat.ble pc 9 then (bif Nat.ble pc 3 then (bif Nat.ble pc 0 then (bif Nat.beq pc 0 then some (.iload_n 0, 1, [], 0) else none) else (bif Nat.ble pc 1 then (bif Nat.beq pc 1 then some (.bipush (-14), 3, [], 0) else none) else (bif Nat.beq pc 3 then some (.if_icmp .eq 15, 6, [18], 0) else none))) else (bif Nat.ble pc 6 then (bif Nat.beq pc 6 then some (.iload_n 0, 7, [], 0) else none) else (bif Nat.ble pc 7 then (bif Nat.beq pc 7 then some (.bipush (-15), 9, [], 0) else none) else (bif Nat.beq pc 9 then some (.if_icmp .eq 9, 12, [18], 0) else none)))) else (bif Nat.ble pc 15 then (bif Nat.ble pc 12 then (bif Nat.beq pc 12 then some (.iload_n 0, 13, [], 0) else none) else (bif Nat.ble pc 13 then (bif Nat.beq pc 13 then some (.bipush (-16), 15, [], 0) else none) else (bif Nat.beq pc 15 then some (.if_icmp .ne 7, 18, [22], 0) else none))) else (bif Nat.ble pc 19 then (bif Nat.ble pc 18 then (bif Nat.beq pc 18 then some (.iconst 1, 19, [], 0) else none) else (bif Nat.beq pc 19 then some (.goto 4, 22, [23], 0) else none)) else (bif Nat.ble pc 22 then (bif Nat.beq pc 22 then some (.iconst 0, 23, [], 0) else none) else (bif Nat.beq pc 23 then some (.ireturn, 24, [1], 0) else none)))))
set_option maxRecDepth 100000 in
theorem tk_RR_isComparison {pc : Nat} {e : Ent} (h : code_RR_isComparison pc = some e) : okE RR_isComparison pc e := cutC_ok (by decide +kernel) h
set_option maxRecDepth 100000 in
theorem mk_RR_isComparison : mOk RR_isComparison := mOk_of (by decide +kernel)
def code_Scan_init : Nat → Option Ent := cutC 13 fun pc => (bif Nat.ble pc 5 then (bif Nat.ble pc 1 then (bif Nat.ble pc 0 then (bif Nat.beq pc 0 then some (.aload_n 0, 1, [], 0) else none) else (bif Nat.beq pc 1 then some (.invokespecial 3, 4, [999, 206, 111, 112], 0) else none)) else (bif Nat.ble pc 4 then (bif Nat.beq pc 4 then some (.aload_n 0, 5, [], 0) else none) else (bif Nat.beq pc 5 then some (.iconst 0, 6, [], 0) else none))) else (bif Nat.ble pc 8 then (bif Nat.ble pc 6 then (bif Nat.beq pc 6 then some (.newarray .int, 8, [13, 153], 0) else none) else (bif Nat.beq pc 8 then some (.iconst 0, 9, [], 0) else none)) else (bif Nat.ble pc 9 then (bif Nat.beq pc 9 then some (.invokevirtual 9, 12, [66, 207], 0) else none) else (bif Nat.beq pc 12 then some (.return_, 13, [], 0) else none))))
set_option maxRecDepth 100000 in
theorem tk_Scan_init {pc : Nat} {e : Ent} (h : code_Scan_init pc = some e) : okE Scan_init pc e := cutC_ok (by decide +kernel) h
set_option maxRecDepth 100000 in
theorem mk_Scan_init : mOk Scan_init := mOk_of (by decide +kernel)
def code_Scan_begin : Nat → Option Ent := cutC 35 fun pc => (bif Nat.ble pc 13 then (bif Nat.ble pc 6 then (bif Nat.ble pc 1 then (bif Nat.ble pc 0 then (bif Nat.beq pc 0 then some (.aload_n 0, 1, [], 0) else none) else (bif Nat.beq pc 1 then some (.aload_n 1, 2, [], 0) else none)) else (bif Nat.ble pc 2 then (bif Nat.beq pc 2 then some (.putfield 15, 5, [512, 8, 2, 217], 0) else none) else (bif Nat.ble pc 5 then (bif Nat.beq pc 5 then some (.aload_n 0, 6, [], 0) else none) else (bif Nat.beq pc 6 then some (.iconst 0, 7, [], 0) else none)))) else (bif Nat.ble pc 8 then (bif Nat.ble pc 7 then (bif Nat.beq pc 7 then some (.iload_n 2, 8, [], 0) else none) else (bif Nat.beq pc 8 then some (.aload_n 1, 9, [], 0) else none)) else (bif Nat.ble pc 9 then (bif Nat.beq pc 9 then some (.arraylength, 10, [], 0) else none) else (bif Nat.ble pc 10 then (bif Nat.beq pc 10 then some (.invokestatic 19, 13, [203, 211], 0) else none) else (bif Nat.beq pc 13 then some (.invokestatic 25, 16, [204, 214], 0) else none))))) else (bif Nat.ble pc 24 then (bif Nat.ble pc 19 then (bif Nat.ble pc 16 then (bif Nat.beq pc 16 then some (.putfield 28, 19, [513, 8, 0, 218], 0) else none) else (bif Nat.beq pc 19 then some (.aload_n 0, 20, [], 0) else none)) else (bif Nat.ble pc 20 then (bif Nat.beq pc 20 then some (.iconst 0, 21, [], 0) else none) else (bif Nat.ble pc 21 then (bif Nat.beq pc 21 then some (.putfield 32, 24, [514, 8, 0, 219], 0) else none) else (bif Nat.beq pc 24 then some (.aload_n 0, 25, [], 0) else none)))) else (bif Nat.ble pc 29 then (bif Nat.ble pc 25 then (bif Nat.beq pc 25 then some (.iconst 0, 26, [], 0) else none) else (bif Nat.ble pc 26 then (bif Nat.beq pc 26 then some (.putfield 35, 29, [515, 8, 0, 220], 0) else none) else (bif Nat.beq pc 29 then some (.aload_n 0, 30, [], 0) else none))) else (bif Nat.ble pc 30 then (bif Nat.beq pc 30 then some (.iconst (-1), 31, [], 0) else none) else (bif Nat.ble pc 31 then (bif Nat.beq pc 31 then some (.putfield 38, 34, [516, 8, 0, 222], 0) else none) else (bif Nat.beq pc 34 then some (.return_, 35, [], 0) else none))))))
set_option maxRecDepth 100000 in
theorem tk_Scan_begin {pc : Nat} {e : Ent} (h : code_Scan_begin pc = some e) : okE Scan_begin pc e := cutC_ok (by decide +kernel) h
set_option maxRecDepth 100000 in
theorem mk_Scan_begin : mOk Scan_begin := mOk_of (by decide +kernel)
def code_Scan_failed : Nat → Option Ent := cutC 13 fun pc => (bif Nat.ble pc 4 then (bif Nat.ble pc 0 then (bif Nat.beq pc 0 then some (.aload_n 0, 1, [], 0) else none) else (bif Nat.ble pc 1 then (bif Nat.beq pc 1 then some (.getfield 35, 4, [515, 8, 0, 220], 0) else none) else (bif Nat.beq pc 4 then some (.ifCond .eq 7, 7, [11], 0) else none))) else (bif Nat.ble pc 8 then (bif Nat.ble pc 7 then (bif Nat.beq pc 7 then some (.iconst 1, 8, [], 0) else none) else (bif Nat.beq pc 8 then some (.goto 4, 11, [12], 0) else none)) else (bif Nat.ble pc 11 then (bif Nat.beq pc 11 then some (.iconst 0, 12, [], 0) else none) else (bif Nat.beq pc 12 then some (.ireturn, 13, [1], 0) else none))))
set_option maxRecDepth 100000 in
theorem tk_Scan_failed {pc : Nat} {e : Ent} (h : code_Scan_failed pc = some e) : okE Scan_failed pc e := cutC_ok (by decide +kernel) h
set_option maxRecDepth 100000 in
theorem mk_Scan_failed : mOk Scan_failed := mOk_of (by decide +kernel)
def code_Scan_look : Nat → Option Ent := cutC 46 fun pc => (bif Nat.ble pc 21 then (bif Nat.ble pc 8 then (bif Nat.ble pc 1 then (bif Nat.ble pc 0 then (bif Nat.beq pc 0 then some (.aload_n 0, 1, [], 0) else none) else (bif Nat.beq pc 1 then some (.getfield 32, 4, [514, 8, 0, 219], 0) else none)) else (bif Nat.ble pc 4 then (bif Nat.beq pc 4 then some (.aload_n 0, 5, [], 0) else none) else (bif Nat.ble pc 5 then (bif Nat.beq pc 5 then some (.getfield 28, 8, [513, 8, 0, 218], 0) else none) else (bif Nat.beq pc 8 then some (.if_icmp .ge 29, 11, [37], 0) else none)))) else (bif Nat.ble pc 13 then (bif Nat.ble pc 11 then (bif Nat.beq pc 11 then some (.aload_n 0, 12, [], 0) else none) else (bif Nat.ble pc 12 then (bif Nat.beq pc 12 then some (.aload_n 0, 13, [], 0) else none) else (bif Nat.beq pc 13 then some (.getfield 32, 16, [514, 8, 0, 219], 0) else none))) else (bif Nat.ble pc 16 then (bif Nat.beq pc 16 then some (.invokevirtual 41, 19, [69, 690], 0) else none) else (bif Nat.ble pc 19 then (bif Nat.beq pc 19 then some (.bipush 32, 21, [], 0) else none) else (bif Nat.beq pc 21 then some (.if_icmp .ne 16, 24, [37], 0) else none))))) else (bif Nat.ble pc 31 then (bif Nat.ble pc 26 then (bif Nat.ble pc 24 then (bif Nat.beq pc 24 then some (.aload_n 0, 25, [], 0) else none) else (bif Nat.ble pc 25 then (bif Nat.beq pc 25 then some (.dup, 26, [], 0) else none) else (bif Nat.beq pc 26 then some (.getfield 32, 29, [514, 8, 0, 219], 0) else none))) else (bif Nat.ble pc 29 then (bif Nat.beq pc 29 then some (.iconst 1, 30, [], 0) else none) else (bif Nat.ble pc 30 then (bif Nat.beq pc 30 then some (.iadd, 31, [], 0) else none) else (bif Nat.beq pc 31 then some (.putfield 32, 34, [514, 8, 0, 219], 0) else none)))) else (bif Nat.ble pc 38 then (bif Nat.ble pc 34 then (bif Nat.beq pc 34 then some (.goto (-34), 37, [0], 0) else none) else (bif Nat.ble pc 37 then (bif Nat.beq pc 37 then some (.aload_n 0, 38, [], 0) else none) else (bif Nat.beq pc 38 then some (.aload_n 0, 39, [], 0) else none))) else (bif Nat.ble pc 39 then (bif Nat.beq pc 39 then some (.getfield 32, 42, [514, 8, 0, 219], 0) else none) else (bif Nat.ble pc 42 then (bif Nat.beq pc 42 then some (.invokevirtual 41, 45, [69, 690], 0) else none) else (bif Nat.beq pc 45 then some (.ireturn, 46, [0], 0) else none))))))
set_option maxRecDepth 100000 in
theorem tk_Scan_look {pc : Nat} {e : Ent} (h : code_Scan_look pc = some e) : okE Scan_look pc e := cutC_ok (by decide +kernel) h
set_option maxRecDepth 100000 in
theorem mk_Scan_look : mOk Scan_look := mOk_of (by decide +kernel)
def code_Scan_byteAt : Nat → Option Ent := cutC 23 fun pc => (bif Nat.ble pc 9 then (bif Nat.ble pc 4 then (bif Nat.ble pc 0 then (bif Nat.beq pc 0 then some (.iload_n 1, 1, [], 0) else none) else (bif Nat.ble pc 1 then (bif Nat.beq pc 1 then some (.ifCond .lt 20, 4, [21], 0) else none) else (bif Nat.beq pc 4 then some (.iload_n 1, 5, [], 0) else none))) else (bif Nat.ble pc 5 then (bif Nat.beq pc 5 then some (.aload_n 0, 6, [], 0) else none) else (bif Nat.ble pc 6 then (bif Nat.beq pc 6 then some (.getfield 28, 9, [513, 8, 0, 218], 0) else none) else (bif Nat.beq pc 9 then some (.if_icmp .ge 12, 12, [21], 0) else none)))) else (bif Nat.ble pc 16 then (bif Nat.ble pc 12 then (bif Nat.beq pc 12 then some (.aload_n 0, 13, [], 0) else none) else (bif Nat.ble pc 13 then (bif Nat.beq pc 13 then some (.getfield 15, 16, [512, 8, 2, 217], 0) else none) else (bif Nat.beq pc 16 then some (.iload_n 1, 17, [], 0) else none))) else (bif Nat.ble pc 18 then (bif Nat.ble pc 17 then (bif Nat.beq pc 17 then some (.iaload, 18, [], 0) else none) else (bif Nat.beq pc 18 then some (.goto 4, 21, [22], 0) else none)) else (bif Nat.ble pc 21 then (bif Nat.beq pc 21 then some (.iconst (-1), 22, [], 0) else none) else (bif Nat.beq pc 22 then some (.ireturn, 23, [0], 0) else none)))))
set_option maxRecDepth 100000 in
theorem tk_Scan_byteAt {pc : Nat} {e : Ent} (h : code_Scan_byteAt pc = some e) : okE Scan_byteAt pc e := cutC_ok (by decide +kernel) h
set_option maxRecDepth 100000 in
theorem mk_Scan_byteAt : mOk Scan_byteAt := mOk_of (by decide +kernel)
def code_Scan_seesWord : Nat → Option Ent := cutC 93 fun pc => (bif Nat.ble pc 39 then (bif Nat.ble pc 20 then (bif Nat.ble pc 9 then (bif Nat.ble pc 4 then (bif Nat.ble pc 0 then (bif Nat.beq pc 0 then some (.aload_n 0, 1, [], 0) else none) else (bif Nat.ble pc 1 then (bif Nat.beq pc 1 then some (.getfield 32, 4, [514, 8, 0, 219], 0) else none) else (bif Nat.beq pc 4 then some (.aload_n 1, 5, [], 0) else none))) else (bif Nat.ble pc 5 then (bif Nat.beq pc 5 then some (.invokevirtual 53, 8, [209, 699], 0) else none) else (bif Nat.ble pc 8 then (bif Nat.beq pc 8 then some (.iadd, 9, [], 0) else none) else (bif Nat.beq pc 9 then some (.istore_n 2, 10, [], 0) else none)))) else (bif Nat.ble pc 12 then (bif Nat.ble pc 10 then (bif Nat.beq pc 10 then some (.iload_n 2, 11, [], 0) else none) else (bif Nat.ble pc 11 then (bif Nat.beq pc 11 then some (.aload_n 0, 12, [], 0) else none) else (bif Nat.beq pc 12 then some (.getfield 28, 15, [513, 8, 0, 218], 0) else none))) else (bif Nat.ble pc 18 then (bif Nat.ble pc 15 then (bif Nat.beq pc 15 then some (.if_icmp .le 5, 18, [20], 0) else none) else (bif Nat.beq pc 18 then some (.iconst 0, 19, [], 0) else none)) else (bif Nat.ble pc 19 then (bif Nat.beq pc 19 then some (.ireturn, 20, [1], 0) else none) else (bif Nat.beq pc 20 then some (.aload_n 0, 21, [], 0) else none))))) else (bif Nat.ble pc 30 then (bif Nat.ble pc 25 then (bif Nat.ble pc 21 then (bif Nat.beq pc 21 then some (.getfield 32, 24, [514, 8, 0, 219], 0) else none) else (bif Nat.ble pc 24 then (bif Nat.beq pc 24 then some (.istore_n 3, 25, [], 0) else none) else (bif Nat.beq pc 25 then some (.iload_n 3, 26, [], 0) else none))) else (bif Nat.ble pc 26 then (bif Nat.beq pc 26 then some (.iload_n 2, 27, [], 0) else none) else (bif Nat.ble pc 27 then (bif Nat.beq pc 27 then some (.if_icmp .ge 30, 30, [57], 0) else none) else (bif Nat.beq pc 30 then some (.aload_n 0, 31, [], 0) else none)))) else (bif Nat.ble pc 35 then (bif Nat.ble pc 31 then (bif Nat.beq pc 31 then some (.getfield 15, 34, [512, 8, 2, 217], 0) else none) else (bif Nat.ble pc 34 then (bif Nat.beq pc 34 then some (.iload_n 3, 35, [], 0) else none) else (bif Nat.beq pc 35 then some (.iaload, 36, [], 0) else none))) else (bif Nat.ble pc 37 then (bif Nat.ble pc 36 then (bif Nat.beq pc 36 then some (.aload_n 1, 37, [], 0) else none) else (bif Nat.beq pc 37 then some (.iload_n 3, 38, [], 0) else none)) else (bif Nat.ble pc 38 then (bif Nat.beq pc 38 then some (.aload_n 0, 39, [], 0) else none) else (bif Nat.beq pc 39 then some (.getfield 32, 42, [514, 8, 0, 219], 0) else none)))))) else (bif Nat.ble pc 66 then (bif Nat.ble pc 51 then (bif Nat.ble pc 46 then (bif Nat.ble pc 42 then (bif Nat.beq pc 42 then some (.isub, 43, [], 0) else none) else (bif Nat.ble pc 43 then (bif Nat.beq pc 43 then some (.invokevirtual 58, 46, [211, 709], 0) else none) else (bif Nat.beq pc 46 then some (.if_icmp .eq 5, 49, [51], 0) else none))) else (bif Nat.ble pc 49 then (bif Nat.beq pc 49 then some (.iconst 0, 50, [], 0) else none) else (bif Nat.ble pc 50 then (bif Nat.beq pc 50 then some (.ireturn, 51, [1], 0) else none) else (bif Nat.beq pc 51 then some (.iinc 3 1, 54, [], 0) else none)))) else (bif Nat.ble pc 58 then (bif Nat.ble pc 54 then (bif Nat.beq pc 54 then some (.goto (-29), 57, [25], 0) else none) else (bif Nat.ble pc 57 then (bif Nat.beq pc 57 then some (.iload_n 2, 58, [], 0) else none) else (bif Nat.beq pc 58 then some (.aload_n 0, 59, [], 0) else none))) else (bif Nat.ble pc 62 then (bif Nat.ble pc 59 then (bif Nat.beq pc 59 then some (.getfield 28, 62, [513, 8, 0, 218], 0) else none) else (bif Nat.beq pc 62 then some (.if_icmp .eq 25, 65, [87], 0) else none)) else (bif Nat.ble pc 65 then (bif Nat.beq pc 65 then some (.aload_n 0, 66, [], 0) else none) else (bif Nat.beq pc 66 then some (.getfield 15, 69, [512, 8, 2, 217], 0) else none))))) else (bif Nat.ble pc 80 then (bif Nat.ble pc 71 then (bif Nat.ble pc 69 then (bif Nat.beq pc 69 then some (.iload_n 2, 70, [], 0) else none) else (bif Nat.ble pc 70 then (bif Nat.beq pc 70 then some (.iaload, 71, [], 0) else none) else (bif Nat.beq pc 71 then some (.bipush 97, 73, [], 0) else none))) else (bif Nat.ble pc 76 then (bif Nat.ble pc 73 then (bif Nat.beq pc 73 then some (.if_icmp .lt 14, 76, [87], 0) else none) else (bif Nat.beq pc 76 then some (.aload_n 0, 77, [], 0) else none)) else (bif Nat.ble pc 77 then (bif Nat.beq pc 77 then some (.getfield 15, 80, [512, 8, 2, 217], 0) else none) else (bif Nat.beq pc 80 then some (.iload_n 2, 81, [], 0) else none)))) else (bif Nat.ble pc 84 then (bif Nat.ble pc 81 then (bif Nat.beq pc 81 then some (.iaload, 82, [], 0) else none) else (bif Nat.ble pc 82 then (bif Nat.beq pc 82 then some (.bipush 122, 84, [], 0) else none) else (bif Nat.beq pc 84 then some (.if_icmp .le 7, 87, [91], 0) else none))) else (bif Nat.ble pc 88 then (bif Nat.ble pc 87 then (bif Nat.beq pc 87 then some (.iconst 1, 88, [], 0) else none) else (bif Nat.beq pc 88 then some (.goto 4, 91, [92], 0) else none)) else (bif Nat.ble pc 91 then (bif Nat.beq pc 91 then some (.iconst 0, 92, [], 0) else none) else (bif Nat.beq pc 92 then some (.ireturn, 93, [1], 0) else none)))))))
set_option maxRecDepth 100000 in
theorem tk_Scan_seesWord {pc : Nat} {e : Ent} (h : code_Scan_seesWord pc = some e) : okE Scan_seesWord pc e := cutC_ok (by decide +kernel) h
set_option maxRecDepth 100000 in
theorem mk_Scan_seesWord : mOk Scan_seesWord := mOk_of (by decide +kernel)
def code_Scan_fail : Nat → Option Ent := cutC 21 fun pc => (bif Nat.ble pc 8 then (bif Nat.ble pc 1 then (bif Nat.ble pc 0 then (bif Nat.beq pc 0 then some (.aload_n 0, 1, [], 0) else none) else (bif Nat.beq pc 1 then some (.getfield 35, 4, [515, 8, 0, 220], 0) else none)) else (bif Nat.ble pc 4 then (bif Nat.beq pc 4 then some (.ifCond .ne 16, 7, [20], 0) else none) else (bif Nat.ble pc 7 then (bif Nat.beq pc 7 then some (.aload_n 0, 8, [], 0) else none) else (bif Nat.beq pc 8 then some (.iload_n 1, 9, [], 0) else none)))) else (bif Nat.ble pc 13 then (bif Nat.ble pc 9 then (bif Nat.beq pc 9 then some (.putfield 35, 12, [515, 8, 0, 220], 0) else none) else (bif Nat.ble pc 12 then (bif Nat.beq pc 12 then some (.aload_n 0, 13, [], 0) else none) else (bif Nat.beq pc 13 then some (.aload_n 0, 14, [], 0) else none))) else (bif Nat.ble pc 14 then (bif Nat.beq pc 14 then some (.getfield 32, 17, [514, 8, 0, 219], 0) else none) else (bif Nat.ble pc 17 then (bif Nat.beq pc 17 then some (.putfield 38, 20, [516, 8, 0, 222], 0) else none) else (bif Nat.beq pc 20 then some (.return_, 21, [], 0) else none)))))
set_option maxRecDepth 100000 in
theorem tk_Scan_fail {pc : Nat} {e : Ent} (h : code_Scan_fail pc = some e) : okE Scan_fail pc e := cutC_ok (by decide +kernel) h
set_option maxRecDepth 100000 in
theorem mk_Scan_fail : mOk Scan_fail := mOk_of (by decide +kernel)
def code_Scan_takesWord : Nat → Option Ent := cutC 25 fun pc => (bif Nat.ble pc 10 then (bif Nat.ble pc 2 then (bif Nat.ble pc 0 then (bif Nat.beq pc 0 then some (.aload_n 0, 1, [], 0) else none) else (bif Nat.ble pc 1 then (bif Nat.beq pc 1 then some (.aload_n 1, 2, [], 0) else none) else (bif Nat.beq pc 2 then some (.invokevirtual 62, 5, [70, 759], 0) else none))) else (bif Nat.ble pc 6 then (bif Nat.ble pc 5 then (bif Nat.beq pc 5 then some (.istore_n 2, 6, [], 0) else none) else (bif Nat.beq pc 6 then some (.iload_n 2, 7, [], 0) else none)) else (bif Nat.ble pc 7 then (bif Nat.beq pc 7 then some (.ifCond .eq 16, 10, [23], 0) else none) else (bif Nat.beq pc 10 then some (.aload_n 0, 11, [], 0) else none)))) else (bif Nat.ble pc 16 then (bif Nat.ble pc 12 then (bif Nat.ble pc 11 then (bif Nat.beq pc 11 then some (.dup, 12, [], 0) else none) else (bif Nat.beq pc 12 then some (.getfield 32, 15, [514, 8, 0, 219], 0) else none)) else (bif Nat.ble pc 15 then (bif Nat.beq pc 15 then some (.aload_n 1, 16, [], 0) else none) else (bif Nat.beq pc 16 then some (.invokevirtual 53, 19, [209, 699], 0) else none))) else (bif Nat.ble pc 20 then (bif Nat.ble pc 19 then (bif Nat.beq pc 19 then some (.iadd, 20, [], 0) else none) else (bif Nat.beq pc 20 then some (.putfield 32, 23, [514, 8, 0, 219], 0) else none)) else (bif Nat.ble pc 23 then (bif Nat.beq pc 23 then some (.iload_n 2, 24, [], 0) else none) else (bif Nat.beq pc 24 then some (.ireturn, 25, [1], 0) else none)))))
set_option maxRecDepth 100000 in
theorem tk_Scan_takesWord {pc : Nat} {e : Ent} (h : code_Scan_takesWord pc = some e) : okE Scan_takesWord pc e := cutC_ok (by decide +kernel) h
set_option maxRecDepth 100000 in
theorem mk_Scan_takesWord : mOk Scan_takesWord := mOk_of (by decide +kernel)
def code_Scan_isDigit : Nat → Option Ent := cutC 18 fun pc => (bif Nat.ble pc 7 then (bif Nat.ble pc 1 then (bif Nat.ble pc 0 then (bif Nat.beq pc 0 then some (.iload_n 0, 1, [], 0) else none) else (bif Nat.beq pc 1 then some (.bipush 48, 3, [], 0) else none)) else (bif Nat.ble pc 3 then (bif Nat.beq pc 3 then some (.if_icmp .lt 13, 6, [16], 0) else none) else (bif Nat.ble pc 6 then (bif Nat.beq pc 6 then some (.iload_n 0, 7, [], 0) else none) else (bif Nat.beq pc 7 then some (.bipush 57, 9, [], 0) else none)))) else (bif Nat.ble pc 12 then (bif Nat.ble pc 9 then (bif Nat.beq pc 9 then some (.if_icmp .gt 7, 12, [16], 0) else none) else (bif Nat.beq pc 12 then some (.iconst 1, 13, [], 0) else none)) else (bif Nat.ble pc 13 then (bif Nat.beq pc 13 then some (.goto 4, 16, [17], 0) else none) else (bif Nat.ble pc 16 then (bif Nat.beq pc 16 then some (.iconst 0, 17, [], 0) else none) else (bif Nat.beq pc 17 then some (.ireturn, 18, [1], 0) else none)))))
set_option maxRecDepth 100000 in
theorem tk_Scan_isDigit {pc : Nat} {e : Ent} (h : code_Scan_isDigit pc = some e) : okE Scan_isDigit pc e := cutC_ok (by decide +kernel) h
set_option maxRecDepth 100000 in
theorem mk_Scan_isDigit : mOk Scan_isDigit := mOk_of (by decide +kernel)
def code_Scan_takeNumber : Nat → Option Ent := cutC 73 fun pc => (bif Nat.ble pc 32 then (bif Nat.ble pc 15 then (bif Nat.ble pc 6 then (bif Nat.ble pc 1 then (bif Nat.ble pc 0 then (bif Nat.beq pc 0 then some (.aload_n 0, 1, [], 0) else none) else (bif Nat.beq pc 1 then some (.getfield 32, 4, [514, 8, 0, 219], 0) else none)) else (bif Nat.ble pc 4 then (bif Nat.beq pc 4 then some (.istore_n 1, 5, [], 0) else none) else (bif Nat.ble pc 5 then (bif Nat.beq pc 5 then some (.iconst 0, 6, [], 0) else none) else (bif Nat.beq pc 6 then some (.istore_n 2, 7, [], 0) else none)))) else (bif Nat.ble pc 8 then (bif Nat.ble pc 7 then (bif Nat.beq pc 7 then some (.iload_n 1, 8, [], 0) else none) else (bif Nat.beq pc 8 then some (.aload_n 0, 9, [], 0) else none)) else (bif Nat.ble pc 9 then (bif Nat.beq pc 9 then some (.getfield 28, 12, [513, 8, 0, 218], 0) else none) else (bif Nat.ble pc 12 then (bif Nat.beq pc 12 then some (.if_icmp .ge 40, 15, [52], 0) else none) else (bif Nat.beq pc 15 then some (.aload_n 0, 16, [], 0) else none))))) else (bif Nat.ble pc 26 then (bif Nat.ble pc 17 then (bif Nat.ble pc 16 then (bif Nat.beq pc 16 then some (.iload_n 1, 17, [], 0) else none) else (bif Nat.beq pc 17 then some (.invokevirtual 41, 20, [69, 690], 0) else none)) else (bif Nat.ble pc 20 then (bif Nat.beq pc 20 then some (.invokestatic 45, 23, [73, 767], 0) else none) else (bif Nat.ble pc 23 then (bif Nat.beq pc 23 then some (.ifCond .eq 29, 26, [52], 0) else none) else (bif Nat.beq pc 26 then some (.bipush 10, 28, [], 0) else none)))) else (bif Nat.ble pc 29 then (bif Nat.ble pc 28 then (bif Nat.beq pc 28 then some (.iload_n 2, 29, [], 0) else none) else (bif Nat.beq pc 29 then some (.imul, 30, [], 0) else none)) else (bif Nat.ble pc 30 then (bif Nat.beq pc 30 then some (.aload_n 0, 31, [], 0) else none) else (bif Nat.ble pc 31 then (bif Nat.beq pc 31 then some (.iload_n 1, 32, [], 0) else none) else (bif Nat.beq pc 32 then some (.invokevirtual 41, 35, [69, 690], 0) else none)))))) else (bif Nat.ble pc 53 then (bif Nat.ble pc 42 then (bif Nat.ble pc 36 then (bif Nat.ble pc 35 then (bif Nat.beq pc 35 then some (.iadd, 36, [], 0) else none) else (bif Nat.beq pc 36 then some (.bipush 48, 38, [], 0) else none)) else (bif Nat.ble pc 38 then (bif Nat.beq pc 38 then some (.isub, 39, [], 0) else none) else (bif Nat.ble pc 39 then (bif Nat.beq pc 39 then some (.sipush 10000, 42, [], 0) else none) else (bif Nat.beq pc 42 then some (.invokestatic 19, 45, [203, 211], 0) else none)))) else (bif Nat.ble pc 46 then (bif Nat.ble pc 45 then (bif Nat.beq pc 45 then some (.istore_n 2, 46, [], 0) else none) else (bif Nat.beq pc 46 then some (.iinc 1 1, 49, [], 0) else none)) else (bif Nat.ble pc 49 then (bif Nat.beq pc 49 then some (.goto (-42), 52, [7], 0) else none) else (bif Nat.ble pc 52 then (bif Nat.beq pc 52 then some (.iload_n 2, 53, [], 0) else none) else (bif Nat.beq pc 53 then some (.sipush 9999, 56, [], 0) else none))))) else (bif Nat.ble pc 64 then (bif Nat.ble pc 59 then (bif Nat.ble pc 56 then (bif Nat.beq pc 56 then some (.if_icmp .le 10, 59, [66], 0) else none) else (bif Nat.beq pc 59 then some (.aload_n 0, 60, [], 0) else none)) else (bif Nat.ble pc 60 then (bif Nat.beq pc 60 then some (.iconst 2, 61, [], 0) else none) else (bif Nat.ble pc 61 then (bif Nat.beq pc 61 then some (.invokevirtual 49, 64, [71, 768], 0) else none) else (bif Nat.beq pc 64 then some (.iconst 0, 65, [], 0) else none)))) else (bif Nat.ble pc 67 then (bif Nat.ble pc 65 then (bif Nat.beq pc 65 then some (.ireturn, 66, [0], 0) else none) else (bif Nat.ble pc 66 then (bif Nat.beq pc 66 then some (.aload_n 0, 67, [], 0) else none) else (bif Nat.beq pc 67 then some (.iload_n 1, 68, [], 0) else none))) else (bif Nat.ble pc 68 then (bif Nat.beq pc 68 then some (.putfield 32, 71, [514, 8, 0, 219], 0) else none) else (bif Nat.ble pc 71 then (bif Nat.beq pc 71 then some (.iload_n 2, 72, [], 0) else none) else (bif Nat.beq pc 72 then some (.ireturn, 73, [0], 0) else none)))))))
set_option maxRecDepth 100000 in
theorem tk_Scan_takeNumber {pc : Nat} {e : Ent} (h : code_Scan_takeNumber pc = some e) : okE Scan_takeNumber pc e := cutC_ok (by decide +kernel) h
set_option maxRecDepth 100000 in
theorem mk_Scan_takeNumber : mOk Scan_takeNumber := mOk_of (by decide +kernel)
def code_Scan_step : Nat → Option Ent := cutC 22 fun pc => (bif Nat.ble pc 11 then (bif Nat.ble pc 4 then (bif Nat.ble pc 0 then (bif Nat.beq pc 0 then some (.aload_n 0, 1, [], 0) else none) else (bif Nat.ble pc 1 then (bif Nat.beq pc 1 then some (.getfield 32, 4, [514, 8, 0, 219], 0) else none) else (bif Nat.beq pc 4 then some (.aload_n 0, 5, [], 0) else none))) else (bif Nat.ble pc 5 then (bif Nat.beq pc 5 then some (.getfield 28, 8, [513, 8, 0, 218], 0) else none) else (bif Nat.ble pc 8 then (bif Nat.beq pc 8 then some (.if_icmp .ge 13, 11, [21], 0) else none) else (bif Nat.beq pc 11 then some (.aload_n 0, 12, [], 0) else none)))) else (bif Nat.ble pc 16 then (bif Nat.ble pc 12 then (bif Nat.beq pc 12 then some (.dup, 13, [], 0) else none) else (bif Nat.ble pc 13 then (bif Nat.beq pc 13 then some (.getfield 32, 16, [514, 8, 0, 219], 0) else none) else (bif Nat.beq pc 16 then some (.iconst 1, 17, [], 0) else none))) else (bif Nat.ble pc 17 then (bif Nat.beq pc 17 then some (.iadd, 18, [], 0) else none) else (bif Nat.ble pc 18 then (bif Nat.beq pc 18 then some (.putfield 32, 21, [514, 8, 0, 219], 0) else none) else (bif Nat.beq pc 21 then some (.return_, 22, [], 0) else none)))))
set_option maxRecDepth 100000 in
theorem tk_Scan_step {pc : Nat} {e : Ent} (h : code_Scan_step pc = some e) : okE Scan_step pc e := cutC_ok (by decide +kernel) h
set_option maxRecDepth 100000 in
theorem mk_Scan_step : mOk Scan_step := mOk_of (by decide +kernel)
def code_Shp_init : Nat → Option Ent := cutC 37 fun pc => (bif Nat.ble pc 16 then (bif Nat.ble pc 5 then (bif Nat.ble pc 1 then (bif Nat.ble pc 0 then (bif Nat.beq pc 0 then some (.aload_n 0, 1, [], 0) else none) else (bif Nat.beq pc 1 then some (.invokespecial 3, 4, [999, 361, 111, 112], 0) else none)) else (bif Nat.ble pc 4 then (bif Nat.beq pc 4 then some (.aload_n 0, 5, [], 0) else none) else (bif Nat.beq pc 5 then some (.new 9, 8, [3, 5, 362], 0) else none))) else (bif Nat.ble pc 9 then (bif Nat.ble pc 8 then (bif Nat.beq pc 8 then some (.dup, 9, [], 0) else none) else (bif Nat.beq pc 9 then some (.invokespecial 11, 12, [13, 363], 0) else none)) else (bif Nat.ble pc 12 then (bif Nat.beq pc 12 then some (.putfield 12, 15, [576, 9, 2, 364], 0) else none) else (bif Nat.ble pc 15 then (bif Nat.beq pc 15 then some (.aload_n 0, 16, [], 0) else none) else (bif Nat.beq pc 16 then some (.bipush 10, 18, [], 0) else none))))) else (bif Nat.ble pc 26 then (bif Nat.ble pc 20 then (bif Nat.ble pc 18 then (bif Nat.beq pc 18 then some (.newarray .int, 20, [13, 153], 0) else none) else (bif Nat.beq pc 20 then some (.putfield 18, 23, [577, 9, 2, 365], 0) else none)) else (bif Nat.ble pc 23 then (bif Nat.beq pc 23 then some (.aload_n 0, 24, [], 0) else none) else (bif Nat.ble pc 24 then (bif Nat.beq pc 24 then some (.bipush 100, 26, [], 0) else none) else (bif Nat.beq pc 26 then some (.newarray .int, 28, [13, 153], 0) else none)))) else (bif Nat.ble pc 31 then (bif Nat.ble pc 28 then (bif Nat.beq pc 28 then some (.putfield 22, 31, [578, 9, 2, 366], 0) else none) else (bif Nat.beq pc 31 then some (.aload_n 0, 32, [], 0) else none)) else (bif Nat.ble pc 32 then (bif Nat.beq pc 32 then some (.iconst 0, 33, [], 0) else none) else (bif Nat.ble pc 33 then (bif Nat.beq pc 33 then some (.putfield 25, 36, [579, 9, 0, 367], 0) else none) else (bif Nat.beq pc 36 then some (.return_, 37, [], 0) else none))))))
set_option maxRecDepth 100000 in
theorem tk_Shp_init {pc : Nat} {e : Ent} (h : code_Shp_init pc = some e) : okE Shp_init pc e := cutC_ok (by decide +kernel) h
set_option maxRecDepth 100000 in
theorem mk_Shp_init : mOk Shp_init := mOk_of (by decide +kernel)
def code_Shp_edgeOf : Nat → Option Ent := cutC 128 fun pc => (bif Nat.ble pc 60 then (bif Nat.ble pc 31 then (bif Nat.ble pc 12 then (bif Nat.ble pc 3 then (bif Nat.ble pc 1 then (bif Nat.ble pc 0 then (bif Nat.beq pc 0 then some (.iconst 0, 1, [], 0) else none) else (bif Nat.beq pc 1 then some (.istore_n 2, 2, [], 0) else none)) else (bif Nat.ble pc 2 then (bif Nat.beq pc 2 then some (.iconst 0, 3, [], 0) else none) else (bif Nat.beq pc 3 then some (.istore_n 3, 4, [], 0) else none))) else (bif Nat.ble pc 5 then (bif Nat.ble pc 4 then (bif Nat.beq pc 4 then some (.iload_n 3, 5, [], 0) else none) else (bif Nat.beq pc 5 then some (.aload_n 1, 6, [], 0) else none)) else (bif Nat.ble pc 6 then (bif Nat.beq pc 6 then some (.getfield 29, 9, [194, 3, 0, 134], 0) else none) else (bif Nat.ble pc 9 then (bif Nat.beq pc 9 then some (.if_icmp .ge 117, 12, [126], 0) else none) else (bif Nat.beq pc 12 then some (.iconst 0, 13, [], 0) else none))))) else (bif Nat.ble pc 21 then (bif Nat.ble pc 15 then (bif Nat.ble pc 13 then (bif Nat.beq pc 13 then some (.istore 4, 15, [], 0) else none) else (bif Nat.beq pc 15 then some (.iload 4, 17, [], 0) else none)) else (bif Nat.ble pc 17 then (bif Nat.beq pc 17 then some (.aload_n 1, 18, [], 0) else none) else (bif Nat.ble pc 18 then (bif Nat.beq pc 18 then some (.getfield 32, 21, [193, 3, 0, 129], 0) else none) else (bif Nat.beq pc 21 then some (.if_icmp .ge 99, 24, [120], 0) else none)))) else (bif Nat.ble pc 25 then (bif Nat.ble pc 24 then (bif Nat.beq pc 24 then some (.aload_n 1, 25, [], 0) else none) else (bif Nat.beq pc 25 then some (.iload 4, 27, [], 0) else none)) else (bif Nat.ble pc 27 then (bif Nat.beq pc 27 then some (.iload_n 3, 28, [], 0) else none) else (bif Nat.ble pc 28 then (bif Nat.beq pc 28 then some (.invokevirtual 35, 31, [25, 976], 0) else none) else (bif Nat.beq pc 31 then some (.ifCond .eq 83, 34, [114], 0) else none)))))) else (bif Nat.ble pc 47 then (bif Nat.ble pc 38 then (bif Nat.ble pc 35 then (bif Nat.ble pc 34 then (bif Nat.beq pc 34 then some (.iload_n 2, 35, [], 0) else none) else (bif Nat.beq pc 35 then some (.aload_n 1, 36, [], 0) else none)) else (bif Nat.ble pc 36 then (bif Nat.beq pc 36 then some (.iload 4, 38, [], 0) else none) else (bif Nat.beq pc 38 then some (.iconst 1, 39, [], 0) else none))) else (bif Nat.ble pc 40 then (bif Nat.ble pc 39 then (bif Nat.beq pc 39 then some (.isub, 40, [], 0) else none) else (bif Nat.beq pc 40 then some (.iload_n 3, 41, [], 0) else none)) else (bif Nat.ble pc 41 then (bif Nat.beq pc 41 then some (.invokevirtual 35, 44, [25, 976], 0) else none) else (bif Nat.ble pc 44 then (bif Nat.beq pc 44 then some (.ifCond .eq 7, 47, [51], 0) else none) else (bif Nat.beq pc 47 then some (.iconst 0, 48, [], 0) else none))))) else (bif Nat.ble pc 54 then (bif Nat.ble pc 51 then (bif Nat.ble pc 48 then (bif Nat.beq pc 48 then some (.goto 4, 51, [52], 0) else none) else (bif Nat.beq pc 51 then some (.iconst 1, 52, [], 0) else none)) else (bif Nat.ble pc 52 then (bif Nat.beq pc 52 then some (.iadd, 53, [], 0) else none) else (bif Nat.ble pc 53 then (bif Nat.beq pc 53 then some (.istore_n 2, 54, [], 0) else none) else (bif Nat.beq pc 54 then some (.iload_n 2, 55, [], 0) else none)))) else (bif Nat.ble pc 56 then (bif Nat.ble pc 55 then (bif Nat.beq pc 55 then some (.aload_n 1, 56, [], 0) else none) else (bif Nat.beq pc 56 then some (.iload 4, 58, [], 0) else none)) else (bif Nat.ble pc 58 then (bif Nat.beq pc 58 then some (.iconst 1, 59, [], 0) else none) else (bif Nat.ble pc 59 then (bif Nat.beq pc 59 then some (.iadd, 60, [], 0) else none) else (bif Nat.beq pc 60 then some (.iload_n 3, 61, [], 0) else none))))))) else (bif Nat.ble pc 92 then (bif Nat.ble pc 75 then (bif Nat.ble pc 68 then (bif Nat.ble pc 64 then (bif Nat.ble pc 61 then (bif Nat.beq pc 61 then some (.invokevirtual 35, 64, [25, 976], 0) else none) else (bif Nat.beq pc 64 then some (.ifCond .eq 7, 67, [71], 0) else none)) else (bif Nat.ble pc 67 then (bif Nat.beq pc 67 then some (.iconst 0, 68, [], 0) else none) else (bif Nat.beq pc 68 then some (.goto 4, 71, [72], 0) else none))) else (bif Nat.ble pc 72 then (bif Nat.ble pc 71 then (bif Nat.beq pc 71 then some (.iconst 1, 72, [], 0) else none) else (bif Nat.beq pc 72 then some (.iadd, 73, [], 0) else none)) else (bif Nat.ble pc 73 then (bif Nat.beq pc 73 then some (.istore_n 2, 74, [], 0) else none) else (bif Nat.ble pc 74 then (bif Nat.beq pc 74 then some (.iload_n 2, 75, [], 0) else none) else (bif Nat.beq pc 75 then some (.aload_n 1, 76, [], 0) else none))))) else (bif Nat.ble pc 81 then (bif Nat.ble pc 78 then (bif Nat.ble pc 76 then (bif Nat.beq pc 76 then some (.iload 4, 78, [], 0) else none) else (bif Nat.beq pc 78 then some (.iload_n 3, 79, [], 0) else none)) else (bif Nat.ble pc 79 then (bif Nat.beq pc 79 then some (.iconst 1, 80, [], 0) else none) else (bif Nat.ble pc 80 then (bif Nat.beq pc 80 then some (.isub, 81, [], 0) else none) else (bif Nat.beq pc 81 then some (.invokevirtual 35, 84, [25, 976], 0) else none)))) else (bif Nat.ble pc 87 then (bif Nat.ble pc 84 then (bif Nat.beq pc 84 then some (.ifCond .eq 7, 87, [91], 0) else none) else (bif Nat.beq pc 87 then some (.iconst 0, 88, [], 0) else none)) else (bif Nat.ble pc 88 then (bif Nat.beq pc 88 then some (.goto 4, 91, [92], 0) else none) else (bif Nat.ble pc 91 then (bif Nat.beq pc 91 then some (.iconst 1, 92, [], 0) else none) else (bif Nat.beq pc 92 then some (.iadd, 93, [], 0) else none)))))) else (bif Nat.ble pc 107 then (bif Nat.ble pc 98 then (bif Nat.ble pc 94 then (bif Nat.ble pc 93 then (bif Nat.beq pc 93 then some (.istore_n 2, 94, [], 0) else none) else (bif Nat.beq pc 94 then some (.iload_n 2, 95, [], 0) else none)) else (bif Nat.ble pc 95 then (bif Nat.beq pc 95 then some (.aload_n 1, 96, [], 0) else none) else (bif Nat.ble pc 96 then (bif Nat.beq pc 96 then some (.iload 4, 98, [], 0) else none) else (bif Nat.beq pc 98 then some (.iload_n 3, 99, [], 0) else none)))) else (bif Nat.ble pc 100 then (bif Nat.ble pc 99 then (bif Nat.beq pc 99 then some (.iconst 1, 100, [], 0) else none) else (bif Nat.beq pc 100 then some (.iadd, 101, [], 0) else none)) else (bif Nat.ble pc 101 then (bif Nat.beq pc 101 then some (.invokevirtual 35, 104, [25, 976], 0) else none) else (bif Nat.ble pc 104 then (bif Nat.beq pc 104 then some (.ifCond .eq 7, 107, [111], 0) else none) else (bif Nat.beq pc 107 then some (.iconst 0, 108, [], 0) else none))))) else (bif Nat.ble pc 114 then (bif Nat.ble pc 111 then (bif Nat.ble pc 108 then (bif Nat.beq pc 108 then some (.goto 4, 111, [112], 0) else none) else (bif Nat.beq pc 111 then some (.iconst 1, 112, [], 0) else none)) else (bif Nat.ble pc 112 then (bif Nat.beq pc 112 then some (.iadd, 113, [], 0) else none) else (bif Nat.ble pc 113 then (bif Nat.beq pc 113 then some (.istore_n 2, 114, [], 0) else none) else (bif Nat.beq pc 114 then some (.iinc 4 1, 117, [], 0) else none)))) else (bif Nat.ble pc 120 then (bif Nat.ble pc 117 then (bif Nat.beq pc 117 then some (.goto (-102), 120, [15], 0) else none) else (bif Nat.beq pc 120 then some (.iinc 3 1, 123, [], 0) else none)) else (bif Nat.ble pc 123 then (bif Nat.beq pc 123 then some (.goto (-119), 126, [4], 0) else none) else (bif Nat.ble pc 126 then (bif Nat.beq pc 126 then some (.iload_n 2, 127, [], 0) else none) else (bif Nat.beq pc 127 then some (.ireturn, 128, [0], 0) else none))))))))
set_option maxRecDepth 100000 in
theorem tk_Shp_edgeOf {pc : Nat} {e : Ent} (h : code_Shp_edgeOf pc = some e) : okE Shp_edgeOf pc e := cutC_ok (by decide +kernel) h
set_option maxRecDepth 100000 in
theorem mk_Shp_edgeOf : mOk Shp_edgeOf := mOk_of (by decide +kernel)
def code_Shp_partsOf : Nat → Option Ent := cutC 7 fun pc => (bif Nat.ble pc 1 then (bif Nat.ble pc 0 then (bif Nat.beq pc 0 then some (.aload_n 0, 1, [], 0) else none) else (bif Nat.beq pc 1 then some (.aload_n 1, 2, [], 0) else none)) else (bif Nat.ble pc 2 then (bif Nat.beq pc 2 then some (.iconst 1, 3, [], 0) else none) else (bif Nat.ble pc 3 then (bif Nat.beq pc 3 then some (.invokevirtual 39, 6, [79, 984], 0) else none) else (bif Nat.beq pc 6 then some (.ireturn, 7, [0], 0) else none))))
set_option maxRecDepth 100000 in
theorem tk_Shp_partsOf {pc : Nat} {e : Ent} (h : code_Shp_partsOf pc = some e) : okE Shp_partsOf pc e := cutC_ok (by decide +kernel) h
set_option maxRecDepth 100000 in
theorem mk_Shp_partsOf : mOk Shp_partsOf := mOk_of (by decide +kernel)
def code_Shp_countSets : Nat → Option Ent := cutC 90 fun pc => (bif Nat.ble pc 41 then (bif Nat.ble pc 19 then (bif Nat.ble pc 9 then (bif Nat.ble pc 4 then (bif Nat.ble pc 0 then (bif Nat.beq pc 0 then some (.aload_n 0, 1, [], 0) else none) else (bif Nat.ble pc 1 then (bif Nat.beq pc 1 then some (.getfield 18, 4, [577, 9, 2, 365], 0) else none) else (bif Nat.beq pc 4 then some (.iconst 0, 5, [], 0) else none))) else (bif Nat.ble pc 5 then (bif Nat.beq pc 5 then some (.invokestatic 43, 8, [206, 988], 0) else none) else (bif Nat.ble pc 8 then (bif Nat.beq pc 8 then some (.iconst 0, 9, [], 0) else none) else (bif Nat.beq pc 9 then some (.istore_n 3, 10, [], 0) else none)))) else (bif Nat.ble pc 13 then (bif Nat.ble pc 10 then (bif Nat.beq pc 10 then some (.iconst 0, 11, [], 0) else none) else (bif Nat.ble pc 11 then (bif Nat.beq pc 11 then some (.istore 4, 13, [], 0) else none) else (bif Nat.beq pc 13 then some (.iload 4, 15, [], 0) else none))) else (bif Nat.ble pc 15 then (bif Nat.beq pc 15 then some (.aload_n 1, 16, [], 0) else none) else (bif Nat.ble pc 16 then (bif Nat.beq pc 16 then some (.getfield 29, 19, [194, 3, 0, 134], 0) else none) else (bif Nat.beq pc 19 then some (.if_icmp .ge 69, 22, [88], 0) else none))))) else (bif Nat.ble pc 31 then (bif Nat.ble pc 25 then (bif Nat.ble pc 22 then (bif Nat.beq pc 22 then some (.iconst 0, 23, [], 0) else none) else (bif Nat.ble pc 23 then (bif Nat.beq pc 23 then some (.istore 5, 25, [], 0) else none) else (bif Nat.beq pc 25 then some (.iload 5, 27, [], 0) else none))) else (bif Nat.ble pc 27 then (bif Nat.beq pc 27 then some (.aload_n 1, 28, [], 0) else none) else (bif Nat.ble pc 28 then (bif Nat.beq pc 28 then some (.getfield 32, 31, [193, 3, 0, 129], 0) else none) else (bif Nat.beq pc 31 then some (.if_icmp .ge 51, 34, [82], 0) else none)))) else (bif Nat.ble pc 36 then (bif Nat.ble pc 34 then (bif Nat.beq pc 34 then some (.aload_n 0, 35, [], 0) else none) else (bif Nat.ble pc 35 then (bif Nat.beq pc 35 then some (.aload_n 1, 36, [], 0) else none) else (bif Nat.beq pc 36 then some (.iload 5, 38, [], 0) else none))) else (bif Nat.ble pc 38 then (bif Nat.beq pc 38 then some (.iload 4, 40, [], 0) else none) else (bif Nat.ble pc 40 then (bif Nat.beq pc 40 then some (.iload_n 2, 41, [], 0) else none) else (bif Nat.beq pc 41 then some (.invokevirtual 49, 44, [80, 989], 0) else none)))))) else (bif Nat.ble pc 64 then (bif Nat.ble pc 53 then (bif Nat.ble pc 48 then (bif Nat.ble pc 44 then (bif Nat.beq pc 44 then some (.ifCond .eq 32, 47, [76], 0) else none) else (bif Nat.ble pc 47 then (bif Nat.beq pc 47 then some (.aload_n 0, 48, [], 0) else none) else (bif Nat.beq pc 48 then some (.aload_n 1, 49, [], 0) else none))) else (bif Nat.ble pc 49 then (bif Nat.beq pc 49 then some (.iload 5, 51, [], 0) else none) else (bif Nat.ble pc 51 then (bif Nat.beq pc 51 then some (.iload 4, 53, [], 0) else none) else (bif Nat.beq pc 53 then some (.iload_n 2, 54, [], 0) else none)))) else (bif Nat.ble pc 59 then (bif Nat.ble pc 54 then (bif Nat.beq pc 54 then some (.invokevirtual 53, 57, [81, 994], 0) else none) else (bif Nat.ble pc 57 then (bif Nat.beq pc 57 then some (.istore 6, 59, [], 0) else none) else (bif Nat.beq pc 59 then some (.iload_n 3, 60, [], 0) else none))) else (bif Nat.ble pc 60 then (bif Nat.beq pc 60 then some (.iload_n 2, 61, [], 0) else none) else (bif Nat.ble pc 61 then (bif Nat.beq pc 61 then some (.ifCond .ne 8, 64, [69], 0) else none) else (bif Nat.beq pc 64 then some (.iload 6, 66, [], 0) else none))))) else (bif Nat.ble pc 75 then (bif Nat.ble pc 70 then (bif Nat.ble pc 66 then (bif Nat.beq pc 66 then some (.ifCond .ne 7, 69, [73], 0) else none) else (bif Nat.ble pc 69 then (bif Nat.beq pc 69 then some (.iconst 1, 70, [], 0) else none) else (bif Nat.beq pc 70 then some (.goto 4, 73, [74], 0) else none))) else (bif Nat.ble pc 73 then (bif Nat.beq pc 73 then some (.iconst 0, 74, [], 0) else none) else (bif Nat.ble pc 74 then (bif Nat.beq pc 74 then some (.iadd, 75, [], 0) else none) else (bif Nat.beq pc 75 then some (.istore_n 3, 76, [], 0) else none)))) else (bif Nat.ble pc 82 then (bif Nat.ble pc 76 then (bif Nat.beq pc 76 then some (.iinc 5 1, 79, [], 0) else none) else (bif Nat.ble pc 79 then (bif Nat.beq pc 79 then some (.goto (-54), 82, [25], 0) else none) else (bif Nat.beq pc 82 then some (.iinc 4 1, 85, [], 0) else none))) else (bif Nat.ble pc 85 then (bif Nat.beq pc 85 then some (.goto (-72), 88, [13], 0) else none) else (bif Nat.ble pc 88 then (bif Nat.beq pc 88 then some (.iload_n 3, 89, [], 0) else none) else (bif Nat.beq pc 89 then some (.ireturn, 90, [0], 0) else none)))))))
set_option maxRecDepth 100000 in
theorem tk_Shp_countSets {pc : Nat} {e : Ent} (h : code_Shp_countSets pc = some e) : okE Shp_countSets pc e := cutC_ok (by decide +kernel) h
set_option maxRecDepth 100000 in
theorem mk_Shp_countSets : mOk Shp_countSets := mOk_of (by decide +kernel)
def code_Shp_isFresh : Nat → Option Ent := cutC 39 fun pc => (bif Nat.ble pc 20 then (bif Nat.ble pc 9 then (bif Nat.ble pc 2 then (bif Nat.ble pc 0 then (bif Nat.beq pc 0 then some (.aload_n 1, 1, [], 0) else none) else (bif Nat.ble pc 1 then (bif Nat.beq pc 1 then some (.iload_n 2, 2, [], 0) else none) else (bif Nat.beq pc 2 then some (.iload_n 3, 3, [], 0) else none))) else (bif Nat.ble pc 3 then (bif Nat.beq pc 3 then some (.invokevirtual 56, 6, [19, 993], 0) else none) else (bif Nat.ble pc 6 then (bif Nat.beq pc 6 then some (.ifCond .eq 31, 9, [37], 0) else none) else (bif Nat.beq pc 9 then some (.aload_n 1, 10, [], 0) else none)))) else (bif Nat.ble pc 12 then (bif Nat.ble pc 10 then (bif Nat.beq pc 10 then some (.iload_n 2, 11, [], 0) else none) else (bif Nat.ble pc 11 then (bif Nat.beq pc 11 then some (.iload_n 3, 12, [], 0) else none) else (bif Nat.beq pc 12 then some (.invokevirtual 35, 15, [25, 976], 0) else none))) else (bif Nat.ble pc 15 then (bif Nat.beq pc 15 then some (.iload 4, 17, [], 0) else none) else (bif Nat.ble pc 17 then (bif Nat.beq pc 17 then some (.if_icmp .ne 20, 20, [37], 0) else none) else (bif Nat.beq pc 20 then some (.aload_n 0, 21, [], 0) else none))))) else (bif Nat.ble pc 28 then (bif Nat.ble pc 25 then (bif Nat.ble pc 21 then (bif Nat.beq pc 21 then some (.getfield 18, 24, [577, 9, 2, 365], 0) else none) else (bif Nat.ble pc 24 then (bif Nat.beq pc 24 then some (.iload_n 3, 25, [], 0) else none) else (bif Nat.beq pc 25 then some (.iaload, 26, [], 0) else none))) else (bif Nat.ble pc 26 then (bif Nat.beq pc 26 then some (.iload_n 2, 27, [], 0) else none) else (bif Nat.ble pc 27 then (bif Nat.beq pc 27 then some (.ishr, 28, [], 0) else none) else (bif Nat.beq pc 28 then some (.iconst 1, 29, [], 0) else none)))) else (bif Nat.ble pc 33 then (bif Nat.ble pc 29 then (bif Nat.beq pc 29 then some (.iand, 30, [], 0) else none) else (bif Nat.ble pc 30 then (bif Nat.beq pc 30 then some (.ifCond .ne 7, 33, [37], 0) else none) else (bif Nat.beq pc 33 then some (.iconst 1, 34, [], 0) else none))) else (bif Nat.ble pc 34 then (bif Nat.beq pc 34 then some (.goto 4, 37, [38], 0) else none) else (bif Nat.ble pc 37 then (bif Nat.beq pc 37 then some (.iconst 0, 38, [], 0) else none) else (bif Nat.beq pc 38 then some (.ireturn, 39, [1], 0) else none))))))
set_option maxRecDepth 100000 in
theorem tk_Shp_isFresh {pc : Nat} {e : Ent} (h : code_Shp_isFresh pc = some e) : okE Shp_isFresh pc e := cutC_ok (by decide +kernel) h
set_option maxRecDepth 100000 in
theorem mk_Shp_isFresh : mOk Shp_isFresh := mOk_of (by decide +kernel)
def code_Shp_walkSet : Nat → Option Ent := cutC 196 fun pc => (bif Nat.ble pc 94 then (bif Nat.ble pc 44 then (bif Nat.ble pc 19 then (bif Nat.ble pc 8 then (bif Nat.ble pc 3 then (bif Nat.ble pc 0 then (bif Nat.beq pc 0 then some (.iconst 0, 1, [], 0) else none) else (bif Nat.ble pc 1 then (bif Nat.beq pc 1 then some (.istore 5, 3, [], 0) else none) else (bif Nat.beq pc 3 then some (.aload_n 0, 4, [], 0) else none))) else (bif Nat.ble pc 4 then (bif Nat.beq pc 4 then some (.iconst 0, 5, [], 0) else none) else (bif Nat.ble pc 5 then (bif Nat.beq pc 5 then some (.putfield 25, 8, [579, 9, 0, 367], 0) else none) else (bif Nat.beq pc 8 then some (.aload_n 0, 9, [], 0) else none)))) else (bif Nat.ble pc 11 then (bif Nat.ble pc 9 then (bif Nat.beq pc 9 then some (.iload_n 2, 10, [], 0) else none) else (bif Nat.ble pc 10 then (bif Nat.beq pc 10 then some (.iload_n 3, 11, [], 0) else none) else (bif Nat.beq pc 11 then some (.invokevirtual 59, 14, [82, 998], 0) else none))) else (bif Nat.ble pc 15 then (bif Nat.ble pc 14 then (bif Nat.beq pc 14 then some (.iconst 0, 15, [], 0) else none) else (bif Nat.beq pc 15 then some (.istore 6, 17, [], 0) else none)) else (bif Nat.ble pc 17 then (bif Nat.beq pc 17 then some (.iload 6, 19, [], 0) else none) else (bif Nat.beq pc 19 then some (.aload_n 0, 20, [], 0) else none))))) else (bif Nat.ble pc 32 then (bif Nat.ble pc 26 then (bif Nat.ble pc 20 then (bif Nat.beq pc 20 then some (.getfield 25, 23, [579, 9, 0, 367], 0) else none) else (bif Nat.ble pc 23 then (bif Nat.beq pc 23 then some (.if_icmp .ge 170, 26, [193], 0) else none) else (bif Nat.beq pc 26 then some (.aload_n 0, 27, [], 0) else none))) else (bif Nat.ble pc 27 then (bif Nat.beq pc 27 then some (.getfield 22, 30, [578, 9, 2, 366], 0) else none) else (bif Nat.ble pc 30 then (bif Nat.beq pc 30 then some (.iload 6, 32, [], 0) else none) else (bif Nat.beq pc 32 then some (.iaload, 33, [], 0) else none)))) else (bif Nat.ble pc 36 then (bif Nat.ble pc 33 then (bif Nat.beq pc 33 then some (.bipush 10, 35, [], 0) else none) else (bif Nat.ble pc 35 then (bif Nat.beq pc 35 then some (.irem, 36, [], 0) else none) else (bif Nat.beq pc 36 then some (.istore 7, 38, [], 0) else none))) else (bif Nat.ble pc 39 then (bif Nat.ble pc 38 then (bif Nat.beq pc 38 then some (.aload_n 0, 39, [], 0) else none) else (bif Nat.beq pc 39 then some (.getfield 22, 42, [578, 9, 2, 366], 0) else none)) else (bif Nat.ble pc 42 then (bif Nat.beq pc 42 then some (.iload 6, 44, [], 0) else none) else (bif Nat.beq pc 44 then some (.iaload, 45, [], 0) else none)))))) else (bif Nat.ble pc 71 then (bif Nat.ble pc 55 then (bif Nat.ble pc 48 then (bif Nat.ble pc 45 then (bif Nat.beq pc 45 then some (.bipush 10, 47, [], 0) else none) else (bif Nat.ble pc 47 then (bif Nat.beq pc 47 then some (.idiv, 48, [], 0) else none) else (bif Nat.beq pc 48 then some (.istore 8, 50, [], 0) else none))) else (bif Nat.ble pc 50 then (bif Nat.beq pc 50 then some (.iload 5, 52, [], 0) else none) else (bif Nat.ble pc 52 then (bif Nat.beq pc 52 then some (.ifCond .ne 35, 55, [87], 0) else none) else (bif Nat.beq pc 55 then some (.iload 7, 57, [], 0) else none)))) else (bif Nat.ble pc 62 then (bif Nat.ble pc 57 then (bif Nat.beq pc 57 then some (.ifCond .eq 30, 60, [87], 0) else none) else (bif Nat.ble pc 60 then (bif Nat.beq pc 60 then some (.iload 8, 62, [], 0) else none) else (bif Nat.beq pc 62 then some (.ifCond .eq 25, 65, [87], 0) else none))) else (bif Nat.ble pc 67 then (bif Nat.ble pc 65 then (bif Nat.beq pc 65 then some (.iload 7, 67, [], 0) else none) else (bif Nat.beq pc 67 then some (.aload_n 1, 68, [], 0) else none)) else (bif Nat.ble pc 68 then (bif Nat.beq pc 68 then some (.getfield 32, 71, [193, 3, 0, 129], 0) else none) else (bif Nat.beq pc 71 then some (.iconst 1, 72, [], 0) else none))))) else (bif Nat.ble pc 82 then (bif Nat.ble pc 76 then (bif Nat.ble pc 72 then (bif Nat.beq pc 72 then some (.isub, 73, [], 0) else none) else (bif Nat.ble pc 73 then (bif Nat.beq pc 73 then some (.if_icmp .eq 14, 76, [87], 0) else none) else (bif Nat.beq pc 76 then some (.iload 8, 78, [], 0) else none))) else (bif Nat.ble pc 78 then (bif Nat.beq pc 78 then some (.aload_n 1, 79, [], 0) else none) else (bif Nat.ble pc 79 then (bif Nat.beq pc 79 then some (.getfield 29, 82, [194, 3, 0, 134], 0) else none) else (bif Nat.beq pc 82 then some (.iconst 1, 83, [], 0) else none)))) else (bif Nat.ble pc 87 then (bif Nat.ble pc 83 then (bif Nat.beq pc 83 then some (.isub, 84, [], 0) else none) else (bif Nat.ble pc 84 then (bif Nat.beq pc 84 then some (.if_icmp .ne 7, 87, [91], 0) else none) else (bif Nat.beq pc 87 then some (.iconst 1, 88, [], 0) else none))) else (bif Nat.ble pc 91 then (bif Nat.ble pc 88 then (bif Nat.beq pc 88 then some (.goto 4, 91, [92], 0) else none) else (bif Nat.beq pc 91 then some (.iconst 0, 92, [], 0) else none)) else (bif Nat.ble pc 92 then (bif Nat.beq pc 92 then some (.istore 5, 94, [], 0) else none) else (bif Nat.beq pc 94 then some (.iconst 0, 95, [], 0) else none))))))) else (bif Nat.ble pc 139 then (bif Nat.ble pc 115 then (bif Nat.ble pc 106 then (bif Nat.ble pc 99 then (bif Nat.ble pc 95 then (bif Nat.beq pc 95 then some (.istore 9, 97, [], 0) else none) else (bif Nat.ble pc 97 then (bif Nat.beq pc 97 then some (.iload 9, 99, [], 0) else none) else (bif Nat.beq pc 99 then some (.bipush 9, 101, [], 0) else none))) else (bif Nat.ble pc 101 then (bif Nat.beq pc 101 then some (.if_icmp .ge 86, 104, [187], 0) else none) else (bif Nat.ble pc 104 then (bif Nat.beq pc 104 then some (.iload 9, 106, [], 0) else none) else (bif Nat.beq pc 106 then some (.iconst 3, 107, [], 0) else none)))) else (bif Nat.ble pc 109 then (bif Nat.ble pc 107 then (bif Nat.beq pc 107 then some (.irem, 108, [], 0) else none) else (bif Nat.ble pc 108 then (bif Nat.beq pc 108 then some (.iconst 1, 109, [], 0) else none) else (bif Nat.beq pc 109 then some (.isub, 110, [], 0) else none))) else (bif Nat.ble pc 112 then (bif Nat.ble pc 110 then (bif Nat.beq pc 110 then some (.istore 10, 112, [], 0) else none) else (bif Nat.beq pc 112 then some (.iload 9, 114, [], 0) else none)) else (bif Nat.ble pc 114 then (bif Nat.beq pc 114 then some (.iconst 3, 115, [], 0) else none) else (bif Nat.beq pc 115 then some (.idiv, 116, [], 0) else none))))) else (bif Nat.ble pc 125 then (bif Nat.ble pc 118 then (bif Nat.ble pc 116 then (bif Nat.beq pc 116 then some (.iconst 1, 117, [], 0) else none) else (bif Nat.ble pc 117 then (bif Nat.beq pc 117 then some (.isub, 118, [], 0) else none) else (bif Nat.beq pc 118 then some (.istore 11, 120, [], 0) else none))) else (bif Nat.ble pc 120 then (bif Nat.beq pc 120 then some (.iload 10, 122, [], 0) else none) else (bif Nat.ble pc 122 then (bif Nat.beq pc 122 then some (.ifCond .eq 12, 125, [134], 0) else none) else (bif Nat.beq pc 125 then some (.iload 11, 127, [], 0) else none)))) else (bif Nat.ble pc 131 then (bif Nat.ble pc 127 then (bif Nat.beq pc 127 then some (.ifCond .eq 7, 130, [134], 0) else none) else (bif Nat.ble pc 130 then (bif Nat.beq pc 130 then some (.iconst 1, 131, [], 0) else none) else (bif Nat.beq pc 131 then some (.goto 4, 134, [135], 0) else none))) else (bif Nat.ble pc 135 then (bif Nat.ble pc 134 then (bif Nat.beq pc 134 then some (.iconst 0, 135, [], 0) else none) else (bif Nat.beq pc 135 then some (.istore 12, 137, [], 0) else none)) else (bif Nat.ble pc 137 then (bif Nat.beq pc 137 then some (.iload 4, 139, [], 0) else none) else (bif Nat.beq pc 139 then some (.ifCond .eq 8, 142, [147], 0) else none)))))) else (bif Nat.ble pc 164 then (bif Nat.ble pc 151 then (bif Nat.ble pc 147 then (bif Nat.ble pc 142 then (bif Nat.beq pc 142 then some (.iload 12, 144, [], 0) else none) else (bif Nat.ble pc 144 then (bif Nat.beq pc 144 then some (.ifCond .ne 37, 147, [181], 0) else none) else (bif Nat.beq pc 147 then some (.aload_n 0, 148, [], 0) else none))) else (bif Nat.ble pc 148 then (bif Nat.beq pc 148 then some (.aload_n 1, 149, [], 0) else none) else (bif Nat.ble pc 149 then (bif Nat.beq pc 149 then some (.iload 7, 151, [], 0) else none) else (bif Nat.beq pc 151 then some (.iload 10, 153, [], 0) else none)))) else (bif Nat.ble pc 156 then (bif Nat.ble pc 153 then (bif Nat.beq pc 153 then some (.iadd, 154, [], 0) else none) else (bif Nat.ble pc 154 then (bif Nat.beq pc 154 then some (.iload 8, 156, [], 0) else none) else (bif Nat.beq pc 156 then some (.iload 11, 158, [], 0) else none))) else (bif Nat.ble pc 159 then (bif Nat.ble pc 158 then (bif Nat.beq pc 158 then some (.iadd, 159, [], 0) else none) else (bif Nat.beq pc 159 then some (.iload 4, 161, [], 0) else none)) else (bif Nat.ble pc 161 then (bif Nat.beq pc 161 then some (.invokevirtual 49, 164, [80, 989], 0) else none) else (bif Nat.beq pc 164 then some (.ifCond .eq 17, 167, [181], 0) else none))))) else (bif Nat.ble pc 177 then (bif Nat.ble pc 170 then (bif Nat.ble pc 167 then (bif Nat.beq pc 167 then some (.aload_n 0, 168, [], 0) else none) else (bif Nat.ble pc 168 then (bif Nat.beq pc 168 then some (.iload 7, 170, [], 0) else none) else (bif Nat.beq pc 170 then some (.iload 10, 172, [], 0) else none))) else (bif Nat.ble pc 173 then (bif Nat.ble pc 172 then (bif Nat.beq pc 172 then some (.iadd, 173, [], 0) else none) else (bif Nat.beq pc 173 then some (.iload 8, 175, [], 0) else none)) else (bif Nat.ble pc 175 then (bif Nat.beq pc 175 then some (.iload 11, 177, [], 0) else none) else (bif Nat.beq pc 177 then some (.iadd, 178, [], 0) else none)))) else (bif Nat.ble pc 184 then (bif Nat.ble pc 178 then (bif Nat.beq pc 178 then some (.invokevirtual 59, 181, [82, 998], 0) else none) else (bif Nat.ble pc 181 then (bif Nat.beq pc 181 then some (.iinc 9 1, 184, [], 0) else none) else (bif Nat.beq pc 184 then some (.goto (-87), 187, [97], 0) else none))) else (bif Nat.ble pc 190 then (bif Nat.ble pc 187 then (bif Nat.beq pc 187 then some (.iinc 6 1, 190, [], 0) else none) else (bif Nat.beq pc 190 then some (.goto (-173), 193, [17], 0) else none)) else (bif Nat.ble pc 193 then (bif Nat.beq pc 193 then some (.iload 5, 195, [], 0) else none) else (bif Nat.beq pc 195 then some (.ireturn, 196, [1], 0) else none))))))))
set_option maxRecDepth 100000 in
theorem tk_Shp_walkSet {pc : Nat} {e : Ent} (h : code_Shp_walkSet pc = some e) : okE Shp_walkSet pc e := cutC_ok (by decide +kernel) h
set_option maxRecDepth 100000 in
theorem mk_Shp_walkSet : mOk Shp_walkSet := mOk_of (by decide +kernel)
def code_Shp_lineUp : Nat → Option Ent := cutC 50 fun pc => (bif Nat.ble pc 26 then (bif Nat.ble pc 13 then (bif Nat.ble pc 5 then (bif Nat.ble pc 1 then (bif Nat.ble pc 0 then (bif Nat.beq pc 0 then some (.aload_n 0, 1, [], 0) else none) else (bif Nat.beq pc 1 then some (.getfield 25, 4, [579, 9, 0, 367], 0) else none)) else (bif Nat.ble pc 4 then (bif Nat.beq pc 4 then some (.aload_n 0, 5, [], 0) else none) else (bif Nat.beq pc 5 then some (.getfield 22, 8, [578, 9, 2, 366], 0) else none))) else (bif Nat.ble pc 9 then (bif Nat.ble pc 8 then (bif Nat.beq pc 8 then some (.arraylength, 9, [], 0) else none) else (bif Nat.beq pc 9 then some (.if_icmp .ge 40, 12, [49], 0) else none)) else (bif Nat.ble pc 12 then (bif Nat.beq pc 12 then some (.aload_n 0, 13, [], 0) else none) else (bif Nat.beq pc 13 then some (.getfield 22, 16, [578, 9, 2, 366], 0) else none)))) else (bif Nat.ble pc 21 then (bif Nat.ble pc 17 then (bif Nat.ble pc 16 then (bif Nat.beq pc 16 then some (.aload_n 0, 17, [], 0) else none) else (bif Nat.beq pc 17 then some (.getfield 25, 20, [579, 9, 0, 367], 0) else none)) else (bif Nat.ble pc 20 then (bif Nat.beq pc 20 then some (.iload_n 2, 21, [], 0) else none) else (bif Nat.beq pc 21 then some (.bipush 10, 23, [], 0) else none))) else (bif Nat.ble pc 24 then (bif Nat.ble pc 23 then (bif Nat.beq pc 23 then some (.imul, 24, [], 0) else none) else (bif Nat.beq pc 24 then some (.iload_n 1, 25, [], 0) else none)) else (bif Nat.ble pc 25 then (bif Nat.beq pc 25 then some (.iadd, 26, [], 0) else none) else (bif Nat.beq pc 26 then some (.iastore, 27, [], 0) else none))))) else (bif Nat.ble pc 38 then (bif Nat.ble pc 32 then (bif Nat.ble pc 28 then (bif Nat.ble pc 27 then (bif Nat.beq pc 27 then some (.aload_n 0, 28, [], 0) else none) else (bif Nat.beq pc 28 then some (.dup, 29, [], 0) else none)) else (bif Nat.ble pc 29 then (bif Nat.beq pc 29 then some (.getfield 25, 32, [579, 9, 0, 367], 0) else none) else (bif Nat.beq pc 32 then some (.iconst 1, 33, [], 0) else none))) else (bif Nat.ble pc 34 then (bif Nat.ble pc 33 then (bif Nat.beq pc 33 then some (.iadd, 34, [], 0) else none) else (bif Nat.beq pc 34 then some (.putfield 25, 37, [579, 9, 0, 367], 0) else none)) else (bif Nat.ble pc 37 then (bif Nat.beq pc 37 then some (.aload_n 0, 38, [], 0) else none) else (bif Nat.beq pc 38 then some (.getfield 18, 41, [577, 9, 2, 365], 0) else none)))) else (bif Nat.ble pc 44 then (bif Nat.ble pc 42 then (bif Nat.ble pc 41 then (bif Nat.beq pc 41 then some (.iload_n 2, 42, [], 0) else none) else (bif Nat.beq pc 42 then some (.dup2, 43, [], 0) else none)) else (bif Nat.ble pc 43 then (bif Nat.beq pc 43 then some (.iaload, 44, [], 0) else none) else (bif Nat.beq pc 44 then some (.iconst 1, 45, [], 0) else none))) else (bif Nat.ble pc 46 then (bif Nat.ble pc 45 then (bif Nat.beq pc 45 then some (.iload_n 1, 46, [], 0) else none) else (bif Nat.beq pc 46 then some (.ishl, 47, [], 0) else none)) else (bif Nat.ble pc 47 then (bif Nat.beq pc 47 then some (.ior, 48, [], 0) else none) else (bif Nat.ble pc 48 then (bif Nat.beq pc 48 then some (.iastore, 49, [], 0) else none) else (bif Nat.beq pc 49 then some (.return_, 50, [], 0) else none)))))))
set_option maxRecDepth 100000 in
theorem tk_Shp_lineUp {pc : Nat} {e : Ent} (h : code_Shp_lineUp pc = some e) : okE Shp_lineUp pc e := cutC_ok (by decide +kernel) h
set_option maxRecDepth 100000 in
theorem mk_Shp_lineUp : mOk Shp_lineUp := mOk_of (by decide +kernel)
def code_Shp_holesOf : Nat → Option Ent := cutC 7 fun pc => (bif Nat.ble pc 1 then (bif Nat.ble pc 0 then (bif Nat.beq pc 0 then some (.aload_n 0, 1, [], 0) else none) else (bif Nat.beq pc 1 then some (.aload_n 1, 2, [], 0) else none)) else (bif Nat.ble pc 2 then (bif Nat.beq pc 2 then some (.iconst 0, 3, [], 0) else none) else (bif Nat.ble pc 3 then (bif Nat.beq pc 3 then some (.invokevirtual 39, 6, [79, 984], 0) else none) else (bif Nat.beq pc 6 then some (.ireturn, 7, [0], 0) else none))))
set_option maxRecDepth 100000 in
theorem tk_Shp_holesOf {pc : Nat} {e : Ent} (h : code_Shp_holesOf pc = some e) : okE Shp_holesOf pc e := cutC_ok (by decide +kernel) h
set_option maxRecDepth 100000 in
theorem mk_Shp_holesOf : mOk Shp_holesOf := mOk_of (by decide +kernel)
def code_Shp_looksOf : Nat → Option Ent := cutC 44 fun pc => (bif Nat.ble pc 19 then (bif Nat.ble pc 5 then (bif Nat.ble pc 2 then (bif Nat.ble pc 0 then (bif Nat.beq pc 0 then some (.iconst 0, 1, [], 0) else none) else (bif Nat.ble pc 1 then (bif Nat.beq pc 1 then some (.istore_n 2, 2, [], 0) else none) else (bif Nat.beq pc 2 then some (.iconst 1, 3, [], 0) else none))) else (bif Nat.ble pc 3 then (bif Nat.beq pc 3 then some (.istore_n 3, 4, [], 0) else none) else (bif Nat.ble pc 4 then (bif Nat.beq pc 4 then some (.iload_n 3, 5, [], 0) else none) else (bif Nat.beq pc 5 then some (.bipush 8, 7, [], 0) else none)))) else (bif Nat.ble pc 11 then (bif Nat.ble pc 7 then (bif Nat.beq pc 7 then some (.if_icmp .ge 35, 10, [42], 0) else none) else (bif Nat.ble pc 10 then (bif Nat.beq pc 10 then some (.aload_n 0, 11, [], 0) else none) else (bif Nat.beq pc 11 then some (.getfield 12, 14, [576, 9, 2, 364], 0) else none))) else (bif Nat.ble pc 15 then (bif Nat.ble pc 14 then (bif Nat.beq pc 14 then some (.aload_n 1, 15, [], 0) else none) else (bif Nat.beq pc 15 then some (.iload_n 3, 16, [], 0) else none)) else (bif Nat.ble pc 16 then (bif Nat.beq pc 16 then some (.invokevirtual 63, 19, [14, 1010], 0) else none) else (bif Nat.beq pc 19 then some (.aload_n 0, 20, [], 0) else none))))) else (bif Nat.ble pc 32 then (bif Nat.ble pc 24 then (bif Nat.ble pc 20 then (bif Nat.beq pc 20 then some (.getfield 12, 23, [576, 9, 2, 364], 0) else none) else (bif Nat.ble pc 23 then (bif Nat.beq pc 23 then some (.aload_n 1, 24, [], 0) else none) else (bif Nat.beq pc 24 then some (.invokevirtual 67, 27, [26, 1011], 0) else none))) else (bif Nat.ble pc 30 then (bif Nat.ble pc 27 then (bif Nat.beq pc 27 then some (.ifCond .eq 9, 30, [36], 0) else none) else (bif Nat.beq pc 30 then some (.iload_n 2, 31, [], 0) else none)) else (bif Nat.ble pc 31 then (bif Nat.beq pc 31 then some (.iconst 1, 32, [], 0) else none) else (bif Nat.beq pc 32 then some (.iload_n 3, 33, [], 0) else none)))) else (bif Nat.ble pc 35 then (bif Nat.ble pc 33 then (bif Nat.beq pc 33 then some (.ishl, 34, [], 0) else none) else (bif Nat.ble pc 34 then (bif Nat.beq pc 34 then some (.ior, 35, [], 0) else none) else (bif Nat.beq pc 35 then some (.istore_n 2, 36, [], 0) else none))) else (bif Nat.ble pc 39 then (bif Nat.ble pc 36 then (bif Nat.beq pc 36 then some (.iinc 3 1, 39, [], 0) else none) else (bif Nat.beq pc 39 then some (.goto (-35), 42, [4], 0) else none)) else (bif Nat.ble pc 42 then (bif Nat.beq pc 42 then some (.iload_n 2, 43, [], 0) else none) else (bif Nat.beq pc 43 then some (.ireturn, 44, [0], 0) else none))))))
set_option maxRecDepth 100000 in
theorem tk_Shp_looksOf {pc : Nat} {e : Ent} (h : code_Shp_looksOf pc = some e) : okE Shp_looksOf pc e := cutC_ok (by decide +kernel) h
set_option maxRecDepth 100000 in
theorem mk_Shp_looksOf : mOk Shp_looksOf := mOk_of (by decide +kernel)
def code_TR_init : Nat → Option Ent := cutC 27 fun pc => (bif Nat.ble pc 9 then (bif Nat.ble pc 4 then (bif Nat.ble pc 0 then (bif Nat.beq pc 0 then some (.aload_n 0, 1, [], 0) else none) else (bif Nat.ble pc 1 then (bif Nat.beq pc 1 then some (.invokespecial 3, 4, [999, 194, 111, 112], 0) else none) else (bif Nat.beq pc 4 then some (.aload_n 0, 5, [], 0) else none))) else (bif Nat.ble pc 5 then (bif Nat.beq pc 5 then some (.new 9, 8, [7, 9, 195], 0) else none) else (bif Nat.ble pc 8 then (bif Nat.beq pc 8 then some (.dup, 9, [], 0) else none) else (bif Nat.beq pc 9 then some (.invokespecial 11, 12, [47, 197], 0) else none)))) else (bif Nat.ble pc 16 then (bif Nat.ble pc 12 then (bif Nat.beq pc 12 then some (.putfield 12, 15, [641, 10, 2, 273], 0) else none) else (bif Nat.ble pc 15 then (bif Nat.beq pc 15 then some (.aload_n 0, 16, [], 0) else none) else (bif Nat.beq pc 16 then some (.aload_n 0, 17, [], 0) else none))) else (bif Nat.ble pc 20 then (bif Nat.ble pc 17 then (bif Nat.beq pc 17 then some (.getfield 12, 20, [641, 10, 2, 273], 0) else none) else (bif Nat.beq pc 20 then some (.getfield 18, 23, [448, 7, 2, 244], 0) else none)) else (bif Nat.ble pc 23 then (bif Nat.beq pc 23 then some (.putfield 22, 26, [640, 10, 2, 272], 0) else none) else (bif Nat.beq pc 26 then some (.return_, 27, [], 0) else none)))))
set_option maxRecDepth 100000 in
theorem tk_TR_init {pc : Nat} {e : Ent} (h : code_TR_init pc = some e) : okE TR_init pc e := cutC_ok (by decide +kernel) h
set_option maxRecDepth 100000 in
theorem mk_TR_init : mOk TR_init := mOk_of (by decide +kernel)
def code_TR_readInto : Nat → Option Ent := cutC 124 fun pc => (bif Nat.ble pc 56 then (bif Nat.ble pc 22 then (bif Nat.ble pc 10 then (bif Nat.ble pc 4 then (bif Nat.ble pc 0 then (bif Nat.beq pc 0 then some (.aload_n 0, 1, [], 0) else none) else (bif Nat.ble pc 1 then (bif Nat.beq pc 1 then some (.getfield 22, 4, [640, 10, 2, 272], 0) else none) else (bif Nat.beq pc 4 then some (.aload_n 2, 5, [], 0) else none))) else (bif Nat.ble pc 6 then (bif Nat.ble pc 5 then (bif Nat.beq pc 5 then some (.iload_n 3, 6, [], 0) else none) else (bif Nat.beq pc 6 then some (.invokevirtual 23, 9, [66, 681], 0) else none)) else (bif Nat.ble pc 9 then (bif Nat.beq pc 9 then some (.aload_n 1, 10, [], 0) else none) else (bif Nat.beq pc 10 then some (.iconst 0, 11, [], 0) else none)))) else (bif Nat.ble pc 15 then (bif Nat.ble pc 11 then (bif Nat.beq pc 11 then some (.putfield 29, 14, [129, 2, 0, 159], 0) else none) else (bif Nat.ble pc 14 then (bif Nat.beq pc 14 then some (.aload_n 1, 15, [], 0) else none) else (bif Nat.beq pc 15 then some (.aconst_null, 16, [], 0) else none))) else (bif Nat.ble pc 19 then (bif Nat.ble pc 16 then (bif Nat.beq pc 16 then some (.putfield 35, 19, [130, 2, 2, 163], 0) else none) else (bif Nat.beq pc 19 then some (.iconst 0, 20, [], 0) else none)) else (bif Nat.ble pc 20 then (bif Nat.beq pc 20 then some (.istore 4, 22, [], 0) else none) else (bif Nat.beq pc 22 then some (.iload 4, 24, [], 0) else none))))) else (bif Nat.ble pc 38 then (bif Nat.ble pc 28 then (bif Nat.ble pc 24 then (bif Nat.beq pc 24 then some (.iload_n 3, 25, [], 0) else none) else (bif Nat.ble pc 25 then (bif Nat.beq pc 25 then some (.if_icmp .gt 94, 28, [119], 0) else none) else (bif Nat.beq pc 28 then some (.aload_n 0, 29, [], 0) else none))) else (bif Nat.ble pc 32 then (bif Nat.ble pc 29 then (bif Nat.beq pc 29 then some (.getfield 22, 32, [640, 10, 2, 272], 0) else none) else (bif Nat.beq pc 32 then some (.invokevirtual 39, 35, [67, 682], 0) else none)) else (bif Nat.ble pc 35 then (bif Nat.beq pc 35 then some (.ifCond .ne 84, 38, [119], 0) else none) else (bif Nat.beq pc 38 then some (.aload_n 0, 39, [], 0) else none)))) else (bif Nat.ble pc 46 then (bif Nat.ble pc 42 then (bif Nat.ble pc 39 then (bif Nat.beq pc 39 then some (.getfield 22, 42, [640, 10, 2, 272], 0) else none) else (bif Nat.beq pc 42 then some (.invokevirtual 43, 45, [68, 686], 0) else none)) else (bif Nat.ble pc 45 then (bif Nat.beq pc 45 then some (.iconst (-1), 46, [], 0) else none) else (bif Nat.beq pc 46 then some (.if_icmp .ne 6, 49, [52], 0) else none))) else (bif Nat.ble pc 52 then (bif Nat.ble pc 49 then (bif Nat.beq pc 49 then some (.goto 70, 52, [119], 0) else none) else (bif Nat.beq pc 52 then some (.aload_n 0, 53, [], 0) else none)) else (bif Nat.ble pc 53 then (bif Nat.beq pc 53 then some (.getfield 22, 56, [640, 10, 2, 272], 0) else none) else (bif Nat.beq pc 56 then some (.ldc 47, 58, [1, 4], 0) else none)))))) else (bif Nat.ble pc 88 then (bif Nat.ble pc 72 then (bif Nat.ble pc 64 then (bif Nat.ble pc 58 then (bif Nat.beq pc 58 then some (.invokevirtual 49, 61, [70, 695], 0) else none) else (bif Nat.ble pc 61 then (bif Nat.beq pc 61 then some (.ifCond .eq 11, 64, [72], 0) else none) else (bif Nat.beq pc 64 then some (.aload_n 0, 65, [], 0) else none))) else (bif Nat.ble pc 66 then (bif Nat.ble pc 65 then (bif Nat.beq pc 65 then some (.aload_n 1, 66, [], 0) else none) else (bif Nat.beq pc 66 then some (.invokevirtual 53, 69, [87, 747], 0) else none)) else (bif Nat.ble pc 69 then (bif Nat.beq pc 69 then some (.goto 44, 72, [113], 0) else none) else (bif Nat.beq pc 72 then some (.aload_n 1, 73, [], 0) else none)))) else (bif Nat.ble pc 79 then (bif Nat.ble pc 73 then (bif Nat.beq pc 73 then some (.getfield 35, 76, [130, 2, 2, 163], 0) else none) else (bif Nat.ble pc 76 then (bif Nat.beq pc 76 then some (.ifnonnull 29, 79, [105], 0) else none) else (bif Nat.beq pc 79 then some (.aload_n 0, 80, [], 0) else none))) else (bif Nat.ble pc 83 then (bif Nat.ble pc 80 then (bif Nat.beq pc 80 then some (.getfield 22, 83, [640, 10, 2, 272], 0) else none) else (bif Nat.beq pc 83 then some (.ldc 57, 85, [1, 6], 0) else none)) else (bif Nat.ble pc 85 then (bif Nat.beq pc 85 then some (.invokevirtual 58, 88, [72, 755], 0) else none) else (bif Nat.beq pc 88 then some (.ifCond .eq 17, 91, [105], 0) else none))))) else (bif Nat.ble pc 105 then (bif Nat.ble pc 93 then (bif Nat.ble pc 91 then (bif Nat.beq pc 91 then some (.aload_n 1, 92, [], 0) else none) else (bif Nat.ble pc 92 then (bif Nat.beq pc 92 then some (.aload_n 0, 93, [], 0) else none) else (bif Nat.beq pc 93 then some (.getfield 12, 96, [641, 10, 2, 273], 0) else none))) else (bif Nat.ble pc 99 then (bif Nat.ble pc 96 then (bif Nat.beq pc 96 then some (.invokevirtual 61, 99, [50, 786], 0) else none) else (bif Nat.beq pc 99 then some (.putfield 35, 102, [130, 2, 2, 163], 0) else none)) else (bif Nat.ble pc 102 then (bif Nat.beq pc 102 then some (.goto 11, 105, [113], 0) else none) else (bif Nat.beq pc 105 then some (.aload_n 0, 106, [], 0) else none)))) else (bif Nat.ble pc 113 then (bif Nat.ble pc 109 then (bif Nat.ble pc 106 then (bif Nat.beq pc 106 then some (.getfield 22, 109, [640, 10, 2, 272], 0) else none) else (bif Nat.beq pc 109 then some (.iconst 1, 110, [], 0) else none)) else (bif Nat.ble pc 110 then (bif Nat.beq pc 110 then some (.invokevirtual 65, 113, [71, 751], 0) else none) else (bif Nat.beq pc 113 then some (.iinc 4 1, 116, [], 0) else none))) else (bif Nat.ble pc 119 then (bif Nat.ble pc 116 then (bif Nat.beq pc 116 then some (.goto (-94), 119, [22], 0) else none) else (bif Nat.beq pc 119 then some (.aload_n 0, 120, [], 0) else none)) else (bif Nat.ble pc 120 then (bif Nat.beq pc 120 then some (.getfield 22, 123, [640, 10, 2, 272], 0) else none) else (bif Nat.beq pc 123 then some (.areturn, 124, [], 0) else none)))))))
set_option maxRecDepth 100000 in
theorem tk_TR_readInto {pc : Nat} {e : Ent} (h : code_TR_readInto pc = some e) : okE TR_readInto pc e := cutC_ok (by decide +kernel) h
set_option maxRecDepth 100000 in
theorem mk_TR_readInto : mOk TR_readInto := mOk_of (by decide +kernel)
def code_TR_readDesign : Nat → Option Ent := cutC 124 fun pc => (bif Nat.ble pc 60 then (bif Nat.ble pc 28 then (bif Nat.ble pc 13 then (bif Nat.ble pc 4 then (bif Nat.ble pc 0 then (bif Nat.beq pc 0 then some (.aload_n 1, 1, [], 0) else none) else (bif Nat.ble pc 1 then (bif Nat.beq pc 1 then some (.getfield 29, 4, [129, 2, 0, 159], 0) else none) else (bif Nat.beq pc 4 then some (.bipush 6, 6, [], 0) else none))) else (bif Nat.ble pc 9 then (bif Nat.ble pc 6 then (bif Nat.beq pc 6 then some (.if_icmp .lt 12, 9, [18], 0) else none) else (bif Nat.beq pc 9 then some (.aload_n 0, 10, [], 0) else none)) else (bif Nat.ble pc 10 then (bif Nat.beq pc 10 then some (.getfield 22, 13, [640, 10, 2, 272], 0) else none) else (bif Nat.beq pc 13 then some (.iconst 3, 14, [], 0) else none)))) else (bif Nat.ble pc 19 then (bif Nat.ble pc 17 then (bif Nat.ble pc 14 then (bif Nat.beq pc 14 then some (.invokevirtual 65, 17, [71, 751], 0) else none) else (bif Nat.beq pc 17 then some (.return_, 18, [], 0) else none)) else (bif Nat.ble pc 18 then (bif Nat.beq pc 18 then some (.aload_n 0, 19, [], 0) else none) else (bif Nat.beq pc 19 then some (.getfield 22, 22, [640, 10, 2, 272], 0) else none))) else (bif Nat.ble pc 24 then (bif Nat.ble pc 22 then (bif Nat.beq pc 22 then some (.ldc 47, 24, [1, 4], 0) else none) else (bif Nat.beq pc 24 then some (.invokevirtual 58, 27, [72, 755], 0) else none)) else (bif Nat.ble pc 27 then (bif Nat.beq pc 27 then some (.pop, 28, [], 0) else none) else (bif Nat.beq pc 28 then some (.aload_n 0, 29, [], 0) else none))))) else (bif Nat.ble pc 46 then (bif Nat.ble pc 38 then (bif Nat.ble pc 32 then (bif Nat.ble pc 29 then (bif Nat.beq pc 29 then some (.getfield 22, 32, [640, 10, 2, 272], 0) else none) else (bif Nat.beq pc 32 then some (.invokevirtual 43, 35, [68, 686], 0) else none)) else (bif Nat.ble pc 35 then (bif Nat.beq pc 35 then some (.invokestatic 69, 38, [73, 760], 0) else none) else (bif Nat.beq pc 38 then some (.ifCond .ne 12, 41, [50], 0) else none))) else (bif Nat.ble pc 42 then (bif Nat.ble pc 41 then (bif Nat.beq pc 41 then some (.aload_n 0, 42, [], 0) else none) else (bif Nat.beq pc 42 then some (.getfield 22, 45, [640, 10, 2, 272], 0) else none)) else (bif Nat.ble pc 45 then (bif Nat.beq pc 45 then some (.iconst 1, 46, [], 0) else none) else (bif Nat.beq pc 46 then some (.invokevirtual 65, 49, [71, 751], 0) else none)))) else (bif Nat.ble pc 54 then (bif Nat.ble pc 50 then (bif Nat.ble pc 49 then (bif Nat.beq pc 49 then some (.return_, 50, [], 0) else none) else (bif Nat.beq pc 50 then some (.aload_n 1, 51, [], 0) else none)) else (bif Nat.ble pc 51 then (bif Nat.beq pc 51 then some (.getfield 73, 54, [128, 2, 2, 155], 0) else none) else (bif Nat.beq pc 54 then some (.aload_n 1, 55, [], 0) else none))) else (bif Nat.ble pc 58 then (bif Nat.ble pc 55 then (bif Nat.beq pc 55 then some (.getfield 29, 58, [129, 2, 0, 159], 0) else none) else (bif Nat.beq pc 58 then some (.aaload, 59, [], 0) else none)) else (bif Nat.ble pc 59 then (bif Nat.beq pc 59 then some (.astore_n 2, 60, [], 0) else none) else (bif Nat.beq pc 60 then some (.aload_n 2, 61, [], 0) else none)))))) else (bif Nat.ble pc 92 then (bif Nat.ble pc 78 then (bif Nat.ble pc 68 then (bif Nat.ble pc 62 then (bif Nat.ble pc 61 then (bif Nat.beq pc 61 then some (.aload_n 0, 62, [], 0) else none) else (bif Nat.beq pc 62 then some (.getfield 22, 65, [640, 10, 2, 272], 0) else none)) else (bif Nat.ble pc 65 then (bif Nat.beq pc 65 then some (.invokevirtual 77, 68, [74, 763], 0) else none) else (bif Nat.beq pc 68 then some (.invokevirtual 80, 71, [23, 769], 0) else none))) else (bif Nat.ble pc 72 then (bif Nat.ble pc 71 then (bif Nat.beq pc 71 then some (.aload_n 0, 72, [], 0) else none) else (bif Nat.beq pc 72 then some (.getfield 22, 75, [640, 10, 2, 272], 0) else none)) else (bif Nat.ble pc 75 then (bif Nat.beq pc 75 then some (.invokevirtual 39, 78, [67, 682], 0) else none) else (bif Nat.beq pc 78 then some (.ifCond .ne 7, 81, [85], 0) else none)))) else (bif Nat.ble pc 86 then (bif Nat.ble pc 82 then (bif Nat.ble pc 81 then (bif Nat.beq pc 81 then some (.iconst 1, 82, [], 0) else none) else (bif Nat.beq pc 82 then some (.goto 4, 85, [86], 0) else none)) else (bif Nat.ble pc 85 then (bif Nat.beq pc 85 then some (.iconst 0, 86, [], 0) else none) else (bif Nat.beq pc 86 then some (.istore_n 3, 87, [], 0) else none))) else (bif Nat.ble pc 88 then (bif Nat.ble pc 87 then (bif Nat.beq pc 87 then some (.iconst 0, 88, [], 0) else none) else (bif Nat.beq pc 88 then some (.istore 4, 90, [], 0) else none)) else (bif Nat.ble pc 90 then (bif Nat.beq pc 90 then some (.iload 4, 92, [], 0) else none) else (bif Nat.beq pc 92 then some (.bipush 10, 94, [], 0) else none))))) else (bif Nat.ble pc 107 then (bif Nat.ble pc 101 then (bif Nat.ble pc 97 then (bif Nat.ble pc 94 then (bif Nat.beq pc 94 then some (.if_icmp .ge 19, 97, [113], 0) else none) else (bif Nat.beq pc 97 then some (.iload_n 3, 98, [], 0) else none)) else (bif Nat.ble pc 98 then (bif Nat.beq pc 98 then some (.ifCond .eq 15, 101, [113], 0) else none) else (bif Nat.beq pc 101 then some (.aload_n 0, 102, [], 0) else none))) else (bif Nat.ble pc 103 then (bif Nat.ble pc 102 then (bif Nat.beq pc 102 then some (.aload_n 2, 103, [], 0) else none) else (bif Nat.beq pc 103 then some (.invokevirtual 84, 106, [88, 773], 0) else none)) else (bif Nat.ble pc 106 then (bif Nat.beq pc 106 then some (.istore_n 3, 107, [], 0) else none) else (bif Nat.beq pc 107 then some (.iinc 4 1, 110, [], 0) else none)))) else (bif Nat.ble pc 115 then (bif Nat.ble pc 113 then (bif Nat.ble pc 110 then (bif Nat.beq pc 110 then some (.goto (-20), 113, [90], 0) else none) else (bif Nat.beq pc 113 then some (.aload_n 1, 114, [], 0) else none)) else (bif Nat.ble pc 114 then (bif Nat.beq pc 114 then some (.dup, 115, [], 0) else none) else (bif Nat.beq pc 115 then some (.getfield 29, 118, [129, 2, 0, 159], 0) else none))) else (bif Nat.ble pc 119 then (bif Nat.ble pc 118 then (bif Nat.beq pc 118 then some (.iconst 1, 119, [], 0) else none) else (bif Nat.beq pc 119 then some (.iadd, 120, [], 0) else none)) else (bif Nat.ble pc 120 then (bif Nat.beq pc 120 then some (.putfield 29, 123, [129, 2, 0, 159], 0) else none) else (bif Nat.beq pc 123 then some (.return_, 124, [], 0) else none)))))))
set_option maxRecDepth 100000 in
theorem tk_TR_readDesign {pc : Nat} {e : Ent} (h : code_TR_readDesign pc = some e) : okE TR_readDesign pc e := cutC_ok (by decide +kernel) h
set_option maxRecDepth 100000 in
theorem mk_TR_readDesign : mOk TR_readDesign := mOk_of (by decide +kernel)
def code_TR_readRow : Nat → Option Ent := cutC 200 fun pc => (bif Nat.ble pc 102 then (bif Nat.ble pc 46 then (bif Nat.ble pc 22 then (bif Nat.ble pc 11 then (bif Nat.ble pc 4 then (bif Nat.ble pc 0 then (bif Nat.beq pc 0 then some (.aload_n 1, 1, [], 0) else none) else (bif Nat.ble pc 1 then (bif Nat.beq pc 1 then some (.getfield 88, 4, [194, 3, 0, 135], 0) else none) else (bif Nat.beq pc 4 then some (.ifCond .ne 7, 7, [11], 0) else none))) else (bif Nat.ble pc 7 then (bif Nat.beq pc 7 then some (.iconst 1, 8, [], 0) else none) else (bif Nat.ble pc 8 then (bif Nat.beq pc 8 then some (.goto 4, 11, [12], 0) else none) else (bif Nat.beq pc 11 then some (.iconst 0, 12, [], 0) else none)))) else (bif Nat.ble pc 14 then (bif Nat.ble pc 12 then (bif Nat.beq pc 12 then some (.istore_n 2, 13, [], 0) else none) else (bif Nat.ble pc 13 then (bif Nat.beq pc 13 then some (.iload_n 2, 14, [], 0) else none) else (bif Nat.beq pc 14 then some (.ifCond .eq 8, 17, [22], 0) else none))) else (bif Nat.ble pc 17 then (bif Nat.beq pc 17 then some (.bipush 10, 19, [], 0) else none) else (bif Nat.ble pc 19 then (bif Nat.beq pc 19 then some (.goto 7, 22, [26], 0) else none) else (bif Nat.beq pc 22 then some (.aload_n 1, 23, [], 0) else none))))) else (bif Nat.ble pc 32 then (bif Nat.ble pc 27 then (bif Nat.ble pc 23 then (bif Nat.beq pc 23 then some (.getfield 91, 26, [193, 3, 0, 130], 0) else none) else (bif Nat.ble pc 26 then (bif Nat.beq pc 26 then some (.istore_n 3, 27, [], 0) else none) else (bif Nat.beq pc 27 then some (.iconst 0, 28, [], 0) else none))) else (bif Nat.ble pc 28 then (bif Nat.beq pc 28 then some (.istore 4, 30, [], 0) else none) else (bif Nat.ble pc 30 then (bif Nat.beq pc 30 then some (.iload 4, 32, [], 0) else none) else (bif Nat.beq pc 32 then some (.iload_n 3, 33, [], 0) else none)))) else (bif Nat.ble pc 37 then (bif Nat.ble pc 33 then (bif Nat.beq pc 33 then some (.if_icmp .ge 50, 36, [83], 0) else none) else (bif Nat.ble pc 36 then (bif Nat.beq pc 36 then some (.aload_n 0, 37, [], 0) else none) else (bif Nat.beq pc 37 then some (.getfield 22, 40, [640, 10, 2, 272], 0) else none))) else (bif Nat.ble pc 40 then (bif Nat.beq pc 40 then some (.invokevirtual 43, 43, [68, 686], 0) else none) else (bif Nat.ble pc 43 then (bif Nat.beq pc 43 then some (.invokestatic 94, 46, [89, 777], 0) else none) else (bif Nat.beq pc 46 then some (.iconst (-1), 47, [], 0) else none)))))) else (bif Nat.ble pc 71 then (bif Nat.ble pc 57 then (bif Nat.ble pc 51 then (bif Nat.ble pc 47 then (bif Nat.beq pc 47 then some (.if_icmp .eq 36, 50, [83], 0) else none) else (bif Nat.ble pc 50 then (bif Nat.beq pc 50 then some (.aload_n 1, 51, [], 0) else none) else (bif Nat.beq pc 51 then some (.iload 4, 53, [], 0) else none))) else (bif Nat.ble pc 53 then (bif Nat.beq pc 53 then some (.aload_n 1, 54, [], 0) else none) else (bif Nat.ble pc 54 then (bif Nat.beq pc 54 then some (.getfield 88, 57, [194, 3, 0, 135], 0) else none) else (bif Nat.beq pc 57 then some (.aload_n 0, 58, [], 0) else none)))) else (bif Nat.ble pc 64 then (bif Nat.ble pc 58 then (bif Nat.beq pc 58 then some (.getfield 22, 61, [640, 10, 2, 272], 0) else none) else (bif Nat.ble pc 61 then (bif Nat.beq pc 61 then some (.invokevirtual 43, 64, [68, 686], 0) else none) else (bif Nat.beq pc 64 then some (.invokestatic 94, 67, [89, 777], 0) else none))) else (bif Nat.ble pc 67 then (bif Nat.beq pc 67 then some (.invokevirtual 98, 70, [20, 780], 0) else none) else (bif Nat.ble pc 70 then (bif Nat.beq pc 70 then some (.aload_n 0, 71, [], 0) else none) else (bif Nat.beq pc 71 then some (.getfield 22, 74, [640, 10, 2, 272], 0) else none))))) else (bif Nat.ble pc 87 then (bif Nat.ble pc 80 then (bif Nat.ble pc 74 then (bif Nat.beq pc 74 then some (.invokevirtual 102, 77, [75, 781], 0) else none) else (bif Nat.ble pc 77 then (bif Nat.beq pc 77 then some (.iinc 4 1, 80, [], 0) else none) else (bif Nat.beq pc 80 then some (.goto (-50), 83, [30], 0) else none))) else (bif Nat.ble pc 83 then (bif Nat.beq pc 83 then some (.iload_n 2, 84, [], 0) else none) else (bif Nat.ble pc 84 then (bif Nat.beq pc 84 then some (.ifCond .eq 16, 87, [100], 0) else none) else (bif Nat.beq pc 87 then some (.iload 4, 89, [], 0) else none)))) else (bif Nat.ble pc 93 then (bif Nat.ble pc 89 then (bif Nat.beq pc 89 then some (.ifCond .le 7, 92, [96], 0) else none) else (bif Nat.ble pc 92 then (bif Nat.beq pc 92 then some (.iconst 1, 93, [], 0) else none) else (bif Nat.beq pc 93 then some (.goto 18, 96, [111], 0) else none))) else (bif Nat.ble pc 97 then (bif Nat.ble pc 96 then (bif Nat.beq pc 96 then some (.iconst 0, 97, [], 0) else none) else (bif Nat.beq pc 97 then some (.goto 14, 100, [111], 0) else none)) else (bif Nat.ble pc 100 then (bif Nat.beq pc 100 then some (.iload 4, 102, [], 0) else none) else (bif Nat.beq pc 102 then some (.iload_n 3, 103, [], 0) else none))))))) else (bif Nat.ble pc 149 then (bif Nat.ble pc 126 then (bif Nat.ble pc 113 then (bif Nat.ble pc 107 then (bif Nat.ble pc 103 then (bif Nat.beq pc 103 then some (.if_icmp .ne 7, 106, [110], 0) else none) else (bif Nat.ble pc 106 then (bif Nat.beq pc 106 then some (.iconst 1, 107, [], 0) else none) else (bif Nat.beq pc 107 then some (.goto 4, 110, [111], 0) else none))) else (bif Nat.ble pc 110 then (bif Nat.beq pc 110 then some (.iconst 0, 111, [], 0) else none) else (bif Nat.ble pc 111 then (bif Nat.beq pc 111 then some (.istore 5, 113, [], 0) else none) else (bif Nat.beq pc 113 then some (.aload_n 0, 114, [], 0) else none)))) else (bif Nat.ble pc 120 then (bif Nat.ble pc 114 then (bif Nat.beq pc 114 then some (.getfield 22, 117, [640, 10, 2, 272], 0) else none) else (bif Nat.ble pc 117 then (bif Nat.beq pc 117 then some (.invokevirtual 43, 120, [68, 686], 0) else none) else (bif Nat.beq pc 120 then some (.istore 6, 122, [], 0) else none))) else (bif Nat.ble pc 122 then (bif Nat.beq pc 122 then some (.iload 6, 124, [], 0) else none) else (bif Nat.ble pc 124 then (bif Nat.beq pc 124 then some (.bipush 47, 126, [], 0) else none) else (bif Nat.beq pc 126 then some (.if_icmp .ne 18, 129, [144], 0) else none))))) else (bif Nat.ble pc 137 then (bif Nat.ble pc 133 then (bif Nat.ble pc 129 then (bif Nat.beq pc 129 then some (.aload_n 1, 130, [], 0) else none) else (bif Nat.ble pc 130 then (bif Nat.beq pc 130 then some (.getfield 88, 133, [194, 3, 0, 135], 0) else none) else (bif Nat.beq pc 133 then some (.iconst 1, 134, [], 0) else none))) else (bif Nat.ble pc 134 then (bif Nat.beq pc 134 then some (.iadd, 135, [], 0) else none) else (bif Nat.ble pc 135 then (bif Nat.beq pc 135 then some (.bipush 10, 137, [], 0) else none) else (bif Nat.beq pc 137 then some (.if_icmp .ge 7, 140, [144], 0) else none)))) else (bif Nat.ble pc 144 then (bif Nat.ble pc 140 then (bif Nat.beq pc 140 then some (.iconst 1, 141, [], 0) else none) else (bif Nat.ble pc 141 then (bif Nat.beq pc 141 then some (.goto 4, 144, [145], 0) else none) else (bif Nat.beq pc 144 then some (.iconst 0, 145, [], 0) else none))) else (bif Nat.ble pc 145 then (bif Nat.beq pc 145 then some (.istore 7, 147, [], 0) else none) else (bif Nat.ble pc 147 then (bif Nat.beq pc 147 then some (.iload 5, 149, [], 0) else none) else (bif Nat.beq pc 149 then some (.ifCond .eq 15, 152, [164], 0) else none)))))) else (bif Nat.ble pc 174 then (bif Nat.ble pc 164 then (bif Nat.ble pc 157 then (bif Nat.ble pc 152 then (bif Nat.beq pc 152 then some (.iload 7, 154, [], 0) else none) else (bif Nat.ble pc 154 then (bif Nat.beq pc 154 then some (.ifCond .ne 20, 157, [174], 0) else none) else (bif Nat.beq pc 157 then some (.iload 6, 159, [], 0) else none))) else (bif Nat.ble pc 159 then (bif Nat.beq pc 159 then some (.bipush 59, 161, [], 0) else none) else (bif Nat.ble pc 161 then (bif Nat.beq pc 161 then some (.if_icmp .eq 13, 164, [174], 0) else none) else (bif Nat.beq pc 164 then some (.aload_n 0, 165, [], 0) else none)))) else (bif Nat.ble pc 169 then (bif Nat.ble pc 165 then (bif Nat.beq pc 165 then some (.getfield 22, 168, [640, 10, 2, 272], 0) else none) else (bif Nat.ble pc 168 then (bif Nat.beq pc 168 then some (.iconst 1, 169, [], 0) else none) else (bif Nat.beq pc 169 then some (.invokevirtual 65, 172, [71, 751], 0) else none))) else (bif Nat.ble pc 172 then (bif Nat.beq pc 172 then some (.iconst 0, 173, [], 0) else none) else (bif Nat.ble pc 173 then (bif Nat.beq pc 173 then some (.ireturn, 174, [1], 0) else none) else (bif Nat.beq pc 174 then some (.aload_n 0, 175, [], 0) else none))))) else (bif Nat.ble pc 187 then (bif Nat.ble pc 181 then (bif Nat.ble pc 175 then (bif Nat.beq pc 175 then some (.getfield 22, 178, [640, 10, 2, 272], 0) else none) else (bif Nat.ble pc 178 then (bif Nat.beq pc 178 then some (.invokevirtual 102, 181, [75, 781], 0) else none) else (bif Nat.beq pc 181 then some (.aload_n 1, 182, [], 0) else none))) else (bif Nat.ble pc 182 then (bif Nat.beq pc 182 then some (.iload 4, 184, [], 0) else none) else (bif Nat.ble pc 184 then (bif Nat.beq pc 184 then some (.putfield 91, 187, [193, 3, 0, 130], 0) else none) else (bif Nat.beq pc 187 then some (.aload_n 1, 188, [], 0) else none)))) else (bif Nat.ble pc 192 then (bif Nat.ble pc 188 then (bif Nat.beq pc 188 then some (.dup, 189, [], 0) else none) else (bif Nat.ble pc 189 then (bif Nat.beq pc 189 then some (.getfield 88, 192, [194, 3, 0, 135], 0) else none) else (bif Nat.beq pc 192 then some (.iconst 1, 193, [], 0) else none))) else (bif Nat.ble pc 194 then (bif Nat.ble pc 193 then (bif Nat.beq pc 193 then some (.iadd, 194, [], 0) else none) else (bif Nat.beq pc 194 then some (.putfield 88, 197, [194, 3, 0, 135], 0) else none)) else (bif Nat.ble pc 197 then (bif Nat.beq pc 197 then some (.iload 7, 199, [], 0) else none) else (bif Nat.beq pc 199 then some (.ireturn, 200, [1], 0) else none))))))))
set_option maxRecDepth 100000 in
theorem tk_TR_readRow {pc : Nat} {e : Ent} (h : code_TR_readRow pc = some e) : okE TR_readRow pc e := cutC_ok (by decide +kernel) h
set_option maxRecDepth 100000 in
theorem mk_TR_readRow : mOk TR_readRow := mOk_of (by decide +kernel)
def code_TR_sortOf : Nat → Option Ent := cutC 54 fun pc => (bif Nat.ble pc 47 then (bif Nat.ble pc 44 then (bif Nat.ble pc 0 then (bif Nat.beq pc 0 then some (.iload_n 0, 1, [], 0) else none) else (bif Nat.ble pc 1 then (bif Nat.beq pc 1 then some (.lookupswitch 51 #[(35, 45), (46, 43), (111, 47), (116, 49)], 44, [52, 35, 46, 46, 44, 111, 48, 116, 50], 0) else none) else (bif Nat.beq pc 44 then some (.iconst 0, 45, [], 0) else none))) else (bif Nat.ble pc 45 then (bif Nat.beq pc 45 then some (.ireturn, 46, [0], 0) else none) else (bif Nat.ble pc 46 then (bif Nat.beq pc 46 then some (.iconst 1, 47, [], 0) else none) else (bif Nat.beq pc 47 then some (.ireturn, 48, [0], 0) else none)))) else (bif Nat.ble pc 50 then (bif Nat.ble pc 48 then (bif Nat.beq pc 48 then some (.iconst 2, 49, [], 0) else none) else (bif Nat.ble pc 49 then (bif Nat.beq pc 49 then some (.ireturn, 50, [0], 0) else none) else (bif Nat.beq pc 50 then some (.iconst 3, 51, [], 0) else none))) else (bif Nat.ble pc 51 then (bif Nat.beq pc 51 then some (.ireturn, 52, [0], 0) else none) else (bif Nat.ble pc 52 then (bif Nat.beq pc 52 then some (.iconst (-1), 53, [], 0) else none) else (bif Nat.beq pc 53 then some (.ireturn, 54, [0], 0) else none)))))
set_option maxRecDepth 100000 in
theorem tk_TR_sortOf {pc : Nat} {e : Ent} (h : code_TR_sortOf pc = some e) : okE TR_sortOf pc e := cutC_ok (by decide +kernel) h
set_option maxRecDepth 100000 in
theorem mk_TR_sortOf : mOk TR_sortOf := mOk_of (by decide +kernel)
end
