section
-- ===== PART A: goes FIRST, ahead of the names: the tables' words, and 'selects' of the private methods out of them =====
/-- a private method of a class that the tables say can be made, by its rows of tables_1 -/
def lw_okq (q : MethodName × Nat) : Prop := (q.1.cls ≠ "java/lang/invoke/MethodHandle" ∧ q.1.cls ≠ "java/lang/invoke/VarHandle") ∧ Cond.instantiable q.1.cls q.2 ∈ tables_1 ∧ Cond.privateMethod q.1 ∈ tables_1 ∧ Cond.instanceMethod q.1 ∈ tables_1
theorem lw_p0 : lw_okq (⟨"StruckWhile$Town", "setLetters", "(II)V"⟩, 15) := ⟨⟨by decide +kernel, by decide +kernel⟩, List.mem_of_getElem? (i := 34) (by decide +kernel), List.mem_of_getElem? (i := 336) (by decide +kernel), List.mem_of_getElem? (i := 337) (by decide +kernel)⟩
theorem lw_p1 : lw_okq (⟨"StruckWhile$Reader", "readsClause", "()Z"⟩, 4) := ⟨⟨by decide +kernel, by decide +kernel⟩, List.mem_of_getElem? (i := 181) (by decide +kernel), List.mem_of_getElem? (i := 440) (by decide +kernel), List.mem_of_getElem? (i := 441) (by decide +kernel)⟩
theorem lw_p2 : lw_okq (⟨"StruckWhile$Reader", "sees", "(C)Z"⟩, 4) := ⟨⟨by decide +kernel, by decide +kernel⟩, List.mem_of_getElem? (i := 181) (by decide +kernel), List.mem_of_getElem? (i := 444) (by decide +kernel), List.mem_of_getElem? (i := 445) (by decide +kernel)⟩
theorem lw_p3 : lw_okq (⟨"StruckWhile$Reader", "takesWord", "(Ljava/lang/String;)Z"⟩, 4) := ⟨⟨by decide +kernel, by decide +kernel⟩, List.mem_of_getElem? (i := 181) (by decide +kernel), List.mem_of_getElem? (i := 449) (by decide +kernel), List.mem_of_getElem? (i := 450) (by decide +kernel)⟩
theorem lw_p4 : lw_okq (⟨"StruckWhile$Reader", "takes", "(C)Z"⟩, 4) := ⟨⟨by decide +kernel, by decide +kernel⟩, List.mem_of_getElem? (i := 181) (by decide +kernel), List.mem_of_getElem? (i := 501) (by decide +kernel), List.mem_of_getElem? (i := 502) (by decide +kernel)⟩
theorem lw_p5 : lw_okq (⟨"StruckWhile$Reader", "readsHeat", "(I)Z"⟩, 4) := ⟨⟨by decide +kernel, by decide +kernel⟩, List.mem_of_getElem? (i := 181) (by decide +kernel), List.mem_of_getElem? (i := 505) (by decide +kernel), List.mem_of_getElem? (i := 506) (by decide +kernel)⟩
theorem lw_p6 : lw_okq (⟨"StruckWhile$Reader", "takeNumber", "()I"⟩, 4) := ⟨⟨by decide +kernel, by decide +kernel⟩, List.mem_of_getElem? (i := 181) (by decide +kernel), List.mem_of_getElem? (i := 509) (by decide +kernel), List.mem_of_getElem? (i := 510) (by decide +kernel)⟩
theorem lw_p7 : lw_okq (⟨"StruckWhile$Reader", "readsEither", "(I)Z"⟩, 4) := ⟨⟨by decide +kernel, by decide +kernel⟩, List.mem_of_getElem? (i := 181) (by decide +kernel), List.mem_of_getElem? (i := 514) (by decide +kernel), List.mem_of_getElem? (i := 515) (by decide +kernel)⟩
theorem lw_p8 : lw_okq (⟨"StruckWhile$Reader", "readsBoth", "(I)Z"⟩, 4) := ⟨⟨by decide +kernel, by decide +kernel⟩, List.mem_of_getElem? (i := 181) (by decide +kernel), List.mem_of_getElem? (i := 518) (by decide +kernel), List.mem_of_getElem? (i := 519) (by decide +kernel)⟩
theorem lw_p9 : lw_okq (⟨"StruckWhile$Reader", "readsFactor", "(I)Z"⟩, 4) := ⟨⟨by decide +kernel, by decide +kernel⟩, List.mem_of_getElem? (i := 181) (by decide +kernel), List.mem_of_getElem? (i := 522) (by decide +kernel), List.mem_of_getElem? (i := 523) (by decide +kernel)⟩
theorem lw_p10 : lw_okq (⟨"StruckWhile$Reader", "readsTest", "()Z"⟩, 4) := ⟨⟨by decide +kernel, by decide +kernel⟩, List.mem_of_getElem? (i := 181) (by decide +kernel), List.mem_of_getElem? (i := 526) (by decide +kernel), List.mem_of_getElem? (i := 527) (by decide +kernel)⟩
theorem lw_p11 : lw_okq (⟨"StruckWhile$Reader", "takeOneOf", "(Ljava/lang/String;)I"⟩, 4) := ⟨⟨by decide +kernel, by decide +kernel⟩, List.mem_of_getElem? (i := 181) (by decide +kernel), List.mem_of_getElem? (i := 531) (by decide +kernel), List.mem_of_getElem? (i := 532) (by decide +kernel)⟩
theorem lw_p12 : lw_okq (⟨"StruckWhile$Ahead", "setRow", "(II)V"⟩, 6) := ⟨⟨by decide +kernel, by decide +kernel⟩, List.mem_of_getElem? (i := 153) (by decide +kernel), List.mem_of_getElem? (i := 653) (by decide +kernel), List.mem_of_getElem? (i := 654) (by decide +kernel)⟩
theorem lw_p13 : lw_okq (⟨"StruckWhile$Ahead", "countDoneInTime", "(II)I"⟩, 6) := ⟨⟨by decide +kernel, by decide +kernel⟩, List.mem_of_getElem? (i := 153) (by decide +kernel), List.mem_of_getElem? (i := 657) (by decide +kernel), List.mem_of_getElem? (i := 658) (by decide +kernel)⟩
theorem lw_p14 : lw_okq (⟨"StruckWhile$Ahead", "firstUndone", "(II)I"⟩, 6) := ⟨⟨by decide +kernel, by decide +kernel⟩, List.mem_of_getElem? (i := 153) (by decide +kernel), List.mem_of_getElem? (i := 668) (by decide +kernel), List.mem_of_getElem? (i := 669) (by decide +kernel)⟩
theorem lw_p15 : lw_okq (⟨"StruckWhile$Ahead", "warm", "(II)V"⟩, 6) := ⟨⟨by decide +kernel, by decide +kernel⟩, List.mem_of_getElem? (i := 153) (by decide +kernel), List.mem_of_getElem? (i := 686) (by decide +kernel), List.mem_of_getElem? (i := 687) (by decide +kernel)⟩
def lw_privs_1 : List (MethodName × Nat) := [(⟨"StruckWhile$Town", "setLetters", "(II)V"⟩, 15), (⟨"StruckWhile$Reader", "readsClause", "()Z"⟩, 4), (⟨"StruckWhile$Reader", "sees", "(C)Z"⟩, 4), (⟨"StruckWhile$Reader", "takesWord", "(Ljava/lang/String;)Z"⟩, 4), (⟨"StruckWhile$Reader", "takes", "(C)Z"⟩, 4), (⟨"StruckWhile$Reader", "readsHeat", "(I)Z"⟩, 4), (⟨"StruckWhile$Reader", "takeNumber", "()I"⟩, 4), (⟨"StruckWhile$Reader", "readsEither", "(I)Z"⟩, 4), (⟨"StruckWhile$Reader", "readsBoth", "(I)Z"⟩, 4), (⟨"StruckWhile$Reader", "readsFactor", "(I)Z"⟩, 4), (⟨"StruckWhile$Reader", "readsTest", "()Z"⟩, 4), (⟨"StruckWhile$Reader", "takeOneOf", "(Ljava/lang/String;)I"⟩, 4), (⟨"StruckWhile$Ahead", "setRow", "(II)V"⟩, 6), (⟨"StruckWhile$Ahead", "countDoneInTime", "(II)I"⟩, 6), (⟨"StruckWhile$Ahead", "firstUndone", "(II)I"⟩, 6), (⟨"StruckWhile$Ahead", "warm", "(II)V"⟩, 6)]
theorem lw_r1 : ∀ q ∈ lw_privs_1, lw_okq q := List.forall_mem_cons.mpr ⟨lw_p0, List.forall_mem_cons.mpr ⟨lw_p1, List.forall_mem_cons.mpr ⟨lw_p2, List.forall_mem_cons.mpr ⟨lw_p3, List.forall_mem_cons.mpr ⟨lw_p4, List.forall_mem_cons.mpr ⟨lw_p5, List.forall_mem_cons.mpr ⟨lw_p6, List.forall_mem_cons.mpr ⟨lw_p7, List.forall_mem_cons.mpr ⟨lw_p8, List.forall_mem_cons.mpr ⟨lw_p9, List.forall_mem_cons.mpr ⟨lw_p10, List.forall_mem_cons.mpr ⟨lw_p11, List.forall_mem_cons.mpr ⟨lw_p12, List.forall_mem_cons.mpr ⟨lw_p13, List.forall_mem_cons.mpr ⟨lw_p14, List.forall_mem_cons.mpr ⟨lw_p15, fun _ h => absurd h List.not_mem_nil⟩⟩⟩⟩⟩⟩⟩⟩⟩⟩⟩⟩⟩⟩⟩⟩
theorem lw_p16 : lw_okq (⟨"StruckWhile$Ahead", "isAllSeenSo", "()Z"⟩, 6) := ⟨⟨by decide +kernel, by decide +kernel⟩, List.mem_of_getElem? (i := 153) (by decide +kernel), List.mem_of_getElem? (i := 717) (by decide +kernel), List.mem_of_getElem? (i := 718) (by decide +kernel)⟩
theorem lw_p17 : lw_okq (⟨"StruckWhile$Ahead", "goPlanned", "(II)V"⟩, 6) := ⟨⟨by decide +kernel, by decide +kernel⟩, List.mem_of_getElem? (i := 153) (by decide +kernel), List.mem_of_getElem? (i := 758) (by decide +kernel), List.mem_of_getElem? (i := 759) (by decide +kernel)⟩
theorem lw_p18 : lw_okq (⟨"StruckWhile$Acts", "run", "(IIII)I"⟩, 5) := ⟨⟨by decide +kernel, by decide +kernel⟩, List.mem_of_getElem? (i := 205) (by decide +kernel), List.mem_of_getElem? (i := 808) (by decide +kernel), List.mem_of_getElem? (i := 809) (by decide +kernel)⟩
theorem lw_p19 : lw_okq (⟨"StruckWhile$Acts", "note", "(I)V"⟩, 5) := ⟨⟨by decide +kernel, by decide +kernel⟩, List.mem_of_getElem? (i := 205) (by decide +kernel), List.mem_of_getElem? (i := 820) (by decide +kernel), List.mem_of_getElem? (i := 821) (by decide +kernel)⟩
theorem lw_p20 : lw_okq (⟨"StruckWhileModel", "in", "(III)Z"⟩, 78) := ⟨⟨by decide +kernel, by decide +kernel⟩, List.mem_of_getElem? (i := 873) (by decide +kernel), List.mem_of_getElem? (i := 1118) (by decide +kernel), List.mem_of_getElem? (i := 1119) (by decide +kernel)⟩
theorem lw_p21 : lw_okq (⟨"StruckWhileModel", "isHeat", "(I)Z"⟩, 78) := ⟨⟨by decide +kernel, by decide +kernel⟩, List.mem_of_getElem? (i := 873) (by decide +kernel), List.mem_of_getElem? (i := 1122) (by decide +kernel), List.mem_of_getElem? (i := 1123) (by decide +kernel)⟩
theorem lw_p22 : lw_okq (⟨"StruckWhileModel", "isOne", "(I)Z"⟩, 78) := ⟨⟨by decide +kernel, by decide +kernel⟩, List.mem_of_getElem? (i := 873) (by decide +kernel), List.mem_of_getElem? (i := 1130) (by decide +kernel), List.mem_of_getElem? (i := 1131) (by decide +kernel)⟩
theorem lw_p23 : lw_okq (⟨"StruckWhileModel", "has", "(II)Z"⟩, 78) := ⟨⟨by decide +kernel, by decide +kernel⟩, List.mem_of_getElem? (i := 873) (by decide +kernel), List.mem_of_getElem? (i := 1138) (by decide +kernel), List.mem_of_getElem? (i := 1139) (by decide +kernel)⟩
theorem lw_p24 : lw_okq (⟨"StruckWhileModel", "goes", "(IZ)V"⟩, 78) := ⟨⟨by decide +kernel, by decide +kernel⟩, List.mem_of_getElem? (i := 873) (by decide +kernel), List.mem_of_getElem? (i := 1142) (by decide +kernel), List.mem_of_getElem? (i := 1143) (by decide +kernel)⟩
theorem lw_p25 : lw_okq (⟨"StruckWhileModel", "isWork", "(I)Z"⟩, 78) := ⟨⟨by decide +kernel, by decide +kernel⟩, List.mem_of_getElem? (i := 873) (by decide +kernel), List.mem_of_getElem? (i := 1154) (by decide +kernel), List.mem_of_getElem? (i := 1155) (by decide +kernel)⟩
theorem lw_p26 : lw_okq (⟨"StruckWhileModel", "goesText", "(I)Z"⟩, 78) := ⟨⟨by decide +kernel, by decide +kernel⟩, List.mem_of_getElem? (i := 873) (by decide +kernel), List.mem_of_getElem? (i := 1170) (by decide +kernel), List.mem_of_getElem? (i := 1171) (by decide +kernel)⟩
theorem lw_p27 : lw_okq (⟨"StruckWhileModel", "takesClause", "(I)Z"⟩, 78) := ⟨⟨by decide +kernel, by decide +kernel⟩, List.mem_of_getElem? (i := 873) (by decide +kernel), List.mem_of_getElem? (i := 1174) (by decide +kernel), List.mem_of_getElem? (i := 1175) (by decide +kernel)⟩
theorem lw_p28 : lw_okq (⟨"StruckWhileModel", "takesHead", "(I)Z"⟩, 78) := ⟨⟨by decide +kernel, by decide +kernel⟩, List.mem_of_getElem? (i := 873) (by decide +kernel), List.mem_of_getElem? (i := 1178) (by decide +kernel), List.mem_of_getElem? (i := 1179) (by decide +kernel)⟩
theorem lw_p29 : lw_okq (⟨"StruckWhileModel", "next", "()I"⟩, 78) := ⟨⟨by decide +kernel, by decide +kernel⟩, List.mem_of_getElem? (i := 873) (by decide +kernel), List.mem_of_getElem? (i := 1182) (by decide +kernel), List.mem_of_getElem? (i := 1183) (by decide +kernel)⟩
theorem lw_p30 : lw_okq (⟨"StruckWhileModel", "takesWord", "(II)Z"⟩, 78) := ⟨⟨by decide +kernel, by decide +kernel⟩, List.mem_of_getElem? (i := 873) (by decide +kernel), List.mem_of_getElem? (i := 1186) (by decide +kernel), List.mem_of_getElem? (i := 1187) (by decide +kernel)⟩
theorem lw_p31 : lw_okq (⟨"StruckWhileModel", "takes", "(I)Z"⟩, 78) := ⟨⟨by decide +kernel, by decide +kernel⟩, List.mem_of_getElem? (i := 873) (by decide +kernel), List.mem_of_getElem? (i := 1190) (by decide +kernel), List.mem_of_getElem? (i := 1191) (by decide +kernel)⟩
def lw_privs_2 : List (MethodName × Nat) := [(⟨"StruckWhile$Ahead", "isAllSeenSo", "()Z"⟩, 6), (⟨"StruckWhile$Ahead", "goPlanned", "(II)V"⟩, 6), (⟨"StruckWhile$Acts", "run", "(IIII)I"⟩, 5), (⟨"StruckWhile$Acts", "note", "(I)V"⟩, 5), (⟨"StruckWhileModel", "in", "(III)Z"⟩, 78), (⟨"StruckWhileModel", "isHeat", "(I)Z"⟩, 78), (⟨"StruckWhileModel", "isOne", "(I)Z"⟩, 78), (⟨"StruckWhileModel", "has", "(II)Z"⟩, 78), (⟨"StruckWhileModel", "goes", "(IZ)V"⟩, 78), (⟨"StruckWhileModel", "isWork", "(I)Z"⟩, 78), (⟨"StruckWhileModel", "goesText", "(I)Z"⟩, 78), (⟨"StruckWhileModel", "takesClause", "(I)Z"⟩, 78), (⟨"StruckWhileModel", "takesHead", "(I)Z"⟩, 78), (⟨"StruckWhileModel", "next", "()I"⟩, 78), (⟨"StruckWhileModel", "takesWord", "(II)Z"⟩, 78), (⟨"StruckWhileModel", "takes", "(I)Z"⟩, 78)]
theorem lw_r2 : ∀ q ∈ lw_privs_2, lw_okq q := List.forall_mem_cons.mpr ⟨lw_p16, List.forall_mem_cons.mpr ⟨lw_p17, List.forall_mem_cons.mpr ⟨lw_p18, List.forall_mem_cons.mpr ⟨lw_p19, List.forall_mem_cons.mpr ⟨lw_p20, List.forall_mem_cons.mpr ⟨lw_p21, List.forall_mem_cons.mpr ⟨lw_p22, List.forall_mem_cons.mpr ⟨lw_p23, List.forall_mem_cons.mpr ⟨lw_p24, List.forall_mem_cons.mpr ⟨lw_p25, List.forall_mem_cons.mpr ⟨lw_p26, List.forall_mem_cons.mpr ⟨lw_p27, List.forall_mem_cons.mpr ⟨lw_p28, List.forall_mem_cons.mpr ⟨lw_p29, List.forall_mem_cons.mpr ⟨lw_p30, List.forall_mem_cons.mpr ⟨lw_p31, fun _ h => absurd h List.not_mem_nil⟩⟩⟩⟩⟩⟩⟩⟩⟩⟩⟩⟩⟩⟩⟩⟩
theorem lw_p32 : lw_okq (⟨"StruckWhileModel", "takesNumber", "()Z"⟩, 78) := ⟨⟨by decide +kernel, by decide +kernel⟩, List.mem_of_getElem? (i := 873) (by decide +kernel), List.mem_of_getElem? (i := 1194) (by decide +kernel), List.mem_of_getElem? (i := 1195) (by decide +kernel)⟩
theorem lw_p33 : lw_okq (⟨"StruckWhileModel", "isDigit", "()Z"⟩, 78) := ⟨⟨by decide +kernel, by decide +kernel⟩, List.mem_of_getElem? (i := 873) (by decide +kernel), List.mem_of_getElem? (i := 1198) (by decide +kernel), List.mem_of_getElem? (i := 1199) (by decide +kernel)⟩
theorem lw_p34 : lw_okq (⟨"StruckWhileModel", "takesE", "(I)Z"⟩, 78) := ⟨⟨by decide +kernel, by decide +kernel⟩, List.mem_of_getElem? (i := 873) (by decide +kernel), List.mem_of_getElem? (i := 1202) (by decide +kernel), List.mem_of_getElem? (i := 1203) (by decide +kernel)⟩
theorem lw_p35 : lw_okq (⟨"StruckWhileModel", "takesTest", "()Z"⟩, 78) := ⟨⟨by decide +kernel, by decide +kernel⟩, List.mem_of_getElem? (i := 873) (by decide +kernel), List.mem_of_getElem? (i := 1206) (by decide +kernel), List.mem_of_getElem? (i := 1207) (by decide +kernel)⟩
theorem lw_p36 : lw_okq (⟨"StruckWhileModel", "place", "(I)I"⟩, 78) := ⟨⟨by decide +kernel, by decide +kernel⟩, List.mem_of_getElem? (i := 873) (by decide +kernel), List.mem_of_getElem? (i := 1210) (by decide +kernel), List.mem_of_getElem? (i := 1211) (by decide +kernel)⟩
theorem lw_p37 : lw_okq (⟨"StruckWhileModel", "emits", "(I)V"⟩, 78) := ⟨⟨by decide +kernel, by decide +kernel⟩, List.mem_of_getElem? (i := 873) (by decide +kernel), List.mem_of_getElem? (i := 1214) (by decide +kernel), List.mem_of_getElem? (i := 1215) (by decide +kernel)⟩
theorem lw_p38 : lw_okq (⟨"StruckWhileModel", "whole", "()V"⟩, 78) := ⟨⟨by decide +kernel, by decide +kernel⟩, List.mem_of_getElem? (i := 873) (by decide +kernel), List.mem_of_getElem? (i := 1218) (by decide +kernel), List.mem_of_getElem? (i := 1219) (by decide +kernel)⟩
theorem lw_p39 : lw_okq (⟨"StruckWhileModel", "settle", "(I)V"⟩, 78) := ⟨⟨by decide +kernel, by decide +kernel⟩, List.mem_of_getElem? (i := 873) (by decide +kernel), List.mem_of_getElem? (i := 1222) (by decide +kernel), List.mem_of_getElem? (i := 1223) (by decide +kernel)⟩
theorem lw_p40 : lw_okq (⟨"StruckWhileModel", "rise", "(I)I"⟩, 78) := ⟨⟨by decide +kernel, by decide +kernel⟩, List.mem_of_getElem? (i := 873) (by decide +kernel), List.mem_of_getElem? (i := 1230) (by decide +kernel), List.mem_of_getElem? (i := 1231) (by decide +kernel)⟩
theorem lw_p41 : lw_okq (⟨"StruckWhileModel", "sum", "(I)I"⟩, 78) := ⟨⟨by decide +kernel, by decide +kernel⟩, List.mem_of_getElem? (i := 873) (by decide +kernel), List.mem_of_getElem? (i := 1234) (by decide +kernel), List.mem_of_getElem? (i := 1235) (by decide +kernel)⟩
theorem lw_p42 : lw_okq (⟨"StruckWhileModel", "begin", "()I"⟩, 78) := ⟨⟨by decide +kernel, by decide +kernel⟩, List.mem_of_getElem? (i := 873) (by decide +kernel), List.mem_of_getElem? (i := 1238) (by decide +kernel), List.mem_of_getElem? (i := 1239) (by decide +kernel)⟩
theorem lw_p43 : lw_okq (⟨"StruckWhileModel", "behind", "()I"⟩, 78) := ⟨⟨by decide +kernel, by decide +kernel⟩, List.mem_of_getElem? (i := 873) (by decide +kernel), List.mem_of_getElem? (i := 1242) (by decide +kernel), List.mem_of_getElem? (i := 1243) (by decide +kernel)⟩
theorem lw_p44 : lw_okq (⟨"StruckWhileModel", "holds", "(II)Z"⟩, 78) := ⟨⟨by decide +kernel, by decide +kernel⟩, List.mem_of_getElem? (i := 873) (by decide +kernel), List.mem_of_getElem? (i := 1246) (by decide +kernel), List.mem_of_getElem? (i := 1247) (by decide +kernel)⟩
theorem lw_p45 : lw_okq (⟨"StruckWhileModel", "factOf", "(II)I"⟩, 78) := ⟨⟨by decide +kernel, by decide +kernel⟩, List.mem_of_getElem? (i := 873) (by decide +kernel), List.mem_of_getElem? (i := 1250) (by decide +kernel), List.mem_of_getElem? (i := 1251) (by decide +kernel)⟩
theorem lw_p46 : lw_okq (⟨"StruckWhileModel", "beside", "(II)I"⟩, 78) := ⟨⟨by decide +kernel, by decide +kernel⟩, List.mem_of_getElem? (i := 873) (by decide +kernel), List.mem_of_getElem? (i := 1254) (by decide +kernel), List.mem_of_getElem? (i := 1255) (by decide +kernel)⟩
theorem lw_p47 : lw_okq (⟨"StruckWhileModel", "spark", "()I"⟩, 78) := ⟨⟨by decide +kernel, by decide +kernel⟩, List.mem_of_getElem? (i := 873) (by decide +kernel), List.mem_of_getElem? (i := 1262) (by decide +kernel), List.mem_of_getElem? (i := 1263) (by decide +kernel)⟩
def lw_privs_3 : List (MethodName × Nat) := [(⟨"StruckWhileModel", "takesNumber", "()Z"⟩, 78), (⟨"StruckWhileModel", "isDigit", "()Z"⟩, 78), (⟨"StruckWhileModel", "takesE", "(I)Z"⟩, 78), (⟨"StruckWhileModel", "takesTest", "()Z"⟩, 78), (⟨"StruckWhileModel", "place", "(I)I"⟩, 78), (⟨"StruckWhileModel", "emits", "(I)V"⟩, 78), (⟨"StruckWhileModel", "whole", "()V"⟩, 78), (⟨"StruckWhileModel", "settle", "(I)V"⟩, 78), (⟨"StruckWhileModel", "rise", "(I)I"⟩, 78), (⟨"StruckWhileModel", "sum", "(I)I"⟩, 78), (⟨"StruckWhileModel", "begin", "()I"⟩, 78), (⟨"StruckWhileModel", "behind", "()I"⟩, 78), (⟨"StruckWhileModel", "holds", "(II)Z"⟩, 78), (⟨"StruckWhileModel", "factOf", "(II)I"⟩, 78), (⟨"StruckWhileModel", "beside", "(II)I"⟩, 78), (⟨"StruckWhileModel", "spark", "()I"⟩, 78)]
theorem lw_r3 : ∀ q ∈ lw_privs_3, lw_okq q := List.forall_mem_cons.mpr ⟨lw_p32, List.forall_mem_cons.mpr ⟨lw_p33, List.forall_mem_cons.mpr ⟨lw_p34, List.forall_mem_cons.mpr ⟨lw_p35, List.forall_mem_cons.mpr ⟨lw_p36, List.forall_mem_cons.mpr ⟨lw_p37, List.forall_mem_cons.mpr ⟨lw_p38, List.forall_mem_cons.mpr ⟨lw_p39, List.forall_mem_cons.mpr ⟨lw_p40, List.forall_mem_cons.mpr ⟨lw_p41, List.forall_mem_cons.mpr ⟨lw_p42, List.forall_mem_cons.mpr ⟨lw_p43, List.forall_mem_cons.mpr ⟨lw_p44, List.forall_mem_cons.mpr ⟨lw_p45, List.forall_mem_cons.mpr ⟨lw_p46, List.forall_mem_cons.mpr ⟨lw_p47, fun _ h => absurd h List.not_mem_nil⟩⟩⟩⟩⟩⟩⟩⟩⟩⟩⟩⟩⟩⟩⟩⟩
theorem lw_p48 : lw_okq (⟨"StruckWhileModel", "doneSet", "()I"⟩, 78) := ⟨⟨by decide +kernel, by decide +kernel⟩, List.mem_of_getElem? (i := 873) (by decide +kernel), List.mem_of_getElem? (i := 1266) (by decide +kernel), List.mem_of_getElem? (i := 1267) (by decide +kernel)⟩
theorem lw_p49 : lw_okq (⟨"StruckWhileModel", "isDone", "(I)Z"⟩, 78) := ⟨⟨by decide +kernel, by decide +kernel⟩, List.mem_of_getElem? (i := 873) (by decide +kernel), List.mem_of_getElem? (i := 1270) (by decide +kernel), List.mem_of_getElem? (i := 1271) (by decide +kernel)⟩
theorem lw_p50 : lw_okq (⟨"StruckWhileModel", "hottest", "()I"⟩, 78) := ⟨⟨by decide +kernel, by decide +kernel⟩, List.mem_of_getElem? (i := 873) (by decide +kernel), List.mem_of_getElem? (i := 1274) (by decide +kernel), List.mem_of_getElem? (i := 1275) (by decide +kernel)⟩
theorem lw_p51 : lw_okq (⟨"StruckWhileModel", "allHeat", "()I"⟩, 78) := ⟨⟨by decide +kernel, by decide +kernel⟩, List.mem_of_getElem? (i := 873) (by decide +kernel), List.mem_of_getElem? (i := 1278) (by decide +kernel), List.mem_of_getElem? (i := 1279) (by decide +kernel)⟩
theorem lw_p52 : lw_okq (⟨"StruckWhileModel", "isMinutes", "(I)Z"⟩, 78) := ⟨⟨by decide +kernel, by decide +kernel⟩, List.mem_of_getElem? (i := 873) (by decide +kernel), List.mem_of_getElem? (i := 1286) (by decide +kernel), List.mem_of_getElem? (i := 1287) (by decide +kernel)⟩
theorem lw_p53 : lw_okq (⟨"StruckWhileModel", "goMinutes", "(I)V"⟩, 78) := ⟨⟨by decide +kernel, by decide +kernel⟩, List.mem_of_getElem? (i := 873) (by decide +kernel), List.mem_of_getElem? (i := 1290) (by decide +kernel), List.mem_of_getElem? (i := 1291) (by decide +kernel)⟩
theorem lw_p54 : lw_okq (⟨"StruckWhileModel", "goMinute", "()V"⟩, 78) := ⟨⟨by decide +kernel, by decide +kernel⟩, List.mem_of_getElem? (i := 873) (by decide +kernel), List.mem_of_getElem? (i := 1294) (by decide +kernel), List.mem_of_getElem? (i := 1295) (by decide +kernel)⟩
theorem lw_p55 : lw_okq (⟨"StruckWhileModel", "held", "(I)I"⟩, 78) := ⟨⟨by decide +kernel, by decide +kernel⟩, List.mem_of_getElem? (i := 873) (by decide +kernel), List.mem_of_getElem? (i := 1298) (by decide +kernel), List.mem_of_getElem? (i := 1299) (by decide +kernel)⟩
theorem lw_p56 : lw_okq (⟨"StruckWhileModel", "least", "(II)I"⟩, 78) := ⟨⟨by decide +kernel, by decide +kernel⟩, List.mem_of_getElem? (i := 873) (by decide +kernel), List.mem_of_getElem? (i := 1302) (by decide +kernel), List.mem_of_getElem? (i := 1303) (by decide +kernel)⟩
theorem lw_p57 : lw_okq (⟨"StruckWhileModel", "ready", "(I)I"⟩, 78) := ⟨⟨by decide +kernel, by decide +kernel⟩, List.mem_of_getElem? (i := 873) (by decide +kernel), List.mem_of_getElem? (i := 1310) (by decide +kernel), List.mem_of_getElem? (i := 1311) (by decide +kernel)⟩
theorem lw_p58 : lw_okq (⟨"StruckWhileModel", "save", "()V"⟩, 78) := ⟨⟨by decide +kernel, by decide +kernel⟩, List.mem_of_getElem? (i := 873) (by decide +kernel), List.mem_of_getElem? (i := 1314) (by decide +kernel), List.mem_of_getElem? (i := 1315) (by decide +kernel)⟩
theorem lw_p59 : lw_okq (⟨"StruckWhileModel", "putBack", "()V"⟩, 78) := ⟨⟨by decide +kernel, by decide +kernel⟩, List.mem_of_getElem? (i := 873) (by decide +kernel), List.mem_of_getElem? (i := 1318) (by decide +kernel), List.mem_of_getElem? (i := 1319) (by decide +kernel)⟩
theorem lw_p60 : lw_okq (⟨"StruckWhileModel", "layLine", "(I)Z"⟩, 78) := ⟨⟨by decide +kernel, by decide +kernel⟩, List.mem_of_getElem? (i := 873) (by decide +kernel), List.mem_of_getElem? (i := 1330) (by decide +kernel), List.mem_of_getElem? (i := 1331) (by decide +kernel)⟩
theorem lw_p61 : lw_okq (⟨"StruckWhileModel", "doneInTime", "(I)I"⟩, 78) := ⟨⟨by decide +kernel, by decide +kernel⟩, List.mem_of_getElem? (i := 873) (by decide +kernel), List.mem_of_getElem? (i := 1334) (by decide +kernel), List.mem_of_getElem? (i := 1335) (by decide +kernel)⟩
theorem lw_p62 : lw_okq (⟨"StruckWhileModel", "firstOfLine", "()I"⟩, 78) := ⟨⟨by decide +kernel, by decide +kernel⟩, List.mem_of_getElem? (i := 873) (by decide +kernel), List.mem_of_getElem? (i := 1338) (by decide +kernel), List.mem_of_getElem? (i := 1339) (by decide +kernel)⟩
theorem lw_p63 : lw_okq (⟨"StruckWhileModel", "hottestIf", "(II)I"⟩, 78) := ⟨⟨by decide +kernel, by decide +kernel⟩, List.mem_of_getElem? (i := 873) (by decide +kernel), List.mem_of_getElem? (i := 1346) (by decide +kernel), List.mem_of_getElem? (i := 1347) (by decide +kernel)⟩
def lw_privs_4 : List (MethodName × Nat) := [(⟨"StruckWhileModel", "doneSet", "()I"⟩, 78), (⟨"StruckWhileModel", "isDone", "(I)Z"⟩, 78), (⟨"StruckWhileModel", "hottest", "()I"⟩, 78), (⟨"StruckWhileModel", "allHeat", "()I"⟩, 78), (⟨"StruckWhileModel", "isMinutes", "(I)Z"⟩, 78), (⟨"StruckWhileModel", "goMinutes", "(I)V"⟩, 78), (⟨"StruckWhileModel", "goMinute", "()V"⟩, 78), (⟨"StruckWhileModel", "held", "(I)I"⟩, 78), (⟨"StruckWhileModel", "least", "(II)I"⟩, 78), (⟨"StruckWhileModel", "ready", "(I)I"⟩, 78), (⟨"StruckWhileModel", "save", "()V"⟩, 78), (⟨"StruckWhileModel", "putBack", "()V"⟩, 78), (⟨"StruckWhileModel", "layLine", "(I)Z"⟩, 78), (⟨"StruckWhileModel", "doneInTime", "(I)I"⟩, 78), (⟨"StruckWhileModel", "firstOfLine", "()I"⟩, 78), (⟨"StruckWhileModel", "hottestIf", "(II)I"⟩, 78)]
theorem lw_r4 : ∀ q ∈ lw_privs_4, lw_okq q := List.forall_mem_cons.mpr ⟨lw_p48, List.forall_mem_cons.mpr ⟨lw_p49, List.forall_mem_cons.mpr ⟨lw_p50, List.forall_mem_cons.mpr ⟨lw_p51, List.forall_mem_cons.mpr ⟨lw_p52, List.forall_mem_cons.mpr ⟨lw_p53, List.forall_mem_cons.mpr ⟨lw_p54, List.forall_mem_cons.mpr ⟨lw_p55, List.forall_mem_cons.mpr ⟨lw_p56, List.forall_mem_cons.mpr ⟨lw_p57, List.forall_mem_cons.mpr ⟨lw_p58, List.forall_mem_cons.mpr ⟨lw_p59, List.forall_mem_cons.mpr ⟨lw_p60, List.forall_mem_cons.mpr ⟨lw_p61, List.forall_mem_cons.mpr ⟨lw_p62, List.forall_mem_cons.mpr ⟨lw_p63, fun _ h => absurd h List.not_mem_nil⟩⟩⟩⟩⟩⟩⟩⟩⟩⟩⟩⟩⟩⟩⟩⟩
theorem lw_p64 : lw_okq (⟨"StruckWhileModel", "heats", "(II)I"⟩, 78) := ⟨⟨by decide +kernel, by decide +kernel⟩, List.mem_of_getElem? (i := 873) (by decide +kernel), List.mem_of_getElem? (i := 1358) (by decide +kernel), List.mem_of_getElem? (i := 1359) (by decide +kernel)⟩
theorem lw_p65 : lw_okq (⟨"StruckWhileModel", "isSeen", "()Z"⟩, 78) := ⟨⟨by decide +kernel, by decide +kernel⟩, List.mem_of_getElem? (i := 873) (by decide +kernel), List.mem_of_getElem? (i := 1362) (by decide +kernel), List.mem_of_getElem? (i := 1363) (by decide +kernel)⟩
theorem lw_p66 : lw_okq (⟨"StruckWhileModel", "canBe", "(II)I"⟩, 78) := ⟨⟨by decide +kernel, by decide +kernel⟩, List.mem_of_getElem? (i := 873) (by decide +kernel), List.mem_of_getElem? (i := 1366) (by decide +kernel), List.mem_of_getElem? (i := 1367) (by decide +kernel)⟩
theorem lw_p67 : lw_okq (⟨"StruckWhileModel", "isHotIf", "(III)Z"⟩, 78) := ⟨⟨by decide +kernel, by decide +kernel⟩, List.mem_of_getElem? (i := 873) (by decide +kernel), List.mem_of_getElem? (i := 1375) (by decide +kernel), List.mem_of_getElem? (i := 1376) (by decide +kernel)⟩
theorem lw_p68 : lw_okq (⟨"StruckWhileModel", "lowest", "(III)J"⟩, 78) := ⟨⟨by decide +kernel, by decide +kernel⟩, List.mem_of_getElem? (i := 873) (by decide +kernel), List.mem_of_getElem? (i := 1379) (by decide +kernel), List.mem_of_getElem? (i := 1380) (by decide +kernel)⟩
theorem lw_p69 : lw_okq (⟨"StruckWhileModel", "divisor", "(II)I"⟩, 78) := ⟨⟨by decide +kernel, by decide +kernel⟩, List.mem_of_getElem? (i := 873) (by decide +kernel), List.mem_of_getElem? (i := 1383) (by decide +kernel), List.mem_of_getElem? (i := 1384) (by decide +kernel)⟩
theorem lw_p70 : lw_okq (⟨"StruckWhileModel", "goPlan", "(II)V"⟩, 78) := ⟨⟨by decide +kernel, by decide +kernel⟩, List.mem_of_getElem? (i := 873) (by decide +kernel), List.mem_of_getElem? (i := 1399) (by decide +kernel), List.mem_of_getElem? (i := 1400) (by decide +kernel)⟩
theorem lw_p71 : lw_okq (⟨"StruckWhileModel", "isTape", "(I)Z"⟩, 78) := ⟨⟨by decide +kernel, by decide +kernel⟩, List.mem_of_getElem? (i := 873) (by decide +kernel), List.mem_of_getElem? (i := 1415) (by decide +kernel), List.mem_of_getElem? (i := 1416) (by decide +kernel)⟩
theorem lw_p72 : lw_okq (⟨"StruckWhileModel", "glowsAct", "(II)I"⟩, 78) := ⟨⟨by decide +kernel, by decide +kernel⟩, List.mem_of_getElem? (i := 873) (by decide +kernel), List.mem_of_getElem? (i := 1431) (by decide +kernel), List.mem_of_getElem? (i := 1432) (by decide +kernel)⟩
theorem lw_p73 : lw_okq (⟨"StruckWhileModel", "body", "(I)V"⟩, 78) := ⟨⟨by decide +kernel, by decide +kernel⟩, List.mem_of_getElem? (i := 873) (by decide +kernel), List.mem_of_getElem? (i := 1435) (by decide +kernel), List.mem_of_getElem? (i := 1436) (by decide +kernel)⟩
theorem lw_p74 : lw_okq (⟨"StruckWhileModel", "oneGlows", "(II)I"⟩, 78) := ⟨⟨by decide +kernel, by decide +kernel⟩, List.mem_of_getElem? (i := 873) (by decide +kernel), List.mem_of_getElem? (i := 1439) (by decide +kernel), List.mem_of_getElem? (i := 1440) (by decide +kernel)⟩
theorem lw_p75 : lw_okq (⟨"StruckWhileModel", "ringsAct", "(II)I"⟩, 78) := ⟨⟨by decide +kernel, by decide +kernel⟩, List.mem_of_getElem? (i := 873) (by decide +kernel), List.mem_of_getElem? (i := 1443) (by decide +kernel), List.mem_of_getElem? (i := 1444) (by decide +kernel)⟩
theorem lw_p76 : lw_okq (⟨"StruckWhileModel", "bankerRings", "(II)I"⟩, 78) := ⟨⟨by decide +kernel, by decide +kernel⟩, List.mem_of_getElem? (i := 873) (by decide +kernel), List.mem_of_getElem? (i := 1447) (by decide +kernel), List.mem_of_getElem? (i := 1448) (by decide +kernel)⟩
theorem lw_p77 : lw_okq (⟨"StruckWhileModel", "oneRings", "(II)I"⟩, 78) := ⟨⟨by decide +kernel, by decide +kernel⟩, List.mem_of_getElem? (i := 873) (by decide +kernel), List.mem_of_getElem? (i := 1451) (by decide +kernel), List.mem_of_getElem? (i := 1452) (by decide +kernel)⟩
theorem lw_p78 : lw_okq (⟨"StruckWhileModel", "tellsAct", "(II)I"⟩, 78) := ⟨⟨by decide +kernel, by decide +kernel⟩, List.mem_of_getElem? (i := 873) (by decide +kernel), List.mem_of_getElem? (i := 1455) (by decide +kernel), List.mem_of_getElem? (i := 1456) (by decide +kernel)⟩
theorem lw_p79 : lw_okq (⟨"StruckWhileModel", "oneTells", "(II)I"⟩, 78) := ⟨⟨by decide +kernel, by decide +kernel⟩, List.mem_of_getElem? (i := 873) (by decide +kernel), List.mem_of_getElem? (i := 1459) (by decide +kernel), List.mem_of_getElem? (i := 1460) (by decide +kernel)⟩
def lw_privs_5 : List (MethodName × Nat) := [(⟨"StruckWhileModel", "heats", "(II)I"⟩, 78), (⟨"StruckWhileModel", "isSeen", "()Z"⟩, 78), (⟨"StruckWhileModel", "canBe", "(II)I"⟩, 78), (⟨"StruckWhileModel", "isHotIf", "(III)Z"⟩, 78), (⟨"StruckWhileModel", "lowest", "(III)J"⟩, 78), (⟨"StruckWhileModel", "divisor", "(II)I"⟩, 78), (⟨"StruckWhileModel", "goPlan", "(II)V"⟩, 78), (⟨"StruckWhileModel", "isTape", "(I)Z"⟩, 78), (⟨"StruckWhileModel", "glowsAct", "(II)I"⟩, 78), (⟨"StruckWhileModel", "body", "(I)V"⟩, 78), (⟨"StruckWhileModel", "oneGlows", "(II)I"⟩, 78), (⟨"StruckWhileModel", "ringsAct", "(II)I"⟩, 78), (⟨"StruckWhileModel", "bankerRings", "(II)I"⟩, 78), (⟨"StruckWhileModel", "oneRings", "(II)I"⟩, 78), (⟨"StruckWhileModel", "tellsAct", "(II)I"⟩, 78), (⟨"StruckWhileModel", "oneTells", "(II)I"⟩, 78)]
theorem lw_r5 : ∀ q ∈ lw_privs_5, lw_okq q := List.forall_mem_cons.mpr ⟨lw_p64, List.forall_mem_cons.mpr ⟨lw_p65, List.forall_mem_cons.mpr ⟨lw_p66, List.forall_mem_cons.mpr ⟨lw_p67, List.forall_mem_cons.mpr ⟨lw_p68, List.forall_mem_cons.mpr ⟨lw_p69, List.forall_mem_cons.mpr ⟨lw_p70, List.forall_mem_cons.mpr ⟨lw_p71, List.forall_mem_cons.mpr ⟨lw_p72, List.forall_mem_cons.mpr ⟨lw_p73, List.forall_mem_cons.mpr ⟨lw_p74, List.forall_mem_cons.mpr ⟨lw_p75, List.forall_mem_cons.mpr ⟨lw_p76, List.forall_mem_cons.mpr ⟨lw_p77, List.forall_mem_cons.mpr ⟨lw_p78, List.forall_mem_cons.mpr ⟨lw_p79, fun _ h => absurd h List.not_mem_nil⟩⟩⟩⟩⟩⟩⟩⟩⟩⟩⟩⟩⟩⟩⟩⟩
theorem lw_p80 : lw_okq (⟨"StruckWhileModel", "narrow", "(IJ)J"⟩, 78) := ⟨⟨by decide +kernel, by decide +kernel⟩, List.mem_of_getElem? (i := 873) (by decide +kernel), List.mem_of_getElem? (i := 1483) (by decide +kernel), List.mem_of_getElem? (i := 1484) (by decide +kernel)⟩
def lw_privs_6 : List (MethodName × Nat) := [(⟨"StruckWhileModel", "narrow", "(IJ)J"⟩, 78)]
theorem lw_r6 : ∀ q ∈ lw_privs_6, lw_okq q := List.forall_mem_cons.mpr ⟨lw_p80, fun _ h => absurd h List.not_mem_nil⟩
def lw_privs : List (MethodName × Nat) := lw_privs_1 ++ (lw_privs_2 ++ (lw_privs_3 ++ (lw_privs_4 ++ (lw_privs_5 ++ (lw_privs_6)))))
def lw_tbl : List Cond := k2_sels lw_privs ++ tables_1
theorem lw_privs_ok : ∀ q ∈ lw_privs, lw_okq q := by
  show ∀ q ∈ lw_privs_1 ++ (lw_privs_2 ++ (lw_privs_3 ++ (lw_privs_4 ++ (lw_privs_5 ++ (lw_privs_6))))), lw_okq q
  exact List.forall_mem_append.mpr ⟨lw_r1, List.forall_mem_append.mpr ⟨lw_r2, List.forall_mem_append.mpr ⟨lw_r3, List.forall_mem_append.mpr ⟨lw_r4, List.forall_mem_append.mpr ⟨lw_r5, lw_r6⟩⟩⟩⟩⟩
end
section
/-- words of one list among another's, by their places -/
theorem zmem_of {big : List Cond} (ws : List Cond) (ps : List Nat) (hp : ws = ps.filterMap (fun i => big[i]?)) : ∀ w ∈ ws, w ∈ big := by
  intro w hw
  rw [hp] at hw
  obtain ⟨i, -, hi⟩ := List.mem_filterMap.mp hw
  exact List.mem_of_getElem? hi
theorem zw_at {big : List Cond} (i : Nat) {w : Cond} (h : big[i]? = some w) : w ∈ big := List.mem_of_getElem? h
/-- the words that travel by themselves -/
def zTb : List Cond := lw_tbl.filter goodWord
theorem zt_at (i : Nat) {w : Cond} (h : lw_tbl[i]? = some w) (hg : goodWord w = true) : w ∈ zTb := List.mem_filter.mpr ⟨List.mem_of_getElem? h, hg⟩
theorem zt_in {w : Cond} (h : w ∈ zTb) : w ∈ lw_tbl := (List.mem_filter.mp h).1
theorem zt_good {w : Cond} (h : w ∈ zTb) : goodWord w = true := (List.mem_filter.mp h).2
/-- words of one list among the travelling ones, by their places -/
theorem zmem_tb (ws : List Cond) (ps : List Nat) (hp : ws = ps.filterMap (fun i => lw_tbl[i]?)) (hg : ws.all goodWord = true) : ∀ w ∈ ws, w ∈ zTb := fun w hw => List.mem_filter.mpr ⟨zmem_of ws ps hp w hw, List.all_eq_true.mp hg w hw⟩
def RX0 : String := "StruckWhile$Acts"
def TX0 : u_T := fun k => match k with
  | 0 => ("StruckWhile$Acts", "ran", "I", false)
  | 1 => ("StruckWhile$Acts", "traced", "[I", true)
  | 2 => ("StruckWhile$Acts", "number", "I", false)
  | 3 => ("StruckWhile$Acts", "kind", "I", false)
  | _ => ("StruckWhile$Acts", "v", "I", false)
def tyX0 : Nat → FieldType := fun k => match k with
  | 0 => .int
  | 1 => .array .int
  | 2 => .int
  | 3 => .int
  | _ => .int
set_option maxRecDepth 100000 in
theorem nmX0 : ∀ a, a < 5 → ∀ b, b < 5 → a ≠ b → (TX0 a).2.1 ≠ (TX0 b).2.1 := by decide +kernel
theorem tyX0_ok : ∀ k, k < 5 → parseFieldDescriptor (TX0 k).2.2.1 = some (tyX0 k) := by decide +kernel
abbrev cX0_init : ByteArray := prog_2_method_1_code
def yX0_init : MethodName := ⟨RX0, "<init>", "()V"⟩
abbrev cX0_start : ByteArray := prog_2_method_2_code
def yX0_start : MethodName := ⟨RX0, "start", "(LStruckWhile$Town;III)I"⟩
abbrev cX0_run : ByteArray := prog_2_method_3_code
def yX0_run : MethodName := ⟨RX0, "run", "(IIII)I"⟩
abbrev cX0_bodyOf : ByteArray := prog_2_method_4_code
def yX0_bodyOf : MethodName := ⟨RX0, "bodyOf", "(II)I"⟩
abbrev cX0_note : ByteArray := prog_2_method_5_code
def yX0_note : MethodName := ⟨RX0, "note", "(I)V"⟩
def RX1 : String := "StruckWhile$Ahead"
def TX1 : u_T := fun k => match k with
  | 0 => ("StruckWhile$Ahead", "bestRow", "[I", true)
  | 1 => ("StruckWhile$Ahead", "now", "LStruckWhile$Town;", true)
  | 2 => ("StruckWhile$Ahead", "seen", "LStruckWhile$Sheet;", true)
  | 3 => ("StruckWhile$Ahead", "then", "LStruckWhile$Town;", true)
  | 4 => ("StruckWhile$Ahead", "row", "[I", true)
  | _ => ("StruckWhile$Ahead", "reached", "I", false)
def tyX1 : Nat → FieldType := fun k => match k with
  | 0 => .array .int
  | 1 => .object "StruckWhile$Town"
  | 2 => .object "StruckWhile$Sheet"
  | 3 => .object "StruckWhile$Town"
  | 4 => .array .int
  | _ => .int
set_option maxRecDepth 100000 in
theorem nmX1 : ∀ a, a < 6 → ∀ b, b < 6 → a ≠ b → (TX1 a).2.1 ≠ (TX1 b).2.1 := by decide +kernel
theorem tyX1_ok : ∀ k, k < 6 → parseFieldDescriptor (TX1 k).2.2.1 = some (tyX1 k) := by decide +kernel
abbrev cX1_init : ByteArray := prog_3_method_1_code
def yX1_init : MethodName := ⟨RX1, "<init>", "(LStruckWhile$Town;LStruckWhile$Sheet;)V"⟩
abbrev cX1_behind : ByteArray := prog_3_method_2_code
def yX1_behind : MethodName := ⟨RX1, "behind", "(I)LStruckWhile$Town;"⟩
abbrev cX1_minutesUntilDone : ByteArray := prog_3_method_3_code
def yX1_minutesUntilDone : MethodName := ⟨RX1, "minutesUntilDone", "(I)I"⟩
abbrev cX1_findBestRow : ByteArray := prog_3_method_4_code
def yX1_findBestRow : MethodName := ⟨RX1, "findBestRow", "(I)I"⟩
abbrev cX1_setRow : ByteArray := prog_3_method_5_code
def yX1_setRow : MethodName := ⟨RX1, "setRow", "(II)V"⟩
abbrev cX1_countDoneInTime : ByteArray := prog_3_method_6_code
def yX1_countDoneInTime : MethodName := ⟨RX1, "countDoneInTime", "(II)I"⟩
abbrev cX1_firstUndone : ByteArray := prog_3_method_7_code
def yX1_firstUndone : MethodName := ⟨RX1, "firstUndone", "(II)I"⟩
abbrev cX1_whomToTalkTo : ByteArray := prog_3_method_8_code
def yX1_whomToTalkTo : MethodName := ⟨RX1, "whomToTalkTo", "(I)I"⟩
abbrev cX1_hottestByTalk : ByteArray := prog_3_method_9_code
def yX1_hottestByTalk : MethodName := ⟨RX1, "hottestByTalk", "(II)I"⟩
abbrev cX1_warm : ByteArray := prog_3_method_10_code
def yX1_warm : MethodName := ⟨RX1, "warm", "(II)V"⟩
abbrev cX1_fitting : ByteArray := prog_3_method_11_code
def yX1_fitting : MethodName := ⟨RX1, "fitting", "(IZZ)I"⟩
abbrev cX1_isAllSeenSo : ByteArray := prog_3_method_12_code
def yX1_isAllSeenSo : MethodName := ⟨RX1, "isAllSeenSo", "()Z"⟩
abbrev cX1_countHot : ByteArray := prog_3_method_13_code
def yX1_countHot : MethodName := ⟨RX1, "countHot", "(II)I"⟩
abbrev cX1_behindPlan : ByteArray := prog_3_method_14_code
def yX1_behindPlan : MethodName := ⟨RX1, "behindPlan", "(LStruckWhile$Sheet;)LStruckWhile$Town;"⟩
abbrev cX1_goPlanned : ByteArray := prog_3_method_15_code
def yX1_goPlanned : MethodName := ⟨RX1, "goPlanned", "(II)V"⟩
def RX2 : String := "StruckWhile$Reader"
def TX2 : u_T := fun k => match k with
  | 0 => ("StruckWhile$Reader", "size", "I", false)
  | 1 => ("StruckWhile$Reader", "at", "I", false)
  | 2 => ("StruckWhile$Reader", "text", "[B", true)
  | _ => ("StruckWhile$Reader", "into", "LStruckWhile$Square;", false)
def tyX2 : Nat → FieldType := fun k => match k with
  | 0 => .int
  | 1 => .int
  | 2 => .array .byte
  | _ => .object "StruckWhile$Square"
set_option maxRecDepth 100000 in
theorem nmX2 : ∀ a, a < 4 → ∀ b, b < 4 → a ≠ b → (TX2 a).2.1 ≠ (TX2 b).2.1 := by decide +kernel
theorem tyX2_ok : ∀ k, k < 4 → parseFieldDescriptor (TX2 k).2.2.1 = some (tyX2 k) := by decide +kernel
abbrev cX2_init : ByteArray := prog_4_method_1_code
def yX2_init : MethodName := ⟨RX2, "<init>", "()V"⟩
abbrev cX2_add : ByteArray := prog_4_method_2_code
def yX2_add : MethodName := ⟨RX2, "add", "(B)I"⟩
abbrev cX2_empty : ByteArray := prog_4_method_3_code
def yX2_empty : MethodName := ⟨RX2, "empty", "()V"⟩
abbrev cX2_reads : ByteArray := prog_4_method_4_code
def yX2_reads : MethodName := ⟨RX2, "reads", "(LStruckWhile$Square;)Z"⟩
abbrev cX2_readsClause : ByteArray := prog_4_method_5_code
def yX2_readsClause : MethodName := ⟨RX2, "readsClause", "()Z"⟩
abbrev cX2_readsHeat : ByteArray := prog_4_method_6_code
def yX2_readsHeat : MethodName := ⟨RX2, "readsHeat", "(I)Z"⟩
abbrev cX2_readsEither : ByteArray := prog_4_method_7_code
def yX2_readsEither : MethodName := ⟨RX2, "readsEither", "(I)Z"⟩
abbrev cX2_readsBoth : ByteArray := prog_4_method_8_code
def yX2_readsBoth : MethodName := ⟨RX2, "readsBoth", "(I)Z"⟩
abbrev cX2_readsFactor : ByteArray := prog_4_method_9_code
def yX2_readsFactor : MethodName := ⟨RX2, "readsFactor", "(I)Z"⟩
abbrev cX2_readsTest : ByteArray := prog_4_method_10_code
def yX2_readsTest : MethodName := ⟨RX2, "readsTest", "()Z"⟩
abbrev cX2_takeNumber : ByteArray := prog_4_method_11_code
def yX2_takeNumber : MethodName := ⟨RX2, "takeNumber", "()I"⟩
abbrev cX2_takeOneOf : ByteArray := prog_4_method_12_code
def yX2_takeOneOf : MethodName := ⟨RX2, "takeOneOf", "(Ljava/lang/String;)I"⟩
abbrev cX2_takesWord : ByteArray := prog_4_method_13_code
def yX2_takesWord : MethodName := ⟨RX2, "takesWord", "(Ljava/lang/String;)Z"⟩
abbrev cX2_takes : ByteArray := prog_4_method_14_code
def yX2_takes : MethodName := ⟨RX2, "takes", "(C)Z"⟩
abbrev cX2_sees : ByteArray := prog_4_method_15_code
def yX2_sees : MethodName := ⟨RX2, "sees", "(C)Z"⟩
def RX3 : String := "StruckWhile$Sheet"
def TX3 : u_T := fun k => match k with
  | 0 => ("StruckWhile$Sheet", "first", "[I", true)
  | 1 => ("StruckWhile$Sheet", "second", "[I", true)
  | 2 => ("StruckWhile$Sheet", "third", "[I", true)
  | _ => ("StruckWhile$Sheet", "size", "I", false)
def tyX3 : Nat → FieldType := fun k => match k with
  | 0 => .array .int
  | 1 => .array .int
  | 2 => .array .int
  | _ => .int
set_option maxRecDepth 100000 in
theorem nmX3 : ∀ a, a < 4 → ∀ b, b < 4 → a ≠ b → (TX3 a).2.1 ≠ (TX3 b).2.1 := by decide +kernel
theorem tyX3_ok : ∀ k, k < 4 → parseFieldDescriptor (TX3 k).2.2.1 = some (tyX3 k) := by decide +kernel
abbrev cX3_init : ByteArray := prog_5_method_1_code
def yX3_init : MethodName := ⟨RX3, "<init>", "(I)V"⟩
abbrev cX3_isFull : ByteArray := prog_5_method_2_code
def yX3_isFull : MethodName := ⟨RX3, "isFull", "()Z"⟩
abbrev cX3_add : ByteArray := prog_5_method_3_code
def yX3_add : MethodName := ⟨RX3, "add", "(III)I"⟩
abbrev cX3_empty : ByteArray := prog_5_method_4_code
def yX3_empty : MethodName := ⟨RX3, "empty", "()I"⟩
abbrev cX3_become : ByteArray := prog_5_method_5_code
def yX3_become : MethodName := ⟨RX3, "become", "(LStruckWhile$Sheet;)V"⟩
def RX4 : String := "StruckWhile$Square"
def TX4 : u_T := fun k => match k with
  | 0 => ("StruckWhile$Square", "spark", "I", false)
  | 1 => ("StruckWhile$Square", "steps", "[I", true)
  | 2 => ("StruckWhile$Square", "stepCount", "I", false)
  | 3 => ("StruckWhile$Square", "heats", "[I", true)
  | _ => ("StruckWhile$Square", "heatCount", "I", false)
def tyX4 : Nat → FieldType := fun k => match k with
  | 0 => .int
  | 1 => .array .int
  | 2 => .int
  | 3 => .array .int
  | _ => .int
set_option maxRecDepth 100000 in
theorem nmX4 : ∀ a, a < 5 → ∀ b, b < 5 → a ≠ b → (TX4 a).2.1 ≠ (TX4 b).2.1 := by decide +kernel
theorem tyX4_ok : ∀ k, k < 5 → parseFieldDescriptor (TX4 k).2.2.1 = some (tyX4 k) := by decide +kernel
abbrev cX4_init : ByteArray := prog_6_method_1_code
def yX4_init : MethodName := ⟨RX4, "<init>", "()V"⟩
abbrev cX4_empty : ByteArray := prog_6_method_2_code
def yX4_empty : MethodName := ⟨RX4, "empty", "()V"⟩
abbrev cX4_addTest : ByteArray := prog_6_method_3_code
def yX4_addTest : MethodName := ⟨RX4, "addTest", "(III)V"⟩
abbrev cX4_addStep : ByteArray := prog_6_method_4_code
def yX4_addStep : MethodName := ⟨RX4, "addStep", "(I)V"⟩
abbrev cX4_addClause : ByteArray := prog_6_method_5_code
def yX4_addClause : MethodName := ⟨RX4, "addClause", "(I)V"⟩
abbrev cX4_sum : ByteArray := prog_6_method_6_code
def yX4_sum : MethodName := ⟨RX4, "sum", "([I)I"⟩
abbrev cX4_test : ByteArray := prog_6_method_7_code
def yX4_test : MethodName := ⟨RX4, "test", "(II)I"⟩
def RX5 : String := "StruckWhile$Tapes"
def TX5 : u_T := fun k => match k with
  | 0 => ("StruckWhile$Tapes", "sort", "[I", true)
  | 1 => ("StruckWhile$Tapes", "size", "[I", true)
  | _ => ("StruckWhile$Tapes", "items", "[[J", true)
def tyX5 : Nat → FieldType := fun k => match k with
  | 0 => .array .int
  | 1 => .array .int
  | _ => .array (.array .long)
set_option maxRecDepth 100000 in
theorem nmX5 : ∀ a, a < 3 → ∀ b, b < 3 → a ≠ b → (TX5 a).2.1 ≠ (TX5 b).2.1 := by decide +kernel
theorem tyX5_ok : ∀ k, k < 3 → parseFieldDescriptor (TX5 k).2.2.1 = some (tyX5 k) := by decide +kernel
abbrev cX5_init : ByteArray := prog_7_method_1_code
def yX5_init : MethodName := ⟨RX5, "<init>", "()V"⟩
abbrev cX5_has : ByteArray := prog_7_method_2_code
def yX5_has : MethodName := ⟨RX5, "has", "(I)Z"⟩
abbrev cX5_holds : ByteArray := prog_7_method_3_code
def yX5_holds : MethodName := ⟨RX5, "holds", "(I)Z"⟩
abbrev cX5_hasItems : ByteArray := prog_7_method_4_code
def yX5_hasItems : MethodName := ⟨RX5, "hasItems", "(III)Z"⟩
abbrev cX5_become : ByteArray := prog_7_method_5_code
def yX5_become : MethodName := ⟨RX5, "become", "(III)I"⟩
abbrev cX5_put : ByteArray := prog_7_method_6_code
def yX5_put : MethodName := ⟨RX5, "put", "(IIJ)I"⟩
abbrev cX5_cut : ByteArray := prog_7_method_7_code
def yX5_cut : MethodName := ⟨RX5, "cut", "(IJ)J"⟩
def RX6 : String := "StruckWhile$Town"
def TX6 : u_T := fun k => match k with
  | 0 => ("StruckWhile$Town", "people", "I", false)
  | 1 => ("StruckWhile$Town", "kind", "[I", true)
  | 2 => ("StruckWhile$Town", "v", "[I", true)
  | 3 => ("StruckWhile$Town", "heat", "[I", true)
  | 4 => ("StruckWhile$Town", "isAway", "[Z", true)
  | 5 => ("StruckWhile$Town", "rows", "[I", true)
  | 6 => ("StruckWhile$Town", "works", "I", false)
  | 7 => ("StruckWhile$Town", "needs", "[I", true)
  | 8 => ("StruckWhile$Town", "due", "[I", true)
  | 9 => ("StruckWhile$Town", "struck", "[I", true)
  | 10 => ("StruckWhile$Town", "onAnvil", "I", false)
  | 11 => ("StruckWhile$Town", "minute", "I", false)
  | 12 => ("StruckWhile$Town", "holding", "LStruckWhile$Square;", false)
  | 13 => ("StruckWhile$Town", "nextHeat", "[I", true)
  | _ => ("StruckWhile$Town", "letters", "[I", true)
def tyX6 : Nat → FieldType := fun k => match k with
  | 0 => .int
  | 1 => .array .int
  | 2 => .array .int
  | 3 => .array .int
  | 4 => .array .boolean
  | 5 => .array .int
  | 6 => .int
  | 7 => .array .int
  | 8 => .array .int
  | 9 => .array .int
  | 10 => .int
  | 11 => .int
  | 12 => .object "StruckWhile$Square"
  | 13 => .array .int
  | _ => .array .int
set_option maxRecDepth 100000 in
theorem nmX6 : ∀ a, a < 15 → ∀ b, b < 15 → a ≠ b → (TX6 a).2.1 ≠ (TX6 b).2.1 := by decide +kernel
theorem tyX6_ok : ∀ k, k < 15 → parseFieldDescriptor (TX6 k).2.2.1 = some (tyX6 k) := by decide +kernel
abbrev cX6_init : ByteArray := prog_8_method_1_code
def yX6_init : MethodName := ⟨RX6, "<init>", "()V"⟩
abbrev cX6_hasOne : ByteArray := prog_8_method_2_code
def yX6_hasOne : MethodName := ⟨RX6, "hasOne", "(I)Z"⟩
abbrev cX6_hasWork : ByteArray := prog_8_method_3_code
def yX6_hasWork : MethodName := ⟨RX6, "hasWork", "(I)Z"⟩
abbrev cX6_addOne : ByteArray := prog_8_method_4_code
def yX6_addOne : MethodName := ⟨RX6, "addOne", "(III)I"⟩
abbrev cX6_addWork : ByteArray := prog_8_method_5_code
def yX6_addWork : MethodName := ⟨RX6, "addWork", "(II)I"⟩
abbrev cX6_become : ByteArray := prog_8_method_6_code
def yX6_become : MethodName := ⟨RX6, "become", "(LStruckWhile$Town;)V"⟩
abbrev cX6_isHot : ByteArray := prog_8_method_7_code
def yX6_isHot : MethodName := ⟨RX6, "isHot", "(I)Z"⟩
abbrev cX6_isDone : ByteArray := prog_8_method_8_code
def yX6_isDone : MethodName := ⟨RX6, "isDone", "(I)Z"⟩
abbrev cX6_doneBits : ByteArray := prog_8_method_9_code
def yX6_doneBits : MethodName := ⟨RX6, "doneBits", "()I"⟩
abbrev cX6_heatOfAll : ByteArray := prog_8_method_10_code
def yX6_heatOfAll : MethodName := ⟨RX6, "heatOfAll", "()I"⟩
abbrev cX6_countHere : ByteArray := prog_8_method_11_code
def yX6_countHere : MethodName := ⟨RX6, "countHere", "()I"⟩
abbrev cX6_hottest : ByteArray := prog_8_method_12_code
def yX6_hottest : MethodName := ⟨RX6, "hottest", "()I"⟩
abbrev cX6_countBeside : ByteArray := prog_8_method_13_code
def yX6_countBeside : MethodName := ⟨RX6, "countBeside", "(II)I"⟩
abbrev cX6_spark : ByteArray := prog_8_method_14_code
def yX6_spark : MethodName := ⟨RX6, "spark", "()I"⟩
abbrev cX6_riseOf : ByteArray := prog_8_method_15_code
def yX6_riseOf : MethodName := ⟨RX6, "riseOf", "(I)I"⟩
abbrev cX6_setLetters : ByteArray := prog_8_method_16_code
def yX6_setLetters : MethodName := ⟨RX6, "setLetters", "(II)V"⟩
abbrev cX6_goOn : ByteArray := prog_8_method_17_code
def yX6_goOn : MethodName := ⟨RX6, "goOn", "(I)V"⟩
abbrev cX6_goOneMinute : ByteArray := prog_8_method_18_code
def yX6_goOneMinute : MethodName := ⟨RX6, "goOneMinute", "()V"⟩
def RX7 : String := "StruckWhile$Whole"
def TX7 : u_T := fun k => match k with
  | 0 => ("StruckWhile$Whole", "town", "LStruckWhile$Town;", true)
  | 1 => ("StruckWhile$Whole", "seen", "LStruckWhile$Sheet;", true)
  | 2 => ("StruckWhile$Whole", "plan", "LStruckWhile$Sheet;", true)
  | _ => ("StruckWhile$Whole", "book", "LStruckWhile$Sheet;", true)
def tyX7 : Nat → FieldType := fun k => match k with
  | 0 => .object "StruckWhile$Town"
  | 1 => .object "StruckWhile$Sheet"
  | 2 => .object "StruckWhile$Sheet"
  | _ => .object "StruckWhile$Sheet"
set_option maxRecDepth 100000 in
theorem nmX7 : ∀ a, a < 4 → ∀ b, b < 4 → a ≠ b → (TX7 a).2.1 ≠ (TX7 b).2.1 := by decide +kernel
theorem tyX7_ok : ∀ k, k < 4 → parseFieldDescriptor (TX7 k).2.2.1 = some (tyX7 k) := by decide +kernel
abbrev cX7_init : ByteArray := prog_9_method_1_code
def yX7_init : MethodName := ⟨RX7, "<init>", "()V"⟩
abbrev cX7_become : ByteArray := prog_9_method_2_code
def yX7_become : MethodName := ⟨RX7, "become", "(LStruckWhile$Whole;)V"⟩
def RX8 : String := "StruckWhile"
def TX8 : u_T := fun k => match k with
  | 0 => ("StruckWhile", "now", "LStruckWhile$Whole;", true)
  | 1 => ("StruckWhile", "image", "LStruckWhile$Whole;", true)
  | 2 => ("StruckWhile", "hasImage", "Z", false)
  | 3 => ("StruckWhile", "town", "LStruckWhile$Town;", true)
  | 4 => ("StruckWhile", "ahead", "LStruckWhile$Ahead;", true)
  | 5 => ("StruckWhile", "reader", "LStruckWhile$Reader;", true)
  | 6 => ("StruckWhile", "squares", "[LStruckWhile$Square;", true)
  | 7 => ("StruckWhile", "squareCount", "I", false)
  | 8 => ("StruckWhile", "acts", "LStruckWhile$Acts;", true)
  | _ => ("StruckWhile", "tapes", "LStruckWhile$Tapes;", true)
def tyX8 : Nat → FieldType := fun k => match k with
  | 0 => .object "StruckWhile$Whole"
  | 1 => .object "StruckWhile$Whole"
  | 2 => .boolean
  | 3 => .object "StruckWhile$Town"
  | 4 => .object "StruckWhile$Ahead"
  | 5 => .object "StruckWhile$Reader"
  | 6 => .array (.object "StruckWhile$Square")
  | 7 => .int
  | 8 => .object "StruckWhile$Acts"
  | _ => .object "StruckWhile$Tapes"
set_option maxRecDepth 100000 in
theorem nmX8 : ∀ a, a < 10 → ∀ b, b < 10 → a ≠ b → (TX8 a).2.1 ≠ (TX8 b).2.1 := by decide +kernel
theorem tyX8_ok : ∀ k, k < 10 → parseFieldDescriptor (TX8 k).2.2.1 = some (tyX8 k) := by decide +kernel
abbrev cX8_init : ByteArray := prog_1_method_1_code
def yX8_init : MethodName := ⟨RX8, "<init>", "()V"⟩
abbrev cX8_one : ByteArray := prog_1_method_2_code
def yX8_one : MethodName := ⟨RX8, "one", "(III)I"⟩
abbrev cX8_of : ByteArray := prog_1_method_3_code
def yX8_of : MethodName := ⟨RX8, "of", "(II)I"⟩
abbrev cX8_heat : ByteArray := prog_1_method_4_code
def yX8_heat : MethodName := ⟨RX8, "heat", "(II)I"⟩
abbrev cX8_away : ByteArray := prog_1_method_5_code
def yX8_away : MethodName := ⟨RX8, "away", "(IZ)I"⟩
abbrev cX8_work : ByteArray := prog_1_method_6_code
def yX8_work : MethodName := ⟨RX8, "work", "(II)I"⟩
abbrev cX8_piece : ByteArray := prog_1_method_7_code
def yX8_piece : MethodName := ⟨RX8, "piece", "(II)I"⟩
abbrev cX8_anvil : ByteArray := prog_1_method_8_code
def yX8_anvil : MethodName := ⟨RX8, "anvil", "(I)I"⟩
abbrev cX8_row : ByteArray := prog_1_method_9_code
def yX8_row : MethodName := ⟨RX8, "row", "(III)I"⟩
abbrev cX8_feed : ByteArray := prog_1_method_10_code
def yX8_feed : MethodName := ⟨RX8, "feed", "(I)I"⟩
abbrev cX8_square : ByteArray := prog_1_method_11_code
def yX8_square : MethodName := ⟨RX8, "square", "()I"⟩
abbrev cX8_told : ByteArray := prog_1_method_12_code
def yX8_told : MethodName := ⟨RX8, "told", "(I)I"⟩
abbrev cX8_pass : ByteArray := prog_1_method_13_code
def yX8_pass : MethodName := ⟨RX8, "pass", "(I)I"⟩
abbrev cX8_on : ByteArray := prog_1_method_14_code
def yX8_on : MethodName := ⟨RX8, "on", "(II)I"⟩
abbrev cX8_best : ByteArray := prog_1_method_15_code
def yX8_best : MethodName := ⟨RX8, "best", "(II)I"⟩
abbrev cX8_talk : ByteArray := prog_1_method_16_code
def yX8_talk : MethodName := ⟨RX8, "talk", "(II)I"⟩
abbrev cX8_see : ByteArray := prog_1_method_17_code
def yX8_see : MethodName := ⟨RX8, "see", "(IIZ)I"⟩
abbrev cX8_can : ByteArray := prog_1_method_18_code
def yX8_can : MethodName := ⟨RX8, "can", "(III)I"⟩
abbrev cX8_odds : ByteArray := prog_1_method_19_code
def yX8_odds : MethodName := ⟨RX8, "odds", "(III)J"⟩
abbrev cX8_mean : ByteArray := prog_1_method_20_code
def yX8_mean : MethodName := ⟨RX8, "mean", "(II)J"⟩
abbrev cX8_plan : ByteArray := prog_1_method_21_code
def yX8_plan : MethodName := ⟨RX8, "plan", "(II)I"⟩
abbrev cX8_ends : ByteArray := prog_1_method_22_code
def yX8_ends : MethodName := ⟨RX8, "ends", "(I)I"⟩
abbrev cX8_book : ByteArray := prog_1_method_23_code
def yX8_book : MethodName := ⟨RX8, "book", "(II)I"⟩
abbrev cX8_looked : ByteArray := prog_1_method_24_code
def yX8_looked : MethodName := ⟨RX8, "looked", "()I"⟩
abbrev cX8_judge : ByteArray := prog_1_method_25_code
def yX8_judge : MethodName := ⟨RX8, "judge", "(II)I"⟩
abbrev cX8_image : ByteArray := prog_1_method_26_code
def yX8_image : MethodName := ⟨RX8, "image", "()I"⟩
abbrev cX8_undo : ByteArray := prog_1_method_27_code
def yX8_undo : MethodName := ⟨RX8, "undo", "()I"⟩
abbrev cX8_act : ByteArray := prog_1_method_28_code
def yX8_act : MethodName := ⟨RX8, "act", "(III)I"⟩
abbrev cX8_trace : ByteArray := prog_1_method_29_code
def yX8_trace : MethodName := ⟨RX8, "trace", "(I)I"⟩
abbrev cX8_taken : ByteArray := prog_1_method_30_code
def yX8_taken : MethodName := ⟨RX8, "taken", "(II)I"⟩
abbrev cX8_count : ByteArray := prog_1_method_31_code
def yX8_count : MethodName := ⟨RX8, "count", "(I)I"⟩
abbrev cX8_tape : ByteArray := prog_1_method_32_code
def yX8_tape : MethodName := ⟨RX8, "tape", "(III)I"⟩
abbrev cX8_item : ByteArray := prog_1_method_33_code
def yX8_item : MethodName := ⟨RX8, "item", "(IIJ)I"⟩
abbrev cX8_read : ByteArray := prog_1_method_34_code
def yX8_read : MethodName := ⟨RX8, "read", "(II)J"⟩
abbrev cX8_shift : ByteArray := prog_1_method_35_code
def yX8_shift : MethodName := ⟨RX8, "shift", "(IIIII)I"⟩
abbrev cX8_isWithin : ByteArray := prog_1_method_36_code
def yX8_isWithin : MethodName := ⟨RX8, "isWithin", "(III)Z"⟩
abbrev cX8_asNumber : ByteArray := prog_1_method_37_code
def yX8_asNumber : MethodName := ⟨RX8, "asNumber", "(Z)I"⟩
abbrev cX8_orLacks : ByteArray := prog_1_method_38_code
def yX8_orLacks : MethodName := ⟨RX8, "orLacks", "(I)I"⟩
abbrev cX8_isOrIsUnder : ByteArray := prog_1_method_39_code
def yX8_isOrIsUnder : MethodName := ⟨RX8, "isOrIsUnder", "(II)Z"⟩
abbrev cX8_lowestTerms : ByteArray := prog_1_method_40_code
def yX8_lowestTerms : MethodName := ⟨RX8, "lowestTerms", "(III)J"⟩
def RX9 : String := "StruckWhileModel"
def TX9 : u_T := fun k => match k with
  | 0 => ("StruckWhileModel", "people", "I", false)
  | 1 => ("StruckWhileModel", "absent", "I", false)
  | 2 => ("StruckWhileModel", "works", "I", false)
  | 3 => ("StruckWhileModel", "lies", "I", false)
  | 4 => ("StruckWhileModel", "minute", "I", false)
  | 5 => ("StruckWhileModel", "kind", "[I", true)
  | 6 => ("StruckWhileModel", "v", "[I", true)
  | 7 => ("StruckWhileModel", "heat0", "[I", true)
  | 8 => ("StruckWhileModel", "rows", "[I", true)
  | 9 => ("StruckWhileModel", "needs", "[I", true)
  | 10 => ("StruckWhileModel", "due", "[I", true)
  | 11 => ("StruckWhileModel", "struck", "[I", true)
  | 12 => ("StruckWhileModel", "squares", "I", false)
  | 13 => ("StruckWhileModel", "the", "I", false)
  | 14 => ("StruckWhileModel", "fed", "I", false)
  | 15 => ("StruckWhileModel", "at", "I", false)
  | 16 => ("StruckWhileModel", "digits", "I", false)
  | 17 => ("StruckWhileModel", "text", "[I", true)
  | 18 => ("StruckWhileModel", "clauses", "[I", true)
  | 19 => ("StruckWhileModel", "word", "[I", true)
  | 20 => ("StruckWhileModel", "number", "[I", true)
  | 21 => ("StruckWhileModel", "from", "[I", true)
  | 22 => ("StruckWhileModel", "to", "[I", true)
  | 23 => ("StruckWhileModel", "sign", "[I", true)
  | 24 => ("StruckWhileModel", "waits", "[I", true)
  | 25 => ("StruckWhileModel", "signs", "I", false)
  | 26 => ("StruckWhileModel", "waiting", "I", false)
  | 27 => ("StruckWhileModel", "open", "I", false)
  | 28 => ("StruckWhileModel", "letters", "[I", true)
  | 29 => ("StruckWhileModel", "pile", "[Z", true)
  | 30 => ("StruckWhileModel", "then", "[I", true)
  | 31 => ("StruckWhileModel", "keptAbsent", "I", false)
  | 32 => ("StruckWhileModel", "keptLies", "I", false)
  | 33 => ("StruckWhileModel", "keptMinute", "I", false)
  | 34 => ("StruckWhileModel", "keptHeat", "[I", true)
  | 35 => ("StruckWhileModel", "keptStruck", "[I", true)
  | 36 => ("StruckWhileModel", "line", "[I", true)
  | 37 => ("StruckWhileModel", "bestLine", "[I", true)
  | 38 => ("StruckWhileModel", "seen", "I", false)
  | 39 => ("StruckWhileModel", "seenWho", "[I", true)
  | 40 => ("StruckWhileModel", "seenWhen", "[I", true)
  | 41 => ("StruckWhileModel", "seenHot", "[Z", true)
  | 42 => ("StruckWhileModel", "plans", "I", false)
  | 43 => ("StruckWhileModel", "books", "I", false)
  | 44 => ("StruckWhileModel", "planWhat", "[I", true)
  | 45 => ("StruckWhileModel", "planNumber", "[I", true)
  | 46 => ("StruckWhileModel", "bookWho", "[I", true)
  | 47 => ("StruckWhileModel", "bookHeat", "[I", true)
  | 48 => ("StruckWhileModel", "hasImage", "Z", false)
  | 49 => ("StruckWhileModel", "imageThe", "I", false)
  | 50 => ("StruckWhileModel", "imagePeople", "I", false)
  | 51 => ("StruckWhileModel", "imageAbsent", "I", false)
  | 52 => ("StruckWhileModel", "imageWorks", "I", false)
  | 53 => ("StruckWhileModel", "imageLies", "I", false)
  | 54 => ("StruckWhileModel", "imageMinute", "I", false)
  | 55 => ("StruckWhileModel", "imageSeen", "I", false)
  | 56 => ("StruckWhileModel", "imagePlans", "I", false)
  | 57 => ("StruckWhileModel", "imageBooks", "I", false)
  | 58 => ("StruckWhileModel", "imageKind", "[I", true)
  | 59 => ("StruckWhileModel", "imageV", "[I", true)
  | 60 => ("StruckWhileModel", "imageHeat", "[I", true)
  | 61 => ("StruckWhileModel", "imageRows", "[I", true)
  | 62 => ("StruckWhileModel", "imageNeeds", "[I", true)
  | 63 => ("StruckWhileModel", "imageDue", "[I", true)
  | 64 => ("StruckWhileModel", "imageStruck", "[I", true)
  | 65 => ("StruckWhileModel", "imageWho", "[I", true)
  | 66 => ("StruckWhileModel", "imageWhen", "[I", true)
  | 67 => ("StruckWhileModel", "imageWhat", "[I", true)
  | 68 => ("StruckWhileModel", "imageNumber", "[I", true)
  | 69 => ("StruckWhileModel", "imageBookWho", "[I", true)
  | 70 => ("StruckWhileModel", "imageBookHeat", "[I", true)
  | 71 => ("StruckWhileModel", "imageHot", "[Z", true)
  | 72 => ("StruckWhileModel", "ran", "I", false)
  | 73 => ("StruckWhileModel", "bodies", "[I", true)
  | 74 => ("StruckWhileModel", "sort", "[I", true)
  | 75 => ("StruckWhileModel", "length", "[I", true)
  | 76 => ("StruckWhileModel", "item", "[J", true)
  | _ => ("StruckWhileModel", "aside", "[J", true)
def tyX9 : Nat → FieldType := fun k => match k with
  | 0 => .int
  | 1 => .int
  | 2 => .int
  | 3 => .int
  | 4 => .int
  | 5 => .array .int
  | 6 => .array .int
  | 7 => .array .int
  | 8 => .array .int
  | 9 => .array .int
  | 10 => .array .int
  | 11 => .array .int
  | 12 => .int
  | 13 => .int
  | 14 => .int
  | 15 => .int
  | 16 => .int
  | 17 => .array .int
  | 18 => .array .int
  | 19 => .array .int
  | 20 => .array .int
  | 21 => .array .int
  | 22 => .array .int
  | 23 => .array .int
  | 24 => .array .int
  | 25 => .int
  | 26 => .int
  | 27 => .int
  | 28 => .array .int
  | 29 => .array .boolean
  | 30 => .array .int
  | 31 => .int
  | 32 => .int
  | 33 => .int
  | 34 => .array .int
  | 35 => .array .int
  | 36 => .array .int
  | 37 => .array .int
  | 38 => .int
  | 39 => .array .int
  | 40 => .array .int
  | 41 => .array .boolean
  | 42 => .int
  | 43 => .int
  | 44 => .array .int
  | 45 => .array .int
  | 46 => .array .int
  | 47 => .array .int
  | 48 => .boolean
  | 49 => .int
  | 50 => .int
  | 51 => .int
  | 52 => .int
  | 53 => .int
  | 54 => .int
  | 55 => .int
  | 56 => .int
  | 57 => .int
  | 58 => .array .int
  | 59 => .array .int
  | 60 => .array .int
  | 61 => .array .int
  | 62 => .array .int
  | 63 => .array .int
  | 64 => .array .int
  | 65 => .array .int
  | 66 => .array .int
  | 67 => .array .int
  | 68 => .array .int
  | 69 => .array .int
  | 70 => .array .int
  | 71 => .array .boolean
  | 72 => .int
  | 73 => .array .int
  | 74 => .array .int
  | 75 => .array .int
  | 76 => .array .long
  | _ => .array .long
set_option maxRecDepth 100000 in
theorem nmX9 : ∀ a, a < 78 → ∀ b, b < 78 → a ≠ b → (TX9 a).2.1 ≠ (TX9 b).2.1 := by decide +kernel
theorem tyX9_ok : ∀ k, k < 78 → parseFieldDescriptor (TX9 k).2.2.1 = some (tyX9 k) := by decide +kernel
abbrev cX9_init : ByteArray := prog_11_method_1_code
def yX9_init : MethodName := ⟨RX9, "<init>", "()V"⟩
abbrev cX9_in : ByteArray := prog_11_method_2_code
def yX9_in : MethodName := ⟨RX9, "in", "(III)Z"⟩
abbrev cX9_has : ByteArray := prog_11_method_3_code
def yX9_has : MethodName := ⟨RX9, "has", "(II)Z"⟩
abbrev cX9_least : ByteArray := prog_11_method_4_code
def yX9_least : MethodName := ⟨RX9, "least", "(II)I"⟩
abbrev cX9_held : ByteArray := prog_11_method_5_code
def yX9_held : MethodName := ⟨RX9, "held", "(I)I"⟩
abbrev cX9_isOne : ByteArray := prog_11_method_6_code
def yX9_isOne : MethodName := ⟨RX9, "isOne", "(I)Z"⟩
abbrev cX9_isWork : ByteArray := prog_11_method_7_code
def yX9_isWork : MethodName := ⟨RX9, "isWork", "(I)Z"⟩
abbrev cX9_isHeat : ByteArray := prog_11_method_8_code
def yX9_isHeat : MethodName := ⟨RX9, "isHeat", "(I)Z"⟩
abbrev cX9_isMinutes : ByteArray := prog_11_method_9_code
def yX9_isMinutes : MethodName := ⟨RX9, "isMinutes", "(I)Z"⟩
abbrev cX9_one : ByteArray := prog_11_method_10_code
def yX9_one : MethodName := ⟨RX9, "one", "(III)I"⟩
abbrev cX9_heat : ByteArray := prog_11_method_11_code
def yX9_heat : MethodName := ⟨RX9, "heat", "(II)I"⟩
abbrev cX9_goes : ByteArray := prog_11_method_12_code
def yX9_goes : MethodName := ⟨RX9, "goes", "(IZ)V"⟩
abbrev cX9_away : ByteArray := prog_11_method_13_code
def yX9_away : MethodName := ⟨RX9, "away", "(IZ)I"⟩
abbrev cX9_work : ByteArray := prog_11_method_14_code
def yX9_work : MethodName := ⟨RX9, "work", "(II)I"⟩
abbrev cX9_anvil : ByteArray := prog_11_method_15_code
def yX9_anvil : MethodName := ⟨RX9, "anvil", "(I)I"⟩
abbrev cX9_row : ByteArray := prog_11_method_16_code
def yX9_row : MethodName := ⟨RX9, "row", "(III)I"⟩
abbrev cX9_feed : ByteArray := prog_11_method_17_code
def yX9_feed : MethodName := ⟨RX9, "feed", "(I)I"⟩
abbrev cX9_next : ByteArray := prog_11_method_18_code
def yX9_next : MethodName := ⟨RX9, "next", "()I"⟩
abbrev cX9_takes : ByteArray := prog_11_method_19_code
def yX9_takes : MethodName := ⟨RX9, "takes", "(I)Z"⟩
abbrev cX9_takesWord : ByteArray := prog_11_method_20_code
def yX9_takesWord : MethodName := ⟨RX9, "takesWord", "(II)Z"⟩
abbrev cX9_isDigit : ByteArray := prog_11_method_21_code
def yX9_isDigit : MethodName := ⟨RX9, "isDigit", "()Z"⟩
abbrev cX9_takesNumber : ByteArray := prog_11_method_22_code
def yX9_takesNumber : MethodName := ⟨RX9, "takesNumber", "()Z"⟩
abbrev cX9_emits : ByteArray := prog_11_method_23_code
def yX9_emits : MethodName := ⟨RX9, "emits", "(I)V"⟩
abbrev cX9_whole : ByteArray := prog_11_method_24_code
def yX9_whole : MethodName := ⟨RX9, "whole", "()V"⟩
abbrev cX9_settle : ByteArray := prog_11_method_25_code
def yX9_settle : MethodName := ⟨RX9, "settle", "(I)V"⟩
abbrev cX9_place : ByteArray := prog_11_method_26_code
def yX9_place : MethodName := ⟨RX9, "place", "(I)I"⟩
abbrev cX9_takesTest : ByteArray := prog_11_method_27_code
def yX9_takesTest : MethodName := ⟨RX9, "takesTest", "()Z"⟩
abbrev cX9_takesE : ByteArray := prog_11_method_28_code
def yX9_takesE : MethodName := ⟨RX9, "takesE", "(I)Z"⟩
abbrev cX9_takesHead : ByteArray := prog_11_method_29_code
def yX9_takesHead : MethodName := ⟨RX9, "takesHead", "(I)Z"⟩
abbrev cX9_takesClause : ByteArray := prog_11_method_30_code
def yX9_takesClause : MethodName := ⟨RX9, "takesClause", "(I)Z"⟩
abbrev cX9_goesText : ByteArray := prog_11_method_31_code
def yX9_goesText : MethodName := ⟨RX9, "goesText", "(I)Z"⟩
abbrev cX9_square : ByteArray := prog_11_method_32_code
def yX9_square : MethodName := ⟨RX9, "square", "()I"⟩
abbrev cX9_begin : ByteArray := prog_11_method_33_code
def yX9_begin : MethodName := ⟨RX9, "begin", "()I"⟩
abbrev cX9_behind : ByteArray := prog_11_method_34_code
def yX9_behind : MethodName := ⟨RX9, "behind", "()I"⟩
abbrev cX9_spark : ByteArray := prog_11_method_35_code
def yX9_spark : MethodName := ⟨RX9, "spark", "()I"⟩
abbrev cX9_beside : ByteArray := prog_11_method_36_code
def yX9_beside : MethodName := ⟨RX9, "beside", "(II)I"⟩
abbrev cX9_factOf : ByteArray := prog_11_method_37_code
def yX9_factOf : MethodName := ⟨RX9, "factOf", "(II)I"⟩
abbrev cX9_holds : ByteArray := prog_11_method_38_code
def yX9_holds : MethodName := ⟨RX9, "holds", "(II)Z"⟩
abbrev cX9_sum : ByteArray := prog_11_method_39_code
def yX9_sum : MethodName := ⟨RX9, "sum", "(I)I"⟩
abbrev cX9_rise : ByteArray := prog_11_method_40_code
def yX9_rise : MethodName := ⟨RX9, "rise", "(I)I"⟩
abbrev cX9_of : ByteArray := prog_11_method_41_code
def yX9_of : MethodName := ⟨RX9, "of", "(II)I"⟩
abbrev cX9_hottest : ByteArray := prog_11_method_42_code
def yX9_hottest : MethodName := ⟨RX9, "hottest", "()I"⟩
abbrev cX9_isDone : ByteArray := prog_11_method_43_code
def yX9_isDone : MethodName := ⟨RX9, "isDone", "(I)Z"⟩
abbrev cX9_doneSet : ByteArray := prog_11_method_44_code
def yX9_doneSet : MethodName := ⟨RX9, "doneSet", "()I"⟩
abbrev cX9_allHeat : ByteArray := prog_11_method_45_code
def yX9_allHeat : MethodName := ⟨RX9, "allHeat", "()I"⟩
abbrev cX9_told : ByteArray := prog_11_method_46_code
def yX9_told : MethodName := ⟨RX9, "told", "(I)I"⟩
abbrev cX9_goMinute : ByteArray := prog_11_method_47_code
def yX9_goMinute : MethodName := ⟨RX9, "goMinute", "()V"⟩
abbrev cX9_goMinutes : ByteArray := prog_11_method_48_code
def yX9_goMinutes : MethodName := ⟨RX9, "goMinutes", "(I)V"⟩
abbrev cX9_pass : ByteArray := prog_11_method_49_code
def yX9_pass : MethodName := ⟨RX9, "pass", "(I)I"⟩
abbrev cX9_save : ByteArray := prog_11_method_50_code
def yX9_save : MethodName := ⟨RX9, "save", "()V"⟩
abbrev cX9_putBack : ByteArray := prog_11_method_51_code
def yX9_putBack : MethodName := ⟨RX9, "putBack", "()V"⟩
abbrev cX9_ready : ByteArray := prog_11_method_52_code
def yX9_ready : MethodName := ⟨RX9, "ready", "(I)I"⟩
abbrev cX9_piece : ByteArray := prog_11_method_53_code
def yX9_piece : MethodName := ⟨RX9, "piece", "(II)I"⟩
abbrev cX9_on : ByteArray := prog_11_method_54_code
def yX9_on : MethodName := ⟨RX9, "on", "(II)I"⟩
abbrev cX9_layLine : ByteArray := prog_11_method_55_code
def yX9_layLine : MethodName := ⟨RX9, "layLine", "(I)Z"⟩
abbrev cX9_firstOfLine : ByteArray := prog_11_method_56_code
def yX9_firstOfLine : MethodName := ⟨RX9, "firstOfLine", "()I"⟩
abbrev cX9_doneInTime : ByteArray := prog_11_method_57_code
def yX9_doneInTime : MethodName := ⟨RX9, "doneInTime", "(I)I"⟩
abbrev cX9_best : ByteArray := prog_11_method_58_code
def yX9_best : MethodName := ⟨RX9, "best", "(II)I"⟩
abbrev cX9_hottestIf : ByteArray := prog_11_method_59_code
def yX9_hottestIf : MethodName := ⟨RX9, "hottestIf", "(II)I"⟩
abbrev cX9_talk : ByteArray := prog_11_method_60_code
def yX9_talk : MethodName := ⟨RX9, "talk", "(II)I"⟩
abbrev cX9_see : ByteArray := prog_11_method_61_code
def yX9_see : MethodName := ⟨RX9, "see", "(IIZ)I"⟩
abbrev cX9_isSeen : ByteArray := prog_11_method_62_code
def yX9_isSeen : MethodName := ⟨RX9, "isSeen", "()Z"⟩
abbrev cX9_heats : ByteArray := prog_11_method_63_code
def yX9_heats : MethodName := ⟨RX9, "heats", "(II)I"⟩
abbrev cX9_canBe : ByteArray := prog_11_method_64_code
def yX9_canBe : MethodName := ⟨RX9, "canBe", "(II)I"⟩
abbrev cX9_can : ByteArray := prog_11_method_65_code
def yX9_can : MethodName := ⟨RX9, "can", "(III)I"⟩
abbrev cX9_divisor : ByteArray := prog_11_method_66_code
def yX9_divisor : MethodName := ⟨RX9, "divisor", "(II)I"⟩
abbrev cX9_lowest : ByteArray := prog_11_method_67_code
def yX9_lowest : MethodName := ⟨RX9, "lowest", "(III)J"⟩
abbrev cX9_isHotIf : ByteArray := prog_11_method_68_code
def yX9_isHotIf : MethodName := ⟨RX9, "isHotIf", "(III)Z"⟩
abbrev cX9_odds : ByteArray := prog_11_method_69_code
def yX9_odds : MethodName := ⟨RX9, "odds", "(III)J"⟩
abbrev cX9_mean : ByteArray := prog_11_method_70_code
def yX9_mean : MethodName := ⟨RX9, "mean", "(II)J"⟩
abbrev cX9_plan : ByteArray := prog_11_method_71_code
def yX9_plan : MethodName := ⟨RX9, "plan", "(II)I"⟩
abbrev cX9_goPlan : ByteArray := prog_11_method_72_code
def yX9_goPlan : MethodName := ⟨RX9, "goPlan", "(II)V"⟩
abbrev cX9_ends : ByteArray := prog_11_method_73_code
def yX9_ends : MethodName := ⟨RX9, "ends", "(I)I"⟩
abbrev cX9_book : ByteArray := prog_11_method_74_code
def yX9_book : MethodName := ⟨RX9, "book", "(II)I"⟩
abbrev cX9_looked : ByteArray := prog_11_method_75_code
def yX9_looked : MethodName := ⟨RX9, "looked", "()I"⟩
abbrev cX9_judge : ByteArray := prog_11_method_76_code
def yX9_judge : MethodName := ⟨RX9, "judge", "(II)I"⟩
abbrev cX9_image : ByteArray := prog_11_method_77_code
def yX9_image : MethodName := ⟨RX9, "image", "()I"⟩
abbrev cX9_undo : ByteArray := prog_11_method_78_code
def yX9_undo : MethodName := ⟨RX9, "undo", "()I"⟩
abbrev cX9_body : ByteArray := prog_11_method_79_code
def yX9_body : MethodName := ⟨RX9, "body", "(I)V"⟩
abbrev cX9_oneGlows : ByteArray := prog_11_method_80_code
def yX9_oneGlows : MethodName := ⟨RX9, "oneGlows", "(II)I"⟩
abbrev cX9_glowsAct : ByteArray := prog_11_method_81_code
def yX9_glowsAct : MethodName := ⟨RX9, "glowsAct", "(II)I"⟩
abbrev cX9_oneRings : ByteArray := prog_11_method_82_code
def yX9_oneRings : MethodName := ⟨RX9, "oneRings", "(II)I"⟩
abbrev cX9_bankerRings : ByteArray := prog_11_method_83_code
def yX9_bankerRings : MethodName := ⟨RX9, "bankerRings", "(II)I"⟩
abbrev cX9_ringsAct : ByteArray := prog_11_method_84_code
def yX9_ringsAct : MethodName := ⟨RX9, "ringsAct", "(II)I"⟩
abbrev cX9_oneTells : ByteArray := prog_11_method_85_code
def yX9_oneTells : MethodName := ⟨RX9, "oneTells", "(II)I"⟩
abbrev cX9_tellsAct : ByteArray := prog_11_method_86_code
def yX9_tellsAct : MethodName := ⟨RX9, "tellsAct", "(II)I"⟩
abbrev cX9_act : ByteArray := prog_11_method_87_code
def yX9_act : MethodName := ⟨RX9, "act", "(III)I"⟩
abbrev cX9_trace : ByteArray := prog_11_method_88_code
def yX9_trace : MethodName := ⟨RX9, "trace", "(I)I"⟩
abbrev cX9_taken : ByteArray := prog_11_method_89_code
def yX9_taken : MethodName := ⟨RX9, "taken", "(II)I"⟩
abbrev cX9_count : ByteArray := prog_11_method_90_code
def yX9_count : MethodName := ⟨RX9, "count", "(I)I"⟩
abbrev cX9_isTape : ByteArray := prog_11_method_91_code
def yX9_isTape : MethodName := ⟨RX9, "isTape", "(I)Z"⟩
abbrev cX9_tape : ByteArray := prog_11_method_92_code
def yX9_tape : MethodName := ⟨RX9, "tape", "(III)I"⟩
abbrev cX9_narrow : ByteArray := prog_11_method_93_code
def yX9_narrow : MethodName := ⟨RX9, "narrow", "(IJ)J"⟩
abbrev cX9_item : ByteArray := prog_11_method_94_code
def yX9_item : MethodName := ⟨RX9, "item", "(IIJ)I"⟩
abbrev cX9_read : ByteArray := prog_11_method_95_code
def yX9_read : MethodName := ⟨RX9, "read", "(II)J"⟩
abbrev cX9_shift : ByteArray := prog_11_method_96_code
def yX9_shift : MethodName := ⟨RX9, "shift", "(IIIII)I"⟩
set_option maxRecDepth 100000 in
theorem inX0 : ∀ w ∈ u_ws RX0 TX0 5, w ∈ zTb := zmem_tb _ [298, 300, 302, 304, 306] (by decide +kernel) (by decide +kernel)
set_option maxRecDepth 100000 in
theorem inX1 : ∀ w ∈ u_ws RX1 TX1 6, w ∈ zTb := zmem_tb _ [248, 250, 252, 254, 256, 258] (by decide +kernel) (by decide +kernel)
set_option maxRecDepth 100000 in
theorem inX2 : ∀ w ∈ u_ws RX2 TX2 4, w ∈ zTb := zmem_tb _ [273, 275, 277, 279] (by decide +kernel) (by decide +kernel)
set_option maxRecDepth 100000 in
theorem inX3 : ∀ w ∈ u_ws RX3 TX3 4, w ∈ zTb := zmem_tb _ [207, 209, 211, 213] (by decide +kernel) (by decide +kernel)
set_option maxRecDepth 100000 in
theorem inX4 : ∀ w ∈ u_ws RX4 TX4 5, w ∈ zTb := zmem_tb _ [343, 345, 347, 349, 351] (by decide +kernel) (by decide +kernel)
set_option maxRecDepth 100000 in
theorem inX5 : ∀ w ∈ u_ws RX5 TX5 3, w ∈ zTb := zmem_tb _ [323, 325, 327] (by decide +kernel) (by decide +kernel)
set_option maxRecDepth 100000 in
theorem inX6 : ∀ w ∈ u_ws RX6 TX6 15, w ∈ zTb := zmem_tb _ [157, 159, 161, 163, 165, 167, 169, 171, 173, 175, 177, 179, 181, 183, 185] (by decide +kernel) (by decide +kernel)
set_option maxRecDepth 100000 in
theorem inX7 : ∀ w ∈ u_ws RX7 TX7 4, w ∈ zTb := zmem_tb _ [224, 226, 228, 230] (by decide +kernel) (by decide +kernel)
set_option maxRecDepth 100000 in
theorem inX8 : ∀ w ∈ u_ws RX8 TX8 10, w ∈ zTb := zmem_tb _ [364, 366, 368, 370, 372, 374, 376, 378, 380, 382] (by decide +kernel) (by decide +kernel)
set_option maxRecDepth 100000 in
theorem inX9 : ∀ w ∈ u_ws RX9 TX9 78, w ∈ zTb := zmem_tb _ [1037, 1039, 1041, 1043, 1045, 1047, 1049, 1051, 1053, 1055, 1057, 1059, 1061, 1063, 1065, 1067, 1069, 1071, 1073, 1075, 1077, 1079, 1081, 1083, 1085, 1087, 1089, 1091, 1093, 1095, 1097, 1099, 1101, 1103, 1105, 1107, 1109, 1111, 1113, 1115, 1117, 1119, 1121, 1123, 1125, 1127, 1129, 1131, 1133, 1135, 1137, 1139, 1141, 1143, 1145, 1147, 1149, 1151, 1153, 1155, 1157, 1159, 1161, 1163, 1165, 1167, 1169, 1171, 1173, 1175, 1177, 1179, 1181, 1183, 1185, 1187, 1189, 1191] (by decide +kernel) (by decide +kernel)
abbrev zcl : List vw_C := [(RX0, TX0, 5), (RX1, TX1, 6), (RX2, TX2, 4), (RX3, TX3, 4), (RX4, TX4, 5), (RX5, TX5, 3), (RX6, TX6, 15), (RX7, TX7, 4), (RX8, TX8, 10), (RX9, TX9, 78)]
def zclok (q : vw_C) : Prop := (∀ w ∈ u_ws q.1 q.2.1 q.2.2, w ∈ zTb) ∧ (∃ ty0 : Nat → FieldType, ∀ k, k < q.2.2 → parseFieldDescriptor (q.2.1 k).2.2.1 = some (ty0 k)) ∧ ∀ a, a < q.2.2 → ∀ b, b < q.2.2 → a ≠ b → (q.2.1 a).2.1 ≠ (q.2.1 b).2.1
theorem zcl_ok : ∀ q ∈ zcl, zclok q := List.forall_mem_cons.mpr ⟨⟨inX0, ⟨tyX0, tyX0_ok⟩, nmX0⟩, List.forall_mem_cons.mpr ⟨⟨inX1, ⟨tyX1, tyX1_ok⟩, nmX1⟩, List.forall_mem_cons.mpr ⟨⟨inX2, ⟨tyX2, tyX2_ok⟩, nmX2⟩, List.forall_mem_cons.mpr ⟨⟨inX3, ⟨tyX3, tyX3_ok⟩, nmX3⟩, List.forall_mem_cons.mpr ⟨⟨inX4, ⟨tyX4, tyX4_ok⟩, nmX4⟩, List.forall_mem_cons.mpr ⟨⟨inX5, ⟨tyX5, tyX5_ok⟩, nmX5⟩, List.forall_mem_cons.mpr ⟨⟨inX6, ⟨tyX6, tyX6_ok⟩, nmX6⟩, List.forall_mem_cons.mpr ⟨⟨inX7, ⟨tyX7, tyX7_ok⟩, nmX7⟩, List.forall_mem_cons.mpr ⟨⟨inX8, ⟨tyX8, tyX8_ok⟩, nmX8⟩, List.forall_mem_cons.mpr ⟨⟨inX9, ⟨tyX9, tyX9_ok⟩, nmX9⟩, fun _ h => absurd h List.not_mem_nil⟩⟩⟩⟩⟩⟩⟩⟩⟩⟩
end
section
/-! ===== the memory of a system as three functions, its shapes, and the machine's cells out of them ===== -/
abbrev zM : Type := (Nat → Nat → Int32) × (Nat → Nat → Int64) × (Nat → Nat → Option Nat)
def gI (u : zM) (a k : Nat) : Int32 := u.1 a k
def gJ (u : zM) (a k : Nat) : Int64 := u.2.1 a k
def gO (u : zM) (a k : Nat) : Option Nat := u.2.2 a k
def sI (u : zM) (a k : Nat) (x : Int32) : zM := (fun b j => if b = a ∧ j = k then x else u.1 b j, u.2.1, u.2.2)
def sJ (u : zM) (a k : Nat) (x : Int64) : zM := (u.1, fun b j => if b = a ∧ j = k then x else u.2.1 b j, u.2.2)
def sO (u : zM) (a k : Nat) (x : Option Nat) : zM := (u.1, u.2.1, fun b j => if b = a ∧ j = k then x else u.2.2 b j)
/-- an object: its class's number, its slots' kinds (0 an int, 1 a long, 2 a reference or null, j + 3 the cell j); an array: its kind (0 int, 1 boolean, 2 byte, 3 long, 4 and 5 of references), its length, where its references begin and in what steps -/
abbrev zS : Type := (Nat × List Nat) ⊕ (Nat × Nat × Nat × Nat)
def zr (as : Nat → Nat) : Value → Value
  | .ref k => .ref (as k)
  | v => v
def zfield (as : Nat → Nat) (u : zM) (a k : Nat) : Nat → Value
  | 0 => .int (gI u a k)
  | 1 => .long (gJ u a k)
  | 2 => va_rf ((gO u a k).map as)
  | j + 3 => .ref (as j)
def zarr (as : Nat → Nat) (u : zM) (a n b sd : Nat) : Nat → vp_A
  | 0 => (n, .inl (gI u a))
  | 1 => (n, .inl (gI u a))
  | 2 => (n, .inl (gI u a))
  | 3 => (n, .inr (.inl (gJ u a)))
  | _ => (n, .inr (.inr (.inr (.inr (fun j => some (as (b + sd * j)))))))
def zcell (as : Nat → Nat) (dA : Nat → ClassId) (u : zM) (a : Nat) : zS → va_E
  | .inl o => .inr (o.1, o.2.mapIdx (fun k kd => zfield as u a k kd))
  | .inr r => .inl (dA r.1, zarr as u a r.2.1 r.2.2.1 r.2.2.2 r.1)
def zw (as : Nat → Nat) (dA : Nat → ClassId) (SH : List zS) (u : zM) : va_W := SH.mapIdx (fun a S => (as a, zcell as dA u a S))
theorem zw_get {as : Nat → Nat} {dA : Nat → ClassId} {SH : List zS} {u : zM} {a : Nat} {S : zS} (h : SH[a]? = some S) : (zw as dA SH u)[a]? = some (as a, zcell as dA u a S) := by
  unfold zw
  rw [List.getElem?_mapIdx, h]
  rfl
theorem zw_has {as : Nat → Nat} {dA : Nat → ClassId} {SH : List zS} {u : zM} {a : Nat} {q : Nat × va_E} (h : (zw as dA SH u)[a]? = some q) : ∃ S, SH[a]? = some S ∧ q = (as a, zcell as dA u a S) := by
  unfold zw at h
  rw [List.getElem?_mapIdx] at h
  cases hS : SH[a]? with
  | none => rw [hS] at h; cases h
  | some S => rw [hS] at h; exact ⟨S, rfl, (Option.some.inj h).symm⟩
theorem zw_set {as : Nat → Nat} {dA : Nat → ClassId} {SH : List zS} {u u' : zM} {a : Nat} {S : zS} {e : va_E} (h : SH[a]? = some S) (he : e = zcell as dA u' a S) (ho : ∀ b S', b ≠ a → zcell as dA u' b S' = zcell as dA u b S') : (zw as dA SH u).set a (as a, e) = zw as dA SH u' := by
  apply List.ext_getElem?
  intro b
  rw [List.getElem?_set]
  by_cases hb : a = b
  · subst hb
    have hl : a < (zw as dA SH u).length := (List.getElem?_eq_some_iff.mp (zw_get h)).1
    rw [if_pos rfl, if_pos hl, zw_get h, he]
  · rw [if_neg hb]
    cases hS : SH[b]? with
    | none =>
      unfold zw
      rw [List.getElem?_mapIdx, List.getElem?_mapIdx, hS]
      rfl
    | some S' => rw [zw_get hS, zw_get hS, ho b S' (fun q => hb q.symm)]
theorem zfield_I {as : Nat → Nat} {u : zM} {a k : Nat} {x : Int32} {b j : Nat} (kd : Nat) (h : ¬ (b = a ∧ j = k)) : zfield as (sI u a k x) b j kd = zfield as u b j kd := by
  match kd with
  | 0 => show Value.int _ = Value.int _; unfold gI sI; dsimp only; rw [if_neg h]
  | 1 => rfl
  | 2 => rfl
  | _ + 3 => rfl
theorem zcell_I {as : Nat → Nat} {dA : Nat → ClassId} {u : zM} {a k : Nat} {x : Int32} (b : Nat) (S : zS) (h : b ≠ a) : zcell as dA (sI u a k x) b S = zcell as dA u b S := by
  cases S with
  | inl o =>
    have e : (fun j kd => zfield as (sI u a k x) b j kd) = fun j kd => zfield as u b j kd := by
      funext j kd
      exact zfield_I kd (fun q => h q.1)
    show Sum.inr (o.1, o.2.mapIdx (fun j kd => zfield as (sI u a k x) b j kd)) = Sum.inr (o.1, o.2.mapIdx (fun j kd => zfield as u b j kd))
    rw [e]
  | inr r =>
    show Sum.inl _ = Sum.inl _
    congr 2
    have e : gI (sI u a k x) b = gI u b := by funext j; unfold gI sI; dsimp only; rw [if_neg (fun q => h q.1)]
    obtain ⟨t, n, p, q⟩ := r
    dsimp only
    unfold zarr
    split <;> first | rw [e] | rfl
theorem zcell_J {as : Nat → Nat} {dA : Nat → ClassId} {u : zM} {a k : Nat} {x : Int64} (b : Nat) (S : zS) (h : b ≠ a) : zcell as dA (sJ u a k x) b S = zcell as dA u b S := by
  cases S with
  | inl o =>
    have e : (fun j kd => zfield as (sJ u a k x) b j kd) = fun j kd => zfield as u b j kd := by
      funext j kd
      match kd with
      | 0 => rfl
      | 1 => show Value.long _ = Value.long _; unfold gJ sJ; dsimp only; rw [if_neg (fun q => h q.1)]
      | 2 => rfl
      | _ + 3 => rfl
    show Sum.inr (o.1, o.2.mapIdx (fun j kd => zfield as (sJ u a k x) b j kd)) = Sum.inr (o.1, o.2.mapIdx (fun j kd => zfield as u b j kd))
    rw [e]
  | inr r =>
    show Sum.inl _ = Sum.inl _
    congr 2
    have e : gJ (sJ u a k x) b = gJ u b := by funext j; unfold gJ sJ; dsimp only; rw [if_neg (fun q => h q.1)]
    obtain ⟨t, n, p, q⟩ := r
    dsimp only
    unfold zarr
    split <;> first | rw [e] | rfl
theorem zcell_O {as : Nat → Nat} {dA : Nat → ClassId} {u : zM} {a k : Nat} {x : Option Nat} (b : Nat) (S : zS) (h : b ≠ a) : zcell as dA (sO u a k x) b S = zcell as dA u b S := by
  cases S with
  | inl o =>
    have e : (fun j kd => zfield as (sO u a k x) b j kd) = fun j kd => zfield as u b j kd := by
      funext j kd
      match kd with
      | 0 => rfl
      | 1 => rfl
      | 2 => show va_rf _ = va_rf _; unfold gO sO; dsimp only; rw [if_neg (fun q => h q.1)]
      | _ + 3 => rfl
    show Sum.inr (o.1, o.2.mapIdx (fun j kd => zfield as (sO u a k x) b j kd)) = Sum.inr (o.1, o.2.mapIdx (fun j kd => zfield as u b j kd))
    rw [e]
  | inr r => rfl
theorem zfs_set {as : Nat → Nat} {u u' : zM} {a k kd : Nat} {ks : List Nat} {v : Value} (hk : ks[k]? = some kd) (hv : v = zfield as u' a k kd) (ho : ∀ j kj, j ≠ k → zfield as u' a j kj = zfield as u a j kj) : (ks.mapIdx (fun j kj => zfield as u a j kj)).set k v = ks.mapIdx (fun j kj => zfield as u' a j kj) := by
  apply List.ext_getElem?
  intro j
  rw [List.getElem?_set]
  by_cases hj : k = j
  · subst hj
    have hl : k < (ks.mapIdx (fun j kj => zfield as u a j kj)).length := by rw [List.length_mapIdx]; exact (List.getElem?_eq_some_iff.mp hk).1
    rw [if_pos rfl, if_pos hl, List.getElem?_mapIdx, hk, hv]
    rfl
  · rw [if_neg hj, List.getElem?_mapIdx, List.getElem?_mapIdx]
    cases ks[j]? with
    | none => rfl
    | some kj => exact congrArg some (ho j kj (fun q => hj q.symm)).symm
/-- which cells a system may change -/
def zA (as : Nat → Nat) (n sz : Nat) : Nat → Prop := fun q => (∃ k : Nat, k < n ∧ q = as k) ∨ sz ≤ q
def zInj (as : Nat → Nat) (n : Nat) : Prop := ∀ i j : Nat, i < n → j < n → as i = as j → i = j
theorem zw_D {as : Nat → Nat} {dA : Nat → ClassId} {SH : List zS} {u : zM} {A : Nat → Prop} (hI : zInj as SH.length) (hA : ∀ k : Nat, k < SH.length → A (as k)) : va_D A (zw as dA SH u) := by
  refine ⟨fun i j p q hi hj e => ?_, fun k q hk => ?_⟩
  · obtain ⟨S, h1, rfl⟩ := zw_has hi
    obtain ⟨S', h2, rfl⟩ := zw_has hj
    exact hI i j (List.getElem?_eq_some_iff.mp h1).1 (List.getElem?_eq_some_iff.mp h2).1 e
  · obtain ⟨S, h1, rfl⟩ := zw_has hk
    exact hA k (List.getElem?_eq_some_iff.mp h1).1
theorem zw_DA {as : Nat → Nat} {dA : Nat → ClassId} {SH : List zS} {u : zM} {sz : Nat} (hI : zInj as SH.length) : va_D (zA as SH.length sz) (zw as dA SH u) := zw_D hI (fun k h => Or.inl ⟨k, h, rfl⟩)
/-- the kinds of arrays -/
def zty (dA : Nat → ClassId) : List (ClassId × FieldType) := [(dA 0, .int), (dA 1, .boolean), (dA 2, .byte), (dA 3, .long), (dA 4, .object "StruckWhile$Square"), (dA 5, .array .long)]
/-! ===== what stands outside: words of nests, static arrays, String constants ===== -/
def zIsNest : Cond → Bool
  | .methodLinkNest _ _ _ _ => true
  | .fieldLinkNest _ _ _ _ _ _ => true
  | _ => false
def zNest : List Cond := lw_tbl.filter zIsNest
theorem zn_at (i : Nat) {w : Cond} (h : lw_tbl[i]? = some w) (hg : zIsNest w = true) : w ∈ zNest := List.mem_filter.mpr ⟨List.mem_of_getElem? h, hg⟩
theorem zn_warm {w : Cond} (hw : w ∈ zNest) {s U : State} (hW : s.WarmedH U.vm) (h : va_Nw w s) : va_Nw w U := by
  have hk := (List.mem_filter.mp hw).2
  cases w <;> first | exact va_Nw.warmM hW h | exact va_Nw.warmF hW h | (cases hk)
theorem zn_same {w : Cond} (hw : w ∈ zNest) {u U : State} (hv : u.vm = U.vm) (h : va_Nw w u) : va_Nw w U := by
  have hk := (List.mem_filter.mp hw).2
  cases w <;> first | exact va_Nw.same rfl hv h | (cases hk)
theorem zn_use {w : Cond} (hw : w ∈ zNest) {a : Array Value} {U : State} (h : va_Nw w U) : w.before a U = true := by
  have hk := (List.mem_filter.mp hw).2
  cases w <;> first | exact va_Nw.use rfl h | (cases hk)
theorem zn_of {w : Cond} (hw : w ∈ zNest) {a : Array Value} {U : State} (h : w.before a U = true) : va_Nw w U := by
  have hk := (List.mem_filter.mp hw).2
  cases w <;> first | exact va_Nw.of rfl h | (cases hk)
/-- static arrays of ints: class, name, their numbers -/
def zSA : List (String × String × List Int32) := [("StruckWhile", "KIND_ABOVE", [-1, 0, 0, 0, 1, 2, 3]), ("StruckWhile$Acts", "BODIES", [10, 11, 12, 0, 20, 0, 30, 0, 0, 0, 0, 40, 50, 51, 0, 0, 0, 60, 71, 70, 0]), ("StruckWhile$Ahead", "ROWS_OF", [1, 1, 2, 6, 24])]
/-- String constants of the Reader: place, text, bytes -/
def zSK : List (Nat × String × List Int32) := [(42, "heat", [104, 101, 97, 116]), (81, "pkvhnm", [112, 107, 118, 104, 110, 109]), (87, "<=>", [60, 61, 62]), (52, "calm", [99, 97, 108, 109]), (54, "spark", [115, 112, 97, 114, 107])]
/-- what stands outside of all systems: the words of nests, static arrays (at 1000 ..), String constants (at 1010 ..), their bytes (at 1020 ..) -/
def zSt (as : Nat → Nat) (A : Nat → Prop) (U : State) : Prop :=
  (∀ w ∈ zNest, va_Nw w U) ∧ va_Z "java/lang/String" "COMPACT_STRINGS" "Z" (.int 1) A U U.heap ∧ va_Zq "jdk/internal/util/Preconditions" "SIOOBE_FORMATTER" "Ljava/util/function/BiFunction;" A U U.heap ∧
  (∀ (k : Nat) (q : String × String × List Int32), zSA[k]? = some q → va_Z q.1 q.2.1 "[I" (.ref (as (1000 + k))) A U U.heap ∧ va_T .int (as (1000 + k)) q.2.2.length (fun i => .int (q.2.2.getD i 0)) A U U.heap) ∧
  vk_S 5 (zSK.map (fun q => q.2.2.length)) (zSK.map (fun q => q.2.2)) (fun k => as (1010 + k)) (fun k => as (1020 + k)) A U U.heap ∧
  ∀ (k : Nat) (q : Nat × String × List Int32), zSK[k]? = some q → vk_R "StruckWhile$Reader" q.1 q.2.1 (as (1010 + k)) U
theorem zSt.same {as : Nat → Nat} {A : Nat → Prop} {u U : State} (hh : U.heap = u.heap) (hv : U.vm = u.vm) (h : zSt as A u) : zSt as A U := by
  have ha : u.vm.Alike U.vm := by rw [hv]; exact Vm.Alike.refl _
  obtain ⟨h1, h2, h3, h4, h5, h6⟩ := h
  refine ⟨fun w hw => zn_same hw hv.symm (h1 w hw), ?_, ?_, fun k q hk => ⟨?_, ?_⟩, ?_, fun k q hk => (h6 k q hk).same hv⟩ <;> rw [hh]
  · exact h2.moved ha
  · exact h3.moved ha
  · exact (h4 k q hk).1.moved ha
  · exact (h4 k q hk).2.moved ha
  · exact h5.moved ha
theorem zSt.call {as : Nat → Nat} {A B : Nat → Prop} {s U : State} {H : Heap} {locs : List Loc} (hU : U.heap = H) (hW : s.WarmedH U.vm) (hS : va_S A s.heap H locs) (hAB : ∀ q, B q → A q) (h : zSt as A s) : zSt as B U := by
  have ha : s.vm.Alike U.vm := hW.alike
  obtain ⟨h1, h2, h3, h4, h5, h6⟩ := h
  refine ⟨fun w hw => zn_warm hw hW (h1 w hw), ?_, ?_, fun k q hk => ⟨?_, ?_⟩, ?_, fun k q hk => (h6 k q hk).warm hW⟩ <;> rw [hU]
  · exact ((h2.kept hS.2.1).moved ha).narrow hAB
  · exact ((h3.kept hS.2.1).moved ha).narrow hAB
  · exact (((h4 k q hk).1.kept hS.2.1).moved ha).narrow hAB
  · exact (((h4 k q hk).2.kept hS.2.1).moved ha).narrow hAB
  · exact ((h5.kept hS.2.1).moved ha).narrow hAB
/-! ===== contracts ===== -/
def zRm (d : Nat) : Room := { frames := d, cells := 0, slots := 0, locals := 64 * d }
def zPre (as : Nat → Nat) (dA : Nat → ClassId) (D : va_G) (SH : List zS) (u : zM) (sz : Nat) (U : State) : Prop :=
  U.heap.size = sz ∧ va_P D zcl (zw as dA SH u) U.heap ∧ va_K D zcl (zty dA) U ∧ zInj as SH.length ∧ zSt as (zA as SH.length sz) U
def zPost (as : Nat → Nat) (dA : Nat → ClassId) (D : va_G) (SH : List zS) (u : zM) (t : State) : Prop := va_P D zcl (zw as dA SH u) t.heap ∧ va_K D zcl (zty dA) t
def zQi (as : Nat → Nat) (dA : Nat → ClassId) (D : va_G) (SH : List zS) (sz : Nat) (x : Int32) (u' : zM) : Array Value → State → Outcome → State → Prop :=
  va_Qi (fun (x' : Int32) (v : zM) => x' = x ∧ v = u') (fun v t => zPost as dA D SH v t) (zA as SH.length sz)
def zQl (as : Nat → Nat) (dA : Nat → ClassId) (D : va_G) (SH : List zS) (sz : Nat) (x : Int64) (u' : zM) : Array Value → State → Outcome → State → Prop :=
  va_Ql (fun (x' : Int64) (v : zM) => x' = x ∧ v = u') (fun v t => zPost as dA D SH v t) (zA as SH.length sz)
def zQv (as : Nat → Nat) (dA : Nat → ClassId) (D : va_G) (SH : List zS) (sz : Nat) (_ : Unit) (u' : zM) : Array Value → State → Outcome → State → Prop :=
  va_Qv (fun (v : zM) => v = u') (fun v t => zPost as dA D SH v t) (zA as SH.length sz)
/-- a reference that is answered: the cell's number -/
def zQr (as : Nat → Nat) (dA : Nat → ClassId) (D : va_G) (SH : List zS) (sz : Nat) (x : Nat) (u' : zM) : Array Value → State → Outcome → State → Prop :=
  va_Qr (fun (v : zM) => v = u') (fun v a t => a = as x ∧ zPost as dA D SH v t) (zA as SH.length sz)
def zMet {α : Type} (Qk : (Nat → Nat) → (Nat → ClassId) → va_G → List zS → Nat → α → zM → Array Value → State → Outcome → State → Prop) (SH : List zS) (y : MethodName) (bytes : ByteArray) (maxL : Nat) (rt : Option FieldType) (d : Nat) (av : List Value) (u : zM) (F : Option (α × zM)) : Prop :=
  ∀ (r : α) (u' : zM), F = some (r, u') → ∀ (l : Launch) (as : Nat → Nat) (dA : Nat → ClassId) (D : va_G) (sz : Nat), Met l y (.code y bytes maxL rt :: zTb) (zRm d) (va_Pc (av.map (zr as)) (zPre as dA D SH u sz)) (Qk as dA D SH sz r u') 0 0 (zA as SH.length sz)
/-- what holds in a method's frame -/
def zCx (p : Program) (s : State) (m : MethodId) (args : Array Value) (meth : Method) (c : Code) (as : Nat → Nat) (dA : Nat → ClassId) (D : va_G) (SH : List zS) (d : Nat) (nL : Nat) (own : String) (cc : ByteArray) (ret : Option FieldType) : Prop :=
  p.tables.exec = Jvm.exec ∧ c.code = cc ∧ c.maxLocals = nL ∧ s.vm.findClass own = some m.cls ∧ (∀ w ∈ zTb, w.before args s = true) ∧ meth.sig.returnType = ret ∧ meth.locks = false ∧ va_K D zcl (zty dA) s ∧ zInj as SH.length ∧ zSt as (zA as SH.length s.heap.size) s ∧ 1 ≤ d
def zL (as : Nat → Nat) (L : List (Nat × Value)) : List (Nat × Value) := L.map (fun q => (q.1, zr as q.2))
def Go (p : Program) (l : Launch) (e : Env) (s : State) (m : MethodId) (args : Array Value) (below : List Frame) (meth : Method) (c : Code) (as : Nat → Nat) (dA : Nat → ClassId) (D : va_G) (SH : List zS) (d : Nat) (nL : Nat) {α : Type} (Qk : (Nat → Nat) → (Nat → ClassId) → va_G → List zS → Nat → α → zM → Array Value → State → Outcome → State → Prop)
    (pc : Nat) (L : List (Nat × Value)) (st : List Value) (u : zM) (F : Option (α × zM)) : Prop :=
  ∀ (r : α) (u' : zM), F = some (r, u') → ∀ (H : Heap) (locs : List Loc) (ls : Array Slot), va_P D zcl (zw as dA SH u) H → va_S (zA as SH.length s.heap.size) s.heap H locs → lv_has ls nL (zL as L) →
    W p l e (zRm d) s m args below meth c H locs 0 0 (MQ below (Qk as dA D SH s.heap.size r u') args s 0 0 (zA as SH.length s.heap.size)) (F0 m pc ls (st.map (zr as)))
theorem zr_cat (as : Nat → Nat) (v : Value) : (zr as v).category = v.category := by cases v <;> rfl
theorem zL_at {as : Nat → Nat} {L : List (Nat × Value)} {k i : Nat} {v : Value} (h : L[k]? = some (i, v)) : (zL as L)[k]? = some (i, zr as v) := by
  unfold zL
  rw [List.getElem?_map, h]
  rfl
theorem zL_f1 (as : Nat → Nat) (i : Nat) : ∀ L : List (Nat × Value), (zL as L).filter (fun q => !(q.1 == i) && !(q.1 + 1 == i && q.2.category == 2)) = zL as (L.filter (fun q => !(q.1 == i) && !(q.1 + 1 == i && q.2.category == 2))) := by
  intro L
  unfold zL
  rw [List.filter_map]
  congr 1
  apply List.filter_congr
  intro q _
  show (!(q.1 == i) && !(q.1 + 1 == i && (zr as q.2).category == 2)) = _
  rw [zr_cat]
theorem zL_sub {as : Nat → Nat} {ls : Array Slot} {nL : Nat} {L L' : List (Nat × Value)} (h : lv_has ls nL (zL as L)) (ks : List Nat) (hl : lv_pick L ks = L') : lv_has ls nL (zL as L') := by
  refine lv_sub h ks ?_
  rw [← hl]
  unfold lv_pick zL
  rw [List.map_filterMap]
  congr 1
  funext k
  rw [List.getElem?_map]
end
section
/-! ===== one rule an instruction, over the memory ===== -/
section GoRules
variable {p : Program} {l : Launch} {e : Env} {s : State} {m : MethodId} {args : Array Value} {below : List Frame} {meth : Method} {c : Code} {as : Nat → Nat} {dA : Nat → ClassId} {D : va_G} {SH : List zS} {d nL : Nat} {α : Type} {Qk : (Nat → Nat) → (Nat → ClassId) → va_G → List zS → Nat → α → zM → Array Value → State → Outcome → State → Prop}
variable {own : String} {cc : ByteArray} {ret : Option FieldType} {pc : Nat} {L : List (Nat × Value)} {st : List Value} {u : zM} {F : Option (α × zM)}
def zck {β : Type} (b : Bool) (o : Option β) : Option β := if b = true then o else none
def zb {β γ : Type} (o : Option (β × zM)) (k : β → zM → Option γ) : Option γ := match o with
  | some q => k q.1 q.2
  | none => none
def zlet {γ : Type} (u : zM) (k : zM → Option γ) : Option γ := k u
def zlx {γ : Type} (x : Int32) (k : Int32 → Option γ) : Option γ := k x
def zly {γ : Type} (x : Int64) (k : Int64 → Option γ) : Option γ := k x
def zmo {γ : Type} (o : Option Nat) (k0 : Option γ) (k1 : Nat → Option γ) : Option γ := match o with
  | some x => k1 x
  | none => k0
def zrem (x y : Int32) : Int32 := x - x / y * y
def inB (i : Int32) (n : Nat) : Bool := decide (¬ (i < 0 ∨ n ≤ i.toNatClampNeg))
theorem inB_in {i : Int32} {n : Nat} (h : inB i n = true) : vp_in i n := by
  show ¬ (i < 0 ∨ n ≤ i.toNatClampNeg)
  unfold inB at h
  exact of_decide_eq_true h
theorem zck_some {β : Type} {b : Bool} {o : Option β} {r : β} (h : zck b o = some r) : b = true ∧ o = some r := by
  unfold zck at h
  split at h
  · exact ⟨by assumption, h⟩
  · cases h
theorem zb_some {β γ : Type} {o : Option (β × zM)} {k : β → zM → Option γ} {r : γ} (h : zb o k = some r) : ∃ x v, o = some (x, v) ∧ k x v = some r := by
  cases o with
  | none => cases h
  | some q => exact ⟨q.1, q.2, rfl, h⟩
theorem G_none : Go p l e s m args below meth c as dA D SH d nL Qk pc L st u none := fun _ _ h => by cases h
theorem G_ck {b : Bool} (k : b = true → Go p l e s m args below meth c as dA D SH d nL Qk pc L st u F) : Go p l e s m args below meth c as dA D SH d nL Qk pc L st u (zck b F) := fun r u' h => k (zck_some h).1 r u' (zck_some h).2
theorem G_if {P : Prop} [Decidable P] {F1 F2 : Option (α × zM)} (k1 : P → Go p l e s m args below meth c as dA D SH d nL Qk pc L st u F1) (k2 : ¬ P → Go p l e s m args below meth c as dA D SH d nL Qk pc L st u F2) : Go p l e s m args below meth c as dA D SH d nL Qk pc L st u (if P then F1 else F2) := by
  by_cases h : P
  · rw [if_pos h]; exact k1 h
  · rw [if_neg h]; exact k2 h
theorem G_topi {x : Int32} {F : Int32 → Option (α × zM)} (k : ∀ y : Int32, Go p l e s m args below meth c as dA D SH d nL Qk pc L (.int y :: st) u (F y)) : Go p l e s m args below meth c as dA D SH d nL Qk pc L (.int x :: st) u (zlx x F) := k x
theorem G_topl {x : Int64} {F : Int64 → Option (α × zM)} (k : ∀ y : Int64, Go p l e s m args below meth c as dA D SH d nL Qk pc L (.long y :: st) u (F y)) : Go p l e s m args below meth c as dA D SH d nL Qk pc L (.long x :: st) u (zly x F) := k x
theorem G_locals (ks : List Nat) {L' : List (Nat × Value)} (hl : lv_pick L ks = L') (k : Go p l e s m args below meth c as dA D SH d nL Qk pc L' st u F) : Go p l e s m args below meth c as dA D SH d nL Qk pc L st u F := fun r u' hF H locs ls hP hS h => k r u' hF H locs ls hP hS (zL_sub h ks hl)

theorem G_iconst (C : zCx p s m args meth c as dA D SH d nL own cc ret) {n : Int} {v : Int32} (hdg : decode cc pc = .ok (.iconst n, 1)) (hv : Int32.ofInt n = v) (k : Go p l e s m args below meth c as dA D SH d nL Qk  (pc + 1) L (.int v :: st) u F) : Go p l e s m args below meth c as dA D SH d nL Qk  pc L st u F := by
  obtain ⟨hx, hb, hml, hown, hts, hr, hlk, hK, hI, hZ, hd1⟩ := C
  intro r u' hF H locs ls hP hS hl
  exact lv_iconst hx hb hdg hv (k r u' hF H locs ls hP hS hl)
theorem G_bipush (C : zCx p s m args meth c as dA D SH d nL own cc ret) {n : Int} {v : Int32} (hdg : decode cc pc = .ok (.bipush n, 2)) (hv : (Int8.ofInt n).toInt32 = v) (k : Go p l e s m args below meth c as dA D SH d nL Qk  (pc + 2) L (.int v :: st) u F) : Go p l e s m args below meth c as dA D SH d nL Qk  pc L st u F := by
  obtain ⟨hx, hb, hml, hown, hts, hr, hlk, hK, hI, hZ, hd1⟩ := C
  intro r u' hF H locs ls hP hS hl
  exact lv_bipush hx hb hdg hv (k r u' hF H locs ls hP hS hl)
theorem G_sipush (C : zCx p s m args meth c as dA D SH d nL own cc ret) {n : Int} {v : Int32} (hdg : decode cc pc = .ok (.sipush n, 3)) (hv : (Int16.ofInt n).toInt32 = v) (k : Go p l e s m args below meth c as dA D SH d nL Qk  (pc + 3) L (.int v :: st) u F) : Go p l e s m args below meth c as dA D SH d nL Qk  pc L st u F := by
  obtain ⟨hx, hb, hml, hown, hts, hr, hlk, hK, hI, hZ, hd1⟩ := C
  intro r u' hF H locs ls hP hS hl
  exact lv_sipush hx hb hdg hv (k r u' hF H locs ls hP hS hl)
theorem G_lconst (C : zCx p s m args meth c as dA D SH d nL own cc ret) {n : Fin 2} {v : Int64} (hdg : decode cc pc = .ok (.lconst n, 1)) (hv : Int64.ofNat (n : Nat) = v) (k : Go p l e s m args below meth c as dA D SH d nL Qk  (pc + 1) L (.long v :: st) u F) : Go p l e s m args below meth c as dA D SH d nL Qk  pc L st u F := by
  obtain ⟨hx, hb, hml, hown, hts, hr, hlk, hK, hI, hZ, hd1⟩ := C
  intro r u' hF H locs ls hP hS hl
  exact lv_lconst hx hb hdg hv (k r u' hF H locs ls hP hS hl)
theorem G_ldc (C : zCx p s m args meth c as dA D SH d nL own cc ret) {index : Nat} {v : Int32} (hdg : decode cc pc = .ok (.ldc index, 2)) (hc : Cond.constant own index v ∈ zTb) (k : Go p l e s m args below meth c as dA D SH d nL Qk  (pc + 2) L (.int v :: st) u F) : Go p l e s m args below meth c as dA D SH d nL Qk  pc L st u F := by
  obtain ⟨hx, hb, hml, hown, hts, hr, hlk, hK, hI, hZ, hd1⟩ := C
  intro r u' hF H locs ls hP hS hl
  exact lv_ldc hx hb hown (hts _ hc) hdg (k r u' hF H locs ls hP hS hl)
theorem G_ldc2 (C : zCx p s m args meth c as dA D SH d nL own cc ret) {index : Nat} {v : Int64} (hdg : decode cc pc = .ok (.ldc2_w index, 3)) (hc : Cond.constantLong own index v ∈ zTb) (k : Go p l e s m args below meth c as dA D SH d nL Qk  (pc + 3) L (.long v :: st) u F) : Go p l e s m args below meth c as dA D SH d nL Qk  pc L st u F := by
  obtain ⟨hx, hb, hml, hown, hts, hr, hlk, hK, hI, hZ, hd1⟩ := C
  intro r u' hF H locs ls hP hS hl
  exact lv_ldc2 hx hb hown (hts _ hc) hdg (k r u' hF H locs ls hP hS hl)
theorem G_iadd (C : zCx p s m args meth c as dA D SH d nL own cc ret) {x y : Int32} (hdg : decode cc pc = .ok (.iadd, 1)) (k : Go p l e s m args below meth c as dA D SH d nL Qk  (pc + 1) L (.int (x + y) :: st) u F) : Go p l e s m args below meth c as dA D SH d nL Qk  pc L (.int y :: .int x :: st) u F := by
  obtain ⟨hx, hb, hml, hown, hts, hr, hlk, hK, hI, hZ, hd1⟩ := C
  intro r u' hF H locs ls hP hS hl
  exact lv_iadd hx hb hdg (k r u' hF H locs ls hP hS hl)
theorem G_isub (C : zCx p s m args meth c as dA D SH d nL own cc ret) {x y : Int32} (hdg : decode cc pc = .ok (.isub, 1)) (k : Go p l e s m args below meth c as dA D SH d nL Qk  (pc + 1) L (.int (x - y) :: st) u F) : Go p l e s m args below meth c as dA D SH d nL Qk  pc L (.int y :: .int x :: st) u F := by
  obtain ⟨hx, hb, hml, hown, hts, hr, hlk, hK, hI, hZ, hd1⟩ := C
  intro r u' hF H locs ls hP hS hl
  exact lv_isub hx hb hdg (k r u' hF H locs ls hP hS hl)
theorem G_imul (C : zCx p s m args meth c as dA D SH d nL own cc ret) {x y : Int32} (hdg : decode cc pc = .ok (.imul, 1)) (k : Go p l e s m args below meth c as dA D SH d nL Qk  (pc + 1) L (.int (x * y) :: st) u F) : Go p l e s m args below meth c as dA D SH d nL Qk  pc L (.int y :: .int x :: st) u F := by
  obtain ⟨hx, hb, hml, hown, hts, hr, hlk, hK, hI, hZ, hd1⟩ := C
  intro r u' hF H locs ls hP hS hl
  exact lv_imul hx hb hdg (k r u' hF H locs ls hP hS hl)
theorem G_iand (C : zCx p s m args meth c as dA D SH d nL own cc ret) {x y : Int32} (hdg : decode cc pc = .ok (.iand, 1)) (k : Go p l e s m args below meth c as dA D SH d nL Qk  (pc + 1) L (.int (x &&& y) :: st) u F) : Go p l e s m args below meth c as dA D SH d nL Qk  pc L (.int y :: .int x :: st) u F := by
  obtain ⟨hx, hb, hml, hown, hts, hr, hlk, hK, hI, hZ, hd1⟩ := C
  intro r u' hF H locs ls hP hS hl
  exact lv_iand hx hb hdg (k r u' hF H locs ls hP hS hl)
theorem G_ior (C : zCx p s m args meth c as dA D SH d nL own cc ret) {x y : Int32} (hdg : decode cc pc = .ok (.ior, 1)) (k : Go p l e s m args below meth c as dA D SH d nL Qk  (pc + 1) L (.int (x ||| y) :: st) u F) : Go p l e s m args below meth c as dA D SH d nL Qk  pc L (.int y :: .int x :: st) u F := by
  obtain ⟨hx, hb, hml, hown, hts, hr, hlk, hK, hI, hZ, hd1⟩ := C
  intro r u' hF H locs ls hP hS hl
  exact lv_ior hx hb hdg (k r u' hF H locs ls hP hS hl)
theorem G_ixor (C : zCx p s m args meth c as dA D SH d nL own cc ret) {x y : Int32} (hdg : decode cc pc = .ok (.ixor, 1)) (k : Go p l e s m args below meth c as dA D SH d nL Qk  (pc + 1) L (.int (x ^^^ y) :: st) u F) : Go p l e s m args below meth c as dA D SH d nL Qk  pc L (.int y :: .int x :: st) u F := by
  obtain ⟨hx, hb, hml, hown, hts, hr, hlk, hK, hI, hZ, hd1⟩ := C
  intro r u' hF H locs ls hP hS hl
  exact lv_ixor hx hb hdg (k r u' hF H locs ls hP hS hl)
theorem G_idiv (C : zCx p s m args meth c as dA D SH d nL own cc ret) {x y : Int32} (hdg : decode cc pc = .ok (.idiv, 1)) (hne : ¬ y = 0) (k : Go p l e s m args below meth c as dA D SH d nL Qk  (pc + 1) L (.int (x / y) :: st) u F) : Go p l e s m args below meth c as dA D SH d nL Qk  pc L (.int y :: .int x :: st) u F := by
  obtain ⟨hx, hb, hml, hown, hts, hr, hlk, hK, hI, hZ, hd1⟩ := C
  intro r u' hF H locs ls hP hS hl
  exact lv_idiv hx hb hdg hne (k r u' hF H locs ls hP hS hl)
theorem G_irem (C : zCx p s m args meth c as dA D SH d nL own cc ret) {x y : Int32} (hdg : decode cc pc = .ok (.irem, 1)) (hne : ¬ y = 0) (k : Go p l e s m args below meth c as dA D SH d nL Qk  (pc + 1) L (.int (zrem x y) :: st) u F) : Go p l e s m args below meth c as dA D SH d nL Qk  pc L (.int y :: .int x :: st) u F := by
  obtain ⟨hx, hb, hml, hown, hts, hr, hlk, hK, hI, hZ, hd1⟩ := C
  intro r u' hF H locs ls hP hS hl
  exact lv_irem hx hb hdg hne (k r u' hF H locs ls hP hS hl)
theorem G_ineg (C : zCx p s m args meth c as dA D SH d nL own cc ret) {x : Int32} (hdg : decode cc pc = .ok (.ineg, 1)) (k : Go p l e s m args below meth c as dA D SH d nL Qk  (pc + 1) L (.int (-x) :: st) u F) : Go p l e s m args below meth c as dA D SH d nL Qk  pc L (.int x :: st) u F := by
  obtain ⟨hx, hb, hml, hown, hts, hr, hlk, hK, hI, hZ, hd1⟩ := C
  intro r u' hF H locs ls hP hS hl
  exact lv_ineg hx hb hdg (k r u' hF H locs ls hP hS hl)
theorem G_ishl (C : zCx p s m args meth c as dA D SH d nL own cc ret) {x y : Int32} (hdg : decode cc pc = .ok (.ishl, 1)) (k : Go p l e s m args below meth c as dA D SH d nL Qk  (pc + 1) L (.int (x <<< (y &&& 31)) :: st) u F) : Go p l e s m args below meth c as dA D SH d nL Qk  pc L (.int y :: .int x :: st) u F := by
  obtain ⟨hx, hb, hml, hown, hts, hr, hlk, hK, hI, hZ, hd1⟩ := C
  intro r u' hF H locs ls hP hS hl
  exact lv_ishl hx hb hdg (k r u' hF H locs ls hP hS hl)
theorem G_ishr (C : zCx p s m args meth c as dA D SH d nL own cc ret) {x y : Int32} (hdg : decode cc pc = .ok (.ishr, 1)) (k : Go p l e s m args below meth c as dA D SH d nL Qk  (pc + 1) L (.int (x >>> (y &&& 31)) :: st) u F) : Go p l e s m args below meth c as dA D SH d nL Qk  pc L (.int y :: .int x :: st) u F := by
  obtain ⟨hx, hb, hml, hown, hts, hr, hlk, hK, hI, hZ, hd1⟩ := C
  intro r u' hF H locs ls hP hS hl
  exact lv_ishr hx hb hdg (k r u' hF H locs ls hP hS hl)
theorem G_iushr (C : zCx p s m args meth c as dA D SH d nL own cc ret) {x y : Int32} (hdg : decode cc pc = .ok (.iushr, 1)) (k : Go p l e s m args below meth c as dA D SH d nL Qk  (pc + 1) L (.int ((x.toUInt32 >>> (y.toUInt32 &&& Int32.toUInt32 31)).toInt32) :: st) u F) : Go p l e s m args below meth c as dA D SH d nL Qk  pc L (.int y :: .int x :: st) u F := by
  obtain ⟨hx, hb, hml, hown, hts, hr, hlk, hK, hI, hZ, hd1⟩ := C
  intro r u' hF H locs ls hP hS hl
  exact lv_iushr hx hb hdg rfl (k r u' hF H locs ls hP hS hl)
theorem G_ladd (C : zCx p s m args meth c as dA D SH d nL own cc ret) {x y : Int64} (hdg : decode cc pc = .ok (.ladd, 1)) (k : Go p l e s m args below meth c as dA D SH d nL Qk  (pc + 1) L (.long (x + y) :: st) u F) : Go p l e s m args below meth c as dA D SH d nL Qk  pc L (.long y :: .long x :: st) u F := by
  obtain ⟨hx, hb, hml, hown, hts, hr, hlk, hK, hI, hZ, hd1⟩ := C
  intro r u' hF H locs ls hP hS hl
  exact lv_ladd hx hb hdg (k r u' hF H locs ls hP hS hl)
theorem G_land (C : zCx p s m args meth c as dA D SH d nL own cc ret) {x y : Int64} (hdg : decode cc pc = .ok (.land, 1)) (k : Go p l e s m args below meth c as dA D SH d nL Qk  (pc + 1) L (.long (x &&& y) :: st) u F) : Go p l e s m args below meth c as dA D SH d nL Qk  pc L (.long y :: .long x :: st) u F := by
  obtain ⟨hx, hb, hml, hown, hts, hr, hlk, hK, hI, hZ, hd1⟩ := C
  intro r u' hF H locs ls hP hS hl
  exact lv_land hx hb hdg (k r u' hF H locs ls hP hS hl)
theorem G_lor (C : zCx p s m args meth c as dA D SH d nL own cc ret) {x y : Int64} (hdg : decode cc pc = .ok (.lor, 1)) (k : Go p l e s m args below meth c as dA D SH d nL Qk  (pc + 1) L (.long (x ||| y) :: st) u F) : Go p l e s m args below meth c as dA D SH d nL Qk  pc L (.long y :: .long x :: st) u F := by
  obtain ⟨hx, hb, hml, hown, hts, hr, hlk, hK, hI, hZ, hd1⟩ := C
  intro r u' hF H locs ls hP hS hl
  exact lv_lor hx hb hdg (k r u' hF H locs ls hP hS hl)
theorem G_lshl (C : zCx p s m args meth c as dA D SH d nL own cc ret) {x : Int64} {y : Int32} (hdg : decode cc pc = .ok (.lshl, 1)) (k : Go p l e s m args below meth c as dA D SH d nL Qk  (pc + 1) L (.long (x <<< (y.toInt64 &&& 63)) :: st) u F) : Go p l e s m args below meth c as dA D SH d nL Qk  pc L (.int y :: .long x :: st) u F := by
  obtain ⟨hx, hb, hml, hown, hts, hr, hlk, hK, hI, hZ, hd1⟩ := C
  intro r u' hF H locs ls hP hS hl
  exact lv_lshl hx hb hdg rfl (k r u' hF H locs ls hP hS hl)
theorem G_i2b (C : zCx p s m args meth c as dA D SH d nL own cc ret) {x : Int32} (hdg : decode cc pc = .ok (.i2b, 1)) (k : Go p l e s m args below meth c as dA D SH d nL Qk  (pc + 1) L (.int (x.toInt8.toInt32) :: st) u F) : Go p l e s m args below meth c as dA D SH d nL Qk  pc L (.int x :: st) u F := by
  obtain ⟨hx, hb, hml, hown, hts, hr, hlk, hK, hI, hZ, hd1⟩ := C
  intro r u' hF H locs ls hP hS hl
  exact lv_i2b hx hb hdg rfl (k r u' hF H locs ls hP hS hl)
theorem G_i2s (C : zCx p s m args meth c as dA D SH d nL own cc ret) {x : Int32} (hdg : decode cc pc = .ok (.i2s, 1)) (k : Go p l e s m args below meth c as dA D SH d nL Qk  (pc + 1) L (.int (x.toInt16.toInt32) :: st) u F) : Go p l e s m args below meth c as dA D SH d nL Qk  pc L (.int x :: st) u F := by
  obtain ⟨hx, hb, hml, hown, hts, hr, hlk, hK, hI, hZ, hd1⟩ := C
  intro r u' hF H locs ls hP hS hl
  exact lv_i2s hx hb hdg rfl (k r u' hF H locs ls hP hS hl)
theorem G_i2c (C : zCx p s m args meth c as dA D SH d nL own cc ret) {x : Int32} (hdg : decode cc pc = .ok (.i2c, 1)) (k : Go p l e s m args below meth c as dA D SH d nL Qk  (pc + 1) L (.int ((x.toUInt32 % 65536).toInt32) :: st) u F) : Go p l e s m args below meth c as dA D SH d nL Qk  pc L (.int x :: st) u F := by
  obtain ⟨hx, hb, hml, hown, hts, hr, hlk, hK, hI, hZ, hd1⟩ := C
  intro r u' hF H locs ls hP hS hl
  exact lv_i2c hx hb hdg rfl (k r u' hF H locs ls hP hS hl)
theorem G_i2l (C : zCx p s m args meth c as dA D SH d nL own cc ret) {x : Int32} (hdg : decode cc pc = .ok (.i2l, 1)) (k : Go p l e s m args below meth c as dA D SH d nL Qk  (pc + 1) L (.long x.toInt64 :: st) u F) : Go p l e s m args below meth c as dA D SH d nL Qk  pc L (.int x :: st) u F := by
  obtain ⟨hx, hb, hml, hown, hts, hr, hlk, hK, hI, hZ, hd1⟩ := C
  intro r u' hF H locs ls hP hS hl
  exact lv_i2l hx hb hdg rfl (k r u' hF H locs ls hP hS hl)
theorem G_l2i (C : zCx p s m args meth c as dA D SH d nL own cc ret) {x : Int64} (hdg : decode cc pc = .ok (.l2i, 1)) (k : Go p l e s m args below meth c as dA D SH d nL Qk  (pc + 1) L (.int x.toInt32 :: st) u F) : Go p l e s m args below meth c as dA D SH d nL Qk  pc L (.long x :: st) u F := by
  obtain ⟨hx, hb, hml, hown, hts, hr, hlk, hK, hI, hZ, hd1⟩ := C
  intro r u' hF H locs ls hP hS hl
  exact lv_l2i hx hb hdg rfl (k r u' hF H locs ls hP hS hl)
theorem G_lcmp (C : zCx p s m args meth c as dA D SH d nL own cc ret) {x y : Int64} (hdg : decode cc pc = .ok (.lcmp, 1)) (k : Go p l e s m args below meth c as dA D SH d nL Qk  (pc + 1) L (.int (lg_cmp x y) :: st) u F) : Go p l e s m args below meth c as dA D SH d nL Qk  pc L (.long y :: .long x :: st) u F := by
  obtain ⟨hx, hb, hml, hown, hts, hr, hlk, hK, hI, hZ, hd1⟩ := C
  intro r u' hF H locs ls hP hS hl
  exact W.lcmp hx hb hdg (k r u' hF H locs ls hP hS hl)
theorem G_dup (C : zCx p s m args meth c as dA D SH d nL own cc ret) {v : Value} (hdg : decode cc pc = .ok (.dup, 1)) (hv : v.category = 1) (k : Go p l e s m args below meth c as dA D SH d nL Qk  (pc + 1) L (v :: v :: st) u F) : Go p l e s m args below meth c as dA D SH d nL Qk  pc L (v :: st) u F := by
  obtain ⟨hx, hb, hml, hown, hts, hr, hlk, hK, hI, hZ, hd1⟩ := C
  intro r u' hF H locs ls hP hS hl
  exact lv_dup hx hb hdg ((zr_cat as v).trans hv) (k r u' hF H locs ls hP hS hl)
theorem G_dup2 (C : zCx p s m args meth c as dA D SH d nL own cc ret) {v w : Value} (hdg : decode cc pc = .ok (.dup2, 1)) (hv : v.category = 1) (hw : w.category = 1) (k : Go p l e s m args below meth c as dA D SH d nL Qk  (pc + 1) L (v :: w :: v :: w :: st) u F) : Go p l e s m args below meth c as dA D SH d nL Qk  pc L (v :: w :: st) u F := by
  obtain ⟨hx, hb, hml, hown, hts, hr, hlk, hK, hI, hZ, hd1⟩ := C
  intro r u' hF H locs ls hP hS hl
  exact lv_dup2_11 hx hb hdg ((zr_cat as v).trans hv) ((zr_cat as w).trans hw) (k r u' hF H locs ls hP hS hl)
theorem G_pop (C : zCx p s m args meth c as dA D SH d nL own cc ret) {v : Value} (hdg : decode cc pc = .ok (.pop, 1)) (hv : v.category = 1) (k : Go p l e s m args below meth c as dA D SH d nL Qk  (pc + 1) L st u F) : Go p l e s m args below meth c as dA D SH d nL Qk  pc L (v :: st) u F := by
  obtain ⟨hx, hb, hml, hown, hts, hr, hlk, hK, hI, hZ, hd1⟩ := C
  intro r u' hF H locs ls hP hS hl
  exact lv_pop hx hb hdg ((zr_cat as v).trans hv) (k r u' hF H locs ls hP hS hl)
theorem G_null (C : zCx p s m args meth c as dA D SH d nL own cc ret) (hdg : decode cc pc = .ok (.aconst_null, 1)) (k : Go p l e s m args below meth c as dA D SH d nL Qk  (pc + 1) L (.null :: st) u F) : Go p l e s m args below meth c as dA D SH d nL Qk  pc L st u F := by
  obtain ⟨hx, hb, hml, hown, hts, hr, hlk, hK, hI, hZ, hd1⟩ := C
  intro r u' hF H locs ls hP hS hl
  exact lv_null hx hb hdg (k r u' hF H locs ls hP hS hl)
theorem G_iload_n (C : zCx p s m args meth c as dA D SH d nL own cc ret) {n : Fin 4} {i : Nat} {x : Int32} (q : Nat) (hdg : decode cc pc = .ok (.iload_n n, 1)) (hi : (n : Nat) = i) (hq : L[q]? = some (i, .int x)) (k : Go p l e s m args below meth c as dA D SH d nL Qk  (pc + 1) L (.int x :: st) u F) : Go p l e s m args below meth c as dA D SH d nL Qk  pc L st u F := by
  obtain ⟨hx, hb, hml, hown, hts, hr, hlk, hK, hI, hZ, hd1⟩ := C
  intro r u' hF H locs ls hP hS hl
  exact lv_iload_n hx hb hdg hi (lv_at hl q (zL_at hq)) (k r u' hF H locs ls hP hS hl)
theorem G_iload (C : zCx p s m args meth c as dA D SH d nL own cc ret) {i : Nat} {x : Int32} (q : Nat) (hdg : decode cc pc = .ok (.iload i, 2)) (hq : L[q]? = some (i, .int x)) (k : Go p l e s m args below meth c as dA D SH d nL Qk  (pc + 2) L (.int x :: st) u F) : Go p l e s m args below meth c as dA D SH d nL Qk  pc L st u F := by
  obtain ⟨hx, hb, hml, hown, hts, hr, hlk, hK, hI, hZ, hd1⟩ := C
  intro r u' hF H locs ls hP hS hl
  exact lv_iload hx hb hdg (lv_at hl q (zL_at hq)) (k r u' hF H locs ls hP hS hl)
theorem G_lload_n (C : zCx p s m args meth c as dA D SH d nL own cc ret) {n : Fin 4} {i : Nat} {x : Int64} (q : Nat) (hdg : decode cc pc = .ok (.lload_n n, 1)) (hi : (n : Nat) = i) (hq : L[q]? = some (i, .long x)) (k : Go p l e s m args below meth c as dA D SH d nL Qk  (pc + 1) L (.long x :: st) u F) : Go p l e s m args below meth c as dA D SH d nL Qk  pc L st u F := by
  obtain ⟨hx, hb, hml, hown, hts, hr, hlk, hK, hI, hZ, hd1⟩ := C
  intro r u' hF H locs ls hP hS hl
  exact lv_lload_n hx hb hdg hi (lv_at hl q (zL_at hq)) (k r u' hF H locs ls hP hS hl)
theorem G_lload (C : zCx p s m args meth c as dA D SH d nL own cc ret) {i : Nat} {x : Int64} (q : Nat) (hdg : decode cc pc = .ok (.lload i, 2)) (hq : L[q]? = some (i, .long x)) (k : Go p l e s m args below meth c as dA D SH d nL Qk  (pc + 2) L (.long x :: st) u F) : Go p l e s m args below meth c as dA D SH d nL Qk  pc L st u F := by
  obtain ⟨hx, hb, hml, hown, hts, hr, hlk, hK, hI, hZ, hd1⟩ := C
  intro r u' hF H locs ls hP hS hl
  exact lv_lload hx hb hdg (lv_at hl q (zL_at hq)) (k r u' hF H locs ls hP hS hl)
theorem G_aload_n (C : zCx p s m args meth c as dA D SH d nL own cc ret) {n : Fin 4} {i : Nat} {x : Nat} (q : Nat) (hdg : decode cc pc = .ok (.aload_n n, 1)) (hi : (n : Nat) = i) (hq : L[q]? = some (i, .ref x)) (k : Go p l e s m args below meth c as dA D SH d nL Qk  (pc + 1) L (.ref x :: st) u F) : Go p l e s m args below meth c as dA D SH d nL Qk  pc L st u F := by
  obtain ⟨hx, hb, hml, hown, hts, hr, hlk, hK, hI, hZ, hd1⟩ := C
  intro r u' hF H locs ls hP hS hl
  exact lv_aload_n hx hb hdg hi (lv_at hl q (zL_at hq)) (k r u' hF H locs ls hP hS hl)
theorem G_aload (C : zCx p s m args meth c as dA D SH d nL own cc ret) {i : Nat} {x : Nat} (q : Nat) (hdg : decode cc pc = .ok (.aload i, 2)) (hq : L[q]? = some (i, .ref x)) (k : Go p l e s m args below meth c as dA D SH d nL Qk  (pc + 2) L (.ref x :: st) u F) : Go p l e s m args below meth c as dA D SH d nL Qk  pc L st u F := by
  obtain ⟨hx, hb, hml, hown, hts, hr, hlk, hK, hI, hZ, hd1⟩ := C
  intro r u' hF H locs ls hP hS hl
  exact lv_aload hx hb hdg (lv_at hl q (zL_at hq)) (k r u' hF H locs ls hP hS hl)
theorem G_istore_n (C : zCx p s m args meth c as dA D SH d nL own cc ret) {n : Fin 4} {i : Nat} {x : Int32} {L' : List (Nat × Value)} (hdg : decode cc pc = .ok (.istore_n n, 1)) (hi : (n : Nat) = i) (hn : i < nL) (hL : (i, Value.int x) :: (L.filter (fun q => !(q.1 == i) && !(q.1 + 1 == i && q.2.category == 2))) = L') (k : Go p l e s m args below meth c as dA D SH d nL Qk  (pc + 1) L' st u F) : Go p l e s m args below meth c as dA D SH d nL Qk  pc L (.int x :: st) u F := by
  obtain ⟨hx, hb, hml, hown, hts, hr, hlk, hK, hI, hZ, hd1⟩ := C
  intro r u' hF H locs ls hP hS hl
  subst hL
  exact lv_istore_n hx hb hdg hi hl hn (congrArg _ (zL_f1 as i L)) (fun ls' hl' => k r u' hF H locs ls' hP hS hl')
theorem G_istore (C : zCx p s m args meth c as dA D SH d nL own cc ret) {i : Nat} {x : Int32} {L' : List (Nat × Value)} (hdg : decode cc pc = .ok (.istore i, 2)) (hn : i < nL) (hL : (i, Value.int x) :: (L.filter (fun q => !(q.1 == i) && !(q.1 + 1 == i && q.2.category == 2))) = L') (k : Go p l e s m args below meth c as dA D SH d nL Qk  (pc + 2) L' st u F) : Go p l e s m args below meth c as dA D SH d nL Qk  pc L (.int x :: st) u F := by
  obtain ⟨hx, hb, hml, hown, hts, hr, hlk, hK, hI, hZ, hd1⟩ := C
  intro r u' hF H locs ls hP hS hl
  subst hL
  exact lv_istore hx hb hdg hl hn (congrArg _ (zL_f1 as i L)) (fun ls' hl' => k r u' hF H locs ls' hP hS hl')
theorem G_astore_n (C : zCx p s m args meth c as dA D SH d nL own cc ret) {n : Fin 4} {i : Nat} {x : Nat} {L' : List (Nat × Value)} (hdg : decode cc pc = .ok (.astore_n n, 1)) (hi : (n : Nat) = i) (hn : i < nL) (hL : (i, Value.ref x) :: (L.filter (fun q => !(q.1 == i) && !(q.1 + 1 == i && q.2.category == 2))) = L') (k : Go p l e s m args below meth c as dA D SH d nL Qk  (pc + 1) L' st u F) : Go p l e s m args below meth c as dA D SH d nL Qk  pc L (.ref x :: st) u F := by
  obtain ⟨hx, hb, hml, hown, hts, hr, hlk, hK, hI, hZ, hd1⟩ := C
  intro r u' hF H locs ls hP hS hl
  subst hL
  exact lv_astore_n hx hb hdg hi hl hn (congrArg _ (zL_f1 as i L)) (fun ls' hl' => k r u' hF H locs ls' hP hS hl')
theorem G_astore (C : zCx p s m args meth c as dA D SH d nL own cc ret) {i : Nat} {x : Nat} {L' : List (Nat × Value)} (hdg : decode cc pc = .ok (.astore i, 2)) (hn : i < nL) (hL : (i, Value.ref x) :: (L.filter (fun q => !(q.1 == i) && !(q.1 + 1 == i && q.2.category == 2))) = L') (k : Go p l e s m args below meth c as dA D SH d nL Qk  (pc + 2) L' st u F) : Go p l e s m args below meth c as dA D SH d nL Qk  pc L (.ref x :: st) u F := by
  obtain ⟨hx, hb, hml, hown, hts, hr, hlk, hK, hI, hZ, hd1⟩ := C
  intro r u' hF H locs ls hP hS hl
  subst hL
  exact lv_astore hx hb hdg hl hn (congrArg _ (zL_f1 as i L)) (fun ls' hl' => k r u' hF H locs ls' hP hS hl')
theorem G_iinc (C : zCx p s m args meth c as dA D SH d nL own cc ret) {i : Nat} {n : Int} {x v : Int32} {L' : List (Nat × Value)} (q : Nat) (hdg : decode cc pc = .ok (.iinc i n, 3)) (hq : L[q]? = some (i, .int x)) (hv : Int32.ofInt n = v) (hn : i < nL) (hL : (i, Value.int (x + v)) :: (L.filter (fun q => !(q.1 == i) && !(q.1 + 1 == i && q.2.category == 2))) = L') (k : Go p l e s m args below meth c as dA D SH d nL Qk  (pc + 3) L' st u F) : Go p l e s m args below meth c as dA D SH d nL Qk  pc L st u F := by
  obtain ⟨hx, hb, hml, hown, hts, hr, hlk, hK, hI, hZ, hd1⟩ := C
  intro r u' hF H locs ls hP hS hl
  subst hL; subst hv
  exact lv_iinc hx hb hdg hl (zL_at hq) rfl hn (congrArg _ (zL_f1 as i L)) (fun ls' hl' => k r u' hF H locs ls' hP hS hl')
theorem G_if_eq (C : zCx p s m args meth c as dA D SH d nL own cc ret) {x : Int32} {off : Int} {tgt : Nat} {F1 F2 : Option (α × zM)} (hdg : decode cc pc = .ok (.ifCond .eq off, 3)) (ht : (pc : Int) + off = (tgt : Int)) (k1 : (x = 0) → Go p l e s m args below meth c as dA D SH d nL Qk  tgt L st u F1) (k2 : ¬ (x = 0) → Go p l e s m args below meth c as dA D SH d nL Qk  (pc + 3) L st u F2) : Go p l e s m args below meth c as dA D SH d nL Qk  pc L (.int x :: st) u (if (x = 0) then F1 else F2) := by
  obtain ⟨hx, hb, hml, hown, hts, hr, hlk, hK, hI, hZ, hd1⟩ := C
  intro r u' hF H locs ls hP hS hl
  refine lv_if_eq hx hb hdg ht (fun h => ?_) (fun h => ?_)
  · exact k1 h r u' (by rw [if_pos h] at hF; exact hF) H locs ls hP hS hl
  · exact k2 h r u' (by rw [if_neg h] at hF; exact hF) H locs ls hP hS hl
theorem G_icmp_eq (C : zCx p s m args meth c as dA D SH d nL own cc ret) {x y : Int32} {off : Int} {tgt : Nat} {F1 F2 : Option (α × zM)} (hdg : decode cc pc = .ok (.if_icmp .eq off, 3)) (ht : (pc : Int) + off = (tgt : Int)) (k1 : (x = y) → Go p l e s m args below meth c as dA D SH d nL Qk  tgt L st u F1) (k2 : ¬ (x = y) → Go p l e s m args below meth c as dA D SH d nL Qk  (pc + 3) L st u F2) : Go p l e s m args below meth c as dA D SH d nL Qk  pc L (.int y :: .int x :: st) u (if (x = y) then F1 else F2) := by
  obtain ⟨hx, hb, hml, hown, hts, hr, hlk, hK, hI, hZ, hd1⟩ := C
  intro r u' hF H locs ls hP hS hl
  refine lv_icmp_eq hx hb hdg ht (fun h => ?_) (fun h => ?_)
  · exact k1 h r u' (by rw [if_pos h] at hF; exact hF) H locs ls hP hS hl
  · exact k2 h r u' (by rw [if_neg h] at hF; exact hF) H locs ls hP hS hl
theorem G_if_ne (C : zCx p s m args meth c as dA D SH d nL own cc ret) {x : Int32} {off : Int} {tgt : Nat} {F1 F2 : Option (α × zM)} (hdg : decode cc pc = .ok (.ifCond .ne off, 3)) (ht : (pc : Int) + off = (tgt : Int)) (k1 : ¬ (x = 0) → Go p l e s m args below meth c as dA D SH d nL Qk  tgt L st u F1) (k2 : (x = 0) → Go p l e s m args below meth c as dA D SH d nL Qk  (pc + 3) L st u F2) : Go p l e s m args below meth c as dA D SH d nL Qk  pc L (.int x :: st) u (if (x = 0) then F2 else F1) := by
  obtain ⟨hx, hb, hml, hown, hts, hr, hlk, hK, hI, hZ, hd1⟩ := C
  intro r u' hF H locs ls hP hS hl
  refine lv_if_ne hx hb hdg ht (fun h => ?_) (fun h => ?_)
  · exact k1 h r u' (by rw [if_neg h] at hF; exact hF) H locs ls hP hS hl
  · exact k2 h r u' (by rw [if_pos h] at hF; exact hF) H locs ls hP hS hl
theorem G_icmp_ne (C : zCx p s m args meth c as dA D SH d nL own cc ret) {x y : Int32} {off : Int} {tgt : Nat} {F1 F2 : Option (α × zM)} (hdg : decode cc pc = .ok (.if_icmp .ne off, 3)) (ht : (pc : Int) + off = (tgt : Int)) (k1 : ¬ (x = y) → Go p l e s m args below meth c as dA D SH d nL Qk  tgt L st u F1) (k2 : (x = y) → Go p l e s m args below meth c as dA D SH d nL Qk  (pc + 3) L st u F2) : Go p l e s m args below meth c as dA D SH d nL Qk  pc L (.int y :: .int x :: st) u (if (x = y) then F2 else F1) := by
  obtain ⟨hx, hb, hml, hown, hts, hr, hlk, hK, hI, hZ, hd1⟩ := C
  intro r u' hF H locs ls hP hS hl
  refine lv_icmp_ne hx hb hdg ht (fun h => ?_) (fun h => ?_)
  · exact k1 h r u' (by rw [if_neg h] at hF; exact hF) H locs ls hP hS hl
  · exact k2 h r u' (by rw [if_pos h] at hF; exact hF) H locs ls hP hS hl
theorem G_if_lt (C : zCx p s m args meth c as dA D SH d nL own cc ret) {x : Int32} {off : Int} {tgt : Nat} {F1 F2 : Option (α × zM)} (hdg : decode cc pc = .ok (.ifCond .lt off, 3)) (ht : (pc : Int) + off = (tgt : Int)) (k1 : (x < 0) → Go p l e s m args below meth c as dA D SH d nL Qk  tgt L st u F1) (k2 : ¬ (x < 0) → Go p l e s m args below meth c as dA D SH d nL Qk  (pc + 3) L st u F2) : Go p l e s m args below meth c as dA D SH d nL Qk  pc L (.int x :: st) u (if (x < 0) then F1 else F2) := by
  obtain ⟨hx, hb, hml, hown, hts, hr, hlk, hK, hI, hZ, hd1⟩ := C
  intro r u' hF H locs ls hP hS hl
  refine lv_if_lt hx hb hdg ht (fun h => ?_) (fun h => ?_)
  · exact k1 h r u' (by rw [if_pos h] at hF; exact hF) H locs ls hP hS hl
  · exact k2 h r u' (by rw [if_neg h] at hF; exact hF) H locs ls hP hS hl
theorem G_icmp_lt (C : zCx p s m args meth c as dA D SH d nL own cc ret) {x y : Int32} {off : Int} {tgt : Nat} {F1 F2 : Option (α × zM)} (hdg : decode cc pc = .ok (.if_icmp .lt off, 3)) (ht : (pc : Int) + off = (tgt : Int)) (k1 : (x < y) → Go p l e s m args below meth c as dA D SH d nL Qk  tgt L st u F1) (k2 : ¬ (x < y) → Go p l e s m args below meth c as dA D SH d nL Qk  (pc + 3) L st u F2) : Go p l e s m args below meth c as dA D SH d nL Qk  pc L (.int y :: .int x :: st) u (if (x < y) then F1 else F2) := by
  obtain ⟨hx, hb, hml, hown, hts, hr, hlk, hK, hI, hZ, hd1⟩ := C
  intro r u' hF H locs ls hP hS hl
  refine lv_icmp_lt hx hb hdg ht (fun h => ?_) (fun h => ?_)
  · exact k1 h r u' (by rw [if_pos h] at hF; exact hF) H locs ls hP hS hl
  · exact k2 h r u' (by rw [if_neg h] at hF; exact hF) H locs ls hP hS hl
theorem G_if_ge (C : zCx p s m args meth c as dA D SH d nL own cc ret) {x : Int32} {off : Int} {tgt : Nat} {F1 F2 : Option (α × zM)} (hdg : decode cc pc = .ok (.ifCond .ge off, 3)) (ht : (pc : Int) + off = (tgt : Int)) (k1 : (0 ≤ x) → Go p l e s m args below meth c as dA D SH d nL Qk  tgt L st u F1) (k2 : ¬ (0 ≤ x) → Go p l e s m args below meth c as dA D SH d nL Qk  (pc + 3) L st u F2) : Go p l e s m args below meth c as dA D SH d nL Qk  pc L (.int x :: st) u (if (0 ≤ x) then F1 else F2) := by
  obtain ⟨hx, hb, hml, hown, hts, hr, hlk, hK, hI, hZ, hd1⟩ := C
  intro r u' hF H locs ls hP hS hl
  refine lv_if_ge hx hb hdg ht (fun h => ?_) (fun h => ?_)
  · exact k1 h r u' (by rw [if_pos h] at hF; exact hF) H locs ls hP hS hl
  · exact k2 h r u' (by rw [if_neg h] at hF; exact hF) H locs ls hP hS hl
theorem G_icmp_ge (C : zCx p s m args meth c as dA D SH d nL own cc ret) {x y : Int32} {off : Int} {tgt : Nat} {F1 F2 : Option (α × zM)} (hdg : decode cc pc = .ok (.if_icmp .ge off, 3)) (ht : (pc : Int) + off = (tgt : Int)) (k1 : (y ≤ x) → Go p l e s m args below meth c as dA D SH d nL Qk  tgt L st u F1) (k2 : ¬ (y ≤ x) → Go p l e s m args below meth c as dA D SH d nL Qk  (pc + 3) L st u F2) : Go p l e s m args below meth c as dA D SH d nL Qk  pc L (.int y :: .int x :: st) u (if (y ≤ x) then F1 else F2) := by
  obtain ⟨hx, hb, hml, hown, hts, hr, hlk, hK, hI, hZ, hd1⟩ := C
  intro r u' hF H locs ls hP hS hl
  refine lv_icmp_ge hx hb hdg ht (fun h => ?_) (fun h => ?_)
  · exact k1 h r u' (by rw [if_pos h] at hF; exact hF) H locs ls hP hS hl
  · exact k2 h r u' (by rw [if_neg h] at hF; exact hF) H locs ls hP hS hl
theorem G_if_gt (C : zCx p s m args meth c as dA D SH d nL own cc ret) {x : Int32} {off : Int} {tgt : Nat} {F1 F2 : Option (α × zM)} (hdg : decode cc pc = .ok (.ifCond .gt off, 3)) (ht : (pc : Int) + off = (tgt : Int)) (k1 : (0 < x) → Go p l e s m args below meth c as dA D SH d nL Qk  tgt L st u F1) (k2 : ¬ (0 < x) → Go p l e s m args below meth c as dA D SH d nL Qk  (pc + 3) L st u F2) : Go p l e s m args below meth c as dA D SH d nL Qk  pc L (.int x :: st) u (if (0 < x) then F1 else F2) := by
  obtain ⟨hx, hb, hml, hown, hts, hr, hlk, hK, hI, hZ, hd1⟩ := C
  intro r u' hF H locs ls hP hS hl
  refine lv_if_gt hx hb hdg ht (fun h => ?_) (fun h => ?_)
  · exact k1 h r u' (by rw [if_pos h] at hF; exact hF) H locs ls hP hS hl
  · exact k2 h r u' (by rw [if_neg h] at hF; exact hF) H locs ls hP hS hl
theorem G_icmp_gt (C : zCx p s m args meth c as dA D SH d nL own cc ret) {x y : Int32} {off : Int} {tgt : Nat} {F1 F2 : Option (α × zM)} (hdg : decode cc pc = .ok (.if_icmp .gt off, 3)) (ht : (pc : Int) + off = (tgt : Int)) (k1 : (y < x) → Go p l e s m args below meth c as dA D SH d nL Qk  tgt L st u F1) (k2 : ¬ (y < x) → Go p l e s m args below meth c as dA D SH d nL Qk  (pc + 3) L st u F2) : Go p l e s m args below meth c as dA D SH d nL Qk  pc L (.int y :: .int x :: st) u (if (y < x) then F1 else F2) := by
  obtain ⟨hx, hb, hml, hown, hts, hr, hlk, hK, hI, hZ, hd1⟩ := C
  intro r u' hF H locs ls hP hS hl
  refine lv_icmp_gt hx hb hdg ht (fun h => ?_) (fun h => ?_)
  · exact k1 h r u' (by rw [if_pos h] at hF; exact hF) H locs ls hP hS hl
  · exact k2 h r u' (by rw [if_neg h] at hF; exact hF) H locs ls hP hS hl
theorem G_if_le (C : zCx p s m args meth c as dA D SH d nL own cc ret) {x : Int32} {off : Int} {tgt : Nat} {F1 F2 : Option (α × zM)} (hdg : decode cc pc = .ok (.ifCond .le off, 3)) (ht : (pc : Int) + off = (tgt : Int)) (k1 : (x ≤ 0) → Go p l e s m args below meth c as dA D SH d nL Qk  tgt L st u F1) (k2 : ¬ (x ≤ 0) → Go p l e s m args below meth c as dA D SH d nL Qk  (pc + 3) L st u F2) : Go p l e s m args below meth c as dA D SH d nL Qk  pc L (.int x :: st) u (if (x ≤ 0) then F1 else F2) := by
  obtain ⟨hx, hb, hml, hown, hts, hr, hlk, hK, hI, hZ, hd1⟩ := C
  intro r u' hF H locs ls hP hS hl
  refine lv_if_le hx hb hdg ht (fun h => ?_) (fun h => ?_)
  · exact k1 h r u' (by rw [if_pos h] at hF; exact hF) H locs ls hP hS hl
  · exact k2 h r u' (by rw [if_neg h] at hF; exact hF) H locs ls hP hS hl
theorem G_icmp_le (C : zCx p s m args meth c as dA D SH d nL own cc ret) {x y : Int32} {off : Int} {tgt : Nat} {F1 F2 : Option (α × zM)} (hdg : decode cc pc = .ok (.if_icmp .le off, 3)) (ht : (pc : Int) + off = (tgt : Int)) (k1 : (x ≤ y) → Go p l e s m args below meth c as dA D SH d nL Qk  tgt L st u F1) (k2 : ¬ (x ≤ y) → Go p l e s m args below meth c as dA D SH d nL Qk  (pc + 3) L st u F2) : Go p l e s m args below meth c as dA D SH d nL Qk  pc L (.int y :: .int x :: st) u (if (x ≤ y) then F1 else F2) := by
  obtain ⟨hx, hb, hml, hown, hts, hr, hlk, hK, hI, hZ, hd1⟩ := C
  intro r u' hF H locs ls hP hS hl
  refine lv_icmp_le hx hb hdg ht (fun h => ?_) (fun h => ?_)
  · exact k1 h r u' (by rw [if_pos h] at hF; exact hF) H locs ls hP hS hl
  · exact k2 h r u' (by rw [if_neg h] at hF; exact hF) H locs ls hP hS hl
theorem G_goto (C : zCx p s m args meth c as dA D SH d nL own cc ret) {off : Int} {tgt : Nat} (hdg : decode cc pc = .ok (.goto off, 3)) (ht : (pc : Int) + off = (tgt : Int)) (k : Go p l e s m args below meth c as dA D SH d nL Qk  tgt L st u F) : Go p l e s m args below meth c as dA D SH d nL Qk  pc L st u F := by
  obtain ⟨hx, hb, hml, hown, hts, hr, hlk, hK, hI, hZ, hd1⟩ := C
  intro r u' hF H locs ls hP hS hl
  exact lv_goto hx hb hdg ht (k r u' hF H locs ls hP hS hl)
theorem G_ifnull (C : zCx p s m args meth c as dA D SH d nL own cc ret) {x : Nat} {off : Int} (hdg : decode cc pc = .ok (.ifnull off, 3)) (k : Go p l e s m args below meth c as dA D SH d nL Qk  (pc + 3) L st u F) : Go p l e s m args below meth c as dA D SH d nL Qk  pc L (.ref x :: st) u F := by
  obtain ⟨hx, hb, hml, hown, hts, hr, hlk, hK, hI, hZ, hd1⟩ := C
  intro r u' hF H locs ls hP hS hl
  exact lv_ifnull hx hb hdg (k r u' hF H locs ls hP hS hl)
theorem G_ifnullN (C : zCx p s m args meth c as dA D SH d nL own cc ret) {off : Int} {tgt : Nat} (hdg : decode cc pc = .ok (.ifnull off, 3)) (ht : (pc : Int) + off = (tgt : Int)) (k : Go p l e s m args below meth c as dA D SH d nL Qk  tgt L st u F) : Go p l e s m args below meth c as dA D SH d nL Qk  pc L (.null :: st) u F := by
  obtain ⟨hx, hb, hml, hown, hts, hr, hlk, hK, hI, hZ, hd1⟩ := C
  intro r u' hF H locs ls hP hS hl
  exact lv_ifnullN hx hb hdg ht (k r u' hF H locs ls hP hS hl)
theorem G_ifnonnull (C : zCx p s m args meth c as dA D SH d nL own cc ret) {x : Nat} {off : Int} {tgt : Nat} (hdg : decode cc pc = .ok (.ifnonnull off, 3)) (ht : (pc : Int) + off = (tgt : Int)) (k : Go p l e s m args below meth c as dA D SH d nL Qk  tgt L st u F) : Go p l e s m args below meth c as dA D SH d nL Qk  pc L (.ref x :: st) u F := by
  obtain ⟨hx, hb, hml, hown, hts, hr, hlk, hK, hI, hZ, hd1⟩ := C
  intro r u' hF H locs ls hP hS hl
  exact lv_ifnonnull hx hb hdg ht (k r u' hF H locs ls hP hS hl)
theorem G_ifnonnullN (C : zCx p s m args meth c as dA D SH d nL own cc ret) {off : Int} (hdg : decode cc pc = .ok (.ifnonnull off, 3)) (k : Go p l e s m args below meth c as dA D SH d nL Qk  (pc + 3) L st u F) : Go p l e s m args below meth c as dA D SH d nL Qk  pc L (.null :: st) u F := by
  obtain ⟨hx, hb, hml, hown, hts, hr, hlk, hK, hI, hZ, hd1⟩ := C
  intro r u' hF H locs ls hP hS hl
  exact lv_ifnonnullN hx hb hdg (k r u' hF H locs ls hP hS hl)
theorem G_tsOut (C : zCx p s m args meth c as dA D SH d nL own cc ret) {dflt lo hi : Int} {offs : Array Int} {len : Nat} {x : Int32} {tgt : Nat} (hdg : decode cc pc = .ok (.tableswitch dflt lo hi offs, len)) (h : x.toInt < lo ∨ hi < x.toInt) (ht : (pc : Int) + dflt = (tgt : Int)) (k : Go p l e s m args below meth c as dA D SH d nL Qk  tgt L st u F) : Go p l e s m args below meth c as dA D SH d nL Qk  pc L (.int x :: st) u F := by
  obtain ⟨hx, hb, hml, hown, hts, hr, hlk, hK, hI, hZ, hd1⟩ := C
  intro r u' hF H locs ls hP hS hl
  exact lv_tableOut hx hb hdg h ht (k r u' hF H locs ls hP hS hl)
theorem G_tsIn (C : zCx p s m args meth c as dA D SH d nL own cc ret) {dflt lo hi : Int} {offs : Array Int} {len : Nat} {x v : Int32} {off : Int} {tgt : Nat} (hdg : decode cc pc = .ok (.tableswitch dflt lo hi offs, len)) (hv : x = v) (h1 : ¬ v.toInt < lo) (h2 : ¬ hi < v.toInt) (ho : offs[(v.toInt - lo).toNat]? = some off) (ht : (pc : Int) + off = (tgt : Int)) (k : Go p l e s m args below meth c as dA D SH d nL Qk  tgt L st u F) : Go p l e s m args below meth c as dA D SH d nL Qk  pc L (.int x :: st) u F := by
  obtain ⟨hx, hb, hml, hown, hts, hr, hlk, hK, hI, hZ, hd1⟩ := C
  intro r u' hF H locs ls hP hS hl
  subst hv
  exact lv_tableIn hx hb hdg h1 h2 ho ht (k r u' hF H locs ls hP hS hl)
theorem G_lsw (C : zCx p s m args meth c as dA D SH d nL own cc ret) {dflt : Int} {ps : Array (Int × Int)} {len : Nat} {x : Int32} {off : Int} {tgt : Nat} (hdg : decode cc pc = .ok (.lookupswitch dflt ps, len)) (hp : (ps.toList.zip (ps.toList.drop 1)).all (fun (a, next) => a.1 < next.1) = true) (ho : Op.lookupswitch.offset ps.toList dflt x.toInt = off) (ht : (pc : Int) + off = (tgt : Int)) (k : Go p l e s m args below meth c as dA D SH d nL Qk  tgt L st u F) : Go p l e s m args below meth c as dA D SH d nL Qk  pc L (.int x :: st) u F := by
  obtain ⟨hx, hb, hml, hown, hts, hr, hlk, hK, hI, hZ, hd1⟩ := C
  intro r u' hF H locs ls hP hS hl
  exact lv_lookup hx hb hdg hp ho ht (k r u' hF H locs ls hP hS hl)
end GoRules
end
section
/-! ===== fields, arrays, calls, ends ===== -/
section GoMem
variable {p : Program} {l : Launch} {e : Env} {s : State} {m : MethodId} {args : Array Value} {below : List Frame} {meth : Method} {c : Code} {as : Nat → Nat} {dA : Nat → ClassId} {D : va_G} {SH : List zS} {d nL : Nat} {α : Type} {Qk : (Nat → Nat) → (Nat → ClassId) → va_G → List zS → Nat → α → zM → Array Value → State → Outcome → State → Prop}
variable {own : String} {cc : ByteArray} {ret : Option FieldType} {pc : Nat} {L : List (Nat × Value)} {st : List Value} {u : zM} {F : Option (α × zM)}
theorem zgood_of {ws : List Cond} (h : ∀ w ∈ ws, w ∈ zTb) : GoodIn zTb ws := fun w hw => ⟨h w hw, good_of_word (zt_good (h w hw))⟩
theorem zw_obj {a ci : Nat} {ks : List Nat} (hs : SH[a]? = some (.inl (ci, ks))) : (zw as dA SH u)[a]? = some (as a, .inr (ci, ks.mapIdx (fun k kd => zfield as u a k kd))) := zw_get hs
theorem zw_arr {a : Nat} {r : Nat × Nat × Nat × Nat} (hs : SH[a]? = some (.inr r)) : (zw as dA SH u)[a]? = some (as a, .inl (dA r.1, zarr as u a r.2.1 r.2.2.1 r.2.2.2 r.1)) := zw_get hs
theorem zf_get {a k kd : Nat} {ks : List Nat} (hk : ks[k]? = some kd) : (ks.mapIdx (fun k kd => zfield as u a k kd))[k]? = some (zfield as u a k kd) := by
  rw [List.getElem?_mapIdx, hk]
  rfl
theorem zf_len {a k kd : Nat} {ks : List Nat} (hk : ks[k]? = some kd) : k < (ks.mapIdx (fun k kd => zfield as u a k kd)).length := by
  rw [List.length_mapIdx]
  exact (List.getElem?_eq_some_iff.mp hk).1
theorem zfield_I2 {a k : Nat} {x : Int32} (j kj : Nat) (h : j ≠ k) : zfield as (sI u a k x) a j kj = zfield as u a j kj := zfield_I kj (fun q => h q.2)
theorem zfield_O2 {a k : Nat} {x : Option Nat} (j kj : Nat) (h : j ≠ k) : zfield as (sO u a k x) a j kj = zfield as u a j kj := by
  match kj with
  | 0 => rfl
  | 1 => rfl
  | 2 => show va_rf _ = va_rf _; unfold gO sO; dsimp only; rw [if_neg (fun q => h q.2)]
  | _ + 3 => rfl
theorem gI_same {a k : Nat} {x : Int32} : gI (sI u a k x) a k = x := by unfold gI sI; dsimp only; rw [if_pos ⟨rfl, rfl⟩]
theorem gJ_same {a k : Nat} {x : Int64} : gJ (sJ u a k x) a k = x := by unfold gJ sJ; dsimp only; rw [if_pos ⟨rfl, rfl⟩]
theorem gO_same {a k : Nat} {x : Option Nat} : gO (sO u a k x) a k = x := by unfold gO sO; dsimp only; rw [if_pos ⟨rfl, rfl⟩]
theorem gI_upd {a k : Nat} {x : Int32} : gI (sI u a k x) a = upd (gI u a) k x := by
  funext j
  unfold gI sI upd
  dsimp only
  by_cases h : j = k
  · rw [if_pos ⟨rfl, h⟩, if_pos h]
  · rw [if_neg (fun q => h q.2), if_neg h]
theorem gJ_upd {a k : Nat} {x : Int64} : gJ (sJ u a k x) a = vp_updL (gJ u a) k x := by
  funext j
  unfold gJ sJ vp_updL
  dsimp only
  by_cases h : j = k
  · rw [if_pos ⟨rfl, h⟩, if_pos h]
  · rw [if_neg (fun q => h q.2), if_neg h]
/-- n numbers of one array come to another (or the same) -/
def cpI (u : zM) (a sp b dp n : Nat) : zM := (fun q j => if q = b ∧ dp ≤ j ∧ j < dp + n then u.1 a (sp + (j - dp)) else u.1 q j, u.2.1, u.2.2)
def cpJ (u : zM) (a sp b dp n : Nat) : zM := (u.1, fun q j => if q = b ∧ dp ≤ j ∧ j < dp + n then u.2.1 a (sp + (j - dp)) else u.2.1 q j, u.2.2)
def cpB (sp dp n : Int32) (n0 n1 : Nat) : Bool := decide (¬ sp < 0 ∧ ¬ dp < 0 ∧ ¬ n < 0 ∧ sp.toNatClampNeg + n.toNatClampNeg ≤ n0 ∧ dp.toNatClampNeg + n.toNatClampNeg ≤ n1)
theorem gI_cp {a sp b dp n : Nat} : gI (cpI u a sp b dp n) b = va_cpy (gI u a) (gI u b) sp dp n := by
  funext j
  unfold gI cpI va_cpy
  dsimp only
  by_cases h : dp ≤ j ∧ j < dp + n
  · rw [if_pos ⟨rfl, h⟩, if_pos h]
  · rw [if_neg (fun q => h q.2), if_neg h]
theorem gJ_cp {a sp b dp n : Nat} : gJ (cpJ u a sp b dp n) b = va_cpy (gJ u a) (gJ u b) sp dp n := by
  funext j
  unfold gJ cpJ va_cpy
  dsimp only
  by_cases h : dp ≤ j ∧ j < dp + n
  · rw [if_pos ⟨rfl, h⟩, if_pos h]
  · rw [if_neg (fun q => h q.2), if_neg h]
theorem zcell_cpI {a sp b dp n : Nat} (q : Nat) (S : zS) (h : q ≠ b) : zcell as dA (cpI u a sp b dp n) q S = zcell as dA u q S := by
  have e : gI (cpI u a sp b dp n) q = gI u q := by funext j; unfold gI cpI; dsimp only; rw [if_neg (fun z => h z.1)]
  cases S with
  | inl o =>
    have e2 : (fun j kd => zfield as (cpI u a sp b dp n) q j kd) = fun j kd => zfield as u q j kd := by
      funext j kd
      match kd with
      | 0 => show Value.int _ = Value.int _; rw [e]
      | 1 => rfl
      | 2 => rfl
      | _ + 3 => rfl
    show Sum.inr (o.1, o.2.mapIdx (fun j kd => zfield as (cpI u a sp b dp n) q j kd)) = Sum.inr (o.1, o.2.mapIdx (fun j kd => zfield as u q j kd))
    rw [e2]
  | inr r =>
    show Sum.inl _ = Sum.inl _
    congr 2
    obtain ⟨t, n, p, q⟩ := r
    dsimp only
    unfold zarr
    split <;> first | rw [e] | rfl
theorem zcell_cpJ {a sp b dp n : Nat} (q : Nat) (S : zS) (h : q ≠ b) : zcell as dA (cpJ u a sp b dp n) q S = zcell as dA u q S := by
  have e : gJ (cpJ u a sp b dp n) q = gJ u q := by funext j; unfold gJ cpJ; dsimp only; rw [if_neg (fun z => h z.1)]
  cases S with
  | inl o =>
    have e2 : (fun j kd => zfield as (cpJ u a sp b dp n) q j kd) = fun j kd => zfield as u q j kd := by
      funext j kd
      match kd with
      | 0 => rfl
      | 1 => show Value.long _ = Value.long _; rw [e]
      | 2 => rfl
      | _ + 3 => rfl
    show Sum.inr (o.1, o.2.mapIdx (fun j kd => zfield as (cpJ u a sp b dp n) q j kd)) = Sum.inr (o.1, o.2.mapIdx (fun j kd => zfield as u q j kd))
    rw [e2]
  | inr r =>
    show Sum.inl _ = Sum.inl _
    congr 2
    obtain ⟨t, n, p, q⟩ := r
    dsimp only
    unfold zarr
    split <;> first | rw [e] | rfl

theorem G_getI (C : zCx p s m args meth c as dA D SH d nL own cc ret) {ci : Nat} {Cn : String} {T : u_T} {N : Nat} (fk : Nat) {a index : Nat} {ks : List Nat} (hs : SH[a]? = some (.inl (ci, ks))) (hc : zcl[ci]? = some (Cn, T, N)) (hk : ks[fk]? = some 0) (hkN : fk < N) (hw : Cond.fieldLink own index (T fk).1 (T fk).2.1 (T fk).2.2.1 ∈ zTb) (hdg : decode cc pc = .ok (.getfield index, 3)) (k : Go p l e s m args below meth c as dA D SH d nL Qk  (pc + 3) L (.int (gI u a fk) :: st) u F) : Go p l e s m args below meth c as dA D SH d nL Qk  pc L (.ref a :: st) u F := by
  obtain ⟨hx, hb, hml, hown, hts, hr, hlk, hK, hI, hZ, hd1⟩ := C
  intro r u' hF H locs ls hP hS hl
  have hq := zcl_ok _ (List.mem_of_getElem? hc)
  obtain ⟨hin, ⟨ty0, hty⟩, hnm⟩ := hq
  exact va_get hx hb hts hin hown hK hP a (zw_obj hs) hc fk hkN (hts _ hw) (fun _ h9 => h9) (zf_get hk) hdg (k r u' hF H locs ls hP hS hl)
theorem G_getR (C : zCx p s m args meth c as dA D SH d nL own cc ret) {ci : Nat} {Cn : String} {T : u_T} {N : Nat} (fk : Nat) {a index : Nat} {ks : List Nat} {j : Nat} (hs : SH[a]? = some (.inl (ci, ks))) (hc : zcl[ci]? = some (Cn, T, N)) (hk : ks[fk]? = some (j + 3)) (hkN : fk < N) (hw : Cond.fieldLink own index (T fk).1 (T fk).2.1 (T fk).2.2.1 ∈ zTb) (hdg : decode cc pc = .ok (.getfield index, 3)) (k : Go p l e s m args below meth c as dA D SH d nL Qk  (pc + 3) L (.ref j :: st) u F) : Go p l e s m args below meth c as dA D SH d nL Qk  pc L (.ref a :: st) u F := by
  obtain ⟨hx, hb, hml, hown, hts, hr, hlk, hK, hI, hZ, hd1⟩ := C
  intro r u' hF H locs ls hP hS hl
  have hq := zcl_ok _ (List.mem_of_getElem? hc)
  obtain ⟨hin, ⟨ty0, hty⟩, hnm⟩ := hq
  exact va_get hx hb hts hin hown hK hP a (zw_obj hs) hc fk hkN (hts _ hw) (fun _ h9 => h9) (zf_get hk) hdg (k r u' hF H locs ls hP hS hl)
theorem G_getO (C : zCx p s m args meth c as dA D SH d nL own cc ret) {ci : Nat} {Cn : String} {T : u_T} {N : Nat} (fk : Nat) {a index : Nat} {ks : List Nat} {k0 : Option (α × zM)} {k1 : Nat → Option (α × zM)} (hs : SH[a]? = some (.inl (ci, ks))) (hc : zcl[ci]? = some (Cn, T, N)) (hk : ks[fk]? = some 2) (hkN : fk < N) (hw : Cond.fieldLink own index (T fk).1 (T fk).2.1 (T fk).2.2.1 ∈ zTb) (hdg : decode cc pc = .ok (.getfield index, 3)) (h0 : gO u a fk = none → Go p l e s m args below meth c as dA D SH d nL Qk  (pc + 3) L (.null :: st) u k0) (h1 : ∀ x : Nat, gO u a fk = some x → Go p l e s m args below meth c as dA D SH d nL Qk  (pc + 3) L (.ref x :: st) u (k1 x)) : Go p l e s m args below meth c as dA D SH d nL Qk  pc L (.ref a :: st) u (zmo (gO u a fk) k0 k1) := by
  obtain ⟨hx, hb, hml, hown, hts, hr, hlk, hK, hI, hZ, hd1⟩ := C
  intro r u' hF H locs ls hP hS hl
  have hq := zcl_ok _ (List.mem_of_getElem? hc)
  obtain ⟨hin, ⟨ty0, hty⟩, hnm⟩ := hq
  refine va_get hx hb hts hin hown hK hP a (zw_obj hs) hc fk hkN (hts _ hw) (fun _ h9 => h9) (zf_get hk) hdg ?_
  show W p l e (zRm d) s m args below meth c H locs 0 0 _ (F0 m (pc + 3) ls (va_rf ((gO u a fk).map as) :: st.map (zr as)))
  cases ho : gO u a fk with
  | none => rw [ho] at hF; exact h0 ho r u' hF H locs ls hP hS hl
  | some x => rw [ho] at hF; exact h1 x ho r u' hF H locs ls hP hS hl
theorem G_putI (C : zCx p s m args meth c as dA D SH d nL own cc ret) {ci : Nat} {Cn : String} {T : u_T} {N : Nat} (fk : Nat) {a index : Nat} {ks : List Nat} {ty : FieldType} {x : Int32} {F : zM → Option (α × zM)} (hs : SH[a]? = some (.inl (ci, ks))) (hc : zcl[ci]? = some (Cn, T, N)) (hk : ks[fk]? = some 0) (hkN : fk < N) (hw : Cond.fieldLink own index (T fk).1 (T fk).2.1 (T fk).2.2.1 ∈ zTb) (hfin : (T fk).2.2.2 = false) (hd : parseFieldDescriptor (T fk).2.2.1 = some ty) (hn : narrow ty (.int x) = .int x) (hfit : fits ty (.int x) = true) (hdg : decode cc pc = .ok (.putfield index, 3)) (k : ∀ v : zM, Go p l e s m args below meth c as dA D SH d nL Qk  (pc + 3) L st v (F v)) : Go p l e s m args below meth c as dA D SH d nL Qk  pc L (.int x :: .ref a :: st) u (zlet (sI u a fk x) F) := by
  obtain ⟨hx, hb, hml, hown, hts, hr, hlk, hK, hI, hZ, hd1⟩ := C
  intro r u' hF H locs ls hP hS hl
  have hq := zcl_ok _ (List.mem_of_getElem? hc)
  obtain ⟨hin, ⟨ty0, hty⟩, hnm⟩ := hq
  refine va_put hx hb hts hin ty0 hty hnm hown hK hP (zw_DA hI) hS a (zw_obj hs) hc fk hkN (hts _ hw) (fun _ h9 => h9) hfin hd hn hfit (zf_len hk) hdg (fun H1 locs1 hP1 _ hS1 => ?_)
  rw [zw_set (u' := sI u a fk x) hs (by show Sum.inr _ = Sum.inr _; rw [zfs_set hk (u' := sI u a fk x) (by show Value.int x = Value.int (gI (sI u a fk x) a fk); rw [gI_same]) (fun j kj h => zfield_I2 j kj h)]) (fun b S' h => zcell_I b S' h)] at hP1
  exact k _ r u' hF H1 locs1 ls hP1 hS1 hl
theorem G_putO (C : zCx p s m args meth c as dA D SH d nL own cc ret) {ci : Nat} {Cn : String} {T : u_T} {N : Nat} (fk : Nat) {a index : Nat} {ks : List Nat} {C2 : String} {x : Nat} {F : zM → Option (α × zM)} (hs : SH[a]? = some (.inl (ci, ks))) (hc : zcl[ci]? = some (Cn, T, N)) (hk : ks[fk]? = some 2) (hkN : fk < N) (hw : Cond.fieldLink own index (T fk).1 (T fk).2.1 (T fk).2.2.1 ∈ zTb) (hfin : (T fk).2.2.2 = false) (hd : parseFieldDescriptor (T fk).2.2.1 = some (.object C2)) (hdg : decode cc pc = .ok (.putfield index, 3)) (k : ∀ v : zM, Go p l e s m args below meth c as dA D SH d nL Qk  (pc + 3) L st v (F v)) : Go p l e s m args below meth c as dA D SH d nL Qk  pc L (.ref x :: .ref a :: st) u (zlet (sO u a fk (some x)) F) := by
  obtain ⟨hx, hb, hml, hown, hts, hr, hlk, hK, hI, hZ, hd1⟩ := C
  intro r u' hF H locs ls hP hS hl
  have hq := zcl_ok _ (List.mem_of_getElem? hc)
  obtain ⟨hin, ⟨ty0, hty⟩, hnm⟩ := hq
  refine va_put (v := .ref (as x)) hx hb hts hin ty0 hty hnm hown hK hP (zw_DA hI) hS a (zw_obj hs) hc fk hkN (hts _ hw) (fun _ h9 => h9) hfin hd rfl rfl (zf_len hk) hdg (fun H1 locs1 hP1 _ hS1 => ?_)
  rw [zw_set (u' := sO u a fk (some x)) hs (by show Sum.inr _ = Sum.inr _; rw [zfs_set hk (u' := sO u a fk (some x)) (by show Value.ref (as x) = va_rf ((gO (sO u a fk (some x)) a fk).map as); rw [gO_same]; rfl) (fun j kj h => zfield_O2 j kj h)]) (fun b S' h => zcell_O b S' h)] at hP1
  exact k _ r u' hF H1 locs1 ls hP1 hS1 hl
theorem G_putON (C : zCx p s m args meth c as dA D SH d nL own cc ret) {ci : Nat} {Cn : String} {T : u_T} {N : Nat} (fk : Nat) {a index : Nat} {ks : List Nat} {C2 : String} {F : zM → Option (α × zM)} (hs : SH[a]? = some (.inl (ci, ks))) (hc : zcl[ci]? = some (Cn, T, N)) (hk : ks[fk]? = some 2) (hkN : fk < N) (hw : Cond.fieldLink own index (T fk).1 (T fk).2.1 (T fk).2.2.1 ∈ zTb) (hfin : (T fk).2.2.2 = false) (hd : parseFieldDescriptor (T fk).2.2.1 = some (.object C2)) (hdg : decode cc pc = .ok (.putfield index, 3)) (k : ∀ v : zM, Go p l e s m args below meth c as dA D SH d nL Qk  (pc + 3) L st v (F v)) : Go p l e s m args below meth c as dA D SH d nL Qk  pc L (.null :: .ref a :: st) u (zlet (sO u a fk none) F) := by
  obtain ⟨hx, hb, hml, hown, hts, hr, hlk, hK, hI, hZ, hd1⟩ := C
  intro r u' hF H locs ls hP hS hl
  have hq := zcl_ok _ (List.mem_of_getElem? hc)
  obtain ⟨hin, ⟨ty0, hty⟩, hnm⟩ := hq
  refine va_put (v := .null) hx hb hts hin ty0 hty hnm hown hK hP (zw_DA hI) hS a (zw_obj hs) hc fk hkN (hts _ hw) (fun _ h9 => h9) hfin hd rfl rfl (zf_len hk) hdg (fun H1 locs1 hP1 _ hS1 => ?_)
  rw [zw_set (u' := sO u a fk none) hs (by show Sum.inr _ = Sum.inr _; rw [zfs_set hk (u' := sO u a fk none) (by show Value.null = va_rf ((gO (sO u a fk none) a fk).map as); rw [gO_same]; rfl) (fun j kj h => zfield_O2 j kj h)]) (fun b S' h => zcell_O b S' h)] at hP1
  exact k _ r u' hF H1 locs1 ls hP1 hS1 hl
theorem G_iald (C : zCx p s m args meth c as dA D SH d nL own cc ret) {a n b sd : Nat} {i : Int32} (hs : SH[a]? = some (.inr (0, n, b, sd))) (hdg : decode cc pc = .ok (.iaload, 1)) (k : inB i n = true → Go p l e s m args below meth c as dA D SH d nL Qk  (pc + 1) L (.int (gI u a i.toNatClampNeg) :: st) u F) : Go p l e s m args below meth c as dA D SH d nL Qk  pc L (.int i :: .ref a :: st) u (zck (inB i n) F) := by
  obtain ⟨hx, hb, hml, hown, hts, hr, hlk, hK, hI, hZ, hd1⟩ := C
  intro r u' hF H locs ls hP hS hl
  obtain ⟨h1, hF⟩ := zck_some hF
  exact va_iald hx hb hK hP a 0 (zw_arr hs) rfl (inB_in h1) hdg (k h1 r u' hF H locs ls hP hS hl)
theorem G_zald (C : zCx p s m args meth c as dA D SH d nL own cc ret) {a n b sd : Nat} {i : Int32} (hs : SH[a]? = some (.inr (1, n, b, sd))) (hdg : decode cc pc = .ok (.baload, 1)) (k : inB i n = true → Go p l e s m args below meth c as dA D SH d nL Qk  (pc + 1) L (.int (gI u a i.toNatClampNeg) :: st) u F) : Go p l e s m args below meth c as dA D SH d nL Qk  pc L (.int i :: .ref a :: st) u (zck (inB i n) F) := by
  obtain ⟨hx, hb, hml, hown, hts, hr, hlk, hK, hI, hZ, hd1⟩ := C
  intro r u' hF H locs ls hP hS hl
  obtain ⟨h1, hF⟩ := zck_some hF
  exact va_zald hx hb hK hP a 1 (zw_arr hs) rfl (inB_in h1) hdg (k h1 r u' hF H locs ls hP hS hl)
theorem G_bald (C : zCx p s m args meth c as dA D SH d nL own cc ret) {a n b sd : Nat} {i : Int32} (hs : SH[a]? = some (.inr (2, n, b, sd))) (hdg : decode cc pc = .ok (.baload, 1)) (k : inB i n = true → Go p l e s m args below meth c as dA D SH d nL Qk  (pc + 1) L (.int (gI u a i.toNatClampNeg) :: st) u F) : Go p l e s m args below meth c as dA D SH d nL Qk  pc L (.int i :: .ref a :: st) u (zck (inB i n) F) := by
  obtain ⟨hx, hb, hml, hown, hts, hr, hlk, hK, hI, hZ, hd1⟩ := C
  intro r u' hF H locs ls hP hS hl
  obtain ⟨h1, hF⟩ := zck_some hF
  exact va_bald hx hb hK hP a 2 (zw_arr hs) rfl (inB_in h1) hdg (k h1 r u' hF H locs ls hP hS hl)
theorem G_lald (C : zCx p s m args meth c as dA D SH d nL own cc ret) {a n b sd : Nat} {i : Int32} (hs : SH[a]? = some (.inr (3, n, b, sd))) (hdg : decode cc pc = .ok (.laload, 1)) (k : inB i n = true → Go p l e s m args below meth c as dA D SH d nL Qk  (pc + 1) L (.long (gJ u a i.toNatClampNeg) :: st) u F) : Go p l e s m args below meth c as dA D SH d nL Qk  pc L (.int i :: .ref a :: st) u (zck (inB i n) F) := by
  obtain ⟨hx, hb, hml, hown, hts, hr, hlk, hK, hI, hZ, hd1⟩ := C
  intro r u' hF H locs ls hP hS hl
  obtain ⟨h1, hF⟩ := zck_some hF
  exact va_lald hx hb hK hP a 3 (zw_arr hs) rfl (inB_in h1) hdg (k h1 r u' hF H locs ls hP hS hl)
theorem G_aald4 (C : zCx p s m args meth c as dA D SH d nL own cc ret) {a n b sd : Nat} {i : Int32} (hs : SH[a]? = some (.inr (4, n, b, sd))) (hdg : decode cc pc = .ok (.aaload, 1)) (k : inB i n = true → Go p l e s m args below meth c as dA D SH d nL Qk  (pc + 1) L (.ref (b + sd * i.toNatClampNeg) :: st) u F) : Go p l e s m args below meth c as dA D SH d nL Qk  pc L (.int i :: .ref a :: st) u (zck (inB i n) F) := by
  obtain ⟨hx, hb, hml, hown, hts, hr, hlk, hK, hI, hZ, hd1⟩ := C
  intro r u' hF H locs ls hP hS hl
  obtain ⟨h1, hF⟩ := zck_some hF
  exact va_aldq hx hb hK hP a 4 (zw_arr hs) rfl (inB_in h1) hdg (k h1 r u' hF H locs ls hP hS hl)
theorem G_aald5 (C : zCx p s m args meth c as dA D SH d nL own cc ret) {a n b sd : Nat} {i : Int32} (hs : SH[a]? = some (.inr (5, n, b, sd))) (hdg : decode cc pc = .ok (.aaload, 1)) (k : inB i n = true → Go p l e s m args below meth c as dA D SH d nL Qk  (pc + 1) L (.ref (b + sd * i.toNatClampNeg) :: st) u F) : Go p l e s m args below meth c as dA D SH d nL Qk  pc L (.int i :: .ref a :: st) u (zck (inB i n) F) := by
  obtain ⟨hx, hb, hml, hown, hts, hr, hlk, hK, hI, hZ, hd1⟩ := C
  intro r u' hF H locs ls hP hS hl
  obtain ⟨h1, hF⟩ := zck_some hF
  have hin := inB_in h1
  have hlt : i.toNatClampNeg < n := Nat.not_le.mp fun q => hin (Or.inr q)
  have ha : (zw as dA SH u)[a]? = some (as a, .inl (dA 5, n, .inr (.inr (.inr (.inr (fun j => some (as (b + sd * j)))))))) := zw_arr hs
  exact W.aald (v := va_rf (some (as (b + sd * i.toNatClampNeg)))) (ty := .array .long) hx hb (hP a _ ha) ((hK.2 5 _ rfl).1 n (fun j => va_rf (some (as (b + sd * j))))) rfl (fun q => by cases q) (by show ¬ (i < 0 ∨ (arrV _ _ _).slots.size ≤ _); rw [arrV_size]; exact hin) (by show (arrV (dA 5) n (fun j => va_rf (some (as (b + sd * j))))).slots[_]? = _; rw [arrV_read _ _ hlt]) rfl rfl hdg (k h1 r u' hF H locs ls hP hS hl)
theorem G_iast (C : zCx p s m args meth c as dA D SH d nL own cc ret) {a n b sd : Nat} {i : Int32} {x : Int32} {F : zM → Option (α × zM)} (hs : SH[a]? = some (.inr (0, n, b, sd))) (hdg : decode cc pc = .ok (.iastore, 1)) (k : inB i n = true → ∀ v : zM, Go p l e s m args below meth c as dA D SH d nL Qk  (pc + 1) L st v (F v)) : Go p l e s m args below meth c as dA D SH d nL Qk  pc L (.int x :: .int i :: .ref a :: st) u (zck (inB i n) (zlet (sI u a i.toNatClampNeg x) F)) := by
  obtain ⟨hx, hb, hml, hown, hts, hr, hlk, hK, hI, hZ, hd1⟩ := C
  intro r u' hF H locs ls hP hS hl
  obtain ⟨h1, hF⟩ := zck_some hF
  refine va_iast hx hb hK hP (zw_DA hI) hS a 0 (zw_arr hs) rfl (inB_in h1) hdg (fun H1 locs1 hP1 _ hS1 => ?_)
  rw [zw_set (u' := sI u a i.toNatClampNeg x) hs (by show Sum.inl (_, _, Sum.inl _) = Sum.inl (_, _, Sum.inl (gI (sI u a i.toNatClampNeg x) a)); rw [gI_upd]) (fun b S' h => zcell_I b S' h)] at hP1
  exact k h1 _ r u' hF H1 locs1 ls hP1 hS1 hl
theorem G_zast (C : zCx p s m args meth c as dA D SH d nL own cc ret) {a n b sd : Nat} {i : Int32} {x : Int32} {F : zM → Option (α × zM)} (hs : SH[a]? = some (.inr (1, n, b, sd))) (hdg : decode cc pc = .ok (.bastore, 1)) (k : inB i n = true → ∀ v : zM, Go p l e s m args below meth c as dA D SH d nL Qk  (pc + 1) L st v (F v)) : Go p l e s m args below meth c as dA D SH d nL Qk  pc L (.int x :: .int i :: .ref a :: st) u (zck (inB i n) (zlet (sI u a i.toNatClampNeg (vp_nar .boolean x)) F)) := by
  obtain ⟨hx, hb, hml, hown, hts, hr, hlk, hK, hI, hZ, hd1⟩ := C
  intro r u' hF H locs ls hP hS hl
  obtain ⟨h1, hF⟩ := zck_some hF
  refine va_zast hx hb hK hP (zw_DA hI) hS a 1 (zw_arr hs) rfl (inB_in h1) hdg (fun H1 locs1 hP1 _ hS1 => ?_)
  rw [zw_set (u' := sI u a i.toNatClampNeg (vp_nar .boolean x)) hs (by show Sum.inl (_, _, Sum.inl _) = Sum.inl (_, _, Sum.inl (gI (sI u a i.toNatClampNeg (vp_nar .boolean x)) a)); rw [gI_upd]) (fun b S' h => zcell_I b S' h)] at hP1
  exact k h1 _ r u' hF H1 locs1 ls hP1 hS1 hl
theorem G_bast (C : zCx p s m args meth c as dA D SH d nL own cc ret) {a n b sd : Nat} {i : Int32} {x : Int32} {F : zM → Option (α × zM)} (hs : SH[a]? = some (.inr (2, n, b, sd))) (hdg : decode cc pc = .ok (.bastore, 1)) (k : inB i n = true → ∀ v : zM, Go p l e s m args below meth c as dA D SH d nL Qk  (pc + 1) L st v (F v)) : Go p l e s m args below meth c as dA D SH d nL Qk  pc L (.int x :: .int i :: .ref a :: st) u (zck (inB i n) (zlet (sI u a i.toNatClampNeg (vp_nar .byte x)) F)) := by
  obtain ⟨hx, hb, hml, hown, hts, hr, hlk, hK, hI, hZ, hd1⟩ := C
  intro r u' hF H locs ls hP hS hl
  obtain ⟨h1, hF⟩ := zck_some hF
  refine va_bast hx hb hK hP (zw_DA hI) hS a 2 (zw_arr hs) rfl (inB_in h1) hdg (fun H1 locs1 hP1 _ hS1 => ?_)
  rw [zw_set (u' := sI u a i.toNatClampNeg (vp_nar .byte x)) hs (by show Sum.inl (_, _, Sum.inl _) = Sum.inl (_, _, Sum.inl (gI (sI u a i.toNatClampNeg (vp_nar .byte x)) a)); rw [gI_upd]) (fun b S' h => zcell_I b S' h)] at hP1
  exact k h1 _ r u' hF H1 locs1 ls hP1 hS1 hl
theorem G_last (C : zCx p s m args meth c as dA D SH d nL own cc ret) {a n b sd : Nat} {i : Int32} {x : Int64} {F : zM → Option (α × zM)} (hs : SH[a]? = some (.inr (3, n, b, sd))) (hdg : decode cc pc = .ok (.lastore, 1)) (k : inB i n = true → ∀ v : zM, Go p l e s m args below meth c as dA D SH d nL Qk  (pc + 1) L st v (F v)) : Go p l e s m args below meth c as dA D SH d nL Qk  pc L (.long x :: .int i :: .ref a :: st) u (zck (inB i n) (zlet (sJ u a i.toNatClampNeg x) F)) := by
  obtain ⟨hx, hb, hml, hown, hts, hr, hlk, hK, hI, hZ, hd1⟩ := C
  intro r u' hF H locs ls hP hS hl
  obtain ⟨h1, hF⟩ := zck_some hF
  refine va_last hx hb hK hP (zw_DA hI) hS a 3 (zw_arr hs) rfl (inB_in h1) hdg (fun H1 locs1 hP1 _ hS1 => ?_)
  rw [zw_set (u' := sJ u a i.toNatClampNeg x) hs (by show Sum.inl (_, _, Sum.inr (Sum.inl _)) = Sum.inl (_, _, Sum.inr (Sum.inl (gJ (sJ u a i.toNatClampNeg x) a))); rw [gJ_upd]) (fun b S' h => zcell_J b S' h)] at hP1
  exact k h1 _ r u' hF H1 locs1 ls hP1 hS1 hl
theorem G_alen (t0 : Nat) {ty : FieldType} (C : zCx p s m args meth c as dA D SH d nL own cc ret) {a n b sd : Nat} {v : Int32} (hs : SH[a]? = some (.inr (t0, n, b, sd))) (ht : (zty dA)[t0]? = some (dA t0, ty)) (hn : (zarr as u a n b sd t0).1 = n) (hv : Int32.ofNat n = v) (hdg : decode cc pc = .ok (.arraylength, 1)) (k : Go p l e s m args below meth c as dA D SH d nL Qk  (pc + 1) L (.int v :: st) u F) : Go p l e s m args below meth c as dA D SH d nL Qk  pc L (.ref a :: st) u F := by
  obtain ⟨hx, hb, hml, hown, hts, hr, hlk, hK, hI, hZ, hd1⟩ := C
  intro r u' hF H locs ls hP hS hl
  exact va_alen hx hb hK hP a t0 (zw_arr hs) ht (by rw [← hv]; exact congrArg Int32.ofNat hn) hdg (k r u' hF H locs ls hP hS hl)
def zsv (k : Nat) (i : Int32) : Int32 := match zSA[k]? with
  | some q => q.2.2.getD i.toNatClampNeg 0
  | none => 0
theorem G_getsA (C : zCx p s m args meth c as dA D SH d nL own cc ret) {q : String × String × List Int32} (sk : Nat) {index : Nat} (hq : zSA[sk]? = some q) (hw : Cond.fieldLink own index q.1 q.2.1 "[I" ∈ zTb) (hdg : decode cc pc = .ok (.getstatic index, 3)) (k : Go p l e s m args below meth c as dA D SH d nL Qk  (pc + 3) L (.ref (1000 + sk) :: st) u F) : Go p l e s m args below meth c as dA D SH d nL Qk  pc L st u F := by
  obtain ⟨hx, hb, hml, hown, hts, hr, hlk, hK, hI, hZ, hd1⟩ := C
  intro r u' hF H locs ls hP hS hl
  exact va_gets hx hb (hZ.2.2.2.1 sk q hq).1 hS hown (hts _ hw) (fun _ h9 => h9) hdg (k r u' hF H locs ls hP hS hl)
theorem G_getsN (C : zCx p s m args meth c as dA D SH d nL own cc ret) {q : String × String × List Int32} (sk : Nat) {index : Nat} {host : String} (hq : zSA[sk]? = some q) (hw : Cond.fieldLinkNest own index q.1 q.2.1 "[I" host ∈ zNest) (hdg : decode cc pc = .ok (.getstatic index, 3)) (k : Go p l e s m args below meth c as dA D SH d nL Qk  (pc + 3) L (.ref (1000 + sk) :: st) u F) : Go p l e s m args below meth c as dA D SH d nL Qk  pc L st u F := by
  obtain ⟨hx, hb, hml, hown, hts, hr, hlk, hK, hI, hZ, hd1⟩ := C
  intro r u' hF H locs ls hP hS hl
  exact va_getsN hx hb (hZ.2.2.2.1 sk q hq).1 hS hown (zn_use hw (hZ.1 _ hw)) (fun _ h9 => h9) hdg (k r u' hF H locs ls hP hS hl)
theorem G_tld (C : zCx p s m args meth c as dA D SH d nL own cc ret) {q : String × String × List Int32} (sk : Nat) {i : Int32} (hq : zSA[sk]? = some q) (hdg : decode cc pc = .ok (.iaload, 1)) (k : inB i q.2.2.length = true → Go p l e s m args below meth c as dA D SH d nL Qk  (pc + 1) L (.int (zsv sk i) :: st) u F) : Go p l e s m args below meth c as dA D SH d nL Qk  pc L (.int i :: .ref (1000 + sk) :: st) u (zck (inB i q.2.2.length) F) := by
  obtain ⟨hx, hb, hml, hown, hts, hr, hlk, hK, hI, hZ, hd1⟩ := C
  intro r u' hF H locs ls hP hS hl
  obtain ⟨h1, hF⟩ := zck_some hF
  exact va_ti hx hb (hZ.2.2.2.1 sk q hq).2 hS (inB_in h1) (v := .int (zsv sk i)) (by unfold zsv; rw [hq]) hdg (k h1 r u' hF H locs ls hP hS hl)
theorem G_tlen (C : zCx p s m args meth c as dA D SH d nL own cc ret) {q : String × String × List Int32} (sk : Nat) {v : Int32} (hq : zSA[sk]? = some q) (hv : Int32.ofNat q.2.2.length = v) (hdg : decode cc pc = .ok (.arraylength, 1)) (k : Go p l e s m args below meth c as dA D SH d nL Qk  (pc + 1) L (.int v :: st) u F) : Go p l e s m args below meth c as dA D SH d nL Qk  pc L (.ref (1000 + sk) :: st) u F := by
  obtain ⟨hx, hb, hml, hown, hts, hr, hlk, hK, hI, hZ, hd1⟩ := C
  intro r u' hF H locs ls hP hS hl
  exact va_tlen hx hb (hZ.2.2.2.1 sk q hq).2 hS hv hdg (k r u' hF H locs ls hP hS hl)
theorem zsum8 {st : List Value} (h : (st.map fun v => v.category).sum ≤ 8) : ((st.map (zr as)).map fun v => v.category).sum ≤ 8 := by
  have e : (st.map (zr as)).map (fun v => v.category) = st.map fun v => v.category := by
    rw [List.map_map]
    apply List.map_congr_left
    intro v _
    exact zr_cat as v
  rw [e]
  exact h
theorem G_mmax (C : zCx p s m args meth c as dA D SH d nL own cc ret) {index : Nat} {x y : Int32} (h1 : Cond.methodLink own index Lib.Math.max.name ∈ zTb) (h2 : Cond.static Lib.Math.max.name ∈ zTb) (h3 : Cond.initialized "java/lang/Math" ∈ zTb) (h4 : Cond.code Lib.Math.max.name Lib.Math.max.code 2 (some .int) ∈ zTb) (h8 : (st.map fun v => v.category).sum ≤ 8) (hdg : decode cc pc = .ok (.invokestatic index, 3)) (k : Go p l e s m args below meth c as dA D SH d nL Qk  (pc + 3) L (.int (if x < y then y else x) :: st) u F) : Go p l e s m args below meth c as dA D SH d nL Qk  pc L (.int y :: .int x :: st) u F := by
  obtain ⟨hx, hb, hml, hown, hts, hr, hlk, hK, hI, hZ, hd1⟩ := C
  intro r u' hF H locs ls hP hS hl
  exact va_mmax hx hb (hml.trans hl.1.symm) hown (hts _ h1) (hts _ h2) (hts _ h3) (hts _ h4) hd1 (by have := zsum8 (as := as) h8; show _ ≤ 64 * d; omega) (Nat.zero_le _) (Nat.zero_le _) hdg (k r u' hF H locs ls hP hS hl)
theorem G_mmin (C : zCx p s m args meth c as dA D SH d nL own cc ret) {index : Nat} {x y : Int32} (h1 : Cond.methodLink own index Lib.Math.min.name ∈ zTb) (h2 : Cond.static Lib.Math.min.name ∈ zTb) (h3 : Cond.initialized "java/lang/Math" ∈ zTb) (h4 : Cond.code Lib.Math.min.name Lib.Math.min.code 2 (some .int) ∈ zTb) (h8 : (st.map fun v => v.category).sum ≤ 8) (hdg : decode cc pc = .ok (.invokestatic index, 3)) (k : Go p l e s m args below meth c as dA D SH d nL Qk  (pc + 3) L (.int (if y < x then y else x) :: st) u F) : Go p l e s m args below meth c as dA D SH d nL Qk  pc L (.int y :: .int x :: st) u F := by
  obtain ⟨hx, hb, hml, hown, hts, hr, hlk, hK, hI, hZ, hd1⟩ := C
  intro r u' hF H locs ls hP hS hl
  exact va_mmin hx hb (hml.trans hl.1.symm) hown (hts _ h1) (hts _ h2) (hts _ h3) (hts _ h4) hd1 (by have := zsum8 (as := as) h8; show _ ≤ 64 * d; omega) (Nat.zero_le _) (Nat.zero_le _) hdg (k r u' hF H locs ls hP hS hl)
end GoMem
end
section
/-! ===== copies, calls, ends ===== -/
section GoCalls
variable {p : Program} {l : Launch} {e : Env} {s : State} {m : MethodId} {args : Array Value} {below : List Frame} {meth : Method} {c : Code} {as : Nat → Nat} {dA : Nat → ClassId} {D : va_G} {SH : List zS} {d nL : Nat} {α : Type} {Qk : (Nat → Nat) → (Nat → ClassId) → va_G → List zS → Nat → α → zM → Array Value → State → Outcome → State → Prop}
variable {own : String} {cc : ByteArray} {ret : Option FieldType} {pc : Nat} {L : List (Nat × Value)} {st : List Value} {u : zM} {F : Option (α × zM)}
theorem G_copyI (C : zCx p s m args meth c as dA D SH d nL own cc ret) {a b n0 n1 p0 p1 q0 q1 index : Nat} {sp dp n : Int32} {F : zM → Option (α × zM)} (hs0 : SH[a]? = some (.inr (0, n0, p0, q0))) (hs1 : SH[b]? = some (.inr (0, n1, p1, q1))) (w1 : Cond.methodLink own index arraycopyName ∈ zTb) (w2 : Cond.native arraycopyName ∈ zTb) (w3 : Cond.static arraycopyName ∈ zTb) (w4 : Cond.initialized "java/lang/System" ∈ zTb) (h8 : (st.map fun v => v.category).sum ≤ 8) (hdg : decode cc pc = .ok (.invokestatic index, 3)) (k : cpB sp dp n n0 n1 = true → ∀ v : zM, Go p l e s m args below meth c as dA D SH d nL Qk  (pc + 3) L st v (F v)) : Go p l e s m args below meth c as dA D SH d nL Qk  pc L (.int n :: .int dp :: .ref b :: .int sp :: .ref a :: st) u (zck (cpB sp dp n n0 n1) (zlet (cpI u a sp.toNatClampNeg b dp.toNatClampNeg n.toNatClampNeg) F)) := by
  obtain ⟨hx, hb, hml, hown, hts, hr, hlk, hK, hI, hZ, hd1⟩ := C
  intro r u' hF H locs ls hP hS hl
  obtain ⟨g0, hF⟩ := zck_some hF
  obtain ⟨g1, g2, g3, g4, g5⟩ := of_decide_eq_true g0
  refine va_copyi hx hb (hml.trans hl.1.symm) hown (hts _ w1) (hts _ w2) (hts _ w3) (hts _ w4) hK hP (zw_DA hI) hS a b 0 0 (zw_arr hs0) (zw_arr hs1) rfl rfl rfl g1 g2 g3 g4 g5 (fun _ _ => rfl) ?hf ?hh hdg (fun H1 locs1 hP1 _ hS1 => ?kk)
  case kk =>
    rw [zw_set (u' := cpI u a sp.toNatClampNeg b dp.toNatClampNeg n.toNatClampNeg) hs1 (by show Sum.inl (_, _, Sum.inl _) = Sum.inl (_, _, Sum.inl (gI (cpI u a sp.toNatClampNeg b dp.toNatClampNeg n.toNatClampNeg) b)); rw [gI_cp]) (fun q S' h => zcell_cpI q S' h)] at hP1
    exact k g0 _ r u' hF H1 locs1 ls hP1 hS1 hl
  case hf => exact hd1
  case hh =>
    have h1 : nativeFrameWords "java/lang/System" "arraycopy" 5 ≤ 40 := by decide +kernel
    have h2 := zsum8 (as := as) h8
    show _ ≤ 64 * d
    omega
theorem G_copyJ (C : zCx p s m args meth c as dA D SH d nL own cc ret) {a b n0 n1 p0 p1 q0 q1 index : Nat} {sp dp n : Int32} {F : zM → Option (α × zM)} (hs0 : SH[a]? = some (.inr (3, n0, p0, q0))) (hs1 : SH[b]? = some (.inr (3, n1, p1, q1))) (w1 : Cond.methodLink own index arraycopyName ∈ zTb) (w2 : Cond.native arraycopyName ∈ zTb) (w3 : Cond.static arraycopyName ∈ zTb) (w4 : Cond.initialized "java/lang/System" ∈ zTb) (h8 : (st.map fun v => v.category).sum ≤ 8) (hdg : decode cc pc = .ok (.invokestatic index, 3)) (k : cpB sp dp n n0 n1 = true → ∀ v : zM, Go p l e s m args below meth c as dA D SH d nL Qk  (pc + 3) L st v (F v)) : Go p l e s m args below meth c as dA D SH d nL Qk  pc L (.int n :: .int dp :: .ref b :: .int sp :: .ref a :: st) u (zck (cpB sp dp n n0 n1) (zlet (cpJ u a sp.toNatClampNeg b dp.toNatClampNeg n.toNatClampNeg) F)) := by
  obtain ⟨hx, hb, hml, hown, hts, hr, hlk, hK, hI, hZ, hd1⟩ := C
  intro r u' hF H locs ls hP hS hl
  obtain ⟨g0, hF⟩ := zck_some hF
  obtain ⟨g1, g2, g3, g4, g5⟩ := of_decide_eq_true g0
  refine va_copyl hx hb (hml.trans hl.1.symm) hown (hts _ w1) (hts _ w2) (hts _ w3) (hts _ w4) hK hP (zw_DA hI) hS a b 3 3 (zw_arr hs0) (zw_arr hs1) rfl rfl rfl g1 g2 g3 g4 g5 (fun _ _ => rfl) ?hf ?hh hdg (fun H1 locs1 hP1 _ hS1 => ?kk)
  case kk =>
    rw [zw_set (u' := cpJ u a sp.toNatClampNeg b dp.toNatClampNeg n.toNatClampNeg) hs1 (by show Sum.inl (_, _, Sum.inr (Sum.inl _)) = Sum.inl (_, _, Sum.inr (Sum.inl (gJ (cpJ u a sp.toNatClampNeg b dp.toNatClampNeg n.toNatClampNeg) b))); rw [gJ_cp]) (fun q S' h => zcell_cpJ q S' h)] at hP1
    exact k g0 _ r u' hF H1 locs1 ls hP1 hS1 hl
  case hf => exact hd1
  case hh =>
    have h1 : nativeFrameWords "java/lang/System" "arraycopy" 5 ≤ 40 := by decide +kernel
    have h2 := zsum8 (as := as) h8
    show _ ≤ 64 * d
    omega
theorem G_iret (C : zCx p s m args meth c as dA D SH d nL own cc (some .int)) {x : Int32} (hdg : decode cc pc = .ok (.ireturn, 1)) : Go p l e s m args below meth c as dA D SH d nL zQi pc L [.int x] u (some (x, u)) := by
  obtain ⟨hx, hb, hml, hown, hts, hr, hlk, hK, hI, hZ, hd1⟩ := C
  intro r u' hF H locs ls hP hS hl
  cases hF
  exact W.iret hx hb hr (fun t ht hW => ⟨⟨x, u, rfl, ⟨rfl, rfl⟩, by rw [ht]; exact hP, hK.moved hW.alike⟩, hS.F ht⟩) hS.2.2 hdg hlk
theorem G_lret (C : zCx p s m args meth c as dA D SH d nL own cc (some .long)) {x : Int64} (hdg : decode cc pc = .ok (.lreturn, 1)) : Go p l e s m args below meth c as dA D SH d nL zQl pc L [.long x] u (some (x, u)) := by
  obtain ⟨hx, hb, hml, hown, hts, hr, hlk, hK, hI, hZ, hd1⟩ := C
  intro r u' hF H locs ls hP hS hl
  cases hF
  exact W.lret hx hb hr (fun t ht hW => ⟨⟨x, u, rfl, ⟨rfl, rfl⟩, by rw [ht]; exact hP, hK.moved hW.alike⟩, hS.F ht⟩) hS.2.2 hdg hlk
def z01 (x : Int32) : Bool := x == 0 || x == 1
theorem z01_nar {x : Int32} (h : z01 x = true) : narrow .boolean (.int x) = .int x := by
  unfold z01 at h
  rw [Bool.or_eq_true, beq_iff_eq, beq_iff_eq] at h
  rcases h with h | h <;> subst h <;> rfl
theorem G_zret {ty : FieldType} (C : zCx p s m args meth c as dA D SH d nL own cc (some ty)) {x : Int32} (hn : narrow ty (.int x) = .int x) (hdg : decode cc pc = .ok (.ireturn, 1)) : Go p l e s m args below meth c as dA D SH d nL zQi pc L [.int x] u (some (x, u)) := by
  obtain ⟨hx, hb, hml, hown, hts, hr, hlk, hK, hI, hZ, hd1⟩ := C
  intro r u' hF H locs ls hP hS hl
  cases hF
  exact W.zret hx hb hr hn (fun t ht hW => ⟨⟨x, u, rfl, ⟨rfl, rfl⟩, by rw [ht]; exact hP, hK.moved hW.alike⟩, hS.F ht⟩) hS.2.2 hdg hlk
theorem G_vret (C : zCx p s m args meth c as dA D SH d nL own cc none) (hdg : decode cc pc = .ok (.return_, 1)) : Go p l e s m args below meth c as dA D SH d nL zQv pc L [] u (some ((), u)) := by
  obtain ⟨hx, hb, hml, hown, hts, hr, hlk, hK, hI, hZ, hd1⟩ := C
  intro r u' hF H locs ls hP hS hl
  cases hF
  exact W.vret hx hb hr (fun t ht hW => ⟨⟨u, rfl, rfl, by rw [ht]; exact hP, hK.moved hW.alike⟩, hS.F ht⟩) hS.2.2 hdg hlk
theorem G_aret {Cr : String} (C : zCx p s m args meth c as dA D SH d nL own cc (some (.object Cr))) {x : Nat} (hdg : decode cc pc = .ok (.areturn, 1)) : Go p l e s m args below meth c as dA D SH d nL zQr pc L [.ref x] u (some (x, u)) := by
  obtain ⟨hx, hb, hml, hown, hts, hr, hlk, hK, hI, hZ, hd1⟩ := C
  intro r u' hF H locs ls hP hS hl
  cases hF
  exact W.aret hx hb hr (Or.inl ⟨_, rfl⟩) (Or.inr ⟨_, rfl⟩) (fun t ht hW => ⟨⟨u, as x, rfl, rfl, rfl, by rw [ht]; exact hP, hK.moved hW.alike⟩, hS.F ht⟩) hS.2.2 hdg hlk
/-- the words of a method that is called on an object; of a static one -/
def zWv (y : MethodName) (bytes : ByteArray) (maxL : Nat) (rt : Option FieldType) (n : Nat) : Prop := Cond.instanceMethod y ∈ zTb ∧ Cond.selects y.cls y y ∈ zTb ∧ Cond.initialized y.cls ∈ zTb ∧ Cond.code y bytes maxL rt ∈ zTb ∧ maxL ≤ 45 ∧ (y.cls ≠ "java/lang/invoke/MethodHandle" ∧ y.cls ≠ "java/lang/invoke/VarHandle" ∧ (parseMethodDescriptor y.desc).map (fun d => d.parameters.length) = some n)
def zWs (y : MethodName) (bytes : ByteArray) (maxL : Nat) (rt : Option FieldType) (n : Nat) : Prop := Cond.static y ∈ zTb ∧ Cond.initialized y.cls ∈ zTb ∧ Cond.code y bytes maxL rt ∈ zTb ∧ maxL ≤ 45 ∧ (y.cls ≠ "java/lang/invoke/MethodHandle" ∧ y.cls ≠ "java/lang/invoke/VarHandle" ∧ (parseMethodDescriptor y.desc).map (fun d => d.parameters.length) = some n)
theorem zPre_blind {dd : Nat → Nat} {av : List Value} {sz : Nat} : FrameBlind (va_Pc av (zPre dd dA D SH u sz)) := fun a U g mk q => by
  obtain ⟨q0, q1, q2, q3, q4, q5⟩ := q
  exact ⟨q0, q1, q2, q3.moved (u := U) (U := U.calling g mk a) (Vm.Alike.refl U.vm), q4, q5.same (u := U) (U := U.calling g mk a) rfl rfl⟩
theorem zA_in {n sz : Nat} {H : Heap} (hs : sz ≤ H.size) : ∀ q, zA as n H.size q → zA as n sz q := fun q h => h.elim Or.inl (fun h => Or.inr (Nat.le_trans hs h))
theorem zPre_at {H : Heap} {locs : List Loc} {U : State} (hK : va_K D zcl (zty dA) s) (hI : zInj as SH.length) (hZ : zSt as (zA as SH.length s.heap.size) s) (hP : va_P D zcl (zw as dA SH u) H) (hS : va_S (zA as SH.length s.heap.size) s.heap H locs) (hU : U.heap = H) (hW : s.WarmedH U.vm) : zPre as dA D SH u H.size U :=
  ⟨by rw [hU], by rw [hU]; exact hP, hK.moved hW.alike, hI, hZ.call hU hW hS (zA_in hS.1)⟩
theorem zmapA {As st : List Value} {v : Value} : (As.reverse ++ v :: st).map (zr as) = (As.map (zr as)).reverse ++ zr as v :: st.map (zr as) := by
  rw [List.map_append, List.map_reverse]
  rfl
theorem zmapS {As st : List Value} : (As.reverse ++ st).map (zr as) = (As.map (zr as)).reverse ++ st.map (zr as) := by
  rw [List.map_append, List.map_reverse]
theorem zcwV (n : Nat) {y : MethodName} {bytes : ByteArray} {maxL index d' : Nat} {rt : Option FieldType} {own : String} (hts : ∀ w ∈ zTb, w.before args s = true) (hR : d' + 1 ≤ d) (w1 : Cond.methodLink own index y ∈ zTb) (w2 : Cond.instanceMethod y ∈ zTb) (w3 : Cond.selects y.cls y y ∈ zTb) (w4 : Cond.initialized y.cls ∈ zTb) (w5 : Cond.code y bytes maxL rt ∈ zTb) (hm : maxL ≤ 45)
    (hd : y.cls ≠ "java/lang/invoke/MethodHandle" ∧ y.cls ≠ "java/lang/invoke/VarHandle" ∧ (parseMethodDescriptor y.desc).map (fun d => d.parameters.length) = some n) : CallW (zRm d) s args own y.cls index y bytes maxL rt (.code y bytes maxL rt :: zTb) (zRm d') 0 0 n :=
  cwV n hts (zgood_of (fun w hw => by
    unfold wsV at hw
    rcases List.mem_append.mp hw with h | h
    · simp only [List.mem_cons, List.not_mem_nil, or_false] at h
      rcases h with h | h | h | h <;> subst h <;> assumption
    · rcases List.mem_cons.mp h with h | h
      · subst h; exact w5
      · exact h)) rfl rfl rfl ⟨rfl, hd⟩ ⟨hR, by show 8 + (maxL + 11) + 64 * d' ≤ 64 * d; omega⟩
theorem zcwS (n : Nat) {y : MethodName} {bytes : ByteArray} {maxL index d' : Nat} {rt : Option FieldType} {own : String} (hts : ∀ w ∈ zTb, w.before args s = true) (hR : d' + 1 ≤ d) (w1 : Cond.methodLink own index y ∈ zTb) (w2 : Cond.static y ∈ zTb) (w4 : Cond.initialized y.cls ∈ zTb) (w5 : Cond.code y bytes maxL rt ∈ zTb) (hm : maxL ≤ 45)
    (hd : y.cls ≠ "java/lang/invoke/MethodHandle" ∧ y.cls ≠ "java/lang/invoke/VarHandle" ∧ (parseMethodDescriptor y.desc).map (fun d => d.parameters.length) = some n) : CallB (zRm d) s args own index y bytes maxL rt (.code y bytes maxL rt :: zTb) (zRm d') 0 0 n ∧ (Cond.static y).before args s = true :=
  ⟨callB_of n hts (zgood_of (fun w hw => by
    rcases List.mem_cons.mp hw with h | h
    · subst h; exact w5
    · exact h)) rfl rfl rfl (hts _ w4) (hts _ w1) hd ⟨hR, by show 8 + (maxL + 11) + 64 * d' ≤ 64 * d; omega⟩, hts _ w2⟩
theorem zcwN (n : Nat) {y : MethodName} {bytes : ByteArray} {maxL index d' : Nat} {rt : Option FieldType} {own host : String} (hts : ∀ w ∈ zTb, w.before args s = true) (hR : d' + 1 ≤ d) (w1 : va_Nw (.methodLinkNest own index y host) s) (w2 : Cond.static y ∈ zTb) (w4 : Cond.initialized y.cls ∈ zTb) (w5 : Cond.code y bytes maxL rt ∈ zTb) (hm : maxL ≤ 45)
    (hd : y.cls ≠ "java/lang/invoke/MethodHandle" ∧ y.cls ≠ "java/lang/invoke/VarHandle" ∧ (parseMethodDescriptor y.desc).map (fun d => d.parameters.length) = some n) : va_CN (zRm d) s args own index y host bytes maxL rt (.code y bytes maxL rt :: zTb) (zRm d') 0 0 n ∧ (Cond.static y).before args s = true ∧ True :=
  ⟨va_cnB n hts (zgood_of (fun w hw => by
    rcases List.mem_cons.mp hw with h | h
    · subst h; exact w5
    · exact h)) rfl rfl rfl w1 (hts _ w4) hd ⟨hR, by show 8 + (maxL + 11) + 64 * d' ≤ 64 * d; omega⟩, hts _ w2, trivial⟩
theorem G_callVi (C : zCx p s m args meth c as dA D SH d nL own cc ret) {y : MethodName} {bytes : ByteArray} {maxL index d' : Nat} {rt : Option FieldType} {As : List Value} {stk : List Value} {Fc : Option (Int32 × zM)} {K : Int32 → zM → Option (α × zM)} {a ci : Nat} {ks : List Nat} {T : u_T} {N : Nat} (hM : zMet zQi SH y bytes maxL rt d' (.ref a :: As) u Fc) (hR : d' + 1 ≤ d) (hstk : stk = As.reverse ++ .ref a :: st) (w1 : Cond.methodLink own index y ∈ zTb) (hw : zWv y bytes maxL rt As.length) (hs : SH[a]? = some (.inl (ci, ks))) (hc : zcl[ci]? = some (y.cls, T, N)) (h8 : (st.map fun v => v.category).sum ≤ 8) (hdg : decode cc pc = .ok (.invokevirtual index, 3)) (k : ∀ (x : Int32) (v : zM), Go p l e s m args below meth c as dA D SH d nL Qk (pc + 3) L (.int x :: st) v (K x v)) : Go p l e s m args below meth c as dA D SH d nL Qk pc L stk u (zb Fc K) := by
  obtain ⟨hx, hb, hml, hown, hts, hr, hlk, hK, hI, hZ, hd1⟩ := C
  obtain ⟨w2, w3, w4, w5, hm, hdsc⟩ := hw
  intro r u' hF H locs ls hP hS hl
  obtain ⟨x0, u0, hFc, hF⟩ := zb_some hF
  have hm0 := hM x0 u0 hFc l as dA D H.size
  have hA0 := zA_in (as := as) (n := SH.length) hS.1
  refine va_calli (va_runV (As := As.map (zr as)) (rest := st.map (zr as)) ⟨hx, hb, hml, hown, hts⟩ hm0 (zcwV As.length hts hR w1 w2 w3 w4 w5 hm hdsc) ⟨zPre_blind, va_recv hK hP hc (zw_obj hs), fun U hU hW => ⟨rfl, zPre_at hK hI hZ hP hS hU hW⟩⟩ rfl (List.length_map _) hl.1 (by rw [hstk]; exact zmapA) (lv_room (zsum8 h8)) hdg ⟨Nat.zero_le _, Nat.zero_le _⟩) hS (fun q _ h => hA0 q h) hA0 (fun r0 v0 t H1 locs1 ht hvm hw hB hz1 hk1 hS1 => ?_)
  obtain ⟨rfl, rfl⟩ := hw
  obtain ⟨hP1, hK1⟩ := hB
  rw [ht] at hP1
  exact k r0 v0 r u' hF H1 locs1 ls hP1 hS1 hl
theorem G_callSi (C : zCx p s m args meth c as dA D SH d nL own cc ret) {y : MethodName} {bytes : ByteArray} {maxL index d' : Nat} {rt : Option FieldType} {As : List Value} {stk : List Value} {Fc : Option (Int32 × zM)} {K : Int32 → zM → Option (α × zM)} (hM : zMet zQi SH y bytes maxL rt d' As u Fc) (hR : d' + 1 ≤ d) (hstk : stk = As.reverse ++ st) (w1 : Cond.methodLink own index y ∈ zTb) (hw : zWs y bytes maxL rt As.length) (h8 : (st.map fun v => v.category).sum ≤ 8) (hdg : decode cc pc = .ok (.invokestatic index, 3)) (k : ∀ (x : Int32) (v : zM), Go p l e s m args below meth c as dA D SH d nL Qk (pc + 3) L (.int x :: st) v (K x v)) : Go p l e s m args below meth c as dA D SH d nL Qk pc L stk u (zb Fc K) := by
  obtain ⟨hx, hb, hml, hown, hts, hr, hlk, hK, hI, hZ, hd1⟩ := C
  obtain ⟨w2, w4, w5, hm, hdsc⟩ := hw
  intro r u' hF H locs ls hP hS hl
  obtain ⟨x0, u0, hFc, hF⟩ := zb_some hF
  have hm0 := hM x0 u0 hFc l as dA D H.size
  have hA0 := zA_in (as := as) (n := SH.length) hS.1
  refine va_calli (va_runS (As := As.map (zr as)) (rest := st.map (zr as)) ⟨hx, hb, hml, hown, hts⟩ hm0 (zcwS As.length hts hR w1 w2 w4 w5 hm hdsc) ⟨zPre_blind, fun U hU hW => ⟨rfl, zPre_at hK hI hZ hP hS hU hW⟩⟩ rfl (List.length_map _) hl.1 (by rw [hstk]; exact zmapS) (lv_room (zsum8 h8)) hdg ⟨Nat.zero_le _, Nat.zero_le _⟩) hS (fun q _ h => hA0 q h) hA0 (fun r0 v0 t H1 locs1 ht hvm hw hB hz1 hk1 hS1 => ?_)
  obtain ⟨rfl, rfl⟩ := hw
  obtain ⟨hP1, hK1⟩ := hB
  rw [ht] at hP1
  exact k r0 v0 r u' hF H1 locs1 ls hP1 hS1 hl
theorem G_callNi (C : zCx p s m args meth c as dA D SH d nL own cc ret) {y : MethodName} {bytes : ByteArray} {maxL index d' : Nat} {rt : Option FieldType} {As : List Value} {stk : List Value} {Fc : Option (Int32 × zM)} {K : Int32 → zM → Option (α × zM)} {host : String} (hM : zMet zQi SH y bytes maxL rt d' As u Fc) (hR : d' + 1 ≤ d) (hstk : stk = As.reverse ++ st) (w1 : Cond.methodLinkNest own index y host ∈ zNest) (hw : zWs y bytes maxL rt As.length) (h8 : (st.map fun v => v.category).sum ≤ 8) (hdg : decode cc pc = .ok (.invokestatic index, 3)) (k : ∀ (x : Int32) (v : zM), Go p l e s m args below meth c as dA D SH d nL Qk (pc + 3) L (.int x :: st) v (K x v)) : Go p l e s m args below meth c as dA D SH d nL Qk pc L stk u (zb Fc K) := by
  obtain ⟨hx, hb, hml, hown, hts, hr, hlk, hK, hI, hZ, hd1⟩ := C
  obtain ⟨w2, w4, w5, hm, hdsc⟩ := hw
  intro r u' hF H locs ls hP hS hl
  obtain ⟨x0, u0, hFc, hF⟩ := zb_some hF
  have hm0 := hM x0 u0 hFc l as dA D H.size
  have hA0 := zA_in (as := as) (n := SH.length) hS.1
  refine va_calli (va_runSN (As := As.map (zr as)) (rest := st.map (zr as)) ⟨hx, hb, hml, hown, hts⟩ hm0 (zcwN As.length hts hR (hZ.1 _ w1) w2 w4 w5 hm hdsc) ⟨zPre_blind, fun U hU hW => ⟨rfl, zPre_at hK hI hZ hP hS hU hW⟩⟩ rfl (List.length_map _) hl.1 (by rw [hstk]; exact zmapS) (lv_room (zsum8 h8)) hdg ⟨Nat.zero_le _, Nat.zero_le _⟩) hS (fun q _ h => hA0 q h) hA0 (fun r0 v0 t H1 locs1 ht hvm hw hB hz1 hk1 hS1 => ?_)
  obtain ⟨rfl, rfl⟩ := hw
  obtain ⟨hP1, hK1⟩ := hB
  rw [ht] at hP1
  exact k r0 v0 r u' hF H1 locs1 ls hP1 hS1 hl
theorem G_callVl (C : zCx p s m args meth c as dA D SH d nL own cc ret) {y : MethodName} {bytes : ByteArray} {maxL index d' : Nat} {rt : Option FieldType} {As : List Value} {stk : List Value} {Fc : Option (Int64 × zM)} {K : Int64 → zM → Option (α × zM)} {a ci : Nat} {ks : List Nat} {T : u_T} {N : Nat} (hM : zMet zQl SH y bytes maxL rt d' (.ref a :: As) u Fc) (hR : d' + 1 ≤ d) (hstk : stk = As.reverse ++ .ref a :: st) (w1 : Cond.methodLink own index y ∈ zTb) (hw : zWv y bytes maxL rt As.length) (hs : SH[a]? = some (.inl (ci, ks))) (hc : zcl[ci]? = some (y.cls, T, N)) (h8 : (st.map fun v => v.category).sum ≤ 8) (hdg : decode cc pc = .ok (.invokevirtual index, 3)) (k : ∀ (x : Int64) (v : zM), Go p l e s m args below meth c as dA D SH d nL Qk (pc + 3) L (.long x :: st) v (K x v)) : Go p l e s m args below meth c as dA D SH d nL Qk pc L stk u (zb Fc K) := by
  obtain ⟨hx, hb, hml, hown, hts, hr, hlk, hK, hI, hZ, hd1⟩ := C
  obtain ⟨w2, w3, w4, w5, hm, hdsc⟩ := hw
  intro r u' hF H locs ls hP hS hl
  obtain ⟨x0, u0, hFc, hF⟩ := zb_some hF
  have hm0 := hM x0 u0 hFc l as dA D H.size
  have hA0 := zA_in (as := as) (n := SH.length) hS.1
  refine va_calll (va_runV (As := As.map (zr as)) (rest := st.map (zr as)) ⟨hx, hb, hml, hown, hts⟩ hm0 (zcwV As.length hts hR w1 w2 w3 w4 w5 hm hdsc) ⟨zPre_blind, va_recv hK hP hc (zw_obj hs), fun U hU hW => ⟨rfl, zPre_at hK hI hZ hP hS hU hW⟩⟩ rfl (List.length_map _) hl.1 (by rw [hstk]; exact zmapA) (lv_room (zsum8 h8)) hdg ⟨Nat.zero_le _, Nat.zero_le _⟩) hS (fun q _ h => hA0 q h) hA0 (fun r0 v0 t H1 locs1 ht hvm hw hB hz1 hk1 hS1 => ?_)
  obtain ⟨rfl, rfl⟩ := hw
  obtain ⟨hP1, hK1⟩ := hB
  rw [ht] at hP1
  exact k r0 v0 r u' hF H1 locs1 ls hP1 hS1 hl
theorem G_callSl (C : zCx p s m args meth c as dA D SH d nL own cc ret) {y : MethodName} {bytes : ByteArray} {maxL index d' : Nat} {rt : Option FieldType} {As : List Value} {stk : List Value} {Fc : Option (Int64 × zM)} {K : Int64 → zM → Option (α × zM)} (hM : zMet zQl SH y bytes maxL rt d' As u Fc) (hR : d' + 1 ≤ d) (hstk : stk = As.reverse ++ st) (w1 : Cond.methodLink own index y ∈ zTb) (hw : zWs y bytes maxL rt As.length) (h8 : (st.map fun v => v.category).sum ≤ 8) (hdg : decode cc pc = .ok (.invokestatic index, 3)) (k : ∀ (x : Int64) (v : zM), Go p l e s m args below meth c as dA D SH d nL Qk (pc + 3) L (.long x :: st) v (K x v)) : Go p l e s m args below meth c as dA D SH d nL Qk pc L stk u (zb Fc K) := by
  obtain ⟨hx, hb, hml, hown, hts, hr, hlk, hK, hI, hZ, hd1⟩ := C
  obtain ⟨w2, w4, w5, hm, hdsc⟩ := hw
  intro r u' hF H locs ls hP hS hl
  obtain ⟨x0, u0, hFc, hF⟩ := zb_some hF
  have hm0 := hM x0 u0 hFc l as dA D H.size
  have hA0 := zA_in (as := as) (n := SH.length) hS.1
  refine va_calll (va_runS (As := As.map (zr as)) (rest := st.map (zr as)) ⟨hx, hb, hml, hown, hts⟩ hm0 (zcwS As.length hts hR w1 w2 w4 w5 hm hdsc) ⟨zPre_blind, fun U hU hW => ⟨rfl, zPre_at hK hI hZ hP hS hU hW⟩⟩ rfl (List.length_map _) hl.1 (by rw [hstk]; exact zmapS) (lv_room (zsum8 h8)) hdg ⟨Nat.zero_le _, Nat.zero_le _⟩) hS (fun q _ h => hA0 q h) hA0 (fun r0 v0 t H1 locs1 ht hvm hw hB hz1 hk1 hS1 => ?_)
  obtain ⟨rfl, rfl⟩ := hw
  obtain ⟨hP1, hK1⟩ := hB
  rw [ht] at hP1
  exact k r0 v0 r u' hF H1 locs1 ls hP1 hS1 hl
theorem G_callVv (C : zCx p s m args meth c as dA D SH d nL own cc ret) {y : MethodName} {bytes : ByteArray} {maxL index d' : Nat} {rt : Option FieldType} {As : List Value} {stk : List Value} {Fc : Option (Unit × zM)} {K : Unit → zM → Option (α × zM)} {a ci : Nat} {ks : List Nat} {T : u_T} {N : Nat} (hM : zMet zQv SH y bytes maxL rt d' (.ref a :: As) u Fc) (hR : d' + 1 ≤ d) (hstk : stk = As.reverse ++ .ref a :: st) (w1 : Cond.methodLink own index y ∈ zTb) (hw : zWv y bytes maxL rt As.length) (hs : SH[a]? = some (.inl (ci, ks))) (hc : zcl[ci]? = some (y.cls, T, N)) (h8 : (st.map fun v => v.category).sum ≤ 8) (hdg : decode cc pc = .ok (.invokevirtual index, 3)) (k : ∀ (x : Unit) (v : zM), Go p l e s m args below meth c as dA D SH d nL Qk (pc + 3) L st v (K x v)) : Go p l e s m args below meth c as dA D SH d nL Qk pc L stk u (zb Fc K) := by
  obtain ⟨hx, hb, hml, hown, hts, hr, hlk, hK, hI, hZ, hd1⟩ := C
  obtain ⟨w2, w3, w4, w5, hm, hdsc⟩ := hw
  intro r u' hF H locs ls hP hS hl
  obtain ⟨x0, u0, hFc, hF⟩ := zb_some hF
  have hm0 := hM x0 u0 hFc l as dA D H.size
  have hA0 := zA_in (as := as) (n := SH.length) hS.1
  refine va_callv (va_runV (As := As.map (zr as)) (rest := st.map (zr as)) ⟨hx, hb, hml, hown, hts⟩ hm0 (zcwV As.length hts hR w1 w2 w3 w4 w5 hm hdsc) ⟨zPre_blind, va_recv hK hP hc (zw_obj hs), fun U hU hW => ⟨rfl, zPre_at hK hI hZ hP hS hU hW⟩⟩ rfl (List.length_map _) hl.1 (by rw [hstk]; exact zmapA) (lv_room (zsum8 h8)) hdg ⟨Nat.zero_le _, Nat.zero_le _⟩) hS (fun q _ h => hA0 q h) hA0 (fun v0 t H1 locs1 ht hvm hw hB hz1 hk1 hS1 => ?_)
  cases x0
  subst hw
  obtain ⟨hP1, hK1⟩ := hB
  rw [ht] at hP1
  exact k () v0 r u' hF H1 locs1 ls hP1 hS1 hl
theorem G_callSv (C : zCx p s m args meth c as dA D SH d nL own cc ret) {y : MethodName} {bytes : ByteArray} {maxL index d' : Nat} {rt : Option FieldType} {As : List Value} {stk : List Value} {Fc : Option (Unit × zM)} {K : Unit → zM → Option (α × zM)} (hM : zMet zQv SH y bytes maxL rt d' As u Fc) (hR : d' + 1 ≤ d) (hstk : stk = As.reverse ++ st) (w1 : Cond.methodLink own index y ∈ zTb) (hw : zWs y bytes maxL rt As.length) (h8 : (st.map fun v => v.category).sum ≤ 8) (hdg : decode cc pc = .ok (.invokestatic index, 3)) (k : ∀ (x : Unit) (v : zM), Go p l e s m args below meth c as dA D SH d nL Qk (pc + 3) L st v (K x v)) : Go p l e s m args below meth c as dA D SH d nL Qk pc L stk u (zb Fc K) := by
  obtain ⟨hx, hb, hml, hown, hts, hr, hlk, hK, hI, hZ, hd1⟩ := C
  obtain ⟨w2, w4, w5, hm, hdsc⟩ := hw
  intro r u' hF H locs ls hP hS hl
  obtain ⟨x0, u0, hFc, hF⟩ := zb_some hF
  have hm0 := hM x0 u0 hFc l as dA D H.size
  have hA0 := zA_in (as := as) (n := SH.length) hS.1
  refine va_callv (va_runS (As := As.map (zr as)) (rest := st.map (zr as)) ⟨hx, hb, hml, hown, hts⟩ hm0 (zcwS As.length hts hR w1 w2 w4 w5 hm hdsc) ⟨zPre_blind, fun U hU hW => ⟨rfl, zPre_at hK hI hZ hP hS hU hW⟩⟩ rfl (List.length_map _) hl.1 (by rw [hstk]; exact zmapS) (lv_room (zsum8 h8)) hdg ⟨Nat.zero_le _, Nat.zero_le _⟩) hS (fun q _ h => hA0 q h) hA0 (fun v0 t H1 locs1 ht hvm hw hB hz1 hk1 hS1 => ?_)
  cases x0
  subst hw
  obtain ⟨hP1, hK1⟩ := hB
  rw [ht] at hP1
  exact k () v0 r u' hF H1 locs1 ls hP1 hS1 hl
theorem G_callNv (C : zCx p s m args meth c as dA D SH d nL own cc ret) {y : MethodName} {bytes : ByteArray} {maxL index d' : Nat} {rt : Option FieldType} {As : List Value} {stk : List Value} {Fc : Option (Unit × zM)} {K : Unit → zM → Option (α × zM)} {host : String} (hM : zMet zQv SH y bytes maxL rt d' As u Fc) (hR : d' + 1 ≤ d) (hstk : stk = As.reverse ++ st) (w1 : Cond.methodLinkNest own index y host ∈ zNest) (hw : zWs y bytes maxL rt As.length) (h8 : (st.map fun v => v.category).sum ≤ 8) (hdg : decode cc pc = .ok (.invokestatic index, 3)) (k : ∀ (x : Unit) (v : zM), Go p l e s m args below meth c as dA D SH d nL Qk (pc + 3) L st v (K x v)) : Go p l e s m args below meth c as dA D SH d nL Qk pc L stk u (zb Fc K) := by
  obtain ⟨hx, hb, hml, hown, hts, hr, hlk, hK, hI, hZ, hd1⟩ := C
  obtain ⟨w2, w4, w5, hm, hdsc⟩ := hw
  intro r u' hF H locs ls hP hS hl
  obtain ⟨x0, u0, hFc, hF⟩ := zb_some hF
  have hm0 := hM x0 u0 hFc l as dA D H.size
  have hA0 := zA_in (as := as) (n := SH.length) hS.1
  refine va_callv (va_runSN (As := As.map (zr as)) (rest := st.map (zr as)) ⟨hx, hb, hml, hown, hts⟩ hm0 (zcwN As.length hts hR (hZ.1 _ w1) w2 w4 w5 hm hdsc) ⟨zPre_blind, fun U hU hW => ⟨rfl, zPre_at hK hI hZ hP hS hU hW⟩⟩ rfl (List.length_map _) hl.1 (by rw [hstk]; exact zmapS) (lv_room (zsum8 h8)) hdg ⟨Nat.zero_le _, Nat.zero_le _⟩) hS (fun q _ h => hA0 q h) hA0 (fun v0 t H1 locs1 ht hvm hw hB hz1 hk1 hS1 => ?_)
  cases x0
  subst hw
  obtain ⟨hP1, hK1⟩ := hB
  rw [ht] at hP1
  exact k () v0 r u' hF H1 locs1 ls hP1 hS1 hl
theorem G_callVr (C : zCx p s m args meth c as dA D SH d nL own cc ret) {y : MethodName} {bytes : ByteArray} {maxL index d' : Nat} {rt : Option FieldType} {As : List Value} {stk : List Value} {Fc : Option (Nat × zM)} {K : Nat → zM → Option (α × zM)} {a ci : Nat} {ks : List Nat} {T : u_T} {N : Nat} (hM : zMet zQr SH y bytes maxL rt d' (.ref a :: As) u Fc) (hR : d' + 1 ≤ d) (hstk : stk = As.reverse ++ .ref a :: st) (w1 : Cond.methodLink own index y ∈ zTb) (hw : zWv y bytes maxL rt As.length) (hs : SH[a]? = some (.inl (ci, ks))) (hc : zcl[ci]? = some (y.cls, T, N)) (h8 : (st.map fun v => v.category).sum ≤ 8) (hdg : decode cc pc = .ok (.invokevirtual index, 3)) (k : ∀ (x : Nat) (v : zM), Go p l e s m args below meth c as dA D SH d nL Qk (pc + 3) L (.ref x :: st) v (K x v)) : Go p l e s m args below meth c as dA D SH d nL Qk pc L stk u (zb Fc K) := by
  obtain ⟨hx, hb, hml, hown, hts, hr, hlk, hK, hI, hZ, hd1⟩ := C
  obtain ⟨w2, w3, w4, w5, hm, hdsc⟩ := hw
  intro r u' hF H locs ls hP hS hl
  obtain ⟨x0, u0, hFc, hF⟩ := zb_some hF
  have hm0 := hM x0 u0 hFc l as dA D H.size
  have hA0 := zA_in (as := as) (n := SH.length) hS.1
  refine va_callr (va_runV (As := As.map (zr as)) (rest := st.map (zr as)) ⟨hx, hb, hml, hown, hts⟩ hm0 (zcwV As.length hts hR w1 w2 w3 w4 w5 hm hdsc) ⟨zPre_blind, va_recv hK hP hc (zw_obj hs), fun U hU hW => ⟨rfl, zPre_at hK hI hZ hP hS hU hW⟩⟩ rfl (List.length_map _) hl.1 (by rw [hstk]; exact zmapA) (lv_room (zsum8 h8)) hdg ⟨Nat.zero_le _, Nat.zero_le _⟩) hS (fun q _ h => hA0 q h) hA0 (fun v0 ra t H1 locs1 ht hvm hw hB hz1 hk1 hS1 => ?_)
  subst hw
  obtain ⟨rfl, hB⟩ := hB
  obtain ⟨hP1, hK1⟩ := hB
  rw [ht] at hP1
  exact k x0 v0 r u' hF H1 locs1 ls hP1 hS1 hl
theorem G_callSr (C : zCx p s m args meth c as dA D SH d nL own cc ret) {y : MethodName} {bytes : ByteArray} {maxL index d' : Nat} {rt : Option FieldType} {As : List Value} {stk : List Value} {Fc : Option (Nat × zM)} {K : Nat → zM → Option (α × zM)} (hM : zMet zQr SH y bytes maxL rt d' As u Fc) (hR : d' + 1 ≤ d) (hstk : stk = As.reverse ++ st) (w1 : Cond.methodLink own index y ∈ zTb) (hw : zWs y bytes maxL rt As.length) (h8 : (st.map fun v => v.category).sum ≤ 8) (hdg : decode cc pc = .ok (.invokestatic index, 3)) (k : ∀ (x : Nat) (v : zM), Go p l e s m args below meth c as dA D SH d nL Qk (pc + 3) L (.ref x :: st) v (K x v)) : Go p l e s m args below meth c as dA D SH d nL Qk pc L stk u (zb Fc K) := by
  obtain ⟨hx, hb, hml, hown, hts, hr, hlk, hK, hI, hZ, hd1⟩ := C
  obtain ⟨w2, w4, w5, hm, hdsc⟩ := hw
  intro r u' hF H locs ls hP hS hl
  obtain ⟨x0, u0, hFc, hF⟩ := zb_some hF
  have hm0 := hM x0 u0 hFc l as dA D H.size
  have hA0 := zA_in (as := as) (n := SH.length) hS.1
  refine va_callr (va_runS (As := As.map (zr as)) (rest := st.map (zr as)) ⟨hx, hb, hml, hown, hts⟩ hm0 (zcwS As.length hts hR w1 w2 w4 w5 hm hdsc) ⟨zPre_blind, fun U hU hW => ⟨rfl, zPre_at hK hI hZ hP hS hU hW⟩⟩ rfl (List.length_map _) hl.1 (by rw [hstk]; exact zmapS) (lv_room (zsum8 h8)) hdg ⟨Nat.zero_le _, Nat.zero_le _⟩) hS (fun q _ h => hA0 q h) hA0 (fun v0 ra t H1 locs1 ht hvm hw hB hz1 hk1 hS1 => ?_)
  subst hw
  obtain ⟨rfl, hB⟩ := hB
  obtain ⟨hP1, hK1⟩ := hB
  rw [ht] at hP1
  exact k x0 v0 r u' hF H1 locs1 ls hP1 hS1 hl
theorem zMet_of {α : Type} {Qk : (Nat → Nat) → (Nat → ClassId) → va_G → List zS → Nat → α → zM → Array Value → State → Outcome → State → Prop} {y : MethodName} {bytes : ByteArray} {maxL : Nat} {rt : Option FieldType} {av : List Value} {F : Option (α × zM)} (hy : plainName y.cls = true) (hlen : ∀ as : Nat → Nat, (lg_sl (av.map (zr as))).length ≤ maxL) (hw5 : Cond.code y bytes maxL rt ∈ zTb) (hd1 : 1 ≤ d)
    (body : ∀ (p : Program) (l : Launch) (e : Env) (s : State) (m : MethodId) (args : Array Value) (below : List Frame) (meth : Method) (c : Code) (as : Nat → Nat) (dA : Nat → ClassId) (D : va_G), zCx p s m args meth c as dA D SH d maxL y.cls bytes rt → Go p l e s m args below meth c as dA D SH d maxL Qk 0 (lv_args 0 av) [] u F) : zMet Qk SH y bytes maxL rt d av u F := by
  intro r u' hF l as dA D sz
  refine Met.ofW (cc := bytes) (maxL := maxL) (ret := rt) hy rfl ?_
  intro p e s m args below meth c s₁ B hml hv
  obtain ⟨rfl, hsz, hP, hK, hI, hZ⟩ := hv
  subst hsz
  have hts0 := atoms_spec (ws := .code y bytes maxL rt :: zTb) B.pre
  have hts : ∀ w ∈ zTb, w.before ((av.map (zr as)).toArray) s = true := fun w hw => hts0 w (List.mem_cons_of_mem _ hw)
  have hown : s.vm.findClass y.cls = some m.cls := findClass_of_methodNamed B.named
  have hl := lv_entry (av.map (zr as)) (n := maxL) (hlen as)
  rw [lg_entry_eq]
  generalize (lg_sl (av.map (zr as)) ++ List.replicate (maxL - (lg_sl (av.map (zr as))).length) Slot.unset).toArray = ls at hl ⊢
  have hl2 : lv_has ls maxL (zL as (lv_args 0 av)) := by
    have hz : ∀ (i : Nat) (av : List Value), lv_args i (av.map (zr as)) = zL as (lv_args i av) := by
      intro i av
      induction av generalizing i with
      | nil => rfl
      | cons v vs ih =>
        show (i, zr as v) :: lv_args (if (zr as v).category = 2 then i + 2 else i + 1) (vs.map (zr as)) = (i, zr as v) :: zL as (lv_args (if v.category = 2 then i + 2 else i + 1) vs)
        rw [zr_cat, ih]
    rw [← hz]
    exact hl
  exact body p l e s m _ below meth c as dA D ⟨B.exec, B.bytes, hml, hown, hts, B.returns, B.notSynchronized, hK, hI, hZ, hd1⟩ r u' hF s.heap [] ls hP va_S.rf hl2
end GoCalls
end
section
/-! ===== words of the tables, by their places ===== -/
theorem wwX0_start : zWv yX0_start cX0_start 5 ((some FieldType.int)) 4 := ⟨zt_at 885 (by decide +kernel) rfl, zt_at 886 (by decide +kernel) rfl, zt_at 88 (by decide +kernel) rfl, zt_at 887 (by decide +kernel) rfl, by decide, ⟨by decide +kernel, by decide +kernel, by decide +kernel⟩⟩
theorem wwX0_run : zWv yX0_run cX0_run 8 ((some FieldType.int)) 4 := ⟨zt_at 890 (by decide +kernel) rfl, zt_at 18 (by decide +kernel) rfl, zt_at 88 (by decide +kernel) rfl, zt_at 891 (by decide +kernel) rfl, by decide, ⟨by decide +kernel, by decide +kernel, by decide +kernel⟩⟩
theorem wwX0_bodyOf : zWs yX0_bodyOf cX0_bodyOf 5 ((some FieldType.int)) 2 := ⟨zt_at 893 (by decide +kernel) rfl, zt_at 88 (by decide +kernel) rfl, zt_at 894 (by decide +kernel) rfl, by decide, ⟨by decide +kernel, by decide +kernel, by decide +kernel⟩⟩
theorem wwX0_note : zWv yX0_note cX0_note 2 (none) 1 := ⟨zt_at 902 (by decide +kernel) rfl, zt_at 19 (by decide +kernel) rfl, zt_at 88 (by decide +kernel) rfl, zt_at 903 (by decide +kernel) rfl, by decide, ⟨by decide +kernel, by decide +kernel, by decide +kernel⟩⟩
theorem wwX1_behind : zWv yX1_behind cX1_behind 2 ((some (FieldType.object "StruckWhile$Town"))) 1 := ⟨zt_at 718 (by decide +kernel) rfl, zt_at 719 (by decide +kernel) rfl, zt_at 86 (by decide +kernel) rfl, zt_at 720 (by decide +kernel) rfl, by decide, ⟨by decide +kernel, by decide +kernel, by decide +kernel⟩⟩
theorem wwX1_minutesUntilDone : zWv yX1_minutesUntilDone cX1_minutesUntilDone 3 ((some FieldType.int)) 1 := ⟨zt_at 458 (by decide +kernel) rfl, zt_at 459 (by decide +kernel) rfl, zt_at 86 (by decide +kernel) rfl, zt_at 460 (by decide +kernel) rfl, by decide, ⟨by decide +kernel, by decide +kernel, by decide +kernel⟩⟩
theorem wwX1_findBestRow : zWv yX1_findBestRow cX1_findBestRow 7 ((some FieldType.int)) 1 := ⟨zt_at 727 (by decide +kernel) rfl, zt_at 728 (by decide +kernel) rfl, zt_at 86 (by decide +kernel) rfl, zt_at 729 (by decide +kernel) rfl, by decide, ⟨by decide +kernel, by decide +kernel, by decide +kernel⟩⟩
theorem wwX1_setRow : zWv yX1_setRow cX1_setRow 9 (none) 2 := ⟨zt_at 735 (by decide +kernel) rfl, zt_at 12 (by decide +kernel) rfl, zt_at 86 (by decide +kernel) rfl, zt_at 736 (by decide +kernel) rfl, by decide, ⟨by decide +kernel, by decide +kernel, by decide +kernel⟩⟩
theorem wwX1_countDoneInTime : zWv yX1_countDoneInTime cX1_countDoneInTime 7 ((some FieldType.int)) 2 := ⟨zt_at 739 (by decide +kernel) rfl, zt_at 13 (by decide +kernel) rfl, zt_at 86 (by decide +kernel) rfl, zt_at 740 (by decide +kernel) rfl, by decide, ⟨by decide +kernel, by decide +kernel, by decide +kernel⟩⟩
theorem wwX1_firstUndone : zWv yX1_firstUndone cX1_firstUndone 4 ((some FieldType.int)) 2 := ⟨zt_at 750 (by decide +kernel) rfl, zt_at 14 (by decide +kernel) rfl, zt_at 86 (by decide +kernel) rfl, zt_at 751 (by decide +kernel) rfl, by decide, ⟨by decide +kernel, by decide +kernel, by decide +kernel⟩⟩
theorem wwX1_whomToTalkTo : zWv yX1_whomToTalkTo cX1_whomToTalkTo 6 ((some FieldType.int)) 1 := ⟨zt_at 759 (by decide +kernel) rfl, zt_at 760 (by decide +kernel) rfl, zt_at 86 (by decide +kernel) rfl, zt_at 761 (by decide +kernel) rfl, by decide, ⟨by decide +kernel, by decide +kernel, by decide +kernel⟩⟩
theorem wwX1_hottestByTalk : zWv yX1_hottestByTalk cX1_hottestByTalk 4 ((some FieldType.int)) 2 := ⟨zt_at 763 (by decide +kernel) rfl, zt_at 764 (by decide +kernel) rfl, zt_at 86 (by decide +kernel) rfl, zt_at 765 (by decide +kernel) rfl, by decide, ⟨by decide +kernel, by decide +kernel, by decide +kernel⟩⟩
theorem wwX1_warm : zWv yX1_warm cX1_warm 3 (none) 2 := ⟨zt_at 768 (by decide +kernel) rfl, zt_at 15 (by decide +kernel) rfl, zt_at 86 (by decide +kernel) rfl, zt_at 769 (by decide +kernel) rfl, by decide, ⟨by decide +kernel, by decide +kernel, by decide +kernel⟩⟩
theorem wwX1_fitting : zWv yX1_fitting cX1_fitting 8 ((some FieldType.int)) 3 := ⟨zt_at 794 (by decide +kernel) rfl, zt_at 795 (by decide +kernel) rfl, zt_at 86 (by decide +kernel) rfl, zt_at 796 (by decide +kernel) rfl, by decide, ⟨by decide +kernel, by decide +kernel, by decide +kernel⟩⟩
theorem wwX1_isAllSeenSo : zWv yX1_isAllSeenSo cX1_isAllSeenSo 4 ((some FieldType.boolean)) 0 := ⟨zt_at 799 (by decide +kernel) rfl, zt_at 16 (by decide +kernel) rfl, zt_at 86 (by decide +kernel) rfl, zt_at 800 (by decide +kernel) rfl, by decide, ⟨by decide +kernel, by decide +kernel, by decide +kernel⟩⟩
theorem wwX1_countHot : zWv yX1_countHot cX1_countHot 5 ((some FieldType.int)) 2 := ⟨zt_at 812 (by decide +kernel) rfl, zt_at 813 (by decide +kernel) rfl, zt_at 86 (by decide +kernel) rfl, zt_at 814 (by decide +kernel) rfl, by decide, ⟨by decide +kernel, by decide +kernel, by decide +kernel⟩⟩
theorem wwX1_behindPlan : zWv yX1_behindPlan cX1_behindPlan 3 ((some (FieldType.object "StruckWhile$Town"))) 1 := ⟨zt_at 835 (by decide +kernel) rfl, zt_at 836 (by decide +kernel) rfl, zt_at 86 (by decide +kernel) rfl, zt_at 837 (by decide +kernel) rfl, by decide, ⟨by decide +kernel, by decide +kernel, by decide +kernel⟩⟩
theorem wwX1_goPlanned : zWv yX1_goPlanned cX1_goPlanned 3 (none) 2 := ⟨zt_at 840 (by decide +kernel) rfl, zt_at 17 (by decide +kernel) rfl, zt_at 86 (by decide +kernel) rfl, zt_at 841 (by decide +kernel) rfl, by decide, ⟨by decide +kernel, by decide +kernel, by decide +kernel⟩⟩
theorem wwX2_add : zWv yX2_add cX2_add 2 ((some FieldType.int)) 1 := ⟨zt_at 505 (by decide +kernel) rfl, zt_at 506 (by decide +kernel) rfl, zt_at 87 (by decide +kernel) rfl, zt_at 507 (by decide +kernel) rfl, by decide, ⟨by decide +kernel, by decide +kernel, by decide +kernel⟩⟩
theorem wwX2_empty : zWv yX2_empty cX2_empty 1 (none) 0 := ⟨zt_at 687 (by decide +kernel) rfl, zt_at 688 (by decide +kernel) rfl, zt_at 87 (by decide +kernel) rfl, zt_at 689 (by decide +kernel) rfl, by decide, ⟨by decide +kernel, by decide +kernel, by decide +kernel⟩⟩
theorem wwX2_reads : zWv yX2_reads cX2_reads 3 ((some FieldType.boolean)) 1 := ⟨zt_at 513 (by decide +kernel) rfl, zt_at 514 (by decide +kernel) rfl, zt_at 87 (by decide +kernel) rfl, zt_at 515 (by decide +kernel) rfl, by decide, ⟨by decide +kernel, by decide +kernel, by decide +kernel⟩⟩
theorem wwX2_readsClause : zWv yX2_readsClause cX2_readsClause 2 ((some FieldType.boolean)) 0 := ⟨zt_at 522 (by decide +kernel) rfl, zt_at 1 (by decide +kernel) rfl, zt_at 87 (by decide +kernel) rfl, zt_at 523 (by decide +kernel) rfl, by decide, ⟨by decide +kernel, by decide +kernel, by decide +kernel⟩⟩
theorem wwX2_readsHeat : zWv yX2_readsHeat cX2_readsHeat 3 ((some FieldType.boolean)) 1 := ⟨zt_at 587 (by decide +kernel) rfl, zt_at 5 (by decide +kernel) rfl, zt_at 87 (by decide +kernel) rfl, zt_at 588 (by decide +kernel) rfl, by decide, ⟨by decide +kernel, by decide +kernel, by decide +kernel⟩⟩
theorem wwX2_readsEither : zWv yX2_readsEither cX2_readsEither 3 ((some FieldType.boolean)) 1 := ⟨zt_at 596 (by decide +kernel) rfl, zt_at 7 (by decide +kernel) rfl, zt_at 87 (by decide +kernel) rfl, zt_at 597 (by decide +kernel) rfl, by decide, ⟨by decide +kernel, by decide +kernel, by decide +kernel⟩⟩
theorem wwX2_readsBoth : zWv yX2_readsBoth cX2_readsBoth 3 ((some FieldType.boolean)) 1 := ⟨zt_at 600 (by decide +kernel) rfl, zt_at 8 (by decide +kernel) rfl, zt_at 87 (by decide +kernel) rfl, zt_at 601 (by decide +kernel) rfl, by decide, ⟨by decide +kernel, by decide +kernel, by decide +kernel⟩⟩
theorem wwX2_readsFactor : zWv yX2_readsFactor cX2_readsFactor 2 ((some FieldType.boolean)) 1 := ⟨zt_at 604 (by decide +kernel) rfl, zt_at 9 (by decide +kernel) rfl, zt_at 87 (by decide +kernel) rfl, zt_at 605 (by decide +kernel) rfl, by decide, ⟨by decide +kernel, by decide +kernel, by decide +kernel⟩⟩
theorem wwX2_readsTest : zWv yX2_readsTest cX2_readsTest 4 ((some FieldType.boolean)) 0 := ⟨zt_at 608 (by decide +kernel) rfl, zt_at 10 (by decide +kernel) rfl, zt_at 87 (by decide +kernel) rfl, zt_at 609 (by decide +kernel) rfl, by decide, ⟨by decide +kernel, by decide +kernel, by decide +kernel⟩⟩
theorem wwX2_takeNumber : zWv yX2_takeNumber cX2_takeNumber 3 ((some FieldType.int)) 0 := ⟨zt_at 591 (by decide +kernel) rfl, zt_at 6 (by decide +kernel) rfl, zt_at 87 (by decide +kernel) rfl, zt_at 592 (by decide +kernel) rfl, by decide, ⟨by decide +kernel, by decide +kernel, by decide +kernel⟩⟩
theorem wwX2_takeOneOf : zWv yX2_takeOneOf cX2_takeOneOf 3 ((some FieldType.int)) 1 := ⟨zt_at 613 (by decide +kernel) rfl, zt_at 11 (by decide +kernel) rfl, zt_at 87 (by decide +kernel) rfl, zt_at 614 (by decide +kernel) rfl, by decide, ⟨by decide +kernel, by decide +kernel, by decide +kernel⟩⟩
theorem wwX2_takesWord : zWv yX2_takesWord cX2_takesWord 3 ((some FieldType.boolean)) 1 := ⟨zt_at 531 (by decide +kernel) rfl, zt_at 3 (by decide +kernel) rfl, zt_at 87 (by decide +kernel) rfl, zt_at 532 (by decide +kernel) rfl, by decide, ⟨by decide +kernel, by decide +kernel, by decide +kernel⟩⟩
theorem wwX2_takes : zWv yX2_takes cX2_takes 3 ((some FieldType.boolean)) 1 := ⟨zt_at 583 (by decide +kernel) rfl, zt_at 4 (by decide +kernel) rfl, zt_at 87 (by decide +kernel) rfl, zt_at 584 (by decide +kernel) rfl, by decide, ⟨by decide +kernel, by decide +kernel, by decide +kernel⟩⟩
theorem wwX2_sees : zWv yX2_sees cX2_sees 2 ((some FieldType.boolean)) 1 := ⟨zt_at 526 (by decide +kernel) rfl, zt_at 2 (by decide +kernel) rfl, zt_at 87 (by decide +kernel) rfl, zt_at 527 (by decide +kernel) rfl, by decide, ⟨by decide +kernel, by decide +kernel, by decide +kernel⟩⟩
theorem wwX3_isFull : zWv yX3_isFull cX3_isFull 1 ((some FieldType.boolean)) 0 := ⟨zt_at 781 (by decide +kernel) rfl, zt_at 782 (by decide +kernel) rfl, zt_at 85 (by decide +kernel) rfl, zt_at 783 (by decide +kernel) rfl, by decide, ⟨by decide +kernel, by decide +kernel, by decide +kernel⟩⟩
theorem wwX3_add : zWv yX3_add cX3_add 4 ((some FieldType.int)) 3 := ⟨zt_at 785 (by decide +kernel) rfl, zt_at 786 (by decide +kernel) rfl, zt_at 85 (by decide +kernel) rfl, zt_at 787 (by decide +kernel) rfl, by decide, ⟨by decide +kernel, by decide +kernel, by decide +kernel⟩⟩
theorem wwX3_empty : zWv yX3_empty cX3_empty 1 ((some FieldType.int)) 0 := ⟨zt_at 777 (by decide +kernel) rfl, zt_at 778 (by decide +kernel) rfl, zt_at 85 (by decide +kernel) rfl, zt_at 779 (by decide +kernel) rfl, by decide, ⟨by decide +kernel, by decide +kernel, by decide +kernel⟩⟩
theorem wwX3_become : zWv yX3_become cX3_become 3 (none) 1 := ⟨zt_at 873 (by decide +kernel) rfl, zt_at 874 (by decide +kernel) rfl, zt_at 85 (by decide +kernel) rfl, zt_at 875 (by decide +kernel) rfl, by decide, ⟨by decide +kernel, by decide +kernel, by decide +kernel⟩⟩
theorem wwX4_empty : zWv yX4_empty cX4_empty 1 (none) 0 := ⟨zt_at 517 (by decide +kernel) rfl, zt_at 518 (by decide +kernel) rfl, zt_at 90 (by decide +kernel) rfl, zt_at 519 (by decide +kernel) rfl, by decide, ⟨by decide +kernel, by decide +kernel, by decide +kernel⟩⟩
theorem wwX4_addTest : zWv yX4_addTest cX4_addTest 4 (none) 3 := ⟨zt_at 672 (by decide +kernel) rfl, zt_at 673 (by decide +kernel) rfl, zt_at 90 (by decide +kernel) rfl, zt_at 674 (by decide +kernel) rfl, by decide, ⟨by decide +kernel, by decide +kernel, by decide +kernel⟩⟩
theorem wwX4_addStep : zWv yX4_addStep cX4_addStep 2 (none) 1 := ⟨zt_at 676 (by decide +kernel) rfl, zt_at 677 (by decide +kernel) rfl, zt_at 90 (by decide +kernel) rfl, zt_at 678 (by decide +kernel) rfl, by decide, ⟨by decide +kernel, by decide +kernel, by decide +kernel⟩⟩
theorem wwX4_addClause : zWv yX4_addClause cX4_addClause 2 (none) 1 := ⟨zt_at 681 (by decide +kernel) rfl, zt_at 682 (by decide +kernel) rfl, zt_at 90 (by decide +kernel) rfl, zt_at 683 (by decide +kernel) rfl, by decide, ⟨by decide +kernel, by decide +kernel, by decide +kernel⟩⟩
theorem wwX4_sum : zWv yX4_sum cX4_sum 8 ((some FieldType.int)) 1 := ⟨zt_at 421 (by decide +kernel) rfl, zt_at 422 (by decide +kernel) rfl, zt_at 90 (by decide +kernel) rfl, zt_at 423 (by decide +kernel) rfl, by decide, ⟨by decide +kernel, by decide +kernel, by decide +kernel⟩⟩
theorem wwX4_test : zWs yX4_test cX4_test 3 ((some FieldType.int)) 2 := ⟨zt_at 425 (by decide +kernel) rfl, zt_at 90 (by decide +kernel) rfl, zt_at 426 (by decide +kernel) rfl, by decide, ⟨by decide +kernel, by decide +kernel, by decide +kernel⟩⟩
theorem wwX5_has : zWv yX5_has cX5_has 2 ((some FieldType.boolean)) 1 := ⟨zt_at 856 (by decide +kernel) rfl, zt_at 857 (by decide +kernel) rfl, zt_at 89 (by decide +kernel) rfl, zt_at 858 (by decide +kernel) rfl, by decide, ⟨by decide +kernel, by decide +kernel, by decide +kernel⟩⟩
theorem wwX5_holds : zWv yX5_holds cX5_holds 2 ((some FieldType.boolean)) 1 := ⟨zt_at 860 (by decide +kernel) rfl, zt_at 861 (by decide +kernel) rfl, zt_at 89 (by decide +kernel) rfl, zt_at 862 (by decide +kernel) rfl, by decide, ⟨by decide +kernel, by decide +kernel, by decide +kernel⟩⟩
theorem wwX5_hasItems : zWv yX5_hasItems cX5_hasItems 4 ((some FieldType.boolean)) 3 := ⟨zt_at 933 (by decide +kernel) rfl, zt_at 934 (by decide +kernel) rfl, zt_at 89 (by decide +kernel) rfl, zt_at 935 (by decide +kernel) rfl, by decide, ⟨by decide +kernel, by decide +kernel, by decide +kernel⟩⟩
theorem wwX5_become : zWv yX5_become cX5_become 5 ((some FieldType.int)) 3 := ⟨zt_at 925 (by decide +kernel) rfl, zt_at 926 (by decide +kernel) rfl, zt_at 89 (by decide +kernel) rfl, zt_at 927 (by decide +kernel) rfl, by decide, ⟨by decide +kernel, by decide +kernel, by decide +kernel⟩⟩
theorem wwX5_put : zWv yX5_put cX5_put 5 ((some FieldType.int)) 3 := ⟨zt_at 937 (by decide +kernel) rfl, zt_at 938 (by decide +kernel) rfl, zt_at 89 (by decide +kernel) rfl, zt_at 939 (by decide +kernel) rfl, by decide, ⟨by decide +kernel, by decide +kernel, by decide +kernel⟩⟩
theorem wwX5_cut : zWs yX5_cut cX5_cut 3 ((some FieldType.long)) 2 := ⟨zt_at 941 (by decide +kernel) rfl, zt_at 89 (by decide +kernel) rfl, zt_at 942 (by decide +kernel) rfl, by decide, ⟨by decide +kernel, by decide +kernel, by decide +kernel⟩⟩
theorem wwX6_hasOne : zWv yX6_hasOne cX6_hasOne 2 ((some FieldType.boolean)) 1 := ⟨zt_at 401 (by decide +kernel) rfl, zt_at 402 (by decide +kernel) rfl, zt_at 84 (by decide +kernel) rfl, zt_at 403 (by decide +kernel) rfl, by decide, ⟨by decide +kernel, by decide +kernel, by decide +kernel⟩⟩
theorem wwX6_hasWork : zWv yX6_hasWork cX6_hasWork 2 ((some FieldType.boolean)) 1 := ⟨zt_at 449 (by decide +kernel) rfl, zt_at 450 (by decide +kernel) rfl, zt_at 84 (by decide +kernel) rfl, zt_at 451 (by decide +kernel) rfl, by decide, ⟨by decide +kernel, by decide +kernel, by decide +kernel⟩⟩
theorem wwX6_addOne : zWv yX6_addOne cX6_addOne 6 ((some FieldType.int)) 3 := ⟨zt_at 393 (by decide +kernel) rfl, zt_at 394 (by decide +kernel) rfl, zt_at 84 (by decide +kernel) rfl, zt_at 395 (by decide +kernel) rfl, by decide, ⟨by decide +kernel, by decide +kernel, by decide +kernel⟩⟩
theorem wwX6_addWork : zWv yX6_addWork cX6_addWork 4 ((some FieldType.int)) 2 := ⟨zt_at 441 (by decide +kernel) rfl, zt_at 442 (by decide +kernel) rfl, zt_at 84 (by decide +kernel) rfl, zt_at 443 (by decide +kernel) rfl, by decide, ⟨by decide +kernel, by decide +kernel, by decide +kernel⟩⟩
theorem wwX6_become : zWv yX6_become cX6_become 3 (none) 1 := ⟨zt_at 462 (by decide +kernel) rfl, zt_at 463 (by decide +kernel) rfl, zt_at 84 (by decide +kernel) rfl, zt_at 464 (by decide +kernel) rfl, by decide, ⟨by decide +kernel, by decide +kernel, by decide +kernel⟩⟩
theorem wwX6_isHot : zWv yX6_isHot cX6_isHot 2 ((some FieldType.boolean)) 1 := ⟨zt_at 803 (by decide +kernel) rfl, zt_at 804 (by decide +kernel) rfl, zt_at 84 (by decide +kernel) rfl, zt_at 805 (by decide +kernel) rfl, by decide, ⟨by decide +kernel, by decide +kernel, by decide +kernel⟩⟩
theorem wwX6_isDone : zWv yX6_isDone cX6_isDone 2 ((some FieldType.boolean)) 1 := ⟨zt_at 453 (by decide +kernel) rfl, zt_at 454 (by decide +kernel) rfl, zt_at 84 (by decide +kernel) rfl, zt_at 455 (by decide +kernel) rfl, by decide, ⟨by decide +kernel, by decide +kernel, by decide +kernel⟩⟩
theorem wwX6_doneBits : zWv yX6_doneBits cX6_doneBits 3 ((some FieldType.int)) 0 := ⟨zt_at 696 (by decide +kernel) rfl, zt_at 697 (by decide +kernel) rfl, zt_at 84 (by decide +kernel) rfl, zt_at 698 (by decide +kernel) rfl, by decide, ⟨by decide +kernel, by decide +kernel, by decide +kernel⟩⟩
theorem wwX6_heatOfAll : zWv yX6_heatOfAll cX6_heatOfAll 3 ((some FieldType.int)) 0 := ⟨zt_at 701 (by decide +kernel) rfl, zt_at 702 (by decide +kernel) rfl, zt_at 84 (by decide +kernel) rfl, zt_at 703 (by decide +kernel) rfl, by decide, ⟨by decide +kernel, by decide +kernel, by decide +kernel⟩⟩
theorem wwX6_countHere : zWv yX6_countHere cX6_countHere 3 ((some FieldType.int)) 0 := ⟨zt_at 816 (by decide +kernel) rfl, zt_at 817 (by decide +kernel) rfl, zt_at 84 (by decide +kernel) rfl, zt_at 818 (by decide +kernel) rfl, by decide, ⟨by decide +kernel, by decide +kernel, by decide +kernel⟩⟩
theorem wwX6_hottest : zWv yX6_hottest cX6_hottest 3 ((some FieldType.int)) 0 := ⟨zt_at 475 (by decide +kernel) rfl, zt_at 476 (by decide +kernel) rfl, zt_at 84 (by decide +kernel) rfl, zt_at 477 (by decide +kernel) rfl, by decide, ⟨by decide +kernel, by decide +kernel, by decide +kernel⟩⟩
theorem wwX6_countBeside : zWv yX6_countBeside cX6_countBeside 4 ((some FieldType.int)) 2 := ⟨zt_at 412 (by decide +kernel) rfl, zt_at 413 (by decide +kernel) rfl, zt_at 84 (by decide +kernel) rfl, zt_at 414 (by decide +kernel) rfl, by decide, ⟨by decide +kernel, by decide +kernel, by decide +kernel⟩⟩
theorem wwX6_spark : zWv yX6_spark cX6_spark 1 ((some FieldType.int)) 0 := ⟨zt_at 479 (by decide +kernel) rfl, zt_at 480 (by decide +kernel) rfl, zt_at 84 (by decide +kernel) rfl, zt_at 481 (by decide +kernel) rfl, by decide, ⟨by decide +kernel, by decide +kernel, by decide +kernel⟩⟩
theorem wwX6_riseOf : zWv yX6_riseOf cX6_riseOf 6 ((some FieldType.int)) 1 := ⟨zt_at 408 (by decide +kernel) rfl, zt_at 409 (by decide +kernel) rfl, zt_at 84 (by decide +kernel) rfl, zt_at 410 (by decide +kernel) rfl, by decide, ⟨by decide +kernel, by decide +kernel, by decide +kernel⟩⟩
theorem wwX6_setLetters : zWv yX6_setLetters cX6_setLetters 3 (none) 2 := ⟨zt_at 418 (by decide +kernel) rfl, zt_at 0 (by decide +kernel) rfl, zt_at 84 (by decide +kernel) rfl, zt_at 419 (by decide +kernel) rfl, by decide, ⟨by decide +kernel, by decide +kernel, by decide +kernel⟩⟩
theorem wwX6_goOn : zWv yX6_goOn cX6_goOn 3 (none) 1 := ⟨zt_at 709 (by decide +kernel) rfl, zt_at 710 (by decide +kernel) rfl, zt_at 84 (by decide +kernel) rfl, zt_at 711 (by decide +kernel) rfl, by decide, ⟨by decide +kernel, by decide +kernel, by decide +kernel⟩⟩
theorem wwX6_goOneMinute : zWv yX6_goOneMinute cX6_goOneMinute 5 (none) 0 := ⟨zt_at 470 (by decide +kernel) rfl, zt_at 471 (by decide +kernel) rfl, zt_at 84 (by decide +kernel) rfl, zt_at 472 (by decide +kernel) rfl, by decide, ⟨by decide +kernel, by decide +kernel, by decide +kernel⟩⟩
theorem wwX7_become : zWv yX7_become cX7_become 2 (none) 1 := ⟨zt_at 868 (by decide +kernel) rfl, zt_at 869 (by decide +kernel) rfl, zt_at 83 (by decide +kernel) rfl, zt_at 870 (by decide +kernel) rfl, by decide, ⟨by decide +kernel, by decide +kernel, by decide +kernel⟩⟩
theorem wwX8_one : zWv yX8_one cX8_one 4 ((some FieldType.int)) 3 := ⟨zt_at 386 (by decide +kernel) rfl, zt_at 387 (by decide +kernel) rfl, zt_at 82 (by decide +kernel) rfl, zt_at 388 (by decide +kernel) rfl, by decide, ⟨by decide +kernel, by decide +kernel, by decide +kernel⟩⟩
theorem wwX8_of : zWv yX8_of cX8_of 3 ((some FieldType.int)) 2 := ⟨zt_at 397 (by decide +kernel) rfl, zt_at 398 (by decide +kernel) rfl, zt_at 82 (by decide +kernel) rfl, zt_at 399 (by decide +kernel) rfl, by decide, ⟨by decide +kernel, by decide +kernel, by decide +kernel⟩⟩
theorem wwX8_heat : zWv yX8_heat cX8_heat 4 ((some FieldType.int)) 2 := ⟨zt_at 429 (by decide +kernel) rfl, zt_at 430 (by decide +kernel) rfl, zt_at 82 (by decide +kernel) rfl, zt_at 431 (by decide +kernel) rfl, by decide, ⟨by decide +kernel, by decide +kernel, by decide +kernel⟩⟩
theorem wwX8_away : zWv yX8_away cX8_away 4 ((some FieldType.int)) 2 := ⟨zt_at 433 (by decide +kernel) rfl, zt_at 434 (by decide +kernel) rfl, zt_at 82 (by decide +kernel) rfl, zt_at 435 (by decide +kernel) rfl, by decide, ⟨by decide +kernel, by decide +kernel, by decide +kernel⟩⟩
theorem wwX8_work : zWv yX8_work cX8_work 3 ((some FieldType.int)) 2 := ⟨zt_at 437 (by decide +kernel) rfl, zt_at 438 (by decide +kernel) rfl, zt_at 82 (by decide +kernel) rfl, zt_at 439 (by decide +kernel) rfl, by decide, ⟨by decide +kernel, by decide +kernel, by decide +kernel⟩⟩
theorem wwX8_piece : zWv yX8_piece cX8_piece 3 ((some FieldType.int)) 2 := ⟨zt_at 445 (by decide +kernel) rfl, zt_at 446 (by decide +kernel) rfl, zt_at 82 (by decide +kernel) rfl, zt_at 447 (by decide +kernel) rfl, by decide, ⟨by decide +kernel, by decide +kernel, by decide +kernel⟩⟩
theorem wwX8_anvil : zWv yX8_anvil cX8_anvil 3 ((some FieldType.int)) 1 := ⟨zt_at 490 (by decide +kernel) rfl, zt_at 491 (by decide +kernel) rfl, zt_at 82 (by decide +kernel) rfl, zt_at 492 (by decide +kernel) rfl, by decide, ⟨by decide +kernel, by decide +kernel, by decide +kernel⟩⟩
theorem wwX8_row : zWv yX8_row cX8_row 6 ((some FieldType.int)) 3 := ⟨zt_at 497 (by decide +kernel) rfl, zt_at 498 (by decide +kernel) rfl, zt_at 82 (by decide +kernel) rfl, zt_at 499 (by decide +kernel) rfl, by decide, ⟨by decide +kernel, by decide +kernel, by decide +kernel⟩⟩
theorem wwX8_feed : zWv yX8_feed cX8_feed 2 ((some FieldType.int)) 1 := ⟨zt_at 501 (by decide +kernel) rfl, zt_at 502 (by decide +kernel) rfl, zt_at 82 (by decide +kernel) rfl, zt_at 503 (by decide +kernel) rfl, by decide, ⟨by decide +kernel, by decide +kernel, by decide +kernel⟩⟩
theorem wwX8_square : zWv yX8_square cX8_square 3 ((some FieldType.int)) 0 := ⟨zt_at 509 (by decide +kernel) rfl, zt_at 510 (by decide +kernel) rfl, zt_at 82 (by decide +kernel) rfl, zt_at 511 (by decide +kernel) rfl, by decide, ⟨by decide +kernel, by decide +kernel, by decide +kernel⟩⟩
theorem wwX8_told : zWv yX8_told cX8_told 2 ((some FieldType.int)) 1 := ⟨zt_at 691 (by decide +kernel) rfl, zt_at 692 (by decide +kernel) rfl, zt_at 82 (by decide +kernel) rfl, zt_at 693 (by decide +kernel) rfl, by decide, ⟨by decide +kernel, by decide +kernel, by decide +kernel⟩⟩
theorem wwX8_pass : zWv yX8_pass cX8_pass 2 ((some FieldType.int)) 1 := ⟨zt_at 705 (by decide +kernel) rfl, zt_at 706 (by decide +kernel) rfl, zt_at 82 (by decide +kernel) rfl, zt_at 707 (by decide +kernel) rfl, by decide, ⟨by decide +kernel, by decide +kernel, by decide +kernel⟩⟩
theorem wwX8_on : zWv yX8_on cX8_on 6 ((some FieldType.int)) 2 := ⟨zt_at 714 (by decide +kernel) rfl, zt_at 715 (by decide +kernel) rfl, zt_at 82 (by decide +kernel) rfl, zt_at 716 (by decide +kernel) rfl, by decide, ⟨by decide +kernel, by decide +kernel, by decide +kernel⟩⟩
theorem wwX8_best : zWv yX8_best cX8_best 4 ((some FieldType.int)) 2 := ⟨zt_at 723 (by decide +kernel) rfl, zt_at 724 (by decide +kernel) rfl, zt_at 82 (by decide +kernel) rfl, zt_at 725 (by decide +kernel) rfl, by decide, ⟨by decide +kernel, by decide +kernel, by decide +kernel⟩⟩
theorem wwX8_talk : zWv yX8_talk cX8_talk 4 ((some FieldType.int)) 2 := ⟨zt_at 755 (by decide +kernel) rfl, zt_at 756 (by decide +kernel) rfl, zt_at 82 (by decide +kernel) rfl, zt_at 757 (by decide +kernel) rfl, by decide, ⟨by decide +kernel, by decide +kernel, by decide +kernel⟩⟩
theorem wwX8_see : zWv yX8_see cX8_see 4 ((some FieldType.int)) 3 := ⟨zt_at 773 (by decide +kernel) rfl, zt_at 774 (by decide +kernel) rfl, zt_at 82 (by decide +kernel) rfl, zt_at 775 (by decide +kernel) rfl, by decide, ⟨by decide +kernel, by decide +kernel, by decide +kernel⟩⟩
theorem wwX8_can : zWv yX8_can cX8_can 4 ((some FieldType.int)) 3 := ⟨zt_at 790 (by decide +kernel) rfl, zt_at 791 (by decide +kernel) rfl, zt_at 82 (by decide +kernel) rfl, zt_at 792 (by decide +kernel) rfl, by decide, ⟨by decide +kernel, by decide +kernel, by decide +kernel⟩⟩
theorem wwX8_odds : zWv yX8_odds cX8_odds 4 ((some FieldType.long)) 3 := ⟨zt_at 807 (by decide +kernel) rfl, zt_at 808 (by decide +kernel) rfl, zt_at 82 (by decide +kernel) rfl, zt_at 809 (by decide +kernel) rfl, by decide, ⟨by decide +kernel, by decide +kernel, by decide +kernel⟩⟩
theorem wwX8_mean : zWv yX8_mean cX8_mean 3 ((some FieldType.long)) 2 := ⟨zt_at 823 (by decide +kernel) rfl, zt_at 824 (by decide +kernel) rfl, zt_at 82 (by decide +kernel) rfl, zt_at 825 (by decide +kernel) rfl, by decide, ⟨by decide +kernel, by decide +kernel, by decide +kernel⟩⟩
theorem wwX8_plan : zWv yX8_plan cX8_plan 4 ((some FieldType.int)) 2 := ⟨zt_at 827 (by decide +kernel) rfl, zt_at 828 (by decide +kernel) rfl, zt_at 82 (by decide +kernel) rfl, zt_at 829 (by decide +kernel) rfl, by decide, ⟨by decide +kernel, by decide +kernel, by decide +kernel⟩⟩
theorem wwX8_ends : zWv yX8_ends cX8_ends 3 ((some FieldType.int)) 1 := ⟨zt_at 831 (by decide +kernel) rfl, zt_at 832 (by decide +kernel) rfl, zt_at 82 (by decide +kernel) rfl, zt_at 833 (by decide +kernel) rfl, by decide, ⟨by decide +kernel, by decide +kernel, by decide +kernel⟩⟩
theorem wwX8_book : zWv yX8_book cX8_book 3 ((some FieldType.int)) 2 := ⟨zt_at 844 (by decide +kernel) rfl, zt_at 845 (by decide +kernel) rfl, zt_at 82 (by decide +kernel) rfl, zt_at 846 (by decide +kernel) rfl, by decide, ⟨by decide +kernel, by decide +kernel, by decide +kernel⟩⟩
theorem wwX8_looked : zWv yX8_looked cX8_looked 4 ((some FieldType.int)) 0 := ⟨zt_at 848 (by decide +kernel) rfl, zt_at 849 (by decide +kernel) rfl, zt_at 82 (by decide +kernel) rfl, zt_at 850 (by decide +kernel) rfl, by decide, ⟨by decide +kernel, by decide +kernel, by decide +kernel⟩⟩
theorem wwX8_judge : zWv yX8_judge cX8_judge 4 ((some FieldType.int)) 2 := ⟨zt_at 852 (by decide +kernel) rfl, zt_at 853 (by decide +kernel) rfl, zt_at 82 (by decide +kernel) rfl, zt_at 854 (by decide +kernel) rfl, by decide, ⟨by decide +kernel, by decide +kernel, by decide +kernel⟩⟩
theorem wwX8_image : zWv yX8_image cX8_image 1 ((some FieldType.int)) 0 := ⟨zt_at 864 (by decide +kernel) rfl, zt_at 865 (by decide +kernel) rfl, zt_at 82 (by decide +kernel) rfl, zt_at 866 (by decide +kernel) rfl, by decide, ⟨by decide +kernel, by decide +kernel, by decide +kernel⟩⟩
theorem wwX8_undo : zWv yX8_undo cX8_undo 1 ((some FieldType.int)) 0 := ⟨zt_at 877 (by decide +kernel) rfl, zt_at 878 (by decide +kernel) rfl, zt_at 82 (by decide +kernel) rfl, zt_at 879 (by decide +kernel) rfl, by decide, ⟨by decide +kernel, by decide +kernel, by decide +kernel⟩⟩
theorem wwX8_act : zWv yX8_act cX8_act 4 ((some FieldType.int)) 3 := ⟨zt_at 881 (by decide +kernel) rfl, zt_at 882 (by decide +kernel) rfl, zt_at 82 (by decide +kernel) rfl, zt_at 883 (by decide +kernel) rfl, by decide, ⟨by decide +kernel, by decide +kernel, by decide +kernel⟩⟩
theorem wwX8_trace : zWv yX8_trace cX8_trace 2 ((some FieldType.int)) 1 := ⟨zt_at 905 (by decide +kernel) rfl, zt_at 906 (by decide +kernel) rfl, zt_at 82 (by decide +kernel) rfl, zt_at 907 (by decide +kernel) rfl, by decide, ⟨by decide +kernel, by decide +kernel, by decide +kernel⟩⟩
theorem wwX8_taken : zWv yX8_taken cX8_taken 3 ((some FieldType.int)) 2 := ⟨zt_at 909 (by decide +kernel) rfl, zt_at 910 (by decide +kernel) rfl, zt_at 82 (by decide +kernel) rfl, zt_at 911 (by decide +kernel) rfl, by decide, ⟨by decide +kernel, by decide +kernel, by decide +kernel⟩⟩
theorem wwX8_count : zWv yX8_count cX8_count 2 ((some FieldType.int)) 1 := ⟨zt_at 917 (by decide +kernel) rfl, zt_at 918 (by decide +kernel) rfl, zt_at 82 (by decide +kernel) rfl, zt_at 919 (by decide +kernel) rfl, by decide, ⟨by decide +kernel, by decide +kernel, by decide +kernel⟩⟩
theorem wwX8_tape : zWv yX8_tape cX8_tape 4 ((some FieldType.int)) 3 := ⟨zt_at 921 (by decide +kernel) rfl, zt_at 922 (by decide +kernel) rfl, zt_at 82 (by decide +kernel) rfl, zt_at 923 (by decide +kernel) rfl, by decide, ⟨by decide +kernel, by decide +kernel, by decide +kernel⟩⟩
theorem wwX8_item : zWv yX8_item cX8_item 5 ((some FieldType.int)) 3 := ⟨zt_at 929 (by decide +kernel) rfl, zt_at 930 (by decide +kernel) rfl, zt_at 82 (by decide +kernel) rfl, zt_at 931 (by decide +kernel) rfl, by decide, ⟨by decide +kernel, by decide +kernel, by decide +kernel⟩⟩
theorem wwX8_read : zWv yX8_read cX8_read 3 ((some FieldType.long)) 2 := ⟨zt_at 945 (by decide +kernel) rfl, zt_at 946 (by decide +kernel) rfl, zt_at 82 (by decide +kernel) rfl, zt_at 947 (by decide +kernel) rfl, by decide, ⟨by decide +kernel, by decide +kernel, by decide +kernel⟩⟩
theorem wwX8_shift : zWv yX8_shift cX8_shift 6 ((some FieldType.int)) 5 := ⟨zt_at 949 (by decide +kernel) rfl, zt_at 950 (by decide +kernel) rfl, zt_at 82 (by decide +kernel) rfl, zt_at 951 (by decide +kernel) rfl, by decide, ⟨by decide +kernel, by decide +kernel, by decide +kernel⟩⟩
theorem wwX8_isWithin : zWs yX8_isWithin cX8_isWithin 3 ((some FieldType.boolean)) 3 := ⟨zt_at 390 (by decide +kernel) rfl, zt_at 82 (by decide +kernel) rfl, zt_at 391 (by decide +kernel) rfl, by decide, ⟨by decide +kernel, by decide +kernel, by decide +kernel⟩⟩
theorem wwX8_asNumber : zWs yX8_asNumber cX8_asNumber 1 ((some FieldType.int)) 1 := ⟨zt_at 405 (by decide +kernel) rfl, zt_at 82 (by decide +kernel) rfl, zt_at 406 (by decide +kernel) rfl, by decide, ⟨by decide +kernel, by decide +kernel, by decide +kernel⟩⟩
theorem wwX8_orLacks : zWs yX8_orLacks cX8_orLacks 1 ((some FieldType.int)) 1 := ⟨zt_at 494 (by decide +kernel) rfl, zt_at 82 (by decide +kernel) rfl, zt_at 495 (by decide +kernel) rfl, by decide, ⟨by decide +kernel, by decide +kernel, by decide +kernel⟩⟩
theorem wwX8_isOrIsUnder : zWs yX8_isOrIsUnder cX8_isOrIsUnder 4 ((some FieldType.boolean)) 2 := ⟨zt_at 913 (by decide +kernel) rfl, zt_at 82 (by decide +kernel) rfl, zt_at 914 (by decide +kernel) rfl, by decide, ⟨by decide +kernel, by decide +kernel, by decide +kernel⟩⟩
theorem wwX8_lowestTerms : zWs yX8_lowestTerms cX8_lowestTerms 4 ((some FieldType.long)) 3 := ⟨zt_at 820 (by decide +kernel) rfl, zt_at 82 (by decide +kernel) rfl, zt_at 821 (by decide +kernel) rfl, by decide, ⟨by decide +kernel, by decide +kernel, by decide +kernel⟩⟩
theorem wwX9_in : zWv yX9_in cX9_in 4 ((some FieldType.boolean)) 3 := ⟨zt_at 1200 (by decide +kernel) rfl, zt_at 20 (by decide +kernel) rfl, zt_at 91 (by decide +kernel) rfl, zt_at 1201 (by decide +kernel) rfl, by decide, ⟨by decide +kernel, by decide +kernel, by decide +kernel⟩⟩
theorem wwX9_has : zWv yX9_has cX9_has 3 ((some FieldType.boolean)) 2 := ⟨zt_at 1220 (by decide +kernel) rfl, zt_at 23 (by decide +kernel) rfl, zt_at 91 (by decide +kernel) rfl, zt_at 1221 (by decide +kernel) rfl, by decide, ⟨by decide +kernel, by decide +kernel, by decide +kernel⟩⟩
theorem wwX9_least : zWv yX9_least cX9_least 3 ((some FieldType.int)) 2 := ⟨zt_at 1384 (by decide +kernel) rfl, zt_at 56 (by decide +kernel) rfl, zt_at 91 (by decide +kernel) rfl, zt_at 1385 (by decide +kernel) rfl, by decide, ⟨by decide +kernel, by decide +kernel, by decide +kernel⟩⟩
theorem wwX9_held : zWv yX9_held cX9_held 2 ((some FieldType.int)) 1 := ⟨zt_at 1380 (by decide +kernel) rfl, zt_at 55 (by decide +kernel) rfl, zt_at 91 (by decide +kernel) rfl, zt_at 1381 (by decide +kernel) rfl, by decide, ⟨by decide +kernel, by decide +kernel, by decide +kernel⟩⟩
theorem wwX9_isOne : zWv yX9_isOne cX9_isOne 2 ((some FieldType.boolean)) 1 := ⟨zt_at 1212 (by decide +kernel) rfl, zt_at 22 (by decide +kernel) rfl, zt_at 91 (by decide +kernel) rfl, zt_at 1213 (by decide +kernel) rfl, by decide, ⟨by decide +kernel, by decide +kernel, by decide +kernel⟩⟩
theorem wwX9_isWork : zWv yX9_isWork cX9_isWork 2 ((some FieldType.boolean)) 1 := ⟨zt_at 1236 (by decide +kernel) rfl, zt_at 25 (by decide +kernel) rfl, zt_at 91 (by decide +kernel) rfl, zt_at 1237 (by decide +kernel) rfl, by decide, ⟨by decide +kernel, by decide +kernel, by decide +kernel⟩⟩
theorem wwX9_isHeat : zWv yX9_isHeat cX9_isHeat 2 ((some FieldType.boolean)) 1 := ⟨zt_at 1204 (by decide +kernel) rfl, zt_at 21 (by decide +kernel) rfl, zt_at 91 (by decide +kernel) rfl, zt_at 1205 (by decide +kernel) rfl, by decide, ⟨by decide +kernel, by decide +kernel, by decide +kernel⟩⟩
theorem wwX9_isMinutes : zWv yX9_isMinutes cX9_isMinutes 2 ((some FieldType.boolean)) 1 := ⟨zt_at 1368 (by decide +kernel) rfl, zt_at 52 (by decide +kernel) rfl, zt_at 91 (by decide +kernel) rfl, zt_at 1369 (by decide +kernel) rfl, by decide, ⟨by decide +kernel, by decide +kernel, by decide +kernel⟩⟩
theorem wwX9_one : zWv yX9_one cX9_one 5 ((some FieldType.int)) 3 := ⟨zt_at 1195 (by decide +kernel) rfl, zt_at 1196 (by decide +kernel) rfl, zt_at 91 (by decide +kernel) rfl, zt_at 1197 (by decide +kernel) rfl, by decide, ⟨by decide +kernel, by decide +kernel, by decide +kernel⟩⟩
theorem wwX9_heat : zWv yX9_heat cX9_heat 4 ((some FieldType.int)) 2 := ⟨zt_at 1207 (by decide +kernel) rfl, zt_at 1208 (by decide +kernel) rfl, zt_at 91 (by decide +kernel) rfl, zt_at 1209 (by decide +kernel) rfl, by decide, ⟨by decide +kernel, by decide +kernel, by decide +kernel⟩⟩
theorem wwX9_goes : zWv yX9_goes cX9_goes 3 (none) 2 := ⟨zt_at 1224 (by decide +kernel) rfl, zt_at 24 (by decide +kernel) rfl, zt_at 91 (by decide +kernel) rfl, zt_at 1225 (by decide +kernel) rfl, by decide, ⟨by decide +kernel, by decide +kernel, by decide +kernel⟩⟩
theorem wwX9_away : zWv yX9_away cX9_away 4 ((some FieldType.int)) 2 := ⟨zt_at 1215 (by decide +kernel) rfl, zt_at 1216 (by decide +kernel) rfl, zt_at 91 (by decide +kernel) rfl, zt_at 1217 (by decide +kernel) rfl, by decide, ⟨by decide +kernel, by decide +kernel, by decide +kernel⟩⟩
theorem wwX9_work : zWv yX9_work cX9_work 3 ((some FieldType.int)) 2 := ⟨zt_at 1227 (by decide +kernel) rfl, zt_at 1228 (by decide +kernel) rfl, zt_at 91 (by decide +kernel) rfl, zt_at 1229 (by decide +kernel) rfl, by decide, ⟨by decide +kernel, by decide +kernel, by decide +kernel⟩⟩
theorem wwX9_anvil : zWv yX9_anvil cX9_anvil 3 ((some FieldType.int)) 1 := ⟨zt_at 1231 (by decide +kernel) rfl, zt_at 1232 (by decide +kernel) rfl, zt_at 91 (by decide +kernel) rfl, zt_at 1233 (by decide +kernel) rfl, by decide, ⟨by decide +kernel, by decide +kernel, by decide +kernel⟩⟩
theorem wwX9_row : zWv yX9_row cX9_row 5 ((some FieldType.int)) 3 := ⟨zt_at 1239 (by decide +kernel) rfl, zt_at 1240 (by decide +kernel) rfl, zt_at 91 (by decide +kernel) rfl, zt_at 1241 (by decide +kernel) rfl, by decide, ⟨by decide +kernel, by decide +kernel, by decide +kernel⟩⟩
theorem wwX9_feed : zWv yX9_feed cX9_feed 2 ((some FieldType.int)) 1 := ⟨zt_at 1243 (by decide +kernel) rfl, zt_at 1244 (by decide +kernel) rfl, zt_at 91 (by decide +kernel) rfl, zt_at 1245 (by decide +kernel) rfl, by decide, ⟨by decide +kernel, by decide +kernel, by decide +kernel⟩⟩
theorem wwX9_next : zWv yX9_next cX9_next 1 ((some FieldType.int)) 0 := ⟨zt_at 1264 (by decide +kernel) rfl, zt_at 29 (by decide +kernel) rfl, zt_at 91 (by decide +kernel) rfl, zt_at 1265 (by decide +kernel) rfl, by decide, ⟨by decide +kernel, by decide +kernel, by decide +kernel⟩⟩
theorem wwX9_takes : zWv yX9_takes cX9_takes 2 ((some FieldType.boolean)) 1 := ⟨zt_at 1272 (by decide +kernel) rfl, zt_at 31 (by decide +kernel) rfl, zt_at 91 (by decide +kernel) rfl, zt_at 1273 (by decide +kernel) rfl, by decide, ⟨by decide +kernel, by decide +kernel, by decide +kernel⟩⟩
theorem wwX9_takesWord : zWv yX9_takesWord cX9_takesWord 4 ((some FieldType.boolean)) 2 := ⟨zt_at 1268 (by decide +kernel) rfl, zt_at 30 (by decide +kernel) rfl, zt_at 91 (by decide +kernel) rfl, zt_at 1269 (by decide +kernel) rfl, by decide, ⟨by decide +kernel, by decide +kernel, by decide +kernel⟩⟩
theorem wwX9_isDigit : zWv yX9_isDigit cX9_isDigit 1 ((some FieldType.boolean)) 0 := ⟨zt_at 1280 (by decide +kernel) rfl, zt_at 33 (by decide +kernel) rfl, zt_at 91 (by decide +kernel) rfl, zt_at 1281 (by decide +kernel) rfl, by decide, ⟨by decide +kernel, by decide +kernel, by decide +kernel⟩⟩
theorem wwX9_takesNumber : zWv yX9_takesNumber cX9_takesNumber 2 ((some FieldType.boolean)) 0 := ⟨zt_at 1276 (by decide +kernel) rfl, zt_at 32 (by decide +kernel) rfl, zt_at 91 (by decide +kernel) rfl, zt_at 1277 (by decide +kernel) rfl, by decide, ⟨by decide +kernel, by decide +kernel, by decide +kernel⟩⟩
theorem wwX9_emits : zWv yX9_emits cX9_emits 2 (none) 1 := ⟨zt_at 1296 (by decide +kernel) rfl, zt_at 37 (by decide +kernel) rfl, zt_at 91 (by decide +kernel) rfl, zt_at 1297 (by decide +kernel) rfl, by decide, ⟨by decide +kernel, by decide +kernel, by decide +kernel⟩⟩
theorem wwX9_whole : zWv yX9_whole cX9_whole 1 (none) 0 := ⟨zt_at 1300 (by decide +kernel) rfl, zt_at 38 (by decide +kernel) rfl, zt_at 91 (by decide +kernel) rfl, zt_at 1301 (by decide +kernel) rfl, by decide, ⟨by decide +kernel, by decide +kernel, by decide +kernel⟩⟩
theorem wwX9_settle : zWv yX9_settle cX9_settle 2 (none) 1 := ⟨zt_at 1304 (by decide +kernel) rfl, zt_at 39 (by decide +kernel) rfl, zt_at 91 (by decide +kernel) rfl, zt_at 1305 (by decide +kernel) rfl, by decide, ⟨by decide +kernel, by decide +kernel, by decide +kernel⟩⟩
theorem wwX9_place : zWv yX9_place cX9_place 2 ((some FieldType.int)) 1 := ⟨zt_at 1292 (by decide +kernel) rfl, zt_at 36 (by decide +kernel) rfl, zt_at 91 (by decide +kernel) rfl, zt_at 1293 (by decide +kernel) rfl, by decide, ⟨by decide +kernel, by decide +kernel, by decide +kernel⟩⟩
theorem wwX9_takesTest : zWv yX9_takesTest cX9_takesTest 3 ((some FieldType.boolean)) 0 := ⟨zt_at 1288 (by decide +kernel) rfl, zt_at 35 (by decide +kernel) rfl, zt_at 91 (by decide +kernel) rfl, zt_at 1289 (by decide +kernel) rfl, by decide, ⟨by decide +kernel, by decide +kernel, by decide +kernel⟩⟩
theorem wwX9_takesE : zWv yX9_takesE cX9_takesE 4 ((some FieldType.boolean)) 1 := ⟨zt_at 1284 (by decide +kernel) rfl, zt_at 34 (by decide +kernel) rfl, zt_at 91 (by decide +kernel) rfl, zt_at 1285 (by decide +kernel) rfl, by decide, ⟨by decide +kernel, by decide +kernel, by decide +kernel⟩⟩
theorem wwX9_takesHead : zWv yX9_takesHead cX9_takesHead 2 ((some FieldType.boolean)) 1 := ⟨zt_at 1260 (by decide +kernel) rfl, zt_at 28 (by decide +kernel) rfl, zt_at 91 (by decide +kernel) rfl, zt_at 1261 (by decide +kernel) rfl, by decide, ⟨by decide +kernel, by decide +kernel, by decide +kernel⟩⟩
theorem wwX9_takesClause : zWv yX9_takesClause cX9_takesClause 2 ((some FieldType.boolean)) 1 := ⟨zt_at 1256 (by decide +kernel) rfl, zt_at 27 (by decide +kernel) rfl, zt_at 91 (by decide +kernel) rfl, zt_at 1257 (by decide +kernel) rfl, by decide, ⟨by decide +kernel, by decide +kernel, by decide +kernel⟩⟩
theorem wwX9_goesText : zWv yX9_goesText cX9_goesText 3 ((some FieldType.boolean)) 1 := ⟨zt_at 1252 (by decide +kernel) rfl, zt_at 26 (by decide +kernel) rfl, zt_at 91 (by decide +kernel) rfl, zt_at 1253 (by decide +kernel) rfl, by decide, ⟨by decide +kernel, by decide +kernel, by decide +kernel⟩⟩
theorem wwX9_square : zWv yX9_square cX9_square 2 ((some FieldType.int)) 0 := ⟨zt_at 1247 (by decide +kernel) rfl, zt_at 1248 (by decide +kernel) rfl, zt_at 91 (by decide +kernel) rfl, zt_at 1249 (by decide +kernel) rfl, by decide, ⟨by decide +kernel, by decide +kernel, by decide +kernel⟩⟩
theorem wwX9_begin : zWv yX9_begin cX9_begin 1 ((some FieldType.int)) 0 := ⟨zt_at 1320 (by decide +kernel) rfl, zt_at 42 (by decide +kernel) rfl, zt_at 91 (by decide +kernel) rfl, zt_at 1321 (by decide +kernel) rfl, by decide, ⟨by decide +kernel, by decide +kernel, by decide +kernel⟩⟩
theorem wwX9_behind : zWv yX9_behind cX9_behind 1 ((some FieldType.int)) 0 := ⟨zt_at 1324 (by decide +kernel) rfl, zt_at 43 (by decide +kernel) rfl, zt_at 91 (by decide +kernel) rfl, zt_at 1325 (by decide +kernel) rfl, by decide, ⟨by decide +kernel, by decide +kernel, by decide +kernel⟩⟩
theorem wwX9_spark : zWv yX9_spark cX9_spark 3 ((some FieldType.int)) 0 := ⟨zt_at 1344 (by decide +kernel) rfl, zt_at 47 (by decide +kernel) rfl, zt_at 91 (by decide +kernel) rfl, zt_at 1345 (by decide +kernel) rfl, by decide, ⟨by decide +kernel, by decide +kernel, by decide +kernel⟩⟩
theorem wwX9_beside : zWv yX9_beside cX9_beside 4 ((some FieldType.int)) 2 := ⟨zt_at 1336 (by decide +kernel) rfl, zt_at 46 (by decide +kernel) rfl, zt_at 91 (by decide +kernel) rfl, zt_at 1337 (by decide +kernel) rfl, by decide, ⟨by decide +kernel, by decide +kernel, by decide +kernel⟩⟩
theorem wwX9_factOf : zWv yX9_factOf cX9_factOf 3 ((some FieldType.int)) 2 := ⟨zt_at 1332 (by decide +kernel) rfl, zt_at 45 (by decide +kernel) rfl, zt_at 91 (by decide +kernel) rfl, zt_at 1333 (by decide +kernel) rfl, by decide, ⟨by decide +kernel, by decide +kernel, by decide +kernel⟩⟩
theorem wwX9_holds : zWv yX9_holds cX9_holds 8 ((some FieldType.boolean)) 2 := ⟨zt_at 1328 (by decide +kernel) rfl, zt_at 44 (by decide +kernel) rfl, zt_at 91 (by decide +kernel) rfl, zt_at 1329 (by decide +kernel) rfl, by decide, ⟨by decide +kernel, by decide +kernel, by decide +kernel⟩⟩
theorem wwX9_sum : zWv yX9_sum cX9_sum 4 ((some FieldType.int)) 1 := ⟨zt_at 1316 (by decide +kernel) rfl, zt_at 41 (by decide +kernel) rfl, zt_at 91 (by decide +kernel) rfl, zt_at 1317 (by decide +kernel) rfl, by decide, ⟨by decide +kernel, by decide +kernel, by decide +kernel⟩⟩
theorem wwX9_rise : zWv yX9_rise cX9_rise 5 ((some FieldType.int)) 1 := ⟨zt_at 1312 (by decide +kernel) rfl, zt_at 40 (by decide +kernel) rfl, zt_at 91 (by decide +kernel) rfl, zt_at 1313 (by decide +kernel) rfl, by decide, ⟨by decide +kernel, by decide +kernel, by decide +kernel⟩⟩
theorem wwX9_of : zWv yX9_of cX9_of 3 ((some FieldType.int)) 2 := ⟨zt_at 1307 (by decide +kernel) rfl, zt_at 1308 (by decide +kernel) rfl, zt_at 91 (by decide +kernel) rfl, zt_at 1309 (by decide +kernel) rfl, by decide, ⟨by decide +kernel, by decide +kernel, by decide +kernel⟩⟩
theorem wwX9_hottest : zWv yX9_hottest cX9_hottest 3 ((some FieldType.int)) 0 := ⟨zt_at 1356 (by decide +kernel) rfl, zt_at 50 (by decide +kernel) rfl, zt_at 91 (by decide +kernel) rfl, zt_at 1357 (by decide +kernel) rfl, by decide, ⟨by decide +kernel, by decide +kernel, by decide +kernel⟩⟩
theorem wwX9_isDone : zWv yX9_isDone cX9_isDone 2 ((some FieldType.boolean)) 1 := ⟨zt_at 1352 (by decide +kernel) rfl, zt_at 49 (by decide +kernel) rfl, zt_at 91 (by decide +kernel) rfl, zt_at 1353 (by decide +kernel) rfl, by decide, ⟨by decide +kernel, by decide +kernel, by decide +kernel⟩⟩
theorem wwX9_doneSet : zWv yX9_doneSet cX9_doneSet 3 ((some FieldType.int)) 0 := ⟨zt_at 1348 (by decide +kernel) rfl, zt_at 48 (by decide +kernel) rfl, zt_at 91 (by decide +kernel) rfl, zt_at 1349 (by decide +kernel) rfl, by decide, ⟨by decide +kernel, by decide +kernel, by decide +kernel⟩⟩
theorem wwX9_allHeat : zWv yX9_allHeat cX9_allHeat 3 ((some FieldType.int)) 0 := ⟨zt_at 1360 (by decide +kernel) rfl, zt_at 51 (by decide +kernel) rfl, zt_at 91 (by decide +kernel) rfl, zt_at 1361 (by decide +kernel) rfl, by decide, ⟨by decide +kernel, by decide +kernel, by decide +kernel⟩⟩
theorem wwX9_told : zWv yX9_told cX9_told 2 ((some FieldType.int)) 1 := ⟨zt_at 1339 (by decide +kernel) rfl, zt_at 1340 (by decide +kernel) rfl, zt_at 91 (by decide +kernel) rfl, zt_at 1341 (by decide +kernel) rfl, by decide, ⟨by decide +kernel, by decide +kernel, by decide +kernel⟩⟩
theorem wwX9_goMinute : zWv yX9_goMinute cX9_goMinute 4 (none) 0 := ⟨zt_at 1376 (by decide +kernel) rfl, zt_at 54 (by decide +kernel) rfl, zt_at 91 (by decide +kernel) rfl, zt_at 1377 (by decide +kernel) rfl, by decide, ⟨by decide +kernel, by decide +kernel, by decide +kernel⟩⟩
theorem wwX9_goMinutes : zWv yX9_goMinutes cX9_goMinutes 3 (none) 1 := ⟨zt_at 1372 (by decide +kernel) rfl, zt_at 53 (by decide +kernel) rfl, zt_at 91 (by decide +kernel) rfl, zt_at 1373 (by decide +kernel) rfl, by decide, ⟨by decide +kernel, by decide +kernel, by decide +kernel⟩⟩
theorem wwX9_pass : zWv yX9_pass cX9_pass 2 ((some FieldType.int)) 1 := ⟨zt_at 1363 (by decide +kernel) rfl, zt_at 1364 (by decide +kernel) rfl, zt_at 91 (by decide +kernel) rfl, zt_at 1365 (by decide +kernel) rfl, by decide, ⟨by decide +kernel, by decide +kernel, by decide +kernel⟩⟩
theorem wwX9_save : zWv yX9_save cX9_save 2 (none) 0 := ⟨zt_at 1396 (by decide +kernel) rfl, zt_at 58 (by decide +kernel) rfl, zt_at 91 (by decide +kernel) rfl, zt_at 1397 (by decide +kernel) rfl, by decide, ⟨by decide +kernel, by decide +kernel, by decide +kernel⟩⟩
theorem wwX9_putBack : zWv yX9_putBack cX9_putBack 2 (none) 0 := ⟨zt_at 1400 (by decide +kernel) rfl, zt_at 59 (by decide +kernel) rfl, zt_at 91 (by decide +kernel) rfl, zt_at 1401 (by decide +kernel) rfl, by decide, ⟨by decide +kernel, by decide +kernel, by decide +kernel⟩⟩
theorem wwX9_ready : zWv yX9_ready cX9_ready 3 ((some FieldType.int)) 1 := ⟨zt_at 1392 (by decide +kernel) rfl, zt_at 57 (by decide +kernel) rfl, zt_at 91 (by decide +kernel) rfl, zt_at 1393 (by decide +kernel) rfl, by decide, ⟨by decide +kernel, by decide +kernel, by decide +kernel⟩⟩
theorem wwX9_piece : zWv yX9_piece cX9_piece 3 ((some FieldType.int)) 2 := ⟨zt_at 1387 (by decide +kernel) rfl, zt_at 1388 (by decide +kernel) rfl, zt_at 91 (by decide +kernel) rfl, zt_at 1389 (by decide +kernel) rfl, by decide, ⟨by decide +kernel, by decide +kernel, by decide +kernel⟩⟩
theorem wwX9_on : zWv yX9_on cX9_on 4 ((some FieldType.int)) 2 := ⟨zt_at 1403 (by decide +kernel) rfl, zt_at 1404 (by decide +kernel) rfl, zt_at 91 (by decide +kernel) rfl, zt_at 1405 (by decide +kernel) rfl, by decide, ⟨by decide +kernel, by decide +kernel, by decide +kernel⟩⟩
theorem wwX9_layLine : zWv yX9_layLine cX9_layLine 5 ((some FieldType.boolean)) 1 := ⟨zt_at 1412 (by decide +kernel) rfl, zt_at 60 (by decide +kernel) rfl, zt_at 91 (by decide +kernel) rfl, zt_at 1413 (by decide +kernel) rfl, by decide, ⟨by decide +kernel, by decide +kernel, by decide +kernel⟩⟩
theorem wwX9_firstOfLine : zWv yX9_firstOfLine cX9_firstOfLine 2 ((some FieldType.int)) 0 := ⟨zt_at 1420 (by decide +kernel) rfl, zt_at 62 (by decide +kernel) rfl, zt_at 91 (by decide +kernel) rfl, zt_at 1421 (by decide +kernel) rfl, by decide, ⟨by decide +kernel, by decide +kernel, by decide +kernel⟩⟩
theorem wwX9_doneInTime : zWv yX9_doneInTime cX9_doneInTime 6 ((some FieldType.int)) 1 := ⟨zt_at 1416 (by decide +kernel) rfl, zt_at 61 (by decide +kernel) rfl, zt_at 91 (by decide +kernel) rfl, zt_at 1417 (by decide +kernel) rfl, by decide, ⟨by decide +kernel, by decide +kernel, by decide +kernel⟩⟩
theorem wwX9_best : zWv yX9_best cX9_best 8 ((some FieldType.int)) 2 := ⟨zt_at 1407 (by decide +kernel) rfl, zt_at 1408 (by decide +kernel) rfl, zt_at 91 (by decide +kernel) rfl, zt_at 1409 (by decide +kernel) rfl, by decide, ⟨by decide +kernel, by decide +kernel, by decide +kernel⟩⟩
theorem wwX9_hottestIf : zWv yX9_hottestIf cX9_hottestIf 4 ((some FieldType.int)) 2 := ⟨zt_at 1428 (by decide +kernel) rfl, zt_at 63 (by decide +kernel) rfl, zt_at 91 (by decide +kernel) rfl, zt_at 1429 (by decide +kernel) rfl, by decide, ⟨by decide +kernel, by decide +kernel, by decide +kernel⟩⟩
theorem wwX9_talk : zWv yX9_talk cX9_talk 7 ((some FieldType.int)) 2 := ⟨zt_at 1423 (by decide +kernel) rfl, zt_at 1424 (by decide +kernel) rfl, zt_at 91 (by decide +kernel) rfl, zt_at 1425 (by decide +kernel) rfl, by decide, ⟨by decide +kernel, by decide +kernel, by decide +kernel⟩⟩
theorem wwX9_see : zWv yX9_see cX9_see 4 ((some FieldType.int)) 3 := ⟨zt_at 1431 (by decide +kernel) rfl, zt_at 1432 (by decide +kernel) rfl, zt_at 91 (by decide +kernel) rfl, zt_at 1433 (by decide +kernel) rfl, by decide, ⟨by decide +kernel, by decide +kernel, by decide +kernel⟩⟩
theorem wwX9_isSeen : zWv yX9_isSeen cX9_isSeen 3 ((some FieldType.boolean)) 0 := ⟨zt_at 1444 (by decide +kernel) rfl, zt_at 65 (by decide +kernel) rfl, zt_at 91 (by decide +kernel) rfl, zt_at 1445 (by decide +kernel) rfl, by decide, ⟨by decide +kernel, by decide +kernel, by decide +kernel⟩⟩
theorem wwX9_heats : zWv yX9_heats cX9_heats 7 ((some FieldType.int)) 2 := ⟨zt_at 1440 (by decide +kernel) rfl, zt_at 64 (by decide +kernel) rfl, zt_at 91 (by decide +kernel) rfl, zt_at 1441 (by decide +kernel) rfl, by decide, ⟨by decide +kernel, by decide +kernel, by decide +kernel⟩⟩
theorem wwX9_canBe : zWv yX9_canBe cX9_canBe 7 ((some FieldType.int)) 2 := ⟨zt_at 1448 (by decide +kernel) rfl, zt_at 66 (by decide +kernel) rfl, zt_at 91 (by decide +kernel) rfl, zt_at 1449 (by decide +kernel) rfl, by decide, ⟨by decide +kernel, by decide +kernel, by decide +kernel⟩⟩
theorem wwX9_can : zWv yX9_can cX9_can 4 ((some FieldType.int)) 3 := ⟨zt_at 1435 (by decide +kernel) rfl, zt_at 1436 (by decide +kernel) rfl, zt_at 91 (by decide +kernel) rfl, zt_at 1437 (by decide +kernel) rfl, by decide, ⟨by decide +kernel, by decide +kernel, by decide +kernel⟩⟩
theorem wwX9_divisor : zWv yX9_divisor cX9_divisor 6 ((some FieldType.int)) 2 := ⟨zt_at 1465 (by decide +kernel) rfl, zt_at 69 (by decide +kernel) rfl, zt_at 91 (by decide +kernel) rfl, zt_at 1466 (by decide +kernel) rfl, by decide, ⟨by decide +kernel, by decide +kernel, by decide +kernel⟩⟩
theorem wwX9_lowest : zWv yX9_lowest cX9_lowest 5 ((some FieldType.long)) 3 := ⟨zt_at 1461 (by decide +kernel) rfl, zt_at 68 (by decide +kernel) rfl, zt_at 91 (by decide +kernel) rfl, zt_at 1462 (by decide +kernel) rfl, by decide, ⟨by decide +kernel, by decide +kernel, by decide +kernel⟩⟩
theorem wwX9_isHotIf : zWv yX9_isHotIf cX9_isHotIf 5 ((some FieldType.boolean)) 3 := ⟨zt_at 1457 (by decide +kernel) rfl, zt_at 67 (by decide +kernel) rfl, zt_at 91 (by decide +kernel) rfl, zt_at 1458 (by decide +kernel) rfl, by decide, ⟨by decide +kernel, by decide +kernel, by decide +kernel⟩⟩
theorem wwX9_odds : zWv yX9_odds cX9_odds 7 ((some FieldType.long)) 3 := ⟨zt_at 1451 (by decide +kernel) rfl, zt_at 1452 (by decide +kernel) rfl, zt_at 91 (by decide +kernel) rfl, zt_at 1453 (by decide +kernel) rfl, by decide, ⟨by decide +kernel, by decide +kernel, by decide +kernel⟩⟩
theorem wwX9_mean : zWv yX9_mean cX9_mean 4 ((some FieldType.long)) 2 := ⟨zt_at 1468 (by decide +kernel) rfl, zt_at 1469 (by decide +kernel) rfl, zt_at 91 (by decide +kernel) rfl, zt_at 1470 (by decide +kernel) rfl, by decide, ⟨by decide +kernel, by decide +kernel, by decide +kernel⟩⟩
theorem wwX9_plan : zWv yX9_plan cX9_plan 3 ((some FieldType.int)) 2 := ⟨zt_at 1472 (by decide +kernel) rfl, zt_at 1473 (by decide +kernel) rfl, zt_at 91 (by decide +kernel) rfl, zt_at 1474 (by decide +kernel) rfl, by decide, ⟨by decide +kernel, by decide +kernel, by decide +kernel⟩⟩
theorem wwX9_goPlan : zWv yX9_goPlan cX9_goPlan 3 (none) 2 := ⟨zt_at 1481 (by decide +kernel) rfl, zt_at 70 (by decide +kernel) rfl, zt_at 91 (by decide +kernel) rfl, zt_at 1482 (by decide +kernel) rfl, by decide, ⟨by decide +kernel, by decide +kernel, by decide +kernel⟩⟩
theorem wwX9_ends : zWv yX9_ends cX9_ends 3 ((some FieldType.int)) 1 := ⟨zt_at 1476 (by decide +kernel) rfl, zt_at 1477 (by decide +kernel) rfl, zt_at 91 (by decide +kernel) rfl, zt_at 1478 (by decide +kernel) rfl, by decide, ⟨by decide +kernel, by decide +kernel, by decide +kernel⟩⟩
theorem wwX9_book : zWv yX9_book cX9_book 3 ((some FieldType.int)) 2 := ⟨zt_at 1484 (by decide +kernel) rfl, zt_at 1485 (by decide +kernel) rfl, zt_at 91 (by decide +kernel) rfl, zt_at 1486 (by decide +kernel) rfl, by decide, ⟨by decide +kernel, by decide +kernel, by decide +kernel⟩⟩
theorem wwX9_looked : zWv yX9_looked cX9_looked 2 ((some FieldType.int)) 0 := ⟨zt_at 1488 (by decide +kernel) rfl, zt_at 1489 (by decide +kernel) rfl, zt_at 91 (by decide +kernel) rfl, zt_at 1490 (by decide +kernel) rfl, by decide, ⟨by decide +kernel, by decide +kernel, by decide +kernel⟩⟩
theorem wwX9_judge : zWv yX9_judge cX9_judge 4 ((some FieldType.int)) 2 := ⟨zt_at 1492 (by decide +kernel) rfl, zt_at 1493 (by decide +kernel) rfl, zt_at 91 (by decide +kernel) rfl, zt_at 1494 (by decide +kernel) rfl, by decide, ⟨by decide +kernel, by decide +kernel, by decide +kernel⟩⟩
theorem wwX9_image : zWv yX9_image cX9_image 2 ((some FieldType.int)) 0 := ⟨zt_at 1500 (by decide +kernel) rfl, zt_at 1501 (by decide +kernel) rfl, zt_at 91 (by decide +kernel) rfl, zt_at 1502 (by decide +kernel) rfl, by decide, ⟨by decide +kernel, by decide +kernel, by decide +kernel⟩⟩
theorem wwX9_undo : zWv yX9_undo cX9_undo 2 ((some FieldType.int)) 0 := ⟨zt_at 1504 (by decide +kernel) rfl, zt_at 1505 (by decide +kernel) rfl, zt_at 91 (by decide +kernel) rfl, zt_at 1506 (by decide +kernel) rfl, by decide, ⟨by decide +kernel, by decide +kernel, by decide +kernel⟩⟩
theorem wwX9_body : zWv yX9_body cX9_body 2 (none) 1 := ⟨zt_at 1517 (by decide +kernel) rfl, zt_at 73 (by decide +kernel) rfl, zt_at 91 (by decide +kernel) rfl, zt_at 1518 (by decide +kernel) rfl, by decide, ⟨by decide +kernel, by decide +kernel, by decide +kernel⟩⟩
theorem wwX9_oneGlows : zWv yX9_oneGlows cX9_oneGlows 3 ((some FieldType.int)) 2 := ⟨zt_at 1521 (by decide +kernel) rfl, zt_at 74 (by decide +kernel) rfl, zt_at 91 (by decide +kernel) rfl, zt_at 1522 (by decide +kernel) rfl, by decide, ⟨by decide +kernel, by decide +kernel, by decide +kernel⟩⟩
theorem wwX9_glowsAct : zWv yX9_glowsAct cX9_glowsAct 3 ((some FieldType.int)) 2 := ⟨zt_at 1513 (by decide +kernel) rfl, zt_at 72 (by decide +kernel) rfl, zt_at 91 (by decide +kernel) rfl, zt_at 1514 (by decide +kernel) rfl, by decide, ⟨by decide +kernel, by decide +kernel, by decide +kernel⟩⟩
theorem wwX9_oneRings : zWv yX9_oneRings cX9_oneRings 3 ((some FieldType.int)) 2 := ⟨zt_at 1533 (by decide +kernel) rfl, zt_at 77 (by decide +kernel) rfl, zt_at 91 (by decide +kernel) rfl, zt_at 1534 (by decide +kernel) rfl, by decide, ⟨by decide +kernel, by decide +kernel, by decide +kernel⟩⟩
theorem wwX9_bankerRings : zWv yX9_bankerRings cX9_bankerRings 3 ((some FieldType.int)) 2 := ⟨zt_at 1529 (by decide +kernel) rfl, zt_at 76 (by decide +kernel) rfl, zt_at 91 (by decide +kernel) rfl, zt_at 1530 (by decide +kernel) rfl, by decide, ⟨by decide +kernel, by decide +kernel, by decide +kernel⟩⟩
theorem wwX9_ringsAct : zWv yX9_ringsAct cX9_ringsAct 4 ((some FieldType.int)) 2 := ⟨zt_at 1525 (by decide +kernel) rfl, zt_at 75 (by decide +kernel) rfl, zt_at 91 (by decide +kernel) rfl, zt_at 1526 (by decide +kernel) rfl, by decide, ⟨by decide +kernel, by decide +kernel, by decide +kernel⟩⟩
theorem wwX9_oneTells : zWv yX9_oneTells cX9_oneTells 3 ((some FieldType.int)) 2 := ⟨zt_at 1541 (by decide +kernel) rfl, zt_at 79 (by decide +kernel) rfl, zt_at 91 (by decide +kernel) rfl, zt_at 1542 (by decide +kernel) rfl, by decide, ⟨by decide +kernel, by decide +kernel, by decide +kernel⟩⟩
theorem wwX9_tellsAct : zWv yX9_tellsAct cX9_tellsAct 4 ((some FieldType.int)) 2 := ⟨zt_at 1537 (by decide +kernel) rfl, zt_at 78 (by decide +kernel) rfl, zt_at 91 (by decide +kernel) rfl, zt_at 1538 (by decide +kernel) rfl, by decide, ⟨by decide +kernel, by decide +kernel, by decide +kernel⟩⟩
theorem wwX9_act : zWv yX9_act cX9_act 4 ((some FieldType.int)) 3 := ⟨zt_at 1508 (by decide +kernel) rfl, zt_at 1509 (by decide +kernel) rfl, zt_at 91 (by decide +kernel) rfl, zt_at 1510 (by decide +kernel) rfl, by decide, ⟨by decide +kernel, by decide +kernel, by decide +kernel⟩⟩
theorem wwX9_trace : zWv yX9_trace cX9_trace 2 ((some FieldType.int)) 1 := ⟨zt_at 1544 (by decide +kernel) rfl, zt_at 1545 (by decide +kernel) rfl, zt_at 91 (by decide +kernel) rfl, zt_at 1546 (by decide +kernel) rfl, by decide, ⟨by decide +kernel, by decide +kernel, by decide +kernel⟩⟩
theorem wwX9_taken : zWv yX9_taken cX9_taken 4 ((some FieldType.int)) 2 := ⟨zt_at 1548 (by decide +kernel) rfl, zt_at 1549 (by decide +kernel) rfl, zt_at 91 (by decide +kernel) rfl, zt_at 1550 (by decide +kernel) rfl, by decide, ⟨by decide +kernel, by decide +kernel, by decide +kernel⟩⟩
theorem wwX9_count : zWv yX9_count cX9_count 2 ((some FieldType.int)) 1 := ⟨zt_at 1552 (by decide +kernel) rfl, zt_at 1553 (by decide +kernel) rfl, zt_at 91 (by decide +kernel) rfl, zt_at 1554 (by decide +kernel) rfl, by decide, ⟨by decide +kernel, by decide +kernel, by decide +kernel⟩⟩
theorem wwX9_isTape : zWv yX9_isTape cX9_isTape 2 ((some FieldType.boolean)) 1 := ⟨zt_at 1497 (by decide +kernel) rfl, zt_at 71 (by decide +kernel) rfl, zt_at 91 (by decide +kernel) rfl, zt_at 1498 (by decide +kernel) rfl, by decide, ⟨by decide +kernel, by decide +kernel, by decide +kernel⟩⟩
theorem wwX9_tape : zWv yX9_tape cX9_tape 5 ((some FieldType.int)) 3 := ⟨zt_at 1556 (by decide +kernel) rfl, zt_at 1557 (by decide +kernel) rfl, zt_at 91 (by decide +kernel) rfl, zt_at 1558 (by decide +kernel) rfl, by decide, ⟨by decide +kernel, by decide +kernel, by decide +kernel⟩⟩
theorem wwX9_narrow : zWv yX9_narrow cX9_narrow 4 ((some FieldType.long)) 2 := ⟨zt_at 1565 (by decide +kernel) rfl, zt_at 80 (by decide +kernel) rfl, zt_at 91 (by decide +kernel) rfl, zt_at 1566 (by decide +kernel) rfl, by decide, ⟨by decide +kernel, by decide +kernel, by decide +kernel⟩⟩
theorem wwX9_item : zWv yX9_item cX9_item 5 ((some FieldType.int)) 3 := ⟨zt_at 1560 (by decide +kernel) rfl, zt_at 1561 (by decide +kernel) rfl, zt_at 91 (by decide +kernel) rfl, zt_at 1562 (by decide +kernel) rfl, by decide, ⟨by decide +kernel, by decide +kernel, by decide +kernel⟩⟩
theorem wwX9_read : zWv yX9_read cX9_read 3 ((some FieldType.long)) 2 := ⟨zt_at 1568 (by decide +kernel) rfl, zt_at 1569 (by decide +kernel) rfl, zt_at 91 (by decide +kernel) rfl, zt_at 1570 (by decide +kernel) rfl, by decide, ⟨by decide +kernel, by decide +kernel, by decide +kernel⟩⟩
theorem wwX9_shift : zWv yX9_shift cX9_shift 7 ((some FieldType.int)) 5 := ⟨zt_at 1572 (by decide +kernel) rfl, zt_at 1573 (by decide +kernel) rfl, zt_at 91 (by decide +kernel) rfl, zt_at 1574 (by decide +kernel) rfl, by decide, ⟨by decide +kernel, by decide +kernel, by decide +kernel⟩⟩
theorem wn8_11 : Cond.methodLinkNest RX8 11 yX7_init "StruckWhile" ∈ zNest := zn_at 110 (by decide +kernel) rfl
theorem wn7_11 : Cond.methodLinkNest RX7 11 yX6_init "StruckWhile" ∈ zNest := zn_at 116 (by decide +kernel) rfl
theorem wf6_49 : Cond.fieldLink RX6 49 (TX6 0).1 (TX6 0).2.1 (TX6 0).2.2.1 ∈ zTb := zt_at 120 (by decide +kernel) rfl
theorem wf8_71 : Cond.fieldLink RX8 71 (TX6 0).1 (TX6 0).2.1 (TX6 0).2.2.1 ∈ zTb := zt_at 121 (by decide +kernel) rfl
theorem wf1_99 : Cond.fieldLink RX1 99 (TX6 0).1 (TX6 0).2.1 (TX6 0).2.2.1 ∈ zTb := zt_at 122 (by decide +kernel) rfl
theorem wf6_9 : Cond.fieldLink RX6 9 (TX6 1).1 (TX6 1).2.1 (TX6 1).2.2.1 ∈ zTb := zt_at 123 (by decide +kernel) rfl
theorem wf0_19 : Cond.fieldLink RX0 19 (TX6 1).1 (TX6 1).2.1 (TX6 1).2.2.1 ∈ zTb := zt_at 124 (by decide +kernel) rfl
theorem wf8_85 : Cond.fieldLink RX8 85 (TX6 1).1 (TX6 1).2.1 (TX6 1).2.2.1 ∈ zTb := zt_at 125 (by decide +kernel) rfl
theorem wf6_15 : Cond.fieldLink RX6 15 (TX6 2).1 (TX6 2).2.1 (TX6 2).2.2.1 ∈ zTb := zt_at 126 (by decide +kernel) rfl
theorem wf0_26 : Cond.fieldLink RX0 26 (TX6 2).1 (TX6 2).2.1 (TX6 2).2.2.1 ∈ zTb := zt_at 127 (by decide +kernel) rfl
theorem wf8_89 : Cond.fieldLink RX8 89 (TX6 2).1 (TX6 2).2.1 (TX6 2).2.2.1 ∈ zTb := zt_at 128 (by decide +kernel) rfl
theorem wf1_118 : Cond.fieldLink RX1 118 (TX6 2).1 (TX6 2).2.1 (TX6 2).2.2.1 ∈ zTb := zt_at 129 (by decide +kernel) rfl
theorem wf6_18 : Cond.fieldLink RX6 18 (TX6 3).1 (TX6 3).2.1 (TX6 3).2.2.1 ∈ zTb := zt_at 130 (by decide +kernel) rfl
theorem wf8_92 : Cond.fieldLink RX8 92 (TX6 3).1 (TX6 3).2.1 (TX6 3).2.2.1 ∈ zTb := zt_at 131 (by decide +kernel) rfl
theorem wf1_115 : Cond.fieldLink RX1 115 (TX6 3).1 (TX6 3).2.1 (TX6 3).2.2.1 ∈ zTb := zt_at 132 (by decide +kernel) rfl
theorem wf6_21 : Cond.fieldLink RX6 21 (TX6 4).1 (TX6 4).2.1 (TX6 4).2.2.1 ∈ zTb := zt_at 133 (by decide +kernel) rfl
theorem wf8_95 : Cond.fieldLink RX8 95 (TX6 4).1 (TX6 4).2.1 (TX6 4).2.2.1 ∈ zTb := zt_at 134 (by decide +kernel) rfl
theorem wf1_102 : Cond.fieldLink RX1 102 (TX6 4).1 (TX6 4).2.1 (TX6 4).2.2.1 ∈ zTb := zt_at 135 (by decide +kernel) rfl
theorem wf6_25 : Cond.fieldLink RX6 25 (TX6 5).1 (TX6 5).2.1 (TX6 5).2.2.1 ∈ zTb := zt_at 136 (by decide +kernel) rfl
theorem wf8_141 : Cond.fieldLink RX8 141 (TX6 5).1 (TX6 5).2.1 (TX6 5).2.2.1 ∈ zTb := zt_at 137 (by decide +kernel) rfl
theorem wf6_52 : Cond.fieldLink RX6 52 (TX6 6).1 (TX6 6).2.1 (TX6 6).2.2.1 ∈ zTb := zt_at 138 (by decide +kernel) rfl
theorem wf1_51 : Cond.fieldLink RX1 51 (TX6 6).1 (TX6 6).2.1 (TX6 6).2.2.1 ∈ zTb := zt_at 139 (by decide +kernel) rfl
theorem wf8_111 : Cond.fieldLink RX8 111 (TX6 6).1 (TX6 6).2.1 (TX6 6).2.2.1 ∈ zTb := zt_at 140 (by decide +kernel) rfl
theorem wf6_28 : Cond.fieldLink RX6 28 (TX6 7).1 (TX6 7).2.1 (TX6 7).2.2.1 ∈ zTb := zt_at 141 (by decide +kernel) rfl
theorem wf8_120 : Cond.fieldLink RX8 120 (TX6 7).1 (TX6 7).2.1 (TX6 7).2.2.1 ∈ zTb := zt_at 142 (by decide +kernel) rfl
theorem wf6_31 : Cond.fieldLink RX6 31 (TX6 8).1 (TX6 8).2.1 (TX6 8).2.2.1 ∈ zTb := zt_at 143 (by decide +kernel) rfl
theorem wf1_92 : Cond.fieldLink RX1 92 (TX6 8).1 (TX6 8).2.1 (TX6 8).2.2.1 ∈ zTb := zt_at 144 (by decide +kernel) rfl
theorem wf8_123 : Cond.fieldLink RX8 123 (TX6 8).1 (TX6 8).2.1 (TX6 8).2.2.1 ∈ zTb := zt_at 145 (by decide +kernel) rfl
theorem wf6_34 : Cond.fieldLink RX6 34 (TX6 9).1 (TX6 9).2.1 (TX6 9).2.2.1 ∈ zTb := zt_at 146 (by decide +kernel) rfl
theorem wf8_126 : Cond.fieldLink RX8 126 (TX6 9).1 (TX6 9).2.1 (TX6 9).2.2.1 ∈ zTb := zt_at 147 (by decide +kernel) rfl
theorem wf6_37 : Cond.fieldLink RX6 37 (TX6 10).1 (TX6 10).2.1 (TX6 10).2.2.1 ∈ zTb := zt_at 148 (by decide +kernel) rfl
theorem wf1_40 : Cond.fieldLink RX1 40 (TX6 10).1 (TX6 10).2.1 (TX6 10).2.2.1 ∈ zTb := zt_at 149 (by decide +kernel) rfl
theorem wf8_135 : Cond.fieldLink RX8 135 (TX6 10).1 (TX6 10).2.1 (TX6 10).2.2.1 ∈ zTb := zt_at 150 (by decide +kernel) rfl
theorem wf6_61 : Cond.fieldLink RX6 61 (TX6 11).1 (TX6 11).2.1 (TX6 11).2.2.1 ∈ zTb := zt_at 151 (by decide +kernel) rfl
theorem wf8_168 : Cond.fieldLink RX8 168 (TX6 11).1 (TX6 11).2.1 (TX6 11).2.2.1 ∈ zTb := zt_at 152 (by decide +kernel) rfl
theorem wf6_64 : Cond.fieldLink RX6 64 (TX6 12).1 (TX6 12).2.1 (TX6 12).2.2.1 ∈ zTb := zt_at 153 (by decide +kernel) rfl
theorem wf8_164 : Cond.fieldLink RX8 164 (TX6 12).1 (TX6 12).2.1 (TX6 12).2.2.1 ∈ zTb := zt_at 154 (by decide +kernel) rfl
theorem wf6_41 : Cond.fieldLink RX6 41 (TX6 13).1 (TX6 13).2.1 (TX6 13).2.2.1 ∈ zTb := zt_at 155 (by decide +kernel) rfl
theorem wf6_46 : Cond.fieldLink RX6 46 (TX6 14).1 (TX6 14).2.1 (TX6 14).2.2.1 ∈ zTb := zt_at 156 (by decide +kernel) rfl
theorem wm7_20 : Cond.methodLink RX7 20 yX3_init ∈ zTb := zt_at 192 (by decide +kernel) rfl
theorem wf3_7 : Cond.fieldLink RX3 7 (TX3 0).1 (TX3 0).2.1 (TX3 0).2.2.1 ∈ zTb := zt_at 196 (by decide +kernel) rfl
theorem wf1_136 : Cond.fieldLink RX1 136 (TX3 0).1 (TX3 0).2.1 (TX3 0).2.2.1 ∈ zTb := zt_at 197 (by decide +kernel) rfl
theorem wf8_241 : Cond.fieldLink RX8 241 (TX3 0).1 (TX3 0).2.1 (TX3 0).2.2.1 ∈ zTb := zt_at 198 (by decide +kernel) rfl
theorem wf3_13 : Cond.fieldLink RX3 13 (TX3 1).1 (TX3 1).2.1 (TX3 1).2.2.1 ∈ zTb := zt_at 199 (by decide +kernel) rfl
theorem wf1_130 : Cond.fieldLink RX1 130 (TX3 1).1 (TX3 1).2.1 (TX3 1).2.2.1 ∈ zTb := zt_at 200 (by decide +kernel) rfl
theorem wf8_244 : Cond.fieldLink RX8 244 (TX3 1).1 (TX3 1).2.1 (TX3 1).2.2.1 ∈ zTb := zt_at 201 (by decide +kernel) rfl
theorem wf3_16 : Cond.fieldLink RX3 16 (TX3 2).1 (TX3 2).2.1 (TX3 2).2.2.1 ∈ zTb := zt_at 202 (by decide +kernel) rfl
theorem wf1_142 : Cond.fieldLink RX1 142 (TX3 2).1 (TX3 2).2.1 (TX3 2).2.2.1 ∈ zTb := zt_at 203 (by decide +kernel) rfl
theorem wf3_19 : Cond.fieldLink RX3 19 (TX3 3).1 (TX3 3).2.1 (TX3 3).2.2.1 ∈ zTb := zt_at 204 (by decide +kernel) rfl
theorem wf1_125 : Cond.fieldLink RX1 125 (TX3 3).1 (TX3 3).2.1 (TX3 3).2.2.1 ∈ zTb := zt_at 205 (by decide +kernel) rfl
theorem wf8_240 : Cond.fieldLink RX8 240 (TX3 3).1 (TX3 3).2.1 (TX3 3).2.2.1 ∈ zTb := zt_at 206 (by decide +kernel) rfl
theorem wf7_12 : Cond.fieldLink RX7 12 (TX7 0).1 (TX7 0).2.1 (TX7 0).2.2.1 ∈ zTb := zt_at 216 (by decide +kernel) rfl
theorem wf8_21 : Cond.fieldLink RX8 21 (TX7 0).1 (TX7 0).2.1 (TX7 0).2.2.1 ∈ zTb := zt_at 217 (by decide +kernel) rfl
theorem wf7_23 : Cond.fieldLink RX7 23 (TX7 1).1 (TX7 1).2.1 (TX7 1).2.2.1 ∈ zTb := zt_at 218 (by decide +kernel) rfl
theorem wf8_28 : Cond.fieldLink RX8 28 (TX7 1).1 (TX7 1).2.1 (TX7 1).2.2.1 ∈ zTb := zt_at 219 (by decide +kernel) rfl
theorem wf7_27 : Cond.fieldLink RX7 27 (TX7 2).1 (TX7 2).2.1 (TX7 2).2.2.1 ∈ zTb := zt_at 220 (by decide +kernel) rfl
theorem wf8_230 : Cond.fieldLink RX8 230 (TX7 2).1 (TX7 2).2.1 (TX7 2).2.2.1 ∈ zTb := zt_at 221 (by decide +kernel) rfl
theorem wf7_30 : Cond.fieldLink RX7 30 (TX7 3).1 (TX7 3).2.1 (TX7 3).2.2.1 ∈ zTb := zt_at 222 (by decide +kernel) rfl
theorem wf8_237 : Cond.fieldLink RX8 237 (TX7 3).1 (TX7 3).2.1 (TX7 3).2.2.1 ∈ zTb := zt_at 223 (by decide +kernel) rfl
theorem wm8_32 : Cond.methodLink RX8 32 yX1_init ∈ zTb := zt_at 235 (by decide +kernel) rfl
theorem wn1_17 : Cond.methodLinkNest RX1 17 yX6_init "StruckWhile" ∈ zNest := zn_at 240 (by decide +kernel) rfl
theorem wf1_9 : Cond.fieldLink RX1 9 (TX1 0).1 (TX1 0).2.1 (TX1 0).2.2.1 ∈ zTb := zt_at 241 (by decide +kernel) rfl
theorem wf8_195 : Cond.fieldLink RX8 195 (TX1 0).1 (TX1 0).2.1 (TX1 0).2.2.1 ∈ zTb := zt_at 242 (by decide +kernel) rfl
theorem wf1_25 : Cond.fieldLink RX1 25 (TX1 1).1 (TX1 1).2.1 (TX1 1).2.2.1 ∈ zTb := zt_at 243 (by decide +kernel) rfl
theorem wf1_28 : Cond.fieldLink RX1 28 (TX1 2).1 (TX1 2).2.1 (TX1 2).2.2.1 ∈ zTb := zt_at 244 (by decide +kernel) rfl
theorem wf1_18 : Cond.fieldLink RX1 18 (TX1 3).1 (TX1 3).2.1 (TX1 3).2.2.1 ∈ zTb := zt_at 245 (by decide +kernel) rfl
theorem wf1_22 : Cond.fieldLink RX1 22 (TX1 4).1 (TX1 4).2.1 (TX1 4).2.2.1 ∈ zTb := zt_at 246 (by decide +kernel) rfl
theorem wf1_76 : Cond.fieldLink RX1 76 (TX1 5).1 (TX1 5).2.1 (TX1 5).2.2.1 ∈ zTb := zt_at 247 (by decide +kernel) rfl
theorem wn8_41 : Cond.methodLinkNest RX8 41 yX2_init "StruckWhile" ∈ zNest := zn_at 263 (by decide +kernel) rfl
theorem wf2_15 : Cond.fieldLink RX2 15 (TX2 0).1 (TX2 0).2.1 (TX2 0).2.2.1 ∈ zTb := zt_at 267 (by decide +kernel) rfl
theorem wf8_144 : Cond.fieldLink RX8 144 (TX2 0).1 (TX2 0).2.1 (TX2 0).2.2.1 ∈ zTb := zt_at 268 (by decide +kernel) rfl
theorem wf2_28 : Cond.fieldLink RX2 28 (TX2 1).1 (TX2 1).2.1 (TX2 1).2.2.1 ∈ zTb := zt_at 269 (by decide +kernel) rfl
theorem wf8_161 : Cond.fieldLink RX8 161 (TX2 1).1 (TX2 1).2.1 (TX2 1).2.2.1 ∈ zTb := zt_at 270 (by decide +kernel) rfl
theorem wf2_9 : Cond.fieldLink RX2 9 (TX2 2).1 (TX2 2).2.1 (TX2 2).2.2.1 ∈ zTb := zt_at 271 (by decide +kernel) rfl
theorem wf2_24 : Cond.fieldLink RX2 24 (TX2 3).1 (TX2 3).2.1 (TX2 3).2.2.1 ∈ zTb := zt_at 272 (by decide +kernel) rfl
theorem wn8_54 : Cond.methodLinkNest RX8 54 yX0_init "StruckWhile" ∈ zNest := zn_at 287 (by decide +kernel) rfl
theorem wf0_53 : Cond.fieldLink RX0 53 (TX0 0).1 (TX0 0).2.1 (TX0 0).2.2.1 ∈ zTb := zt_at 291 (by decide +kernel) rfl
theorem wf8_270 : Cond.fieldLink RX8 270 (TX0 0).1 (TX0 0).2.1 (TX0 0).2.2.1 ∈ zTb := zt_at 292 (by decide +kernel) rfl
theorem wf0_9 : Cond.fieldLink RX0 9 (TX0 1).1 (TX0 1).2.1 (TX0 1).2.2.1 ∈ zTb := zt_at 293 (by decide +kernel) rfl
theorem wf8_277 : Cond.fieldLink RX8 277 (TX0 1).1 (TX0 1).2.1 (TX0 1).2.2.1 ∈ zTb := zt_at 294 (by decide +kernel) rfl
theorem wf0_15 : Cond.fieldLink RX0 15 (TX0 2).1 (TX0 2).2.1 (TX0 2).2.2.1 ∈ zTb := zt_at 295 (by decide +kernel) rfl
theorem wf0_24 : Cond.fieldLink RX0 24 (TX0 3).1 (TX0 3).2.1 (TX0 3).2.2.1 ∈ zTb := zt_at 296 (by decide +kernel) rfl
theorem wf0_29 : Cond.fieldLink RX0 29 (TX0 4).1 (TX0 4).2.1 (TX0 4).2.2.1 ∈ zTb := zt_at 297 (by decide +kernel) rfl
theorem wm8_61 : Cond.methodLink RX8 61 yX5_init ∈ zTb := zt_at 311 (by decide +kernel) rfl
theorem wf5_9 : Cond.fieldLink RX5 9 (TX5 0).1 (TX5 0).2.1 (TX5 0).2.2.1 ∈ zTb := zt_at 317 (by decide +kernel) rfl
theorem wf8_253 : Cond.fieldLink RX8 253 (TX5 0).1 (TX5 0).2.1 (TX5 0).2.2.1 ∈ zTb := zt_at 318 (by decide +kernel) rfl
theorem wf5_15 : Cond.fieldLink RX5 15 (TX5 1).1 (TX5 1).2.1 (TX5 1).2.2.1 ∈ zTb := zt_at 319 (by decide +kernel) rfl
theorem wf8_256 : Cond.fieldLink RX8 256 (TX5 1).1 (TX5 1).2.1 (TX5 1).2.2.1 ∈ zTb := zt_at 320 (by decide +kernel) rfl
theorem wf5_20 : Cond.fieldLink RX5 20 (TX5 2).1 (TX5 2).2.1 (TX5 2).2.2.1 ∈ zTb := zt_at 321 (by decide +kernel) rfl
theorem wf8_258 : Cond.fieldLink RX8 258 (TX5 2).1 (TX5 2).2.1 (TX5 2).2.2.1 ∈ zTb := zt_at 322 (by decide +kernel) rfl
theorem wn8_66 : Cond.methodLinkNest RX8 66 yX4_init "StruckWhile" ∈ zNest := zn_at 332 (by decide +kernel) rfl
theorem wf4_9 : Cond.fieldLink RX4 9 (TX4 0).1 (TX4 0).2.1 (TX4 0).2.2.1 ∈ zTb := zt_at 336 (by decide +kernel) rfl
theorem wf2_60 : Cond.fieldLink RX2 60 (TX4 0).1 (TX4 0).2.1 (TX4 0).2.2.1 ∈ zTb := zt_at 337 (by decide +kernel) rfl
theorem wf6_78 : Cond.fieldLink RX6 78 (TX4 0).1 (TX4 0).2.1 (TX4 0).2.2.1 ∈ zTb := zt_at 338 (by decide +kernel) rfl
theorem wf4_15 : Cond.fieldLink RX4 15 (TX4 1).1 (TX4 1).2.1 (TX4 1).2.2.1 ∈ zTb := zt_at 339 (by decide +kernel) rfl
theorem wf4_22 : Cond.fieldLink RX4 22 (TX4 2).1 (TX4 2).2.1 (TX4 2).2.2.1 ∈ zTb := zt_at 340 (by decide +kernel) rfl
theorem wf4_19 : Cond.fieldLink RX4 19 (TX4 3).1 (TX4 3).2.1 (TX4 3).2.2.1 ∈ zTb := zt_at 341 (by decide +kernel) rfl
theorem wf4_25 : Cond.fieldLink RX4 25 (TX4 4).1 (TX4 4).2.1 (TX4 4).2.2.1 ∈ zTb := zt_at 342 (by decide +kernel) rfl
theorem wf8_12 : Cond.fieldLink RX8 12 (TX8 0).1 (TX8 0).2.1 (TX8 0).2.2.1 ∈ zTb := zt_at 354 (by decide +kernel) rfl
theorem wf8_18 : Cond.fieldLink RX8 18 (TX8 1).1 (TX8 1).2.1 (TX8 1).2.2.1 ∈ zTb := zt_at 355 (by decide +kernel) rfl
theorem wf8_266 : Cond.fieldLink RX8 266 (TX8 2).1 (TX8 2).2.1 (TX8 2).2.2.1 ∈ zTb := zt_at 356 (by decide +kernel) rfl
theorem wf8_25 : Cond.fieldLink RX8 25 (TX8 3).1 (TX8 3).2.1 (TX8 3).2.2.1 ∈ zTb := zt_at 357 (by decide +kernel) rfl
theorem wf8_35 : Cond.fieldLink RX8 35 (TX8 4).1 (TX8 4).2.1 (TX8 4).2.2.1 ∈ zTb := zt_at 358 (by decide +kernel) rfl
theorem wf8_42 : Cond.fieldLink RX8 42 (TX8 5).1 (TX8 5).2.1 (TX8 5).2.2.1 ∈ zTb := zt_at 359 (by decide +kernel) rfl
theorem wf8_48 : Cond.fieldLink RX8 48 (TX8 6).1 (TX8 6).2.1 (TX8 6).2.2.1 ∈ zTb := zt_at 360 (by decide +kernel) rfl
theorem wf8_151 : Cond.fieldLink RX8 151 (TX8 7).1 (TX8 7).2.1 (TX8 7).2.2.1 ∈ zTb := zt_at 361 (by decide +kernel) rfl
theorem wf8_55 : Cond.fieldLink RX8 55 (TX8 8).1 (TX8 8).2.1 (TX8 8).2.2.1 ∈ zTb := zt_at 362 (by decide +kernel) rfl
theorem wf8_62 : Cond.fieldLink RX8 62 (TX8 9).1 (TX8 9).2.1 (TX8 9).2.2.1 ∈ zTb := zt_at 363 (by decide +kernel) rfl
theorem wm8_67 : Cond.methodLink RX8 67 yX8_isWithin ∈ zTb := zt_at 389 (by decide +kernel) rfl
theorem wm8_77 : Cond.methodLink RX8 77 yX6_addOne ∈ zTb := zt_at 392 (by decide +kernel) rfl
theorem wm8_81 : Cond.methodLink RX8 81 yX6_hasOne ∈ zTb := zt_at 400 (by decide +kernel) rfl
theorem wm8_99 : Cond.methodLink RX8 99 yX8_asNumber ∈ zTb := zt_at 404 (by decide +kernel) rfl
theorem wm8_103 : Cond.methodLink RX8 103 yX6_riseOf ∈ zTb := zt_at 407 (by decide +kernel) rfl
theorem wm6_81 : Cond.methodLink RX6 81 yX6_countBeside ∈ zTb := zt_at 411 (by decide +kernel) rfl
theorem wm6_68 : Cond.methodLink RX6 68 yX6_hasOne ∈ zTb := zt_at 415 (by decide +kernel) rfl
theorem wm6_85 : Cond.methodLink RX6 85 yX6_setLetters ∈ zTb := zt_at 416 (by decide +kernel) rfl
theorem wm6_89 : Cond.methodLink RX6 89 yX4_sum ∈ zTb := zt_at 420 (by decide +kernel) rfl
theorem wm4_32 : Cond.methodLink RX4 32 yX4_test ∈ zTb := zt_at 424 (by decide +kernel) rfl
theorem wm8_107 : Cond.methodLink RX8 107 yX6_countBeside ∈ zTb := zt_at 427 (by decide +kernel) rfl
theorem wm8_114 : Cond.methodLink RX8 114 yX6_addWork ∈ zTb := zt_at 440 (by decide +kernel) rfl
theorem wm8_117 : Cond.methodLink RX8 117 yX6_hasWork ∈ zTb := zt_at 448 (by decide +kernel) rfl
theorem wm8_129 : Cond.methodLink RX8 129 yX6_isDone ∈ zTb := zt_at 452 (by decide +kernel) rfl
theorem wm6_72 : Cond.methodLink RX6 72 yX6_hasWork ∈ zTb := zt_at 456 (by decide +kernel) rfl
theorem wm8_132 : Cond.methodLink RX8 132 yX1_minutesUntilDone ∈ zTb := zt_at 457 (by decide +kernel) rfl
theorem wm1_32 : Cond.methodLink RX1 32 yX6_become ∈ zTb := zt_at 461 (by decide +kernel) rfl
theorem wm6_55 : Cond.methodLink RX6 55 arraycopyName ∈ zTb := zt_at 465 (by decide +kernel) rfl
theorem wm1_44 : Cond.methodLink RX1 44 yX6_isDone ∈ zTb := zt_at 468 (by decide +kernel) rfl
theorem wm1_48 : Cond.methodLink RX1 48 yX6_goOneMinute ∈ zTb := zt_at 469 (by decide +kernel) rfl
theorem wm6_75 : Cond.methodLink RX6 75 yX6_isDone ∈ zTb := zt_at 473 (by decide +kernel) rfl
theorem wm6_96 : Cond.methodLink RX6 96 yX6_hottest ∈ zTb := zt_at 474 (by decide +kernel) rfl
theorem wm6_100 : Cond.methodLink RX6 100 yX6_spark ∈ zTb := zt_at 478 (by decide +kernel) rfl
theorem wm6_102 : Cond.methodLink RX6 102 yX6_riseOf ∈ zTb := zt_at 482 (by decide +kernel) rfl
theorem wm6_106 : Cond.methodLink RX6 106 Lib.Math.min.name ∈ zTb := zt_at 483 (by decide +kernel) rfl
theorem wm6_111 : Cond.methodLink RX6 111 Lib.Math.max.name ∈ zTb := zt_at 486 (by decide +kernel) rfl
theorem wm8_138 : Cond.methodLink RX8 138 yX8_orLacks ∈ zTb := zt_at 493 (by decide +kernel) rfl
theorem wm8_147 : Cond.methodLink RX8 147 yX2_add ∈ zTb := zt_at 504 (by decide +kernel) rfl
theorem wm8_154 : Cond.methodLink RX8 154 yX2_reads ∈ zTb := zt_at 512 (by decide +kernel) rfl
theorem wm2_19 : Cond.methodLink RX2 19 yX4_empty ∈ zTb := zt_at 516 (by decide +kernel) rfl
theorem wm2_31 : Cond.methodLink RX2 31 yX2_readsClause ∈ zTb := zt_at 520 (by decide +kernel) rfl
theorem wm2_39 : Cond.methodLink RX2 39 yX2_sees ∈ zTb := zt_at 524 (by decide +kernel) rfl
theorem wm2_44 : Cond.methodLink RX2 44 yX2_takesWord ∈ zTb := zt_at 529 (by decide +kernel) rfl
theorem wm2_35 : Cond.methodLink RX2 35 yX2_takes ∈ zTb := zt_at 581 (by decide +kernel) rfl
theorem wm2_48 : Cond.methodLink RX2 48 yX2_readsHeat ∈ zTb := zt_at 585 (by decide +kernel) rfl
theorem wm2_56 : Cond.methodLink RX2 56 yX2_takeNumber ∈ zTb := zt_at 589 (by decide +kernel) rfl
theorem wm2_93 : Cond.methodLink RX2 93 Lib.Math.max.name ∈ zTb := zt_at 593 (by decide +kernel) rfl
theorem wm2_62 : Cond.methodLink RX2 62 yX2_readsEither ∈ zTb := zt_at 594 (by decide +kernel) rfl
theorem wm2_69 : Cond.methodLink RX2 69 yX2_readsBoth ∈ zTb := zt_at 598 (by decide +kernel) rfl
theorem wm2_75 : Cond.methodLink RX2 75 yX2_readsFactor ∈ zTb := zt_at 602 (by decide +kernel) rfl
theorem wm2_78 : Cond.methodLink RX2 78 yX2_readsTest ∈ zTb := zt_at 606 (by decide +kernel) rfl
theorem wm2_83 : Cond.methodLink RX2 83 yX2_takeOneOf ∈ zTb := zt_at 611 (by decide +kernel) rfl
theorem wm2_89 : Cond.methodLink RX2 89 yX4_addTest ∈ zTb := zt_at 671 (by decide +kernel) rfl
theorem wm4_28 : Cond.methodLink RX4 28 yX4_addStep ∈ zTb := zt_at 675 (by decide +kernel) rfl
theorem wm2_72 : Cond.methodLink RX2 72 yX4_addStep ∈ zTb := zt_at 679 (by decide +kernel) rfl
theorem wm2_65 : Cond.methodLink RX2 65 yX4_addClause ∈ zTb := zt_at 680 (by decide +kernel) rfl
theorem wm8_158 : Cond.methodLink RX8 158 yX2_empty ∈ zTb := zt_at 686 (by decide +kernel) rfl
theorem wm8_171 : Cond.methodLink RX8 171 yX6_spark ∈ zTb := zt_at 694 (by decide +kernel) rfl
theorem wm8_175 : Cond.methodLink RX8 175 yX6_doneBits ∈ zTb := zt_at 695 (by decide +kernel) rfl
theorem wm8_178 : Cond.methodLink RX8 178 yX6_hottest ∈ zTb := zt_at 699 (by decide +kernel) rfl
theorem wm8_181 : Cond.methodLink RX8 181 yX6_heatOfAll ∈ zTb := zt_at 700 (by decide +kernel) rfl
theorem wm8_184 : Cond.methodLink RX8 184 yX6_goOn ∈ zTb := zt_at 708 (by decide +kernel) rfl
theorem wm6_93 : Cond.methodLink RX6 93 yX6_goOneMinute ∈ zTb := zt_at 712 (by decide +kernel) rfl
theorem wm8_188 : Cond.methodLink RX8 188 yX1_behind ∈ zTb := zt_at 717 (by decide +kernel) rfl
theorem wm1_36 : Cond.methodLink RX1 36 yX6_goOn ∈ zTb := zt_at 721 (by decide +kernel) rfl
theorem wm8_192 : Cond.methodLink RX8 192 yX1_findBestRow ∈ zTb := zt_at 726 (by decide +kernel) rfl
theorem wm1_54 : Cond.methodLink RX1 54 Lib.Math.min.name ∈ zTb := zt_at 730 (by decide +kernel) rfl
theorem ws1_60 : Cond.fieldLink RX1 60 "StruckWhile$Ahead" "ROWS_OF" "[I" ∈ zTb := zt_at 731 (by decide +kernel) rfl
theorem wm1_63 : Cond.methodLink RX1 63 yX1_setRow ∈ zTb := zt_at 733 (by decide +kernel) rfl
theorem wm1_67 : Cond.methodLink RX1 67 yX1_countDoneInTime ∈ zTb := zt_at 737 (by decide +kernel) rfl
theorem wm1_79 : Cond.methodLink RX1 79 yX6_doneBits ∈ zTb := zt_at 741 (by decide +kernel) rfl
theorem wm1_89 : Cond.methodLink RX1 89 yX1_firstUndone ∈ zTb := zt_at 748 (by decide +kernel) rfl
theorem wn1_95 : Cond.methodLinkNest RX1 95 yX8_asNumber "StruckWhile" ∈ zNest := zn_at 752 (by decide +kernel) rfl
theorem wm1_70 : Cond.methodLink RX1 70 arraycopyName ∈ zTb := zt_at 753 (by decide +kernel) rfl
theorem wm8_198 : Cond.methodLink RX8 198 yX1_whomToTalkTo ∈ zTb := zt_at 758 (by decide +kernel) rfl
theorem wm1_106 : Cond.methodLink RX1 106 yX1_hottestByTalk ∈ zTb := zt_at 762 (by decide +kernel) rfl
theorem wm1_109 : Cond.methodLink RX1 109 yX1_warm ∈ zTb := zt_at 766 (by decide +kernel) rfl
theorem wm1_112 : Cond.methodLink RX1 112 yX6_hottest ∈ zTb := zt_at 770 (by decide +kernel) rfl
theorem wm8_201 : Cond.methodLink RX8 201 yX1_hottestByTalk ∈ zTb := zt_at 771 (by decide +kernel) rfl
theorem wm8_204 : Cond.methodLink RX8 204 yX3_empty ∈ zTb := zt_at 776 (by decide +kernel) rfl
theorem wm8_208 : Cond.methodLink RX8 208 yX3_isFull ∈ zTb := zt_at 780 (by decide +kernel) rfl
theorem wm8_212 : Cond.methodLink RX8 212 yX3_add ∈ zTb := zt_at 784 (by decide +kernel) rfl
theorem wm3_23 : Cond.methodLink RX3 23 yX3_isFull ∈ zTb := zt_at 788 (by decide +kernel) rfl
theorem wm8_214 : Cond.methodLink RX8 214 yX1_fitting ∈ zTb := zt_at 793 (by decide +kernel) rfl
theorem wm1_121 : Cond.methodLink RX1 121 yX1_isAllSeenSo ∈ zTb := zt_at 797 (by decide +kernel) rfl
theorem wm1_133 : Cond.methodLink RX1 133 Lib.Math.max.name ∈ zTb := zt_at 801 (by decide +kernel) rfl
theorem wm1_139 : Cond.methodLink RX1 139 yX6_isHot ∈ zTb := zt_at 802 (by decide +kernel) rfl
theorem wc8_218 : Cond.constantLong RX8 218 (-9223372036854775808 : Int64) ∈ zTb := zt_at 810 (by decide +kernel) rfl
theorem wm8_220 : Cond.methodLink RX8 220 yX1_countHot ∈ zTb := zt_at 811 (by decide +kernel) rfl
theorem wm8_223 : Cond.methodLink RX8 223 yX6_countHere ∈ zTb := zt_at 815 (by decide +kernel) rfl
theorem wm8_226 : Cond.methodLink RX8 226 yX8_lowestTerms ∈ zTb := zt_at 819 (by decide +kernel) rfl
theorem wm8_233 : Cond.methodLink RX8 233 yX1_behindPlan ∈ zTb := zt_at 834 (by decide +kernel) rfl
theorem wm1_145 : Cond.methodLink RX1 145 yX1_goPlanned ∈ zTb := zt_at 838 (by decide +kernel) rfl
theorem wm1_148 : Cond.methodLink RX1 148 yX6_hasOne ∈ zTb := zt_at 842 (by decide +kernel) rfl
theorem wm8_247 : Cond.methodLink RX8 247 yX5_has ∈ zTb := zt_at 855 (by decide +kernel) rfl
theorem wm8_250 : Cond.methodLink RX8 250 yX5_holds ∈ zTb := zt_at 859 (by decide +kernel) rfl
theorem wm8_262 : Cond.methodLink RX8 262 yX7_become ∈ zTb := zt_at 867 (by decide +kernel) rfl
theorem wm7_33 : Cond.methodLink RX7 33 yX6_become ∈ zTb := zt_at 871 (by decide +kernel) rfl
theorem wm7_37 : Cond.methodLink RX7 37 yX3_become ∈ zTb := zt_at 872 (by decide +kernel) rfl
theorem wm8_273 : Cond.methodLink RX8 273 yX0_start ∈ zTb := zt_at 884 (by decide +kernel) rfl
theorem wm0_31 : Cond.methodLink RX0 31 yX0_run ∈ zTb := zt_at 888 (by decide +kernel) rfl
theorem wm0_35 : Cond.methodLink RX0 35 yX0_bodyOf ∈ zTb := zt_at 892 (by decide +kernel) rfl
theorem wn0_43 : Cond.fieldLinkNest RX0 43 "StruckWhile" "KIND_ABOVE" "[I" "StruckWhile" ∈ zNest := zn_at 895 (by decide +kernel) rfl
theorem wn0_46 : Cond.methodLinkNest RX0 46 yX8_isWithin "StruckWhile" ∈ zNest := zn_at 897 (by decide +kernel) rfl
theorem ws0_50 : Cond.fieldLink RX0 50 "StruckWhile$Acts" "BODIES" "[I" ∈ zTb := zt_at 898 (by decide +kernel) rfl
theorem wm0_39 : Cond.methodLink RX0 39 yX0_note ∈ zTb := zt_at 900 (by decide +kernel) rfl
theorem wm8_280 : Cond.methodLink RX8 280 yX8_isOrIsUnder ∈ zTb := zt_at 912 (by decide +kernel) rfl
theorem ws8_299 : Cond.fieldLink RX8 299 "StruckWhile" "KIND_ABOVE" "[I" ∈ zTb := zt_at 915 (by decide +kernel) rfl
theorem wm8_284 : Cond.methodLink RX8 284 yX5_become ∈ zTb := zt_at 924 (by decide +kernel) rfl
theorem wm8_286 : Cond.methodLink RX8 286 yX5_hasItems ∈ zTb := zt_at 932 (by decide +kernel) rfl
theorem wm8_289 : Cond.methodLink RX8 289 yX5_put ∈ zTb := zt_at 936 (by decide +kernel) rfl
theorem wm5_23 : Cond.methodLink RX5 23 yX5_cut ∈ zTb := zt_at 940 (by decide +kernel) rfl
theorem wn5_27 : Cond.methodLinkNest RX5 27 yX8_asNumber "StruckWhile" ∈ zNest := zn_at 943 (by decide +kernel) rfl
theorem wm8_293 : Cond.methodLink RX8 293 arraycopyName ∈ zTb := zt_at 952 (by decide +kernel) rfl
theorem wf9_7 : Cond.fieldLink RX9 7 (TX9 0).1 (TX9 0).2.1 (TX9 0).2.2.1 ∈ zTb := zt_at 959 (by decide +kernel) rfl
theorem wf9_13 : Cond.fieldLink RX9 13 (TX9 1).1 (TX9 1).2.1 (TX9 1).2.2.1 ∈ zTb := zt_at 960 (by decide +kernel) rfl
theorem wf9_16 : Cond.fieldLink RX9 16 (TX9 2).1 (TX9 2).2.1 (TX9 2).2.2.1 ∈ zTb := zt_at 961 (by decide +kernel) rfl
theorem wf9_19 : Cond.fieldLink RX9 19 (TX9 3).1 (TX9 3).2.1 (TX9 3).2.2.1 ∈ zTb := zt_at 962 (by decide +kernel) rfl
theorem wf9_22 : Cond.fieldLink RX9 22 (TX9 4).1 (TX9 4).2.1 (TX9 4).2.2.1 ∈ zTb := zt_at 963 (by decide +kernel) rfl
theorem wf9_25 : Cond.fieldLink RX9 25 (TX9 5).1 (TX9 5).2.1 (TX9 5).2.2.1 ∈ zTb := zt_at 964 (by decide +kernel) rfl
theorem wf9_29 : Cond.fieldLink RX9 29 (TX9 6).1 (TX9 6).2.1 (TX9 6).2.2.1 ∈ zTb := zt_at 965 (by decide +kernel) rfl
theorem wf9_32 : Cond.fieldLink RX9 32 (TX9 7).1 (TX9 7).2.1 (TX9 7).2.2.1 ∈ zTb := zt_at 966 (by decide +kernel) rfl
theorem wf9_35 : Cond.fieldLink RX9 35 (TX9 8).1 (TX9 8).2.1 (TX9 8).2.2.1 ∈ zTb := zt_at 967 (by decide +kernel) rfl
theorem wf9_38 : Cond.fieldLink RX9 38 (TX9 9).1 (TX9 9).2.1 (TX9 9).2.2.1 ∈ zTb := zt_at 968 (by decide +kernel) rfl
theorem wf9_41 : Cond.fieldLink RX9 41 (TX9 10).1 (TX9 10).2.1 (TX9 10).2.2.1 ∈ zTb := zt_at 969 (by decide +kernel) rfl
theorem wf9_44 : Cond.fieldLink RX9 44 (TX9 11).1 (TX9 11).2.1 (TX9 11).2.2.1 ∈ zTb := zt_at 970 (by decide +kernel) rfl
theorem wf9_47 : Cond.fieldLink RX9 47 (TX9 12).1 (TX9 12).2.1 (TX9 12).2.2.1 ∈ zTb := zt_at 971 (by decide +kernel) rfl
theorem wf9_50 : Cond.fieldLink RX9 50 (TX9 13).1 (TX9 13).2.1 (TX9 13).2.2.1 ∈ zTb := zt_at 972 (by decide +kernel) rfl
theorem wf9_53 : Cond.fieldLink RX9 53 (TX9 14).1 (TX9 14).2.1 (TX9 14).2.2.1 ∈ zTb := zt_at 973 (by decide +kernel) rfl
theorem wf9_56 : Cond.fieldLink RX9 56 (TX9 15).1 (TX9 15).2.1 (TX9 15).2.2.1 ∈ zTb := zt_at 974 (by decide +kernel) rfl
theorem wf9_59 : Cond.fieldLink RX9 59 (TX9 16).1 (TX9 16).2.1 (TX9 16).2.2.1 ∈ zTb := zt_at 975 (by decide +kernel) rfl
theorem wf9_62 : Cond.fieldLink RX9 62 (TX9 17).1 (TX9 17).2.1 (TX9 17).2.2.1 ∈ zTb := zt_at 976 (by decide +kernel) rfl
theorem wf9_65 : Cond.fieldLink RX9 65 (TX9 18).1 (TX9 18).2.1 (TX9 18).2.2.1 ∈ zTb := zt_at 977 (by decide +kernel) rfl
theorem wf9_68 : Cond.fieldLink RX9 68 (TX9 19).1 (TX9 19).2.1 (TX9 19).2.2.1 ∈ zTb := zt_at 978 (by decide +kernel) rfl
theorem wf9_71 : Cond.fieldLink RX9 71 (TX9 20).1 (TX9 20).2.1 (TX9 20).2.2.1 ∈ zTb := zt_at 979 (by decide +kernel) rfl
theorem wf9_74 : Cond.fieldLink RX9 74 (TX9 21).1 (TX9 21).2.1 (TX9 21).2.2.1 ∈ zTb := zt_at 980 (by decide +kernel) rfl
theorem wf9_77 : Cond.fieldLink RX9 77 (TX9 22).1 (TX9 22).2.1 (TX9 22).2.2.1 ∈ zTb := zt_at 981 (by decide +kernel) rfl
theorem wf9_80 : Cond.fieldLink RX9 80 (TX9 23).1 (TX9 23).2.1 (TX9 23).2.2.1 ∈ zTb := zt_at 982 (by decide +kernel) rfl
theorem wf9_83 : Cond.fieldLink RX9 83 (TX9 24).1 (TX9 24).2.1 (TX9 24).2.2.1 ∈ zTb := zt_at 983 (by decide +kernel) rfl
theorem wf9_86 : Cond.fieldLink RX9 86 (TX9 25).1 (TX9 25).2.1 (TX9 25).2.2.1 ∈ zTb := zt_at 984 (by decide +kernel) rfl
theorem wf9_89 : Cond.fieldLink RX9 89 (TX9 26).1 (TX9 26).2.1 (TX9 26).2.2.1 ∈ zTb := zt_at 985 (by decide +kernel) rfl
theorem wf9_92 : Cond.fieldLink RX9 92 (TX9 27).1 (TX9 27).2.1 (TX9 27).2.2.1 ∈ zTb := zt_at 986 (by decide +kernel) rfl
theorem wf9_95 : Cond.fieldLink RX9 95 (TX9 28).1 (TX9 28).2.1 (TX9 28).2.2.1 ∈ zTb := zt_at 987 (by decide +kernel) rfl
theorem wf9_98 : Cond.fieldLink RX9 98 (TX9 29).1 (TX9 29).2.1 (TX9 29).2.2.1 ∈ zTb := zt_at 988 (by decide +kernel) rfl
theorem wf9_102 : Cond.fieldLink RX9 102 (TX9 30).1 (TX9 30).2.1 (TX9 30).2.2.1 ∈ zTb := zt_at 989 (by decide +kernel) rfl
theorem wf9_105 : Cond.fieldLink RX9 105 (TX9 31).1 (TX9 31).2.1 (TX9 31).2.2.1 ∈ zTb := zt_at 990 (by decide +kernel) rfl
theorem wf9_108 : Cond.fieldLink RX9 108 (TX9 32).1 (TX9 32).2.1 (TX9 32).2.2.1 ∈ zTb := zt_at 991 (by decide +kernel) rfl
theorem wf9_111 : Cond.fieldLink RX9 111 (TX9 33).1 (TX9 33).2.1 (TX9 33).2.2.1 ∈ zTb := zt_at 992 (by decide +kernel) rfl
theorem wf9_114 : Cond.fieldLink RX9 114 (TX9 34).1 (TX9 34).2.1 (TX9 34).2.2.1 ∈ zTb := zt_at 993 (by decide +kernel) rfl
theorem wf9_117 : Cond.fieldLink RX9 117 (TX9 35).1 (TX9 35).2.1 (TX9 35).2.2.1 ∈ zTb := zt_at 994 (by decide +kernel) rfl
theorem wf9_120 : Cond.fieldLink RX9 120 (TX9 36).1 (TX9 36).2.1 (TX9 36).2.2.1 ∈ zTb := zt_at 995 (by decide +kernel) rfl
theorem wf9_123 : Cond.fieldLink RX9 123 (TX9 37).1 (TX9 37).2.1 (TX9 37).2.2.1 ∈ zTb := zt_at 996 (by decide +kernel) rfl
theorem wf9_126 : Cond.fieldLink RX9 126 (TX9 38).1 (TX9 38).2.1 (TX9 38).2.2.1 ∈ zTb := zt_at 997 (by decide +kernel) rfl
theorem wf9_129 : Cond.fieldLink RX9 129 (TX9 39).1 (TX9 39).2.1 (TX9 39).2.2.1 ∈ zTb := zt_at 998 (by decide +kernel) rfl
theorem wf9_132 : Cond.fieldLink RX9 132 (TX9 40).1 (TX9 40).2.1 (TX9 40).2.2.1 ∈ zTb := zt_at 999 (by decide +kernel) rfl
theorem wf9_135 : Cond.fieldLink RX9 135 (TX9 41).1 (TX9 41).2.1 (TX9 41).2.2.1 ∈ zTb := zt_at 1000 (by decide +kernel) rfl
theorem wf9_138 : Cond.fieldLink RX9 138 (TX9 42).1 (TX9 42).2.1 (TX9 42).2.2.1 ∈ zTb := zt_at 1001 (by decide +kernel) rfl
theorem wf9_141 : Cond.fieldLink RX9 141 (TX9 43).1 (TX9 43).2.1 (TX9 43).2.2.1 ∈ zTb := zt_at 1002 (by decide +kernel) rfl
theorem wf9_144 : Cond.fieldLink RX9 144 (TX9 44).1 (TX9 44).2.1 (TX9 44).2.2.1 ∈ zTb := zt_at 1003 (by decide +kernel) rfl
theorem wf9_147 : Cond.fieldLink RX9 147 (TX9 45).1 (TX9 45).2.1 (TX9 45).2.2.1 ∈ zTb := zt_at 1004 (by decide +kernel) rfl
theorem wf9_150 : Cond.fieldLink RX9 150 (TX9 46).1 (TX9 46).2.1 (TX9 46).2.2.1 ∈ zTb := zt_at 1005 (by decide +kernel) rfl
theorem wf9_153 : Cond.fieldLink RX9 153 (TX9 47).1 (TX9 47).2.1 (TX9 47).2.2.1 ∈ zTb := zt_at 1006 (by decide +kernel) rfl
theorem wf9_156 : Cond.fieldLink RX9 156 (TX9 48).1 (TX9 48).2.1 (TX9 48).2.2.1 ∈ zTb := zt_at 1007 (by decide +kernel) rfl
theorem wf9_160 : Cond.fieldLink RX9 160 (TX9 49).1 (TX9 49).2.1 (TX9 49).2.2.1 ∈ zTb := zt_at 1008 (by decide +kernel) rfl
theorem wf9_163 : Cond.fieldLink RX9 163 (TX9 50).1 (TX9 50).2.1 (TX9 50).2.2.1 ∈ zTb := zt_at 1009 (by decide +kernel) rfl
theorem wf9_166 : Cond.fieldLink RX9 166 (TX9 51).1 (TX9 51).2.1 (TX9 51).2.2.1 ∈ zTb := zt_at 1010 (by decide +kernel) rfl
theorem wf9_169 : Cond.fieldLink RX9 169 (TX9 52).1 (TX9 52).2.1 (TX9 52).2.2.1 ∈ zTb := zt_at 1011 (by decide +kernel) rfl
theorem wf9_172 : Cond.fieldLink RX9 172 (TX9 53).1 (TX9 53).2.1 (TX9 53).2.2.1 ∈ zTb := zt_at 1012 (by decide +kernel) rfl
theorem wf9_175 : Cond.fieldLink RX9 175 (TX9 54).1 (TX9 54).2.1 (TX9 54).2.2.1 ∈ zTb := zt_at 1013 (by decide +kernel) rfl
theorem wf9_178 : Cond.fieldLink RX9 178 (TX9 55).1 (TX9 55).2.1 (TX9 55).2.2.1 ∈ zTb := zt_at 1014 (by decide +kernel) rfl
theorem wf9_181 : Cond.fieldLink RX9 181 (TX9 56).1 (TX9 56).2.1 (TX9 56).2.2.1 ∈ zTb := zt_at 1015 (by decide +kernel) rfl
theorem wf9_184 : Cond.fieldLink RX9 184 (TX9 57).1 (TX9 57).2.1 (TX9 57).2.2.1 ∈ zTb := zt_at 1016 (by decide +kernel) rfl
theorem wf9_187 : Cond.fieldLink RX9 187 (TX9 58).1 (TX9 58).2.1 (TX9 58).2.2.1 ∈ zTb := zt_at 1017 (by decide +kernel) rfl
theorem wf9_190 : Cond.fieldLink RX9 190 (TX9 59).1 (TX9 59).2.1 (TX9 59).2.2.1 ∈ zTb := zt_at 1018 (by decide +kernel) rfl
theorem wf9_193 : Cond.fieldLink RX9 193 (TX9 60).1 (TX9 60).2.1 (TX9 60).2.2.1 ∈ zTb := zt_at 1019 (by decide +kernel) rfl
theorem wf9_196 : Cond.fieldLink RX9 196 (TX9 61).1 (TX9 61).2.1 (TX9 61).2.2.1 ∈ zTb := zt_at 1020 (by decide +kernel) rfl
theorem wf9_199 : Cond.fieldLink RX9 199 (TX9 62).1 (TX9 62).2.1 (TX9 62).2.2.1 ∈ zTb := zt_at 1021 (by decide +kernel) rfl
theorem wf9_202 : Cond.fieldLink RX9 202 (TX9 63).1 (TX9 63).2.1 (TX9 63).2.2.1 ∈ zTb := zt_at 1022 (by decide +kernel) rfl
theorem wf9_205 : Cond.fieldLink RX9 205 (TX9 64).1 (TX9 64).2.1 (TX9 64).2.2.1 ∈ zTb := zt_at 1023 (by decide +kernel) rfl
theorem wf9_208 : Cond.fieldLink RX9 208 (TX9 65).1 (TX9 65).2.1 (TX9 65).2.2.1 ∈ zTb := zt_at 1024 (by decide +kernel) rfl
theorem wf9_211 : Cond.fieldLink RX9 211 (TX9 66).1 (TX9 66).2.1 (TX9 66).2.2.1 ∈ zTb := zt_at 1025 (by decide +kernel) rfl
theorem wf9_214 : Cond.fieldLink RX9 214 (TX9 67).1 (TX9 67).2.1 (TX9 67).2.2.1 ∈ zTb := zt_at 1026 (by decide +kernel) rfl
theorem wf9_217 : Cond.fieldLink RX9 217 (TX9 68).1 (TX9 68).2.1 (TX9 68).2.2.1 ∈ zTb := zt_at 1027 (by decide +kernel) rfl
theorem wf9_220 : Cond.fieldLink RX9 220 (TX9 69).1 (TX9 69).2.1 (TX9 69).2.2.1 ∈ zTb := zt_at 1028 (by decide +kernel) rfl
theorem wf9_223 : Cond.fieldLink RX9 223 (TX9 70).1 (TX9 70).2.1 (TX9 70).2.2.1 ∈ zTb := zt_at 1029 (by decide +kernel) rfl
theorem wf9_226 : Cond.fieldLink RX9 226 (TX9 71).1 (TX9 71).2.1 (TX9 71).2.2.1 ∈ zTb := zt_at 1030 (by decide +kernel) rfl
theorem wf9_229 : Cond.fieldLink RX9 229 (TX9 72).1 (TX9 72).2.1 (TX9 72).2.2.1 ∈ zTb := zt_at 1031 (by decide +kernel) rfl
theorem wf9_232 : Cond.fieldLink RX9 232 (TX9 73).1 (TX9 73).2.1 (TX9 73).2.2.1 ∈ zTb := zt_at 1032 (by decide +kernel) rfl
theorem wf9_235 : Cond.fieldLink RX9 235 (TX9 74).1 (TX9 74).2.1 (TX9 74).2.2.1 ∈ zTb := zt_at 1033 (by decide +kernel) rfl
theorem wf9_238 : Cond.fieldLink RX9 238 (TX9 75).1 (TX9 75).2.1 (TX9 75).2.2.1 ∈ zTb := zt_at 1034 (by decide +kernel) rfl
theorem wf9_241 : Cond.fieldLink RX9 241 (TX9 76).1 (TX9 76).2.1 (TX9 76).2.2.1 ∈ zTb := zt_at 1035 (by decide +kernel) rfl
theorem wf9_245 : Cond.fieldLink RX9 245 (TX9 77).1 (TX9 77).2.1 (TX9 77).2.2.1 ∈ zTb := zt_at 1036 (by decide +kernel) rfl
theorem wm9_252 : Cond.methodLink RX9 252 yX9_in ∈ zTb := zt_at 1198 (by decide +kernel) rfl
theorem wm9_256 : Cond.methodLink RX9 256 yX9_isHeat ∈ zTb := zt_at 1202 (by decide +kernel) rfl
theorem wm9_260 : Cond.methodLink RX9 260 yX9_isOne ∈ zTb := zt_at 1210 (by decide +kernel) rfl
theorem wm9_263 : Cond.methodLink RX9 263 yX9_has ∈ zTb := zt_at 1218 (by decide +kernel) rfl
theorem wm9_267 : Cond.methodLink RX9 267 yX9_goes ∈ zTb := zt_at 1222 (by decide +kernel) rfl
theorem wm9_271 : Cond.methodLink RX9 271 yX9_isWork ∈ zTb := zt_at 1234 (by decide +kernel) rfl
theorem wm9_317 : Cond.methodLink RX9 317 yX9_goesText ∈ zTb := zt_at 1250 (by decide +kernel) rfl
theorem wm9_314 : Cond.methodLink RX9 314 yX9_takesClause ∈ zTb := zt_at 1254 (by decide +kernel) rfl
theorem wm9_308 : Cond.methodLink RX9 308 yX9_takesHead ∈ zTb := zt_at 1258 (by decide +kernel) rfl
theorem wm9_274 : Cond.methodLink RX9 274 yX9_next ∈ zTb := zt_at 1262 (by decide +kernel) rfl
theorem wm9_305 : Cond.methodLink RX9 305 yX9_takesWord ∈ zTb := zt_at 1266 (by decide +kernel) rfl
theorem wm9_278 : Cond.methodLink RX9 278 yX9_takes ∈ zTb := zt_at 1270 (by decide +kernel) rfl
theorem wm9_293 : Cond.methodLink RX9 293 yX9_takesNumber ∈ zTb := zt_at 1274 (by decide +kernel) rfl
theorem wm9_281 : Cond.methodLink RX9 281 yX9_isDigit ∈ zTb := zt_at 1278 (by decide +kernel) rfl
theorem wm9_311 : Cond.methodLink RX9 311 yX9_takesE ∈ zTb := zt_at 1282 (by decide +kernel) rfl
theorem wm9_299 : Cond.methodLink RX9 299 yX9_takesTest ∈ zTb := zt_at 1286 (by decide +kernel) rfl
theorem wm9_289 : Cond.methodLink RX9 289 yX9_place ∈ zTb := zt_at 1290 (by decide +kernel) rfl
theorem wm9_285 : Cond.methodLink RX9 285 yX9_emits ∈ zTb := zt_at 1294 (by decide +kernel) rfl
theorem wm9_296 : Cond.methodLink RX9 296 yX9_whole ∈ zTb := zt_at 1298 (by decide +kernel) rfl
theorem wm9_302 : Cond.methodLink RX9 302 yX9_settle ∈ zTb := zt_at 1302 (by decide +kernel) rfl
theorem wm9_338 : Cond.methodLink RX9 338 yX9_rise ∈ zTb := zt_at 1310 (by decide +kernel) rfl
theorem wm9_335 : Cond.methodLink RX9 335 yX9_sum ∈ zTb := zt_at 1314 (by decide +kernel) rfl
theorem wm9_320 : Cond.methodLink RX9 320 yX9_begin ∈ zTb := zt_at 1318 (by decide +kernel) rfl
theorem wm9_323 : Cond.methodLink RX9 323 yX9_behind ∈ zTb := zt_at 1322 (by decide +kernel) rfl
theorem wm9_332 : Cond.methodLink RX9 332 yX9_holds ∈ zTb := zt_at 1326 (by decide +kernel) rfl
theorem wm9_329 : Cond.methodLink RX9 329 yX9_factOf ∈ zTb := zt_at 1330 (by decide +kernel) rfl
theorem wm9_326 : Cond.methodLink RX9 326 yX9_beside ∈ zTb := zt_at 1334 (by decide +kernel) rfl
theorem wm9_344 : Cond.methodLink RX9 344 yX9_spark ∈ zTb := zt_at 1342 (by decide +kernel) rfl
theorem wm9_347 : Cond.methodLink RX9 347 yX9_doneSet ∈ zTb := zt_at 1346 (by decide +kernel) rfl
theorem wm9_341 : Cond.methodLink RX9 341 yX9_isDone ∈ zTb := zt_at 1350 (by decide +kernel) rfl
theorem wm9_350 : Cond.methodLink RX9 350 yX9_hottest ∈ zTb := zt_at 1354 (by decide +kernel) rfl
theorem wm9_353 : Cond.methodLink RX9 353 yX9_allHeat ∈ zTb := zt_at 1358 (by decide +kernel) rfl
theorem wm9_362 : Cond.methodLink RX9 362 yX9_isMinutes ∈ zTb := zt_at 1366 (by decide +kernel) rfl
theorem wm9_365 : Cond.methodLink RX9 365 yX9_goMinutes ∈ zTb := zt_at 1370 (by decide +kernel) rfl
theorem wm9_359 : Cond.methodLink RX9 359 yX9_goMinute ∈ zTb := zt_at 1374 (by decide +kernel) rfl
theorem wm9_356 : Cond.methodLink RX9 356 yX9_held ∈ zTb := zt_at 1378 (by decide +kernel) rfl
theorem wm9_248 : Cond.methodLink RX9 248 yX9_least ∈ zTb := zt_at 1382 (by decide +kernel) rfl
theorem wm9_374 : Cond.methodLink RX9 374 yX9_ready ∈ zTb := zt_at 1390 (by decide +kernel) rfl
theorem wm9_368 : Cond.methodLink RX9 368 yX9_save ∈ zTb := zt_at 1394 (by decide +kernel) rfl
theorem wm9_371 : Cond.methodLink RX9 371 yX9_putBack ∈ zTb := zt_at 1398 (by decide +kernel) rfl
theorem wm9_380 : Cond.methodLink RX9 380 yX9_layLine ∈ zTb := zt_at 1410 (by decide +kernel) rfl
theorem wm9_383 : Cond.methodLink RX9 383 yX9_doneInTime ∈ zTb := zt_at 1414 (by decide +kernel) rfl
theorem wm9_377 : Cond.methodLink RX9 377 yX9_firstOfLine ∈ zTb := zt_at 1418 (by decide +kernel) rfl
theorem wm9_386 : Cond.methodLink RX9 386 yX9_hottestIf ∈ zTb := zt_at 1426 (by decide +kernel) rfl
theorem wm9_392 : Cond.methodLink RX9 392 yX9_heats ∈ zTb := zt_at 1438 (by decide +kernel) rfl
theorem wm9_389 : Cond.methodLink RX9 389 yX9_isSeen ∈ zTb := zt_at 1442 (by decide +kernel) rfl
theorem wm9_395 : Cond.methodLink RX9 395 yX9_canBe ∈ zTb := zt_at 1446 (by decide +kernel) rfl
theorem wc9_401 : Cond.constantLong RX9 401 (-9223372036854775808 : Int64) ∈ zTb := zt_at 1454 (by decide +kernel) rfl
theorem wm9_403 : Cond.methodLink RX9 403 yX9_isHotIf ∈ zTb := zt_at 1455 (by decide +kernel) rfl
theorem wm9_406 : Cond.methodLink RX9 406 yX9_lowest ∈ zTb := zt_at 1459 (by decide +kernel) rfl
theorem wm9_398 : Cond.methodLink RX9 398 yX9_divisor ∈ zTb := zt_at 1463 (by decide +kernel) rfl
theorem wm9_410 : Cond.methodLink RX9 410 yX9_goPlan ∈ zTb := zt_at 1479 (by decide +kernel) rfl
theorem wm9_414 : Cond.methodLink RX9 414 yX9_isTape ∈ zTb := zt_at 1495 (by decide +kernel) rfl
theorem wm9_423 : Cond.methodLink RX9 423 yX9_glowsAct ∈ zTb := zt_at 1511 (by decide +kernel) rfl
theorem wm9_417 : Cond.methodLink RX9 417 yX9_body ∈ zTb := zt_at 1515 (by decide +kernel) rfl
theorem wm9_420 : Cond.methodLink RX9 420 yX9_oneGlows ∈ zTb := zt_at 1519 (by decide +kernel) rfl
theorem wm9_432 : Cond.methodLink RX9 432 yX9_ringsAct ∈ zTb := zt_at 1523 (by decide +kernel) rfl
theorem wm9_429 : Cond.methodLink RX9 429 yX9_bankerRings ∈ zTb := zt_at 1527 (by decide +kernel) rfl
theorem wm9_426 : Cond.methodLink RX9 426 yX9_oneRings ∈ zTb := zt_at 1531 (by decide +kernel) rfl
theorem wm9_438 : Cond.methodLink RX9 438 yX9_tellsAct ∈ zTb := zt_at 1535 (by decide +kernel) rfl
theorem wm9_435 : Cond.methodLink RX9 435 yX9_oneTells ∈ zTb := zt_at 1539 (by decide +kernel) rfl
theorem wm9_441 : Cond.methodLink RX9 441 yX9_narrow ∈ zTb := zt_at 1563 (by decide +kernel) rfl
theorem wMmax_s : Cond.static Lib.Math.max.name ∈ zTb := zt_at 487 (by decide +kernel) rfl
theorem wMmax_c : Cond.code Lib.Math.max.name Lib.Math.max.code 2 (some .int) ∈ zTb := zt_at 488 (by decide +kernel) rfl
theorem wMmin_s : Cond.static Lib.Math.min.name ∈ zTb := zt_at 484 (by decide +kernel) rfl
theorem wMmin_c : Cond.code Lib.Math.min.name Lib.Math.min.code 2 (some .int) ∈ zTb := zt_at 485 (by decide +kernel) rfl
theorem wMath : Cond.initialized "java/lang/Math" ∈ zTb := zt_at 93 (by decide +kernel) rfl
theorem wSys : Cond.initialized "java/lang/System" ∈ zTb := zt_at 92 (by decide +kernel) rfl
theorem wAcN : Cond.native arraycopyName ∈ zTb := zt_at 467 (by decide +kernel) rfl
theorem wAcS : Cond.static arraycopyName ∈ zTb := zt_at 466 (by decide +kernel) rfl
end
section
/-! ===== the cells of the class and of the reference ===== -/
def SHX : List zS := [.inl (8, [(1 + 0) + 3, (25 + 0) + 3, 0, (2 + 0) + 3, (49 + 0) + 3, (63 + 0) + 3, (65 + 0) + 3, 0, (66 + 0) + 3, (68 + 0) + 3]),
  .inl (7, [(1 + 1) + 3, (1 + 12) + 3, (1 + 16) + 3, (1 + 20) + 3]),
  .inl (6, [0, (2 + 1) + 3, (2 + 2) + 3, (2 + 3) + 3, (2 + 4) + 3, (2 + 5) + 3, 0, (2 + 6) + 3, (2 + 7) + 3, (2 + 8) + 3, 0, 0, 2, (2 + 9) + 3, (2 + 10) + 3]),
  .inr (0, 6, 0, 0),
  .inr (0, 6, 0, 0),
  .inr (0, 6, 0, 0),
  .inr (1, 6, 0, 0),
  .inr (0, 24, 0, 0),
  .inr (0, 4, 0, 0),
  .inr (0, 4, 0, 0),
  .inr (0, 4, 0, 0),
  .inr (0, 6, 0, 0),
  .inr (0, 8, 0, 0),
  .inl (3, [(13 + 1) + 3, (13 + 2) + 3, (13 + 3) + 3, 0]),
  .inr (0, 5, 0, 0),
  .inr (0, 5, 0, 0),
  .inr (0, 5, 0, 0),
  .inl (3, [(17 + 1) + 3, (17 + 2) + 3, (17 + 3) + 3, 0]),
  .inr (0, 10, 0, 0),
  .inr (0, 10, 0, 0),
  .inr (0, 10, 0, 0),
  .inl (3, [(21 + 1) + 3, (21 + 2) + 3, (21 + 3) + 3, 0]),
  .inr (0, 8, 0, 0),
  .inr (0, 8, 0, 0),
  .inr (0, 8, 0, 0),
  .inl (7, [(25 + 1) + 3, (25 + 12) + 3, (25 + 16) + 3, (25 + 20) + 3]),
  .inl (6, [0, (26 + 1) + 3, (26 + 2) + 3, (26 + 3) + 3, (26 + 4) + 3, (26 + 5) + 3, 0, (26 + 6) + 3, (26 + 7) + 3, (26 + 8) + 3, 0, 0, 2, (26 + 9) + 3, (26 + 10) + 3]),
  .inr (0, 6, 0, 0),
  .inr (0, 6, 0, 0),
  .inr (0, 6, 0, 0),
  .inr (1, 6, 0, 0),
  .inr (0, 24, 0, 0),
  .inr (0, 4, 0, 0),
  .inr (0, 4, 0, 0),
  .inr (0, 4, 0, 0),
  .inr (0, 6, 0, 0),
  .inr (0, 8, 0, 0),
  .inl (3, [(37 + 1) + 3, (37 + 2) + 3, (37 + 3) + 3, 0]),
  .inr (0, 5, 0, 0),
  .inr (0, 5, 0, 0),
  .inr (0, 5, 0, 0),
  .inl (3, [(41 + 1) + 3, (41 + 2) + 3, (41 + 3) + 3, 0]),
  .inr (0, 10, 0, 0),
  .inr (0, 10, 0, 0),
  .inr (0, 10, 0, 0),
  .inl (3, [(45 + 1) + 3, (45 + 2) + 3, (45 + 3) + 3, 0]),
  .inr (0, 8, 0, 0),
  .inr (0, 8, 0, 0),
  .inr (0, 8, 0, 0),
  .inl (1, [(50 + 0) + 3, (2 + 0) + 3, (13 + 0) + 3, (51 + 0) + 3, (62 + 0) + 3, 0]),
  .inr (0, 4, 0, 0),
  .inl (6, [0, (51 + 1) + 3, (51 + 2) + 3, (51 + 3) + 3, (51 + 4) + 3, (51 + 5) + 3, 0, (51 + 6) + 3, (51 + 7) + 3, (51 + 8) + 3, 0, 0, 2, (51 + 9) + 3, (51 + 10) + 3]),
  .inr (0, 6, 0, 0),
  .inr (0, 6, 0, 0),
  .inr (0, 6, 0, 0),
  .inr (1, 6, 0, 0),
  .inr (0, 24, 0, 0),
  .inr (0, 4, 0, 0),
  .inr (0, 4, 0, 0),
  .inr (0, 4, 0, 0),
  .inr (0, 6, 0, 0),
  .inr (0, 8, 0, 0),
  .inr (0, 4, 0, 0),
  .inl (2, [0, 0, (64 + 0) + 3, 2]),
  .inr (2, 100, 0, 0),
  .inr (4, 6, 78, 3),
  .inl (0, [0, (67 + 0) + 3, 0, 0, 0]),
  .inr (0, 20, 0, 0),
  .inl (5, [(69 + 0) + 3, (70 + 0) + 3, (71 + 0) + 3]),
  .inr (0, 6, 0, 0),
  .inr (0, 6, 0, 0),
  .inr (5, 6, 72, 1),
  .inr (3, 60, 0, 0),
  .inr (3, 60, 0, 0),
  .inr (3, 60, 0, 0),
  .inr (3, 60, 0, 0),
  .inr (3, 60, 0, 0),
  .inr (3, 60, 0, 0),
  .inl (4, [0, (78 + 1) + 3, 0, (78 + 2) + 3, 0]),
  .inr (0, 100, 0, 0),
  .inr (0, 10, 0, 0),
  .inl (4, [0, (81 + 1) + 3, 0, (81 + 2) + 3, 0]),
  .inr (0, 100, 0, 0),
  .inr (0, 10, 0, 0),
  .inl (4, [0, (84 + 1) + 3, 0, (84 + 2) + 3, 0]),
  .inr (0, 100, 0, 0),
  .inr (0, 10, 0, 0),
  .inl (4, [0, (87 + 1) + 3, 0, (87 + 2) + 3, 0]),
  .inr (0, 100, 0, 0),
  .inr (0, 10, 0, 0),
  .inl (4, [0, (90 + 1) + 3, 0, (90 + 2) + 3, 0]),
  .inr (0, 100, 0, 0),
  .inr (0, 10, 0, 0),
  .inl (4, [0, (93 + 1) + 3, 0, (93 + 2) + 3, 0]),
  .inr (0, 100, 0, 0),
  .inr (0, 10, 0, 0)]
def SHM : List zS := [.inl (9, [0, 0, 0, 0, 0, (1 + 0) + 3, (2 + 0) + 3, (3 + 0) + 3, (4 + 0) + 3, (5 + 0) + 3, (6 + 0) + 3, (7 + 0) + 3, 0, 0, 0, 0, 0, (8 + 0) + 3, (9 + 0) + 3, (10 + 0) + 3, (11 + 0) + 3, (12 + 0) + 3, (13 + 0) + 3, (14 + 0) + 3, (15 + 0) + 3, 0, 0, 0, (16 + 0) + 3, (17 + 0) + 3, (18 + 0) + 3, 0, 0, 0, (19 + 0) + 3, (20 + 0) + 3, (21 + 0) + 3, (22 + 0) + 3, 0, (23 + 0) + 3, (24 + 0) + 3, (25 + 0) + 3, 0, 0, (26 + 0) + 3, (27 + 0) + 3, (28 + 0) + 3, (29 + 0) + 3, 0, 0, 0, 0, 0, 0, 0, 0, 0, 0, (30 + 0) + 3, (31 + 0) + 3, (32 + 0) + 3, (33 + 0) + 3, (34 + 0) + 3, (35 + 0) + 3, (36 + 0) + 3, (37 + 0) + 3, (38 + 0) + 3, (39 + 0) + 3, (40 + 0) + 3, (41 + 0) + 3, (42 + 0) + 3, (43 + 0) + 3, 0, (44 + 0) + 3, (45 + 0) + 3, (46 + 0) + 3, (47 + 0) + 3, (48 + 0) + 3]),
  .inr (0, 6, 0, 0),
  .inr (0, 6, 0, 0),
  .inr (0, 6, 0, 0),
  .inr (0, 24, 0, 0),
  .inr (0, 4, 0, 0),
  .inr (0, 4, 0, 0),
  .inr (0, 4, 0, 0),
  .inr (0, 100, 0, 0),
  .inr (0, 6, 0, 0),
  .inr (0, 60, 0, 0),
  .inr (0, 60, 0, 0),
  .inr (0, 60, 0, 0),
  .inr (0, 60, 0, 0),
  .inr (0, 600, 0, 0),
  .inr (0, 101, 0, 0),
  .inr (0, 13, 0, 0),
  .inr (1, 100, 0, 0),
  .inr (0, 6, 0, 0),
  .inr (0, 6, 0, 0),
  .inr (0, 4, 0, 0),
  .inr (0, 4, 0, 0),
  .inr (0, 4, 0, 0),
  .inr (0, 5, 0, 0),
  .inr (0, 5, 0, 0),
  .inr (1, 5, 0, 0),
  .inr (0, 10, 0, 0),
  .inr (0, 10, 0, 0),
  .inr (0, 8, 0, 0),
  .inr (0, 8, 0, 0),
  .inr (0, 6, 0, 0),
  .inr (0, 6, 0, 0),
  .inr (0, 6, 0, 0),
  .inr (0, 24, 0, 0),
  .inr (0, 4, 0, 0),
  .inr (0, 4, 0, 0),
  .inr (0, 4, 0, 0),
  .inr (0, 5, 0, 0),
  .inr (0, 5, 0, 0),
  .inr (0, 10, 0, 0),
  .inr (0, 10, 0, 0),
  .inr (0, 8, 0, 0),
  .inr (0, 8, 0, 0),
  .inr (1, 5, 0, 0),
  .inr (0, 20, 0, 0),
  .inr (0, 6, 0, 0),
  .inr (0, 6, 0, 0),
  .inr (3, 360, 0, 0),
  .inr (3, 60, 0, 0)]
/-- a Town, a Sheet of n rows, a Square, a Whole begin there -/
def zTn (t : Nat) : Prop := SHX[t]? = some (.inl (6, [0, (t + 1) + 3, (t + 2) + 3, (t + 3) + 3, (t + 4) + 3, (t + 5) + 3, 0, (t + 6) + 3, (t + 7) + 3, (t + 8) + 3, 0, 0, 2, (t + 9) + 3, (t + 10) + 3])) ∧ SHX[t + 1]? = some (.inr (0, 6, 0, 0)) ∧ SHX[t + 2]? = some (.inr (0, 6, 0, 0)) ∧ SHX[t + 3]? = some (.inr (0, 6, 0, 0)) ∧ SHX[t + 4]? = some (.inr (1, 6, 0, 0)) ∧ SHX[t + 5]? = some (.inr (0, 24, 0, 0)) ∧ SHX[t + 6]? = some (.inr (0, 4, 0, 0)) ∧ SHX[t + 7]? = some (.inr (0, 4, 0, 0)) ∧ SHX[t + 8]? = some (.inr (0, 4, 0, 0)) ∧ SHX[t + 9]? = some (.inr (0, 6, 0, 0)) ∧ SHX[t + 10]? = some (.inr (0, 8, 0, 0))
def zSn (s n : Nat) : Prop := SHX[s]? = some (.inl (3, [(s + 1) + 3, (s + 2) + 3, (s + 3) + 3, 0])) ∧ SHX[s + 1]? = some (.inr (0, n, 0, 0)) ∧ SHX[s + 2]? = some (.inr (0, n, 0, 0)) ∧ SHX[s + 3]? = some (.inr (0, n, 0, 0))
def zSq (q : Nat) : Prop := SHX[q]? = some (.inl (4, [0, (q + 1) + 3, 0, (q + 2) + 3, 0])) ∧ SHX[q + 1]? = some (.inr (0, 100, 0, 0)) ∧ SHX[q + 2]? = some (.inr (0, 10, 0, 0))
def zWh (w : Nat) : Prop := SHX[w]? = some (.inl (7, [(w + 1) + 3, (w + 12) + 3, (w + 16) + 3, (w + 20) + 3])) ∧ zTn (w + 1) ∧ zSn (w + 12) 5 ∧ zSn (w + 16) 10 ∧ zSn (w + 20) 8
theorem zTn_2 : zTn 2 := ⟨rfl, rfl, rfl, rfl, rfl, rfl, rfl, rfl, rfl, rfl, rfl⟩
theorem zTn_26 : zTn 26 := ⟨rfl, rfl, rfl, rfl, rfl, rfl, rfl, rfl, rfl, rfl, rfl⟩
theorem zTn_51 : zTn 51 := ⟨rfl, rfl, rfl, rfl, rfl, rfl, rfl, rfl, rfl, rfl, rfl⟩
theorem zSn_13 : zSn 13 5 := ⟨rfl, rfl, rfl, rfl⟩
theorem zSn_17 : zSn 17 10 := ⟨rfl, rfl, rfl, rfl⟩
theorem zSn_21 : zSn 21 8 := ⟨rfl, rfl, rfl, rfl⟩
theorem zSn_37 : zSn 37 5 := ⟨rfl, rfl, rfl, rfl⟩
theorem zSn_41 : zSn 41 10 := ⟨rfl, rfl, rfl, rfl⟩
theorem zSn_45 : zSn 45 8 := ⟨rfl, rfl, rfl, rfl⟩
theorem zSq_78 : zSq 78 := ⟨rfl, rfl, rfl⟩
theorem zSq_81 : zSq 81 := ⟨rfl, rfl, rfl⟩
theorem zSq_84 : zSq 84 := ⟨rfl, rfl, rfl⟩
theorem zSq_87 : zSq 87 := ⟨rfl, rfl, rfl⟩
theorem zSq_90 : zSq 90 := ⟨rfl, rfl, rfl⟩
theorem zSq_93 : zSq 93 := ⟨rfl, rfl, rfl⟩
theorem zWh_1 : zWh 1 := ⟨rfl, zTn_2, zSn_13, zSn_17, zSn_21⟩
theorem zWh_25 : zWh 25 := ⟨rfl, zTn_26, zSn_37, zSn_41, zSn_45⟩
def isT (t : Nat) : Bool := t == 2 || t == 26 || t == 51
theorem isT_sh {t : Nat} (h : isT t = true) : zTn t := by
  unfold isT at h
  rw [Bool.or_eq_true, Bool.or_eq_true, beq_iff_eq, beq_iff_eq, beq_iff_eq] at h
  rcases h with (h | h) | h <;> subst h
  · exact zTn_2
  · exact zTn_26
  · exact zTn_51
def isQ (q : Nat) : Bool := q == 78 || q == 81 || q == 84 || q == 87 || q == 90 || q == 93
theorem isQ_sh {q : Nat} (h : isQ q = true) : zSq q := by
  unfold isQ at h
  simp only [Bool.or_eq_true, beq_iff_eq] at h
  rcases h with ((((h | h) | h) | h) | h) | h <;> subst h
  · exact zSq_78
  · exact zSq_81
  · exact zSq_84
  · exact zSq_87
  · exact zSq_90
  · exact zSq_93
theorem inB_lt {i : Int32} {n : Nat} (h : inB i n = true) : i.toNatClampNeg < n := Nat.not_le.mp fun q => inB_in h (Or.inr q)
theorem zSq_at {i : Int32} (h : inB i 6 = true) : zSq (78 + 3 * i.toNatClampNeg) := by
  have h1 := inB_lt h
  generalize i.toNatClampNeg = k at h1 ⊢
  match k, h1 with
  | 0, _ => exact zSq_78
  | 1, _ => exact zSq_81
  | 2, _ => exact zSq_84
  | 3, _ => exact zSq_87
  | 4, _ => exact zSq_90
  | 5, _ => exact zSq_93
theorem zIt_at {i : Int32} (h : inB i 6 = true) : SHX[72 + 1 * i.toNatClampNeg]? = some (.inr (3, 60, 0, 0)) := by
  have h1 := inB_lt h
  generalize i.toNatClampNeg = k at h1 ⊢
  match k, h1 with
  | 0, _ => rfl
  | 1, _ => rfl
  | 2, _ => rfl
  | 3, _ => rfl
  | 4, _ => rfl
  | 5, _ => rfl
theorem shX_0 : SHX[0]? = some (.inl (8, [(1 + 0) + 3, (25 + 0) + 3, 0, (2 + 0) + 3, (49 + 0) + 3, (63 + 0) + 3, (65 + 0) + 3, 0, (66 + 0) + 3, (68 + 0) + 3])) := rfl
theorem shX_49 : SHX[49]? = some (.inl (1, [(50 + 0) + 3, (2 + 0) + 3, (13 + 0) + 3, (51 + 0) + 3, (62 + 0) + 3, 0])) := rfl
theorem shX_50 : SHX[50]? = some (.inr (0, 4, 0, 0)) := rfl
theorem shX_62 : SHX[62]? = some (.inr (0, 4, 0, 0)) := rfl
theorem shX_63 : SHX[63]? = some (.inl (2, [0, 0, (64 + 0) + 3, 2])) := rfl
theorem shX_64 : SHX[64]? = some (.inr (2, 100, 0, 0)) := rfl
theorem shX_65 : SHX[65]? = some (.inr (4, 6, 78, 3)) := rfl
theorem shX_66 : SHX[66]? = some (.inl (0, [0, (67 + 0) + 3, 0, 0, 0])) := rfl
theorem shX_67 : SHX[67]? = some (.inr (0, 20, 0, 0)) := rfl
theorem shX_68 : SHX[68]? = some (.inl (5, [(69 + 0) + 3, (70 + 0) + 3, (71 + 0) + 3])) := rfl
theorem shX_69 : SHX[69]? = some (.inr (0, 6, 0, 0)) := rfl
theorem shX_70 : SHX[70]? = some (.inr (0, 6, 0, 0)) := rfl
theorem shX_71 : SHX[71]? = some (.inr (5, 6, 72, 1)) := rfl
theorem shM_0 : SHM[0]? = some (.inl (9, [0, 0, 0, 0, 0, (1 + 0) + 3, (2 + 0) + 3, (3 + 0) + 3, (4 + 0) + 3, (5 + 0) + 3, (6 + 0) + 3, (7 + 0) + 3, 0, 0, 0, 0, 0, (8 + 0) + 3, (9 + 0) + 3, (10 + 0) + 3, (11 + 0) + 3, (12 + 0) + 3, (13 + 0) + 3, (14 + 0) + 3, (15 + 0) + 3, 0, 0, 0, (16 + 0) + 3, (17 + 0) + 3, (18 + 0) + 3, 0, 0, 0, (19 + 0) + 3, (20 + 0) + 3, (21 + 0) + 3, (22 + 0) + 3, 0, (23 + 0) + 3, (24 + 0) + 3, (25 + 0) + 3, 0, 0, (26 + 0) + 3, (27 + 0) + 3, (28 + 0) + 3, (29 + 0) + 3, 0, 0, 0, 0, 0, 0, 0, 0, 0, 0, (30 + 0) + 3, (31 + 0) + 3, (32 + 0) + 3, (33 + 0) + 3, (34 + 0) + 3, (35 + 0) + 3, (36 + 0) + 3, (37 + 0) + 3, (38 + 0) + 3, (39 + 0) + 3, (40 + 0) + 3, (41 + 0) + 3, (42 + 0) + 3, (43 + 0) + 3, 0, (44 + 0) + 3, (45 + 0) + 3, (46 + 0) + 3, (47 + 0) + 3, (48 + 0) + 3])) := rfl
theorem shM_1 : SHM[1]? = some (.inr (0, 6, 0, 0)) := rfl
theorem shM_2 : SHM[2]? = some (.inr (0, 6, 0, 0)) := rfl
theorem shM_3 : SHM[3]? = some (.inr (0, 6, 0, 0)) := rfl
theorem shM_4 : SHM[4]? = some (.inr (0, 24, 0, 0)) := rfl
theorem shM_5 : SHM[5]? = some (.inr (0, 4, 0, 0)) := rfl
theorem shM_6 : SHM[6]? = some (.inr (0, 4, 0, 0)) := rfl
theorem shM_7 : SHM[7]? = some (.inr (0, 4, 0, 0)) := rfl
theorem shM_8 : SHM[8]? = some (.inr (0, 100, 0, 0)) := rfl
theorem shM_9 : SHM[9]? = some (.inr (0, 6, 0, 0)) := rfl
theorem shM_10 : SHM[10]? = some (.inr (0, 60, 0, 0)) := rfl
theorem shM_11 : SHM[11]? = some (.inr (0, 60, 0, 0)) := rfl
theorem shM_12 : SHM[12]? = some (.inr (0, 60, 0, 0)) := rfl
theorem shM_13 : SHM[13]? = some (.inr (0, 60, 0, 0)) := rfl
theorem shM_14 : SHM[14]? = some (.inr (0, 600, 0, 0)) := rfl
theorem shM_15 : SHM[15]? = some (.inr (0, 101, 0, 0)) := rfl
theorem shM_16 : SHM[16]? = some (.inr (0, 13, 0, 0)) := rfl
theorem shM_17 : SHM[17]? = some (.inr (1, 100, 0, 0)) := rfl
theorem shM_18 : SHM[18]? = some (.inr (0, 6, 0, 0)) := rfl
theorem shM_19 : SHM[19]? = some (.inr (0, 6, 0, 0)) := rfl
theorem shM_20 : SHM[20]? = some (.inr (0, 4, 0, 0)) := rfl
theorem shM_21 : SHM[21]? = some (.inr (0, 4, 0, 0)) := rfl
theorem shM_22 : SHM[22]? = some (.inr (0, 4, 0, 0)) := rfl
theorem shM_23 : SHM[23]? = some (.inr (0, 5, 0, 0)) := rfl
theorem shM_24 : SHM[24]? = some (.inr (0, 5, 0, 0)) := rfl
theorem shM_25 : SHM[25]? = some (.inr (1, 5, 0, 0)) := rfl
theorem shM_26 : SHM[26]? = some (.inr (0, 10, 0, 0)) := rfl
theorem shM_27 : SHM[27]? = some (.inr (0, 10, 0, 0)) := rfl
theorem shM_28 : SHM[28]? = some (.inr (0, 8, 0, 0)) := rfl
theorem shM_29 : SHM[29]? = some (.inr (0, 8, 0, 0)) := rfl
theorem shM_30 : SHM[30]? = some (.inr (0, 6, 0, 0)) := rfl
theorem shM_31 : SHM[31]? = some (.inr (0, 6, 0, 0)) := rfl
theorem shM_32 : SHM[32]? = some (.inr (0, 6, 0, 0)) := rfl
theorem shM_33 : SHM[33]? = some (.inr (0, 24, 0, 0)) := rfl
theorem shM_34 : SHM[34]? = some (.inr (0, 4, 0, 0)) := rfl
theorem shM_35 : SHM[35]? = some (.inr (0, 4, 0, 0)) := rfl
theorem shM_36 : SHM[36]? = some (.inr (0, 4, 0, 0)) := rfl
theorem shM_37 : SHM[37]? = some (.inr (0, 5, 0, 0)) := rfl
theorem shM_38 : SHM[38]? = some (.inr (0, 5, 0, 0)) := rfl
theorem shM_39 : SHM[39]? = some (.inr (0, 10, 0, 0)) := rfl
theorem shM_40 : SHM[40]? = some (.inr (0, 10, 0, 0)) := rfl
theorem shM_41 : SHM[41]? = some (.inr (0, 8, 0, 0)) := rfl
theorem shM_42 : SHM[42]? = some (.inr (0, 8, 0, 0)) := rfl
theorem shM_43 : SHM[43]? = some (.inr (1, 5, 0, 0)) := rfl
theorem shM_44 : SHM[44]? = some (.inr (0, 20, 0, 0)) := rfl
theorem shM_45 : SHM[45]? = some (.inr (0, 6, 0, 0)) := rfl
theorem shM_46 : SHM[46]? = some (.inr (0, 6, 0, 0)) := rfl
theorem shM_47 : SHM[47]? = some (.inr (3, 360, 0, 0)) := rfl
theorem shM_48 : SHM[48]? = some (.inr (3, 60, 0, 0)) := rfl
end
section
/-! ===== decode rows ===== -/
theorem dX0_init_0 : decode cX0_init 0 = .ok (.aload_n 0, 1) := by decide +kernel
theorem dX0_init_1 : decode cX0_init 1 = .ok (.invokespecial 3, 3) := by decide +kernel
theorem dX0_init_4 : decode cX0_init 4 = .ok (.aload_n 0, 1) := by decide +kernel
theorem dX0_init_5 : decode cX0_init 5 = .ok (.bipush 20, 2) := by decide +kernel
theorem dX0_init_7 : decode cX0_init 7 = .ok (.newarray .int, 2) := by decide +kernel
theorem dX0_init_9 : decode cX0_init 9 = .ok (.putfield 9, 3) := by decide +kernel
theorem dX0_init_12 : decode cX0_init 12 = .ok (.return_, 1) := by decide +kernel
theorem dX0_start_0 : decode cX0_start 0 = .ok (.aload_n 0, 1) := by decide +kernel
theorem dX0_start_1 : decode cX0_start 1 = .ok (.iload_n 2, 1) := by decide +kernel
theorem dX0_start_2 : decode cX0_start 2 = .ok (.putfield 15, 3) := by decide +kernel
theorem dX0_start_5 : decode cX0_start 5 = .ok (.aload_n 0, 1) := by decide +kernel
theorem dX0_start_6 : decode cX0_start 6 = .ok (.aload_n 1, 1) := by decide +kernel
theorem dX0_start_7 : decode cX0_start 7 = .ok (.getfield 19, 3) := by decide +kernel
theorem dX0_start_10 : decode cX0_start 10 = .ok (.iload_n 2, 1) := by decide +kernel
theorem dX0_start_11 : decode cX0_start 11 = .ok (.iaload, 1) := by decide +kernel
theorem dX0_start_12 : decode cX0_start 12 = .ok (.putfield 24, 3) := by decide +kernel
theorem dX0_start_15 : decode cX0_start 15 = .ok (.aload_n 0, 1) := by decide +kernel
theorem dX0_start_16 : decode cX0_start 16 = .ok (.aload_n 1, 1) := by decide +kernel
theorem dX0_start_17 : decode cX0_start 17 = .ok (.getfield 26, 3) := by decide +kernel
theorem dX0_start_20 : decode cX0_start 20 = .ok (.iload_n 2, 1) := by decide +kernel
theorem dX0_start_21 : decode cX0_start 21 = .ok (.iaload, 1) := by decide +kernel
theorem dX0_start_22 : decode cX0_start 22 = .ok (.putfield 29, 3) := by decide +kernel
theorem dX0_start_25 : decode cX0_start 25 = .ok (.aload_n 0, 1) := by decide +kernel
theorem dX0_start_26 : decode cX0_start 26 = .ok (.aload_n 0, 1) := by decide +kernel
theorem dX0_start_27 : decode cX0_start 27 = .ok (.getfield 24, 3) := by decide +kernel
theorem dX0_start_30 : decode cX0_start 30 = .ok (.iload_n 3, 1) := by decide +kernel
theorem dX0_start_31 : decode cX0_start 31 = .ok (.iload 4, 2) := by decide +kernel
theorem dX0_start_33 : decode cX0_start 33 = .ok (.iconst 0, 1) := by decide +kernel
theorem dX0_start_34 : decode cX0_start 34 = .ok (.invokevirtual 31, 3) := by decide +kernel
theorem dX0_start_37 : decode cX0_start 37 = .ok (.ireturn, 1) := by decide +kernel
theorem dX0_run_0 : decode cX0_run 0 = .ok (.iload_n 1, 1) := by decide +kernel
theorem dX0_run_1 : decode cX0_run 1 = .ok (.iload_n 2, 1) := by decide +kernel
theorem dX0_run_2 : decode cX0_run 2 = .ok (.invokestatic 35, 3) := by decide +kernel
theorem dX0_run_5 : decode cX0_run 5 = .ok (.istore 5, 2) := by decide +kernel
theorem dX0_run_7 : decode cX0_run 7 = .ok (.iload 5, 2) := by decide +kernel
theorem dX0_run_9 : decode cX0_run 9 = .ok (.ifCond .eq 10, 3) := by decide +kernel
theorem dX0_run_12 : decode cX0_run 12 = .ok (.iload 4, 2) := by decide +kernel
theorem dX0_run_14 : decode cX0_run 14 = .ok (.bipush 20, 2) := by decide +kernel
theorem dX0_run_16 : decode cX0_run 16 = .ok (.if_icmp .lt 5, 3) := by decide +kernel
theorem dX0_run_19 : decode cX0_run 19 = .ok (.iconst 0, 1) := by decide +kernel
theorem dX0_run_20 : decode cX0_run 20 = .ok (.ireturn, 1) := by decide +kernel
theorem dX0_run_21 : decode cX0_run 21 = .ok (.aload_n 0, 1) := by decide +kernel
theorem dX0_run_22 : decode cX0_run 22 = .ok (.iload 5, 2) := by decide +kernel
theorem dX0_run_24 : decode cX0_run 24 = .ok (.invokevirtual 39, 3) := by decide +kernel
theorem dX0_run_27 : decode cX0_run 27 = .ok (.getstatic 43, 3) := by decide +kernel
theorem dX0_run_30 : decode cX0_run 30 = .ok (.iload 5, 2) := by decide +kernel
theorem dX0_run_32 : decode cX0_run 32 = .ok (.bipush 10, 2) := by decide +kernel
theorem dX0_run_34 : decode cX0_run 34 = .ok (.idiv, 1) := by decide +kernel
theorem dX0_run_35 : decode cX0_run 35 = .ok (.iconst 1, 1) := by decide +kernel
theorem dX0_run_36 : decode cX0_run 36 = .ok (.isub, 1) := by decide +kernel
theorem dX0_run_37 : decode cX0_run 37 = .ok (.iaload, 1) := by decide +kernel
theorem dX0_run_38 : decode cX0_run 38 = .ok (.istore 6, 2) := by decide +kernel
theorem dX0_run_40 : decode cX0_run 40 = .ok (.iload 4, 2) := by decide +kernel
theorem dX0_run_42 : decode cX0_run 42 = .ok (.iconst 1, 1) := by decide +kernel
theorem dX0_run_43 : decode cX0_run 43 = .ok (.iadd, 1) := by decide +kernel
theorem dX0_run_44 : decode cX0_run 44 = .ok (.istore 7, 2) := by decide +kernel
theorem dX0_run_46 : decode cX0_run 46 = .ok (.iload 5, 2) := by decide +kernel
theorem dX0_run_48 : decode cX0_run 48 = .ok (.lookupswitch 270 #[(10, 100), (11, 107), (12, 125), (20, 140), (30, 154), (40, 167), (50, 191), (51, 203), (60, 216), (70, 232), (71, 254)], 100) := by decide +kernel
theorem dX0_run_148 : decode cX0_run 148 = .ok (.iload_n 3, 1) := by decide +kernel
theorem dX0_run_149 : decode cX0_run 149 = .ok (.aload_n 0, 1) := by decide +kernel
theorem dX0_run_150 : decode cX0_run 150 = .ok (.getfield 15, 3) := by decide +kernel
theorem dX0_run_153 : decode cX0_run 153 = .ok (.iadd, 1) := by decide +kernel
theorem dX0_run_154 : decode cX0_run 154 = .ok (.ireturn, 1) := by decide +kernel
theorem dX0_run_155 : decode cX0_run 155 = .ok (.aload_n 0, 1) := by decide +kernel
theorem dX0_run_156 : decode cX0_run 156 = .ok (.aload_n 0, 1) := by decide +kernel
theorem dX0_run_157 : decode cX0_run 157 = .ok (.getfield 24, 3) := by decide +kernel
theorem dX0_run_160 : decode cX0_run 160 = .ok (.iconst 0, 1) := by decide +kernel
theorem dX0_run_161 : decode cX0_run 161 = .ok (.iload_n 3, 1) := by decide +kernel
theorem dX0_run_162 : decode cX0_run 162 = .ok (.iload 7, 2) := by decide +kernel
theorem dX0_run_164 : decode cX0_run 164 = .ok (.invokevirtual 31, 3) := by decide +kernel
theorem dX0_run_167 : decode cX0_run 167 = .ok (.aload_n 0, 1) := by decide +kernel
theorem dX0_run_168 : decode cX0_run 168 = .ok (.getfield 29, 3) := by decide +kernel
theorem dX0_run_171 : decode cX0_run 171 = .ok (.isub, 1) := by decide +kernel
theorem dX0_run_172 : decode cX0_run 172 = .ok (.ireturn, 1) := by decide +kernel
theorem dX0_run_173 : decode cX0_run 173 = .ok (.aload_n 0, 1) := by decide +kernel
theorem dX0_run_174 : decode cX0_run 174 = .ok (.aload_n 0, 1) := by decide +kernel
theorem dX0_run_175 : decode cX0_run 175 = .ok (.getfield 24, 3) := by decide +kernel
theorem dX0_run_178 : decode cX0_run 178 = .ok (.iconst 1, 1) := by decide +kernel
theorem dX0_run_179 : decode cX0_run 179 = .ok (.iload_n 3, 1) := by decide +kernel
theorem dX0_run_180 : decode cX0_run 180 = .ok (.iload 7, 2) := by decide +kernel
theorem dX0_run_182 : decode cX0_run 182 = .ok (.invokevirtual 31, 3) := by decide +kernel
theorem dX0_run_185 : decode cX0_run 185 = .ok (.iconst 2, 1) := by decide +kernel
theorem dX0_run_186 : decode cX0_run 186 = .ok (.imul, 1) := by decide +kernel
theorem dX0_run_187 : decode cX0_run 187 = .ok (.ireturn, 1) := by decide +kernel
theorem dX0_run_188 : decode cX0_run 188 = .ok (.aload_n 0, 1) := by decide +kernel
theorem dX0_run_189 : decode cX0_run 189 = .ok (.iload 6, 2) := by decide +kernel
theorem dX0_run_191 : decode cX0_run 191 = .ok (.iconst 1, 1) := by decide +kernel
theorem dX0_run_192 : decode cX0_run 192 = .ok (.iload_n 3, 1) := by decide +kernel
theorem dX0_run_193 : decode cX0_run 193 = .ok (.iload 7, 2) := by decide +kernel
theorem dX0_run_195 : decode cX0_run 195 = .ok (.invokevirtual 31, 3) := by decide +kernel
theorem dX0_run_198 : decode cX0_run 198 = .ok (.bipush 6, 2) := by decide +kernel
theorem dX0_run_200 : decode cX0_run 200 = .ok (.ixor, 1) := by decide +kernel
theorem dX0_run_201 : decode cX0_run 201 = .ok (.ireturn, 1) := by decide +kernel
theorem dX0_run_202 : decode cX0_run 202 = .ok (.aload_n 0, 1) := by decide +kernel
theorem dX0_run_203 : decode cX0_run 203 = .ok (.iload 6, 2) := by decide +kernel
theorem dX0_run_205 : decode cX0_run 205 = .ok (.iconst 0, 1) := by decide +kernel
theorem dX0_run_206 : decode cX0_run 206 = .ok (.iload_n 3, 1) := by decide +kernel
theorem dX0_run_207 : decode cX0_run 207 = .ok (.iconst 3, 1) := by decide +kernel
theorem dX0_run_208 : decode cX0_run 208 = .ok (.imul, 1) := by decide +kernel
theorem dX0_run_209 : decode cX0_run 209 = .ok (.iload 7, 2) := by decide +kernel
theorem dX0_run_211 : decode cX0_run 211 = .ok (.invokevirtual 31, 3) := by decide +kernel
theorem dX0_run_214 : decode cX0_run 214 = .ok (.ireturn, 1) := by decide +kernel
theorem dX0_run_215 : decode cX0_run 215 = .ok (.aload_n 0, 1) := by decide +kernel
theorem dX0_run_216 : decode cX0_run 216 = .ok (.iload 6, 2) := by decide +kernel
theorem dX0_run_218 : decode cX0_run 218 = .ok (.iconst 2, 1) := by decide +kernel
theorem dX0_run_219 : decode cX0_run 219 = .ok (.iload_n 3, 1) := by decide +kernel
theorem dX0_run_220 : decode cX0_run 220 = .ok (.iload 7, 2) := by decide +kernel
theorem dX0_run_222 : decode cX0_run 222 = .ok (.invokevirtual 31, 3) := by decide +kernel
theorem dX0_run_225 : decode cX0_run 225 = .ok (.aload_n 0, 1) := by decide +kernel
theorem dX0_run_226 : decode cX0_run 226 = .ok (.aload_n 0, 1) := by decide +kernel
theorem dX0_run_227 : decode cX0_run 227 = .ok (.getfield 24, 3) := by decide +kernel
theorem dX0_run_230 : decode cX0_run 230 = .ok (.iconst 1, 1) := by decide +kernel
theorem dX0_run_231 : decode cX0_run 231 = .ok (.iconst 1, 1) := by decide +kernel
theorem dX0_run_232 : decode cX0_run 232 = .ok (.iload 7, 2) := by decide +kernel
theorem dX0_run_234 : decode cX0_run 234 = .ok (.invokevirtual 31, 3) := by decide +kernel
theorem dX0_run_237 : decode cX0_run 237 = .ok (.iadd, 1) := by decide +kernel
theorem dX0_run_238 : decode cX0_run 238 = .ok (.ireturn, 1) := by decide +kernel
theorem dX0_run_239 : decode cX0_run 239 = .ok (.aload_n 0, 1) := by decide +kernel
theorem dX0_run_240 : decode cX0_run 240 = .ok (.iload 6, 2) := by decide +kernel
theorem dX0_run_242 : decode cX0_run 242 = .ok (.iconst 0, 1) := by decide +kernel
theorem dX0_run_243 : decode cX0_run 243 = .ok (.iload_n 3, 1) := by decide +kernel
theorem dX0_run_244 : decode cX0_run 244 = .ok (.iload 7, 2) := by decide +kernel
theorem dX0_run_246 : decode cX0_run 246 = .ok (.invokevirtual 31, 3) := by decide +kernel
theorem dX0_run_249 : decode cX0_run 249 = .ok (.ineg, 1) := by decide +kernel
theorem dX0_run_250 : decode cX0_run 250 = .ok (.ireturn, 1) := by decide +kernel
theorem dX0_run_251 : decode cX0_run 251 = .ok (.aload_n 0, 1) := by decide +kernel
theorem dX0_run_252 : decode cX0_run 252 = .ok (.iload 6, 2) := by decide +kernel
theorem dX0_run_254 : decode cX0_run 254 = .ok (.iconst 1, 1) := by decide +kernel
theorem dX0_run_255 : decode cX0_run 255 = .ok (.iload_n 3, 1) := by decide +kernel
theorem dX0_run_256 : decode cX0_run 256 = .ok (.iconst 1, 1) := by decide +kernel
theorem dX0_run_257 : decode cX0_run 257 = .ok (.iadd, 1) := by decide +kernel
theorem dX0_run_258 : decode cX0_run 258 = .ok (.iload 7, 2) := by decide +kernel
theorem dX0_run_260 : decode cX0_run 260 = .ok (.invokevirtual 31, 3) := by decide +kernel
theorem dX0_run_263 : decode cX0_run 263 = .ok (.ireturn, 1) := by decide +kernel
theorem dX0_run_264 : decode cX0_run 264 = .ok (.aload_n 0, 1) := by decide +kernel
theorem dX0_run_265 : decode cX0_run 265 = .ok (.iload 6, 2) := by decide +kernel
theorem dX0_run_267 : decode cX0_run 267 = .ok (.iconst 2, 1) := by decide +kernel
theorem dX0_run_268 : decode cX0_run 268 = .ok (.iload_n 3, 1) := by decide +kernel
theorem dX0_run_269 : decode cX0_run 269 = .ok (.aload_n 0, 1) := by decide +kernel
theorem dX0_run_270 : decode cX0_run 270 = .ok (.getfield 15, 3) := by decide +kernel
theorem dX0_run_273 : decode cX0_run 273 = .ok (.isub, 1) := by decide +kernel
theorem dX0_run_274 : decode cX0_run 274 = .ok (.iload 7, 2) := by decide +kernel
theorem dX0_run_276 : decode cX0_run 276 = .ok (.invokevirtual 31, 3) := by decide +kernel
theorem dX0_run_279 : decode cX0_run 279 = .ok (.ireturn, 1) := by decide +kernel
theorem dX0_run_280 : decode cX0_run 280 = .ok (.aload_n 0, 1) := by decide +kernel
theorem dX0_run_281 : decode cX0_run 281 = .ok (.iload 6, 2) := by decide +kernel
theorem dX0_run_283 : decode cX0_run 283 = .ok (.iconst 1, 1) := by decide +kernel
theorem dX0_run_284 : decode cX0_run 284 = .ok (.iload_n 3, 1) := by decide +kernel
theorem dX0_run_285 : decode cX0_run 285 = .ok (.iload 7, 2) := by decide +kernel
theorem dX0_run_287 : decode cX0_run 287 = .ok (.invokevirtual 31, 3) := by decide +kernel
theorem dX0_run_290 : decode cX0_run 290 = .ok (.aload_n 0, 1) := by decide +kernel
theorem dX0_run_291 : decode cX0_run 291 = .ok (.iload 6, 2) := by decide +kernel
theorem dX0_run_293 : decode cX0_run 293 = .ok (.iconst 0, 1) := by decide +kernel
theorem dX0_run_294 : decode cX0_run 294 = .ok (.iconst 2, 1) := by decide +kernel
theorem dX0_run_295 : decode cX0_run 295 = .ok (.iload 7, 2) := by decide +kernel
theorem dX0_run_297 : decode cX0_run 297 = .ok (.invokevirtual 31, 3) := by decide +kernel
theorem dX0_run_300 : decode cX0_run 300 = .ok (.iadd, 1) := by decide +kernel
theorem dX0_run_301 : decode cX0_run 301 = .ok (.ireturn, 1) := by decide +kernel
theorem dX0_run_302 : decode cX0_run 302 = .ok (.aload_n 0, 1) := by decide +kernel
theorem dX0_run_303 : decode cX0_run 303 = .ok (.iload 6, 2) := by decide +kernel
theorem dX0_run_305 : decode cX0_run 305 = .ok (.iconst 0, 1) := by decide +kernel
theorem dX0_run_306 : decode cX0_run 306 = .ok (.iload_n 3, 1) := by decide +kernel
theorem dX0_run_307 : decode cX0_run 307 = .ok (.iload 7, 2) := by decide +kernel
theorem dX0_run_309 : decode cX0_run 309 = .ok (.invokevirtual 31, 3) := by decide +kernel
theorem dX0_run_312 : decode cX0_run 312 = .ok (.aload_n 0, 1) := by decide +kernel
theorem dX0_run_313 : decode cX0_run 313 = .ok (.getfield 29, 3) := by decide +kernel
theorem dX0_run_316 : decode cX0_run 316 = .ok (.ixor, 1) := by decide +kernel
theorem dX0_run_317 : decode cX0_run 317 = .ok (.ireturn, 1) := by decide +kernel
theorem dX0_run_318 : decode cX0_run 318 = .ok (.iconst 0, 1) := by decide +kernel
theorem dX0_run_319 : decode cX0_run 319 = .ok (.ireturn, 1) := by decide +kernel
theorem dX0_bodyOf_0 : decode cX0_bodyOf 0 = .ok (.iload_n 0, 1) := by decide +kernel
theorem dX0_bodyOf_1 : decode cX0_bodyOf 1 = .ok (.istore_n 2, 1) := by decide +kernel
theorem dX0_bodyOf_2 : decode cX0_bodyOf 2 = .ok (.iconst 0, 1) := by decide +kernel
theorem dX0_bodyOf_3 : decode cX0_bodyOf 3 = .ok (.istore_n 3, 1) := by decide +kernel
theorem dX0_bodyOf_4 : decode cX0_bodyOf 4 = .ok (.iload_n 3, 1) := by decide +kernel
theorem dX0_bodyOf_5 : decode cX0_bodyOf 5 = .ok (.getstatic 43, 3) := by decide +kernel
theorem dX0_bodyOf_8 : decode cX0_bodyOf 8 = .ok (.arraylength, 1) := by decide +kernel
theorem dX0_bodyOf_9 : decode cX0_bodyOf 9 = .ok (.if_icmp .ge 44, 3) := by decide +kernel
theorem dX0_bodyOf_12 : decode cX0_bodyOf 12 = .ok (.iload_n 2, 1) := by decide +kernel
theorem dX0_bodyOf_13 : decode cX0_bodyOf 13 = .ok (.iconst 0, 1) := by decide +kernel
theorem dX0_bodyOf_14 : decode cX0_bodyOf 14 = .ok (.bipush 6, 2) := by decide +kernel
theorem dX0_bodyOf_16 : decode cX0_bodyOf 16 = .ok (.invokestatic 46, 3) := by decide +kernel
theorem dX0_bodyOf_19 : decode cX0_bodyOf 19 = .ok (.ifCond .eq 34, 3) := by decide +kernel
theorem dX0_bodyOf_22 : decode cX0_bodyOf 22 = .ok (.getstatic 50, 3) := by decide +kernel
theorem dX0_bodyOf_25 : decode cX0_bodyOf 25 = .ok (.iload_n 2, 1) := by decide +kernel
theorem dX0_bodyOf_26 : decode cX0_bodyOf 26 = .ok (.iconst 3, 1) := by decide +kernel
theorem dX0_bodyOf_27 : decode cX0_bodyOf 27 = .ok (.imul, 1) := by decide +kernel
theorem dX0_bodyOf_28 : decode cX0_bodyOf 28 = .ok (.iload_n 1, 1) := by decide +kernel
theorem dX0_bodyOf_29 : decode cX0_bodyOf 29 = .ok (.iadd, 1) := by decide +kernel
theorem dX0_bodyOf_30 : decode cX0_bodyOf 30 = .ok (.iaload, 1) := by decide +kernel
theorem dX0_bodyOf_31 : decode cX0_bodyOf 31 = .ok (.istore 4, 2) := by decide +kernel
theorem dX0_bodyOf_33 : decode cX0_bodyOf 33 = .ok (.iload 4, 2) := by decide +kernel
theorem dX0_bodyOf_35 : decode cX0_bodyOf 35 = .ok (.ifCond .eq 6, 3) := by decide +kernel
theorem dX0_bodyOf_38 : decode cX0_bodyOf 38 = .ok (.iload 4, 2) := by decide +kernel
theorem dX0_bodyOf_40 : decode cX0_bodyOf 40 = .ok (.ireturn, 1) := by decide +kernel
theorem dX0_bodyOf_41 : decode cX0_bodyOf 41 = .ok (.getstatic 43, 3) := by decide +kernel
theorem dX0_bodyOf_44 : decode cX0_bodyOf 44 = .ok (.iload_n 2, 1) := by decide +kernel
theorem dX0_bodyOf_45 : decode cX0_bodyOf 45 = .ok (.iaload, 1) := by decide +kernel
theorem dX0_bodyOf_46 : decode cX0_bodyOf 46 = .ok (.istore_n 2, 1) := by decide +kernel
theorem dX0_bodyOf_47 : decode cX0_bodyOf 47 = .ok (.iinc 3 1, 3) := by decide +kernel
theorem dX0_bodyOf_50 : decode cX0_bodyOf 50 = .ok (.goto (-46), 3) := by decide +kernel
theorem dX0_bodyOf_53 : decode cX0_bodyOf 53 = .ok (.iconst 0, 1) := by decide +kernel
theorem dX0_bodyOf_54 : decode cX0_bodyOf 54 = .ok (.ireturn, 1) := by decide +kernel
theorem dX0_note_0 : decode cX0_note 0 = .ok (.aload_n 0, 1) := by decide +kernel
theorem dX0_note_1 : decode cX0_note 1 = .ok (.getfield 53, 3) := by decide +kernel
theorem dX0_note_4 : decode cX0_note 4 = .ok (.aload_n 0, 1) := by decide +kernel
theorem dX0_note_5 : decode cX0_note 5 = .ok (.getfield 9, 3) := by decide +kernel
theorem dX0_note_8 : decode cX0_note 8 = .ok (.arraylength, 1) := by decide +kernel
theorem dX0_note_9 : decode cX0_note 9 = .ok (.if_icmp .ge 13, 3) := by decide +kernel
theorem dX0_note_12 : decode cX0_note 12 = .ok (.aload_n 0, 1) := by decide +kernel
theorem dX0_note_13 : decode cX0_note 13 = .ok (.getfield 9, 3) := by decide +kernel
theorem dX0_note_16 : decode cX0_note 16 = .ok (.aload_n 0, 1) := by decide +kernel
theorem dX0_note_17 : decode cX0_note 17 = .ok (.getfield 53, 3) := by decide +kernel
theorem dX0_note_20 : decode cX0_note 20 = .ok (.iload_n 1, 1) := by decide +kernel
theorem dX0_note_21 : decode cX0_note 21 = .ok (.iastore, 1) := by decide +kernel
theorem dX0_note_22 : decode cX0_note 22 = .ok (.aload_n 0, 1) := by decide +kernel
theorem dX0_note_23 : decode cX0_note 23 = .ok (.dup, 1) := by decide +kernel
theorem dX0_note_24 : decode cX0_note 24 = .ok (.getfield 53, 3) := by decide +kernel
theorem dX0_note_27 : decode cX0_note 27 = .ok (.iconst 1, 1) := by decide +kernel
theorem dX0_note_28 : decode cX0_note 28 = .ok (.iadd, 1) := by decide +kernel
theorem dX0_note_29 : decode cX0_note 29 = .ok (.putfield 53, 3) := by decide +kernel
theorem dX0_note_32 : decode cX0_note 32 = .ok (.return_, 1) := by decide +kernel
theorem dX1_init_0 : decode cX1_init 0 = .ok (.aload_n 0, 1) := by decide +kernel
theorem dX1_init_1 : decode cX1_init 1 = .ok (.invokespecial 3, 3) := by decide +kernel
theorem dX1_init_4 : decode cX1_init 4 = .ok (.aload_n 0, 1) := by decide +kernel
theorem dX1_init_5 : decode cX1_init 5 = .ok (.iconst 4, 1) := by decide +kernel
theorem dX1_init_6 : decode cX1_init 6 = .ok (.newarray .int, 2) := by decide +kernel
theorem dX1_init_8 : decode cX1_init 8 = .ok (.putfield 9, 3) := by decide +kernel
theorem dX1_init_11 : decode cX1_init 11 = .ok (.aload_n 0, 1) := by decide +kernel
theorem dX1_init_12 : decode cX1_init 12 = .ok (.new 15, 3) := by decide +kernel
theorem dX1_init_15 : decode cX1_init 15 = .ok (.dup, 1) := by decide +kernel
theorem dX1_init_16 : decode cX1_init 16 = .ok (.invokespecial 17, 3) := by decide +kernel
theorem dX1_init_19 : decode cX1_init 19 = .ok (.putfield 18, 3) := by decide +kernel
theorem dX1_init_22 : decode cX1_init 22 = .ok (.aload_n 0, 1) := by decide +kernel
theorem dX1_init_23 : decode cX1_init 23 = .ok (.iconst 4, 1) := by decide +kernel
theorem dX1_init_24 : decode cX1_init 24 = .ok (.newarray .int, 2) := by decide +kernel
theorem dX1_init_26 : decode cX1_init 26 = .ok (.putfield 22, 3) := by decide +kernel
theorem dX1_init_29 : decode cX1_init 29 = .ok (.aload_n 0, 1) := by decide +kernel
theorem dX1_init_30 : decode cX1_init 30 = .ok (.aload_n 1, 1) := by decide +kernel
theorem dX1_init_31 : decode cX1_init 31 = .ok (.putfield 25, 3) := by decide +kernel
theorem dX1_init_34 : decode cX1_init 34 = .ok (.aload_n 0, 1) := by decide +kernel
theorem dX1_init_35 : decode cX1_init 35 = .ok (.aload_n 2, 1) := by decide +kernel
theorem dX1_init_36 : decode cX1_init 36 = .ok (.putfield 28, 3) := by decide +kernel
theorem dX1_init_39 : decode cX1_init 39 = .ok (.return_, 1) := by decide +kernel
theorem dX1_behind_0 : decode cX1_behind 0 = .ok (.aload_n 0, 1) := by decide +kernel
theorem dX1_behind_1 : decode cX1_behind 1 = .ok (.getfield 18, 3) := by decide +kernel
theorem dX1_behind_4 : decode cX1_behind 4 = .ok (.aload_n 0, 1) := by decide +kernel
theorem dX1_behind_5 : decode cX1_behind 5 = .ok (.getfield 25, 3) := by decide +kernel
theorem dX1_behind_8 : decode cX1_behind 8 = .ok (.invokevirtual 32, 3) := by decide +kernel
theorem dX1_behind_11 : decode cX1_behind 11 = .ok (.aload_n 0, 1) := by decide +kernel
theorem dX1_behind_12 : decode cX1_behind 12 = .ok (.getfield 18, 3) := by decide +kernel
theorem dX1_behind_15 : decode cX1_behind 15 = .ok (.iload_n 1, 1) := by decide +kernel
theorem dX1_behind_16 : decode cX1_behind 16 = .ok (.invokevirtual 36, 3) := by decide +kernel
theorem dX1_behind_19 : decode cX1_behind 19 = .ok (.aload_n 0, 1) := by decide +kernel
theorem dX1_behind_20 : decode cX1_behind 20 = .ok (.getfield 18, 3) := by decide +kernel
theorem dX1_behind_23 : decode cX1_behind 23 = .ok (.areturn, 1) := by decide +kernel
theorem dX1_minutesUntilDone_0 : decode cX1_minutesUntilDone 0 = .ok (.aload_n 0, 1) := by decide +kernel
theorem dX1_minutesUntilDone_1 : decode cX1_minutesUntilDone 1 = .ok (.getfield 18, 3) := by decide +kernel
theorem dX1_minutesUntilDone_4 : decode cX1_minutesUntilDone 4 = .ok (.aload_n 0, 1) := by decide +kernel
theorem dX1_minutesUntilDone_5 : decode cX1_minutesUntilDone 5 = .ok (.getfield 25, 3) := by decide +kernel
theorem dX1_minutesUntilDone_8 : decode cX1_minutesUntilDone 8 = .ok (.invokevirtual 32, 3) := by decide +kernel
theorem dX1_minutesUntilDone_11 : decode cX1_minutesUntilDone 11 = .ok (.aload_n 0, 1) := by decide +kernel
theorem dX1_minutesUntilDone_12 : decode cX1_minutesUntilDone 12 = .ok (.getfield 18, 3) := by decide +kernel
theorem dX1_minutesUntilDone_15 : decode cX1_minutesUntilDone 15 = .ok (.iload_n 1, 1) := by decide +kernel
theorem dX1_minutesUntilDone_16 : decode cX1_minutesUntilDone 16 = .ok (.putfield 40, 3) := by decide +kernel
theorem dX1_minutesUntilDone_19 : decode cX1_minutesUntilDone 19 = .ok (.iconst 0, 1) := by decide +kernel
theorem dX1_minutesUntilDone_20 : decode cX1_minutesUntilDone 20 = .ok (.istore_n 2, 1) := by decide +kernel
theorem dX1_minutesUntilDone_21 : decode cX1_minutesUntilDone 21 = .ok (.iload_n 2, 1) := by decide +kernel
theorem dX1_minutesUntilDone_22 : decode cX1_minutesUntilDone 22 = .ok (.bipush 60, 2) := by decide +kernel
theorem dX1_minutesUntilDone_24 : decode cX1_minutesUntilDone 24 = .ok (.if_icmp .gt 29, 3) := by decide +kernel
theorem dX1_minutesUntilDone_27 : decode cX1_minutesUntilDone 27 = .ok (.aload_n 0, 1) := by decide +kernel
theorem dX1_minutesUntilDone_28 : decode cX1_minutesUntilDone 28 = .ok (.getfield 18, 3) := by decide +kernel
theorem dX1_minutesUntilDone_31 : decode cX1_minutesUntilDone 31 = .ok (.iload_n 1, 1) := by decide +kernel
theorem dX1_minutesUntilDone_32 : decode cX1_minutesUntilDone 32 = .ok (.invokevirtual 44, 3) := by decide +kernel
theorem dX1_minutesUntilDone_35 : decode cX1_minutesUntilDone 35 = .ok (.ifCond .eq 5, 3) := by decide +kernel
theorem dX1_minutesUntilDone_38 : decode cX1_minutesUntilDone 38 = .ok (.iload_n 2, 1) := by decide +kernel
theorem dX1_minutesUntilDone_39 : decode cX1_minutesUntilDone 39 = .ok (.ireturn, 1) := by decide +kernel
theorem dX1_minutesUntilDone_40 : decode cX1_minutesUntilDone 40 = .ok (.aload_n 0, 1) := by decide +kernel
theorem dX1_minutesUntilDone_41 : decode cX1_minutesUntilDone 41 = .ok (.getfield 18, 3) := by decide +kernel
theorem dX1_minutesUntilDone_44 : decode cX1_minutesUntilDone 44 = .ok (.invokevirtual 48, 3) := by decide +kernel
theorem dX1_minutesUntilDone_47 : decode cX1_minutesUntilDone 47 = .ok (.iinc 2 1, 3) := by decide +kernel
theorem dX1_minutesUntilDone_50 : decode cX1_minutesUntilDone 50 = .ok (.goto (-29), 3) := by decide +kernel
theorem dX1_minutesUntilDone_53 : decode cX1_minutesUntilDone 53 = .ok (.bipush (-5), 2) := by decide +kernel
theorem dX1_minutesUntilDone_55 : decode cX1_minutesUntilDone 55 = .ok (.ireturn, 1) := by decide +kernel
theorem dX1_findBestRow_0 : decode cX1_findBestRow 0 = .ok (.aload_n 0, 1) := by decide +kernel
theorem dX1_findBestRow_1 : decode cX1_findBestRow 1 = .ok (.getfield 25, 3) := by decide +kernel
theorem dX1_findBestRow_4 : decode cX1_findBestRow 4 = .ok (.getfield 51, 3) := by decide +kernel
theorem dX1_findBestRow_7 : decode cX1_findBestRow 7 = .ok (.iconst 4, 1) := by decide +kernel
theorem dX1_findBestRow_8 : decode cX1_findBestRow 8 = .ok (.invokestatic 54, 3) := by decide +kernel
theorem dX1_findBestRow_11 : decode cX1_findBestRow 11 = .ok (.istore_n 2, 1) := by decide +kernel
theorem dX1_findBestRow_12 : decode cX1_findBestRow 12 = .ok (.iconst (-1), 1) := by decide +kernel
theorem dX1_findBestRow_13 : decode cX1_findBestRow 13 = .ok (.istore_n 3, 1) := by decide +kernel
theorem dX1_findBestRow_14 : decode cX1_findBestRow 14 = .ok (.iconst 0, 1) := by decide +kernel
theorem dX1_findBestRow_15 : decode cX1_findBestRow 15 = .ok (.istore 4, 2) := by decide +kernel
theorem dX1_findBestRow_17 : decode cX1_findBestRow 17 = .ok (.iconst 0, 1) := by decide +kernel
theorem dX1_findBestRow_18 : decode cX1_findBestRow 18 = .ok (.istore 5, 2) := by decide +kernel
theorem dX1_findBestRow_20 : decode cX1_findBestRow 20 = .ok (.iload 5, 2) := by decide +kernel
theorem dX1_findBestRow_22 : decode cX1_findBestRow 22 = .ok (.getstatic 60, 3) := by decide +kernel
theorem dX1_findBestRow_25 : decode cX1_findBestRow 25 = .ok (.iload_n 2, 1) := by decide +kernel
theorem dX1_findBestRow_26 : decode cX1_findBestRow 26 = .ok (.iaload, 1) := by decide +kernel
theorem dX1_findBestRow_27 : decode cX1_findBestRow 27 = .ok (.if_icmp .ge 77, 3) := by decide +kernel
theorem dX1_findBestRow_30 : decode cX1_findBestRow 30 = .ok (.iload 4, 2) := by decide +kernel
theorem dX1_findBestRow_32 : decode cX1_findBestRow 32 = .ok (.getstatic 60, 3) := by decide +kernel
theorem dX1_findBestRow_35 : decode cX1_findBestRow 35 = .ok (.iload_n 2, 1) := by decide +kernel
theorem dX1_findBestRow_36 : decode cX1_findBestRow 36 = .ok (.iaload, 1) := by decide +kernel
theorem dX1_findBestRow_37 : decode cX1_findBestRow 37 = .ok (.if_icmp .ge 67, 3) := by decide +kernel
theorem dX1_findBestRow_40 : decode cX1_findBestRow 40 = .ok (.iload_n 3, 1) := by decide +kernel
theorem dX1_findBestRow_41 : decode cX1_findBestRow 41 = .ok (.iload_n 2, 1) := by decide +kernel
theorem dX1_findBestRow_42 : decode cX1_findBestRow 42 = .ok (.if_icmp .ge 62, 3) := by decide +kernel
theorem dX1_findBestRow_45 : decode cX1_findBestRow 45 = .ok (.aload_n 0, 1) := by decide +kernel
theorem dX1_findBestRow_46 : decode cX1_findBestRow 46 = .ok (.iload_n 2, 1) := by decide +kernel
theorem dX1_findBestRow_47 : decode cX1_findBestRow 47 = .ok (.iload 4, 2) := by decide +kernel
theorem dX1_findBestRow_49 : decode cX1_findBestRow 49 = .ok (.invokevirtual 63, 3) := by decide +kernel
theorem dX1_findBestRow_52 : decode cX1_findBestRow 52 = .ok (.aload_n 0, 1) := by decide +kernel
theorem dX1_findBestRow_53 : decode cX1_findBestRow 53 = .ok (.iload_n 2, 1) := by decide +kernel
theorem dX1_findBestRow_54 : decode cX1_findBestRow 54 = .ok (.iload_n 1, 1) := by decide +kernel
theorem dX1_findBestRow_55 : decode cX1_findBestRow 55 = .ok (.invokevirtual 67, 3) := by decide +kernel
theorem dX1_findBestRow_58 : decode cX1_findBestRow 58 = .ok (.istore 6, 2) := by decide +kernel
theorem dX1_findBestRow_60 : decode cX1_findBestRow 60 = .ok (.iload 6, 2) := by decide +kernel
theorem dX1_findBestRow_62 : decode cX1_findBestRow 62 = .ok (.iload_n 3, 1) := by decide +kernel
theorem dX1_findBestRow_63 : decode cX1_findBestRow 63 = .ok (.if_icmp .le 20, 3) := by decide +kernel
theorem dX1_findBestRow_66 : decode cX1_findBestRow 66 = .ok (.iload 6, 2) := by decide +kernel
theorem dX1_findBestRow_68 : decode cX1_findBestRow 68 = .ok (.istore_n 3, 1) := by decide +kernel
theorem dX1_findBestRow_69 : decode cX1_findBestRow 69 = .ok (.aload_n 0, 1) := by decide +kernel
theorem dX1_findBestRow_70 : decode cX1_findBestRow 70 = .ok (.getfield 22, 3) := by decide +kernel
theorem dX1_findBestRow_73 : decode cX1_findBestRow 73 = .ok (.iconst 0, 1) := by decide +kernel
theorem dX1_findBestRow_74 : decode cX1_findBestRow 74 = .ok (.aload_n 0, 1) := by decide +kernel
theorem dX1_findBestRow_75 : decode cX1_findBestRow 75 = .ok (.getfield 9, 3) := by decide +kernel
theorem dX1_findBestRow_78 : decode cX1_findBestRow 78 = .ok (.iconst 0, 1) := by decide +kernel
theorem dX1_findBestRow_79 : decode cX1_findBestRow 79 = .ok (.iconst 4, 1) := by decide +kernel
theorem dX1_findBestRow_80 : decode cX1_findBestRow 80 = .ok (.invokestatic 70, 3) := by decide +kernel
theorem dX1_findBestRow_83 : decode cX1_findBestRow 83 = .ok (.iload 4, 2) := by decide +kernel
theorem dX1_findBestRow_85 : decode cX1_findBestRow 85 = .ok (.getstatic 60, 3) := by decide +kernel
theorem dX1_findBestRow_88 : decode cX1_findBestRow 88 = .ok (.iload_n 2, 1) := by decide +kernel
theorem dX1_findBestRow_89 : decode cX1_findBestRow 89 = .ok (.aload_n 0, 1) := by decide +kernel
theorem dX1_findBestRow_90 : decode cX1_findBestRow 90 = .ok (.getfield 76, 3) := by decide +kernel
theorem dX1_findBestRow_93 : decode cX1_findBestRow 93 = .ok (.isub, 1) := by decide +kernel
theorem dX1_findBestRow_94 : decode cX1_findBestRow 94 = .ok (.iaload, 1) := by decide +kernel
theorem dX1_findBestRow_95 : decode cX1_findBestRow 95 = .ok (.iadd, 1) := by decide +kernel
theorem dX1_findBestRow_96 : decode cX1_findBestRow 96 = .ok (.istore 4, 2) := by decide +kernel
theorem dX1_findBestRow_98 : decode cX1_findBestRow 98 = .ok (.iinc 5 1, 3) := by decide +kernel
theorem dX1_findBestRow_101 : decode cX1_findBestRow 101 = .ok (.goto (-81), 3) := by decide +kernel
theorem dX1_findBestRow_104 : decode cX1_findBestRow 104 = .ok (.iload_n 3, 1) := by decide +kernel
theorem dX1_findBestRow_105 : decode cX1_findBestRow 105 = .ok (.ireturn, 1) := by decide +kernel
theorem dX1_setRow_0 : decode cX1_setRow 0 = .ok (.iload_n 2, 1) := by decide +kernel
theorem dX1_setRow_1 : decode cX1_setRow 1 = .ok (.istore_n 3, 1) := by decide +kernel
theorem dX1_setRow_2 : decode cX1_setRow 2 = .ok (.iconst 0, 1) := by decide +kernel
theorem dX1_setRow_3 : decode cX1_setRow 3 = .ok (.istore 4, 2) := by decide +kernel
theorem dX1_setRow_5 : decode cX1_setRow 5 = .ok (.iconst 0, 1) := by decide +kernel
theorem dX1_setRow_6 : decode cX1_setRow 6 = .ok (.istore 5, 2) := by decide +kernel
theorem dX1_setRow_8 : decode cX1_setRow 8 = .ok (.iload 5, 2) := by decide +kernel
theorem dX1_setRow_10 : decode cX1_setRow 10 = .ok (.iload_n 1, 1) := by decide +kernel
theorem dX1_setRow_11 : decode cX1_setRow 11 = .ok (.if_icmp .ge 99, 3) := by decide +kernel
theorem dX1_setRow_14 : decode cX1_setRow 14 = .ok (.getstatic 60, 3) := by decide +kernel
theorem dX1_setRow_17 : decode cX1_setRow 17 = .ok (.iload_n 1, 1) := by decide +kernel
theorem dX1_setRow_18 : decode cX1_setRow 18 = .ok (.iconst 1, 1) := by decide +kernel
theorem dX1_setRow_19 : decode cX1_setRow 19 = .ok (.isub, 1) := by decide +kernel
theorem dX1_setRow_20 : decode cX1_setRow 20 = .ok (.iload 5, 2) := by decide +kernel
theorem dX1_setRow_22 : decode cX1_setRow 22 = .ok (.isub, 1) := by decide +kernel
theorem dX1_setRow_23 : decode cX1_setRow 23 = .ok (.iaload, 1) := by decide +kernel
theorem dX1_setRow_24 : decode cX1_setRow 24 = .ok (.istore 6, 2) := by decide +kernel
theorem dX1_setRow_26 : decode cX1_setRow 26 = .ok (.iconst 0, 1) := by decide +kernel
theorem dX1_setRow_27 : decode cX1_setRow 27 = .ok (.istore 7, 2) := by decide +kernel
theorem dX1_setRow_29 : decode cX1_setRow 29 = .ok (.iload 7, 2) := by decide +kernel
theorem dX1_setRow_31 : decode cX1_setRow 31 = .ok (.iload_n 1, 1) := by decide +kernel
theorem dX1_setRow_32 : decode cX1_setRow 32 = .ok (.if_icmp .ge 72, 3) := by decide +kernel
theorem dX1_setRow_35 : decode cX1_setRow 35 = .ok (.iload 4, 2) := by decide +kernel
theorem dX1_setRow_37 : decode cX1_setRow 37 = .ok (.iload 7, 2) := by decide +kernel
theorem dX1_setRow_39 : decode cX1_setRow 39 = .ok (.ishr, 1) := by decide +kernel
theorem dX1_setRow_40 : decode cX1_setRow 40 = .ok (.iconst 1, 1) := by decide +kernel
theorem dX1_setRow_41 : decode cX1_setRow 41 = .ok (.iand, 1) := by decide +kernel
theorem dX1_setRow_42 : decode cX1_setRow 42 = .ok (.ifCond .ne 7, 3) := by decide +kernel
theorem dX1_setRow_45 : decode cX1_setRow 45 = .ok (.iconst 1, 1) := by decide +kernel
theorem dX1_setRow_46 : decode cX1_setRow 46 = .ok (.goto 4, 3) := by decide +kernel
theorem dX1_setRow_49 : decode cX1_setRow 49 = .ok (.iconst 0, 1) := by decide +kernel
theorem dX1_setRow_50 : decode cX1_setRow 50 = .ok (.istore 8, 2) := by decide +kernel
theorem dX1_setRow_52 : decode cX1_setRow 52 = .ok (.iload 8, 2) := by decide +kernel
theorem dX1_setRow_54 : decode cX1_setRow 54 = .ok (.ifCond .eq 30, 3) := by decide +kernel
theorem dX1_setRow_57 : decode cX1_setRow 57 = .ok (.iload_n 3, 1) := by decide +kernel
theorem dX1_setRow_58 : decode cX1_setRow 58 = .ok (.iload 6, 2) := by decide +kernel
theorem dX1_setRow_60 : decode cX1_setRow 60 = .ok (.if_icmp .ge 24, 3) := by decide +kernel
theorem dX1_setRow_63 : decode cX1_setRow 63 = .ok (.aload_n 0, 1) := by decide +kernel
theorem dX1_setRow_64 : decode cX1_setRow 64 = .ok (.getfield 22, 3) := by decide +kernel
theorem dX1_setRow_67 : decode cX1_setRow 67 = .ok (.iload 5, 2) := by decide +kernel
theorem dX1_setRow_69 : decode cX1_setRow 69 = .ok (.iload 7, 2) := by decide +kernel
theorem dX1_setRow_71 : decode cX1_setRow 71 = .ok (.iastore, 1) := by decide +kernel
theorem dX1_setRow_72 : decode cX1_setRow 72 = .ok (.iload 4, 2) := by decide +kernel
theorem dX1_setRow_74 : decode cX1_setRow 74 = .ok (.iconst 1, 1) := by decide +kernel
theorem dX1_setRow_75 : decode cX1_setRow 75 = .ok (.iload 7, 2) := by decide +kernel
theorem dX1_setRow_77 : decode cX1_setRow 77 = .ok (.ishl, 1) := by decide +kernel
theorem dX1_setRow_78 : decode cX1_setRow 78 = .ok (.ior, 1) := by decide +kernel
theorem dX1_setRow_79 : decode cX1_setRow 79 = .ok (.istore 4, 2) := by decide +kernel
theorem dX1_setRow_81 : decode cX1_setRow 81 = .ok (.goto 23, 3) := by decide +kernel
theorem dX1_setRow_84 : decode cX1_setRow 84 = .ok (.iload_n 3, 1) := by decide +kernel
theorem dX1_setRow_85 : decode cX1_setRow 85 = .ok (.iload 8, 2) := by decide +kernel
theorem dX1_setRow_87 : decode cX1_setRow 87 = .ok (.ifCond .eq 8, 3) := by decide +kernel
theorem dX1_setRow_90 : decode cX1_setRow 90 = .ok (.iload 6, 2) := by decide +kernel
theorem dX1_setRow_92 : decode cX1_setRow 92 = .ok (.goto 4, 3) := by decide +kernel
theorem dX1_setRow_95 : decode cX1_setRow 95 = .ok (.iconst 0, 1) := by decide +kernel
theorem dX1_setRow_96 : decode cX1_setRow 96 = .ok (.isub, 1) := by decide +kernel
theorem dX1_setRow_97 : decode cX1_setRow 97 = .ok (.istore_n 3, 1) := by decide +kernel
theorem dX1_setRow_98 : decode cX1_setRow 98 = .ok (.iinc 7 1, 3) := by decide +kernel
theorem dX1_setRow_101 : decode cX1_setRow 101 = .ok (.goto (-72), 3) := by decide +kernel
theorem dX1_setRow_104 : decode cX1_setRow 104 = .ok (.iinc 5 1, 3) := by decide +kernel
theorem dX1_setRow_107 : decode cX1_setRow 107 = .ok (.goto (-99), 3) := by decide +kernel
theorem dX1_setRow_110 : decode cX1_setRow 110 = .ok (.return_, 1) := by decide +kernel
theorem dX1_countDoneInTime_0 : decode cX1_countDoneInTime 0 = .ok (.aload_n 0, 1) := by decide +kernel
theorem dX1_countDoneInTime_1 : decode cX1_countDoneInTime 1 = .ok (.getfield 18, 3) := by decide +kernel
theorem dX1_countDoneInTime_4 : decode cX1_countDoneInTime 4 = .ok (.aload_n 0, 1) := by decide +kernel
theorem dX1_countDoneInTime_5 : decode cX1_countDoneInTime 5 = .ok (.getfield 25, 3) := by decide +kernel
theorem dX1_countDoneInTime_8 : decode cX1_countDoneInTime 8 = .ok (.invokevirtual 32, 3) := by decide +kernel
theorem dX1_countDoneInTime_11 : decode cX1_countDoneInTime 11 = .ok (.aload_n 0, 1) := by decide +kernel
theorem dX1_countDoneInTime_12 : decode cX1_countDoneInTime 12 = .ok (.getfield 25, 3) := by decide +kernel
theorem dX1_countDoneInTime_15 : decode cX1_countDoneInTime 15 = .ok (.invokevirtual 79, 3) := by decide +kernel
theorem dX1_countDoneInTime_18 : decode cX1_countDoneInTime 18 = .ok (.invokestatic 83, 3) := by decide +kernel
theorem dX1_countDoneInTime_21 : decode cX1_countDoneInTime 21 = .ok (.istore_n 3, 1) := by decide +kernel
theorem dX1_countDoneInTime_22 : decode cX1_countDoneInTime 22 = .ok (.aload_n 0, 1) := by decide +kernel
theorem dX1_countDoneInTime_23 : decode cX1_countDoneInTime 23 = .ok (.iconst 0, 1) := by decide +kernel
theorem dX1_countDoneInTime_24 : decode cX1_countDoneInTime 24 = .ok (.iload_n 1, 1) := by decide +kernel
theorem dX1_countDoneInTime_25 : decode cX1_countDoneInTime 25 = .ok (.invokevirtual 89, 3) := by decide +kernel
theorem dX1_countDoneInTime_28 : decode cX1_countDoneInTime 28 = .ok (.istore 4, 2) := by decide +kernel
theorem dX1_countDoneInTime_30 : decode cX1_countDoneInTime 30 = .ok (.iconst 1, 1) := by decide +kernel
theorem dX1_countDoneInTime_31 : decode cX1_countDoneInTime 31 = .ok (.istore 5, 2) := by decide +kernel
theorem dX1_countDoneInTime_33 : decode cX1_countDoneInTime 33 = .ok (.iload 5, 2) := by decide +kernel
theorem dX1_countDoneInTime_35 : decode cX1_countDoneInTime 35 = .ok (.iload_n 2, 1) := by decide +kernel
theorem dX1_countDoneInTime_36 : decode cX1_countDoneInTime 36 = .ok (.if_icmp .gt 89, 3) := by decide +kernel
theorem dX1_countDoneInTime_39 : decode cX1_countDoneInTime 39 = .ok (.iload 4, 2) := by decide +kernel
theorem dX1_countDoneInTime_41 : decode cX1_countDoneInTime 41 = .ok (.iload_n 1, 1) := by decide +kernel
theorem dX1_countDoneInTime_42 : decode cX1_countDoneInTime 42 = .ok (.if_icmp .ge 83, 3) := by decide +kernel
theorem dX1_countDoneInTime_45 : decode cX1_countDoneInTime 45 = .ok (.aload_n 0, 1) := by decide +kernel
theorem dX1_countDoneInTime_46 : decode cX1_countDoneInTime 46 = .ok (.getfield 22, 3) := by decide +kernel
theorem dX1_countDoneInTime_49 : decode cX1_countDoneInTime 49 = .ok (.iload 4, 2) := by decide +kernel
theorem dX1_countDoneInTime_51 : decode cX1_countDoneInTime 51 = .ok (.iaload, 1) := by decide +kernel
theorem dX1_countDoneInTime_52 : decode cX1_countDoneInTime 52 = .ok (.istore 6, 2) := by decide +kernel
theorem dX1_countDoneInTime_54 : decode cX1_countDoneInTime 54 = .ok (.aload_n 0, 1) := by decide +kernel
theorem dX1_countDoneInTime_55 : decode cX1_countDoneInTime 55 = .ok (.getfield 18, 3) := by decide +kernel
theorem dX1_countDoneInTime_58 : decode cX1_countDoneInTime 58 = .ok (.iload 6, 2) := by decide +kernel
theorem dX1_countDoneInTime_60 : decode cX1_countDoneInTime 60 = .ok (.putfield 40, 3) := by decide +kernel
theorem dX1_countDoneInTime_63 : decode cX1_countDoneInTime 63 = .ok (.aload_n 0, 1) := by decide +kernel
theorem dX1_countDoneInTime_64 : decode cX1_countDoneInTime 64 = .ok (.getfield 18, 3) := by decide +kernel
theorem dX1_countDoneInTime_67 : decode cX1_countDoneInTime 67 = .ok (.invokevirtual 48, 3) := by decide +kernel
theorem dX1_countDoneInTime_70 : decode cX1_countDoneInTime 70 = .ok (.aload_n 0, 1) := by decide +kernel
theorem dX1_countDoneInTime_71 : decode cX1_countDoneInTime 71 = .ok (.getfield 18, 3) := by decide +kernel
theorem dX1_countDoneInTime_74 : decode cX1_countDoneInTime 74 = .ok (.iload 6, 2) := by decide +kernel
theorem dX1_countDoneInTime_76 : decode cX1_countDoneInTime 76 = .ok (.invokevirtual 44, 3) := by decide +kernel
theorem dX1_countDoneInTime_79 : decode cX1_countDoneInTime 79 = .ok (.ifCond .eq 40, 3) := by decide +kernel
theorem dX1_countDoneInTime_82 : decode cX1_countDoneInTime 82 = .ok (.iload_n 3, 1) := by decide +kernel
theorem dX1_countDoneInTime_83 : decode cX1_countDoneInTime 83 = .ok (.iload 5, 2) := by decide +kernel
theorem dX1_countDoneInTime_85 : decode cX1_countDoneInTime 85 = .ok (.aload_n 0, 1) := by decide +kernel
theorem dX1_countDoneInTime_86 : decode cX1_countDoneInTime 86 = .ok (.getfield 18, 3) := by decide +kernel
theorem dX1_countDoneInTime_89 : decode cX1_countDoneInTime 89 = .ok (.getfield 92, 3) := by decide +kernel
theorem dX1_countDoneInTime_92 : decode cX1_countDoneInTime 92 = .ok (.iload 6, 2) := by decide +kernel
theorem dX1_countDoneInTime_94 : decode cX1_countDoneInTime 94 = .ok (.iaload, 1) := by decide +kernel
theorem dX1_countDoneInTime_95 : decode cX1_countDoneInTime 95 = .ok (.if_icmp .gt 7, 3) := by decide +kernel
theorem dX1_countDoneInTime_98 : decode cX1_countDoneInTime 98 = .ok (.iconst 1, 1) := by decide +kernel
theorem dX1_countDoneInTime_99 : decode cX1_countDoneInTime 99 = .ok (.goto 4, 3) := by decide +kernel
theorem dX1_countDoneInTime_102 : decode cX1_countDoneInTime 102 = .ok (.iconst 0, 1) := by decide +kernel
theorem dX1_countDoneInTime_103 : decode cX1_countDoneInTime 103 = .ok (.invokestatic 95, 3) := by decide +kernel
theorem dX1_countDoneInTime_106 : decode cX1_countDoneInTime 106 = .ok (.iadd, 1) := by decide +kernel
theorem dX1_countDoneInTime_107 : decode cX1_countDoneInTime 107 = .ok (.istore_n 3, 1) := by decide +kernel
theorem dX1_countDoneInTime_108 : decode cX1_countDoneInTime 108 = .ok (.aload_n 0, 1) := by decide +kernel
theorem dX1_countDoneInTime_109 : decode cX1_countDoneInTime 109 = .ok (.iload 4, 2) := by decide +kernel
theorem dX1_countDoneInTime_111 : decode cX1_countDoneInTime 111 = .ok (.iconst 1, 1) := by decide +kernel
theorem dX1_countDoneInTime_112 : decode cX1_countDoneInTime 112 = .ok (.iadd, 1) := by decide +kernel
theorem dX1_countDoneInTime_113 : decode cX1_countDoneInTime 113 = .ok (.iload_n 1, 1) := by decide +kernel
theorem dX1_countDoneInTime_114 : decode cX1_countDoneInTime 114 = .ok (.invokevirtual 89, 3) := by decide +kernel
theorem dX1_countDoneInTime_117 : decode cX1_countDoneInTime 117 = .ok (.istore 4, 2) := by decide +kernel
theorem dX1_countDoneInTime_119 : decode cX1_countDoneInTime 119 = .ok (.iinc 5 1, 3) := by decide +kernel
theorem dX1_countDoneInTime_122 : decode cX1_countDoneInTime 122 = .ok (.goto (-89), 3) := by decide +kernel
theorem dX1_countDoneInTime_125 : decode cX1_countDoneInTime 125 = .ok (.aload_n 0, 1) := by decide +kernel
theorem dX1_countDoneInTime_126 : decode cX1_countDoneInTime 126 = .ok (.iload 4, 2) := by decide +kernel
theorem dX1_countDoneInTime_128 : decode cX1_countDoneInTime 128 = .ok (.iconst 1, 1) := by decide +kernel
theorem dX1_countDoneInTime_129 : decode cX1_countDoneInTime 129 = .ok (.iadd, 1) := by decide +kernel
theorem dX1_countDoneInTime_130 : decode cX1_countDoneInTime 130 = .ok (.iload_n 1, 1) := by decide +kernel
theorem dX1_countDoneInTime_131 : decode cX1_countDoneInTime 131 = .ok (.invokestatic 54, 3) := by decide +kernel
theorem dX1_countDoneInTime_134 : decode cX1_countDoneInTime 134 = .ok (.putfield 76, 3) := by decide +kernel
theorem dX1_countDoneInTime_137 : decode cX1_countDoneInTime 137 = .ok (.iload_n 3, 1) := by decide +kernel
theorem dX1_countDoneInTime_138 : decode cX1_countDoneInTime 138 = .ok (.ireturn, 1) := by decide +kernel
theorem dX1_firstUndone_0 : decode cX1_firstUndone 0 = .ok (.iload_n 1, 1) := by decide +kernel
theorem dX1_firstUndone_1 : decode cX1_firstUndone 1 = .ok (.istore_n 3, 1) := by decide +kernel
theorem dX1_firstUndone_2 : decode cX1_firstUndone 2 = .ok (.iload_n 3, 1) := by decide +kernel
theorem dX1_firstUndone_3 : decode cX1_firstUndone 3 = .ok (.iload_n 2, 1) := by decide +kernel
theorem dX1_firstUndone_4 : decode cX1_firstUndone 4 = .ok (.if_icmp .ge 25, 3) := by decide +kernel
theorem dX1_firstUndone_7 : decode cX1_firstUndone 7 = .ok (.aload_n 0, 1) := by decide +kernel
theorem dX1_firstUndone_8 : decode cX1_firstUndone 8 = .ok (.getfield 18, 3) := by decide +kernel
theorem dX1_firstUndone_11 : decode cX1_firstUndone 11 = .ok (.aload_n 0, 1) := by decide +kernel
theorem dX1_firstUndone_12 : decode cX1_firstUndone 12 = .ok (.getfield 22, 3) := by decide +kernel
theorem dX1_firstUndone_15 : decode cX1_firstUndone 15 = .ok (.iload_n 3, 1) := by decide +kernel
theorem dX1_firstUndone_16 : decode cX1_firstUndone 16 = .ok (.iaload, 1) := by decide +kernel
theorem dX1_firstUndone_17 : decode cX1_firstUndone 17 = .ok (.invokevirtual 44, 3) := by decide +kernel
theorem dX1_firstUndone_20 : decode cX1_firstUndone 20 = .ok (.ifCond .eq 9, 3) := by decide +kernel
theorem dX1_firstUndone_23 : decode cX1_firstUndone 23 = .ok (.iinc 3 1, 3) := by decide +kernel
theorem dX1_firstUndone_26 : decode cX1_firstUndone 26 = .ok (.goto (-24), 3) := by decide +kernel
theorem dX1_firstUndone_29 : decode cX1_firstUndone 29 = .ok (.iload_n 3, 1) := by decide +kernel
theorem dX1_firstUndone_30 : decode cX1_firstUndone 30 = .ok (.ireturn, 1) := by decide +kernel
theorem dX1_whomToTalkTo_0 : decode cX1_whomToTalkTo 0 = .ok (.iconst (-1), 1) := by decide +kernel
theorem dX1_whomToTalkTo_1 : decode cX1_whomToTalkTo 1 = .ok (.istore_n 2, 1) := by decide +kernel
theorem dX1_whomToTalkTo_2 : decode cX1_whomToTalkTo 2 = .ok (.iconst (-1), 1) := by decide +kernel
theorem dX1_whomToTalkTo_3 : decode cX1_whomToTalkTo 3 = .ok (.istore_n 3, 1) := by decide +kernel
theorem dX1_whomToTalkTo_4 : decode cX1_whomToTalkTo 4 = .ok (.iconst 0, 1) := by decide +kernel
theorem dX1_whomToTalkTo_5 : decode cX1_whomToTalkTo 5 = .ok (.istore 4, 2) := by decide +kernel
theorem dX1_whomToTalkTo_7 : decode cX1_whomToTalkTo 7 = .ok (.iload 4, 2) := by decide +kernel
theorem dX1_whomToTalkTo_9 : decode cX1_whomToTalkTo 9 = .ok (.aload_n 0, 1) := by decide +kernel
theorem dX1_whomToTalkTo_10 : decode cX1_whomToTalkTo 10 = .ok (.getfield 25, 3) := by decide +kernel
theorem dX1_whomToTalkTo_13 : decode cX1_whomToTalkTo 13 = .ok (.getfield 99, 3) := by decide +kernel
theorem dX1_whomToTalkTo_16 : decode cX1_whomToTalkTo 16 = .ok (.if_icmp .ge 43, 3) := by decide +kernel
theorem dX1_whomToTalkTo_19 : decode cX1_whomToTalkTo 19 = .ok (.aload_n 0, 1) := by decide +kernel
theorem dX1_whomToTalkTo_20 : decode cX1_whomToTalkTo 20 = .ok (.getfield 25, 3) := by decide +kernel
theorem dX1_whomToTalkTo_23 : decode cX1_whomToTalkTo 23 = .ok (.getfield 102, 3) := by decide +kernel
theorem dX1_whomToTalkTo_26 : decode cX1_whomToTalkTo 26 = .ok (.iload 4, 2) := by decide +kernel
theorem dX1_whomToTalkTo_28 : decode cX1_whomToTalkTo 28 = .ok (.baload, 1) := by decide +kernel
theorem dX1_whomToTalkTo_29 : decode cX1_whomToTalkTo 29 = .ok (.ifCond .ne 24, 3) := by decide +kernel
theorem dX1_whomToTalkTo_32 : decode cX1_whomToTalkTo 32 = .ok (.aload_n 0, 1) := by decide +kernel
theorem dX1_whomToTalkTo_33 : decode cX1_whomToTalkTo 33 = .ok (.iload 4, 2) := by decide +kernel
theorem dX1_whomToTalkTo_35 : decode cX1_whomToTalkTo 35 = .ok (.iload_n 1, 1) := by decide +kernel
theorem dX1_whomToTalkTo_36 : decode cX1_whomToTalkTo 36 = .ok (.invokevirtual 106, 3) := by decide +kernel
theorem dX1_whomToTalkTo_39 : decode cX1_whomToTalkTo 39 = .ok (.istore 5, 2) := by decide +kernel
theorem dX1_whomToTalkTo_41 : decode cX1_whomToTalkTo 41 = .ok (.iload 5, 2) := by decide +kernel
theorem dX1_whomToTalkTo_43 : decode cX1_whomToTalkTo 43 = .ok (.iload_n 3, 1) := by decide +kernel
theorem dX1_whomToTalkTo_44 : decode cX1_whomToTalkTo 44 = .ok (.if_icmp .le 9, 3) := by decide +kernel
theorem dX1_whomToTalkTo_47 : decode cX1_whomToTalkTo 47 = .ok (.iload 4, 2) := by decide +kernel
theorem dX1_whomToTalkTo_49 : decode cX1_whomToTalkTo 49 = .ok (.istore_n 2, 1) := by decide +kernel
theorem dX1_whomToTalkTo_50 : decode cX1_whomToTalkTo 50 = .ok (.iload 5, 2) := by decide +kernel
theorem dX1_whomToTalkTo_52 : decode cX1_whomToTalkTo 52 = .ok (.istore_n 3, 1) := by decide +kernel
theorem dX1_whomToTalkTo_53 : decode cX1_whomToTalkTo 53 = .ok (.iinc 4 1, 3) := by decide +kernel
theorem dX1_whomToTalkTo_56 : decode cX1_whomToTalkTo 56 = .ok (.goto (-49), 3) := by decide +kernel
theorem dX1_whomToTalkTo_59 : decode cX1_whomToTalkTo 59 = .ok (.iload_n 2, 1) := by decide +kernel
theorem dX1_whomToTalkTo_60 : decode cX1_whomToTalkTo 60 = .ok (.ireturn, 1) := by decide +kernel
theorem dX1_hottestByTalk_0 : decode cX1_hottestByTalk 0 = .ok (.aload_n 0, 1) := by decide +kernel
theorem dX1_hottestByTalk_1 : decode cX1_hottestByTalk 1 = .ok (.iload_n 1, 1) := by decide +kernel
theorem dX1_hottestByTalk_2 : decode cX1_hottestByTalk 2 = .ok (.iload_n 2, 1) := by decide +kernel
theorem dX1_hottestByTalk_3 : decode cX1_hottestByTalk 3 = .ok (.invokevirtual 109, 3) := by decide +kernel
theorem dX1_hottestByTalk_6 : decode cX1_hottestByTalk 6 = .ok (.aload_n 0, 1) := by decide +kernel
theorem dX1_hottestByTalk_7 : decode cX1_hottestByTalk 7 = .ok (.getfield 18, 3) := by decide +kernel
theorem dX1_hottestByTalk_10 : decode cX1_hottestByTalk 10 = .ok (.iconst 3, 1) := by decide +kernel
theorem dX1_hottestByTalk_11 : decode cX1_hottestByTalk 11 = .ok (.invokevirtual 36, 3) := by decide +kernel
theorem dX1_hottestByTalk_14 : decode cX1_hottestByTalk 14 = .ok (.aload_n 0, 1) := by decide +kernel
theorem dX1_hottestByTalk_15 : decode cX1_hottestByTalk 15 = .ok (.getfield 18, 3) := by decide +kernel
theorem dX1_hottestByTalk_18 : decode cX1_hottestByTalk 18 = .ok (.invokevirtual 112, 3) := by decide +kernel
theorem dX1_hottestByTalk_21 : decode cX1_hottestByTalk 21 = .ok (.istore_n 3, 1) := by decide +kernel
theorem dX1_hottestByTalk_22 : decode cX1_hottestByTalk 22 = .ok (.iload_n 3, 1) := by decide +kernel
theorem dX1_hottestByTalk_23 : decode cX1_hottestByTalk 23 = .ok (.ifCond .ge 8, 3) := by decide +kernel
theorem dX1_hottestByTalk_26 : decode cX1_hottestByTalk 26 = .ok (.bipush (-5), 2) := by decide +kernel
theorem dX1_hottestByTalk_28 : decode cX1_hottestByTalk 28 = .ok (.goto 12, 3) := by decide +kernel
theorem dX1_hottestByTalk_31 : decode cX1_hottestByTalk 31 = .ok (.aload_n 0, 1) := by decide +kernel
theorem dX1_hottestByTalk_32 : decode cX1_hottestByTalk 32 = .ok (.getfield 18, 3) := by decide +kernel
theorem dX1_hottestByTalk_35 : decode cX1_hottestByTalk 35 = .ok (.getfield 115, 3) := by decide +kernel
theorem dX1_hottestByTalk_38 : decode cX1_hottestByTalk 38 = .ok (.iload_n 3, 1) := by decide +kernel
theorem dX1_hottestByTalk_39 : decode cX1_hottestByTalk 39 = .ok (.iaload, 1) := by decide +kernel
theorem dX1_hottestByTalk_40 : decode cX1_hottestByTalk 40 = .ok (.ireturn, 1) := by decide +kernel
theorem dX1_warm_0 : decode cX1_warm 0 = .ok (.aload_n 0, 1) := by decide +kernel
theorem dX1_warm_1 : decode cX1_warm 1 = .ok (.getfield 18, 3) := by decide +kernel
theorem dX1_warm_4 : decode cX1_warm 4 = .ok (.aload_n 0, 1) := by decide +kernel
theorem dX1_warm_5 : decode cX1_warm 5 = .ok (.getfield 25, 3) := by decide +kernel
theorem dX1_warm_8 : decode cX1_warm 8 = .ok (.invokevirtual 32, 3) := by decide +kernel
theorem dX1_warm_11 : decode cX1_warm 11 = .ok (.aload_n 0, 1) := by decide +kernel
theorem dX1_warm_12 : decode cX1_warm 12 = .ok (.getfield 18, 3) := by decide +kernel
theorem dX1_warm_15 : decode cX1_warm 15 = .ok (.iconst (-1), 1) := by decide +kernel
theorem dX1_warm_16 : decode cX1_warm 16 = .ok (.putfield 40, 3) := by decide +kernel
theorem dX1_warm_19 : decode cX1_warm 19 = .ok (.aload_n 0, 1) := by decide +kernel
theorem dX1_warm_20 : decode cX1_warm 20 = .ok (.getfield 18, 3) := by decide +kernel
theorem dX1_warm_23 : decode cX1_warm 23 = .ok (.getfield 115, 3) := by decide +kernel
theorem dX1_warm_26 : decode cX1_warm 26 = .ok (.iload_n 1, 1) := by decide +kernel
theorem dX1_warm_27 : decode cX1_warm 27 = .ok (.bipush 99, 2) := by decide +kernel
theorem dX1_warm_29 : decode cX1_warm 29 = .ok (.aload_n 0, 1) := by decide +kernel
theorem dX1_warm_30 : decode cX1_warm 30 = .ok (.getfield 18, 3) := by decide +kernel
theorem dX1_warm_33 : decode cX1_warm 33 = .ok (.getfield 115, 3) := by decide +kernel
theorem dX1_warm_36 : decode cX1_warm 36 = .ok (.iload_n 1, 1) := by decide +kernel
theorem dX1_warm_37 : decode cX1_warm 37 = .ok (.iaload, 1) := by decide +kernel
theorem dX1_warm_38 : decode cX1_warm 38 = .ok (.iload_n 2, 1) := by decide +kernel
theorem dX1_warm_39 : decode cX1_warm 39 = .ok (.iadd, 1) := by decide +kernel
theorem dX1_warm_40 : decode cX1_warm 40 = .ok (.invokestatic 54, 3) := by decide +kernel
theorem dX1_warm_43 : decode cX1_warm 43 = .ok (.iastore, 1) := by decide +kernel
theorem dX1_warm_44 : decode cX1_warm 44 = .ok (.return_, 1) := by decide +kernel
theorem dX1_fitting_0 : decode cX1_fitting 0 = .ok (.iload_n 2, 1) := by decide +kernel
theorem dX1_fitting_1 : decode cX1_fitting 1 = .ok (.ifCond .eq 8, 3) := by decide +kernel
theorem dX1_fitting_4 : decode cX1_fitting 4 = .ok (.bipush 99, 2) := by decide +kernel
theorem dX1_fitting_6 : decode cX1_fitting 6 = .ok (.goto 5, 3) := by decide +kernel
theorem dX1_fitting_9 : decode cX1_fitting 9 = .ok (.bipush 9, 2) := by decide +kernel
theorem dX1_fitting_11 : decode cX1_fitting 11 = .ok (.istore 4, 2) := by decide +kernel
theorem dX1_fitting_13 : decode cX1_fitting 13 = .ok (.iconst 0, 1) := by decide +kernel
theorem dX1_fitting_14 : decode cX1_fitting 14 = .ok (.istore 5, 2) := by decide +kernel
theorem dX1_fitting_16 : decode cX1_fitting 16 = .ok (.bipush (-5), 2) := by decide +kernel
theorem dX1_fitting_18 : decode cX1_fitting 18 = .ok (.istore 6, 2) := by decide +kernel
theorem dX1_fitting_20 : decode cX1_fitting 20 = .ok (.iload 4, 2) := by decide +kernel
theorem dX1_fitting_22 : decode cX1_fitting 22 = .ok (.istore 7, 2) := by decide +kernel
theorem dX1_fitting_24 : decode cX1_fitting 24 = .ok (.iload 7, 2) := by decide +kernel
theorem dX1_fitting_26 : decode cX1_fitting 26 = .ok (.ifCond .lt 71, 3) := by decide +kernel
theorem dX1_fitting_29 : decode cX1_fitting 29 = .ok (.aload_n 0, 1) := by decide +kernel
theorem dX1_fitting_30 : decode cX1_fitting 30 = .ok (.getfield 18, 3) := by decide +kernel
theorem dX1_fitting_33 : decode cX1_fitting 33 = .ok (.aload_n 0, 1) := by decide +kernel
theorem dX1_fitting_34 : decode cX1_fitting 34 = .ok (.getfield 25, 3) := by decide +kernel
theorem dX1_fitting_37 : decode cX1_fitting 37 = .ok (.invokevirtual 32, 3) := by decide +kernel
theorem dX1_fitting_40 : decode cX1_fitting 40 = .ok (.aload_n 0, 1) := by decide +kernel
theorem dX1_fitting_41 : decode cX1_fitting 41 = .ok (.getfield 18, 3) := by decide +kernel
theorem dX1_fitting_44 : decode cX1_fitting 44 = .ok (.iconst (-1), 1) := by decide +kernel
theorem dX1_fitting_45 : decode cX1_fitting 45 = .ok (.putfield 40, 3) := by decide +kernel
theorem dX1_fitting_48 : decode cX1_fitting 48 = .ok (.iload_n 2, 1) := by decide +kernel
theorem dX1_fitting_49 : decode cX1_fitting 49 = .ok (.ifCond .eq 17, 3) := by decide +kernel
theorem dX1_fitting_52 : decode cX1_fitting 52 = .ok (.aload_n 0, 1) := by decide +kernel
theorem dX1_fitting_53 : decode cX1_fitting 53 = .ok (.getfield 18, 3) := by decide +kernel
theorem dX1_fitting_56 : decode cX1_fitting 56 = .ok (.getfield 115, 3) := by decide +kernel
theorem dX1_fitting_59 : decode cX1_fitting 59 = .ok (.iload_n 1, 1) := by decide +kernel
theorem dX1_fitting_60 : decode cX1_fitting 60 = .ok (.iload 7, 2) := by decide +kernel
theorem dX1_fitting_62 : decode cX1_fitting 62 = .ok (.iastore, 1) := by decide +kernel
theorem dX1_fitting_63 : decode cX1_fitting 63 = .ok (.goto 14, 3) := by decide +kernel
theorem dX1_fitting_66 : decode cX1_fitting 66 = .ok (.aload_n 0, 1) := by decide +kernel
theorem dX1_fitting_67 : decode cX1_fitting 67 = .ok (.getfield 18, 3) := by decide +kernel
theorem dX1_fitting_70 : decode cX1_fitting 70 = .ok (.getfield 118, 3) := by decide +kernel
theorem dX1_fitting_73 : decode cX1_fitting 73 = .ok (.iload_n 1, 1) := by decide +kernel
theorem dX1_fitting_74 : decode cX1_fitting 74 = .ok (.iload 7, 2) := by decide +kernel
theorem dX1_fitting_76 : decode cX1_fitting 76 = .ok (.iastore, 1) := by decide +kernel
theorem dX1_fitting_77 : decode cX1_fitting 77 = .ok (.aload_n 0, 1) := by decide +kernel
theorem dX1_fitting_78 : decode cX1_fitting 78 = .ok (.invokevirtual 121, 3) := by decide +kernel
theorem dX1_fitting_81 : decode cX1_fitting 81 = .ok (.ifCond .eq 10, 3) := by decide +kernel
theorem dX1_fitting_84 : decode cX1_fitting 84 = .ok (.iinc 5 1, 3) := by decide +kernel
theorem dX1_fitting_87 : decode cX1_fitting 87 = .ok (.iload 7, 2) := by decide +kernel
theorem dX1_fitting_89 : decode cX1_fitting 89 = .ok (.istore 6, 2) := by decide +kernel
theorem dX1_fitting_91 : decode cX1_fitting 91 = .ok (.iinc 7 (-1), 3) := by decide +kernel
theorem dX1_fitting_94 : decode cX1_fitting 94 = .ok (.goto (-70), 3) := by decide +kernel
theorem dX1_fitting_97 : decode cX1_fitting 97 = .ok (.iload_n 3, 1) := by decide +kernel
theorem dX1_fitting_98 : decode cX1_fitting 98 = .ok (.ifCond .eq 8, 3) := by decide +kernel
theorem dX1_fitting_101 : decode cX1_fitting 101 = .ok (.iload 5, 2) := by decide +kernel
theorem dX1_fitting_103 : decode cX1_fitting 103 = .ok (.goto 5, 3) := by decide +kernel
theorem dX1_fitting_106 : decode cX1_fitting 106 = .ok (.iload 6, 2) := by decide +kernel
theorem dX1_fitting_108 : decode cX1_fitting 108 = .ok (.ireturn, 1) := by decide +kernel
theorem dX1_isAllSeenSo_0 : decode cX1_isAllSeenSo 0 = .ok (.iconst 0, 1) := by decide +kernel
theorem dX1_isAllSeenSo_1 : decode cX1_isAllSeenSo 1 = .ok (.istore_n 1, 1) := by decide +kernel
theorem dX1_isAllSeenSo_2 : decode cX1_isAllSeenSo 2 = .ok (.iconst 0, 1) := by decide +kernel
theorem dX1_isAllSeenSo_3 : decode cX1_isAllSeenSo 3 = .ok (.istore_n 2, 1) := by decide +kernel
theorem dX1_isAllSeenSo_4 : decode cX1_isAllSeenSo 4 = .ok (.iload_n 2, 1) := by decide +kernel
theorem dX1_isAllSeenSo_5 : decode cX1_isAllSeenSo 5 = .ok (.aload_n 0, 1) := by decide +kernel
theorem dX1_isAllSeenSo_6 : decode cX1_isAllSeenSo 6 = .ok (.getfield 28, 3) := by decide +kernel
theorem dX1_isAllSeenSo_9 : decode cX1_isAllSeenSo 9 = .ok (.getfield 125, 3) := by decide +kernel
theorem dX1_isAllSeenSo_12 : decode cX1_isAllSeenSo 12 = .ok (.if_icmp .ge 23, 3) := by decide +kernel
theorem dX1_isAllSeenSo_15 : decode cX1_isAllSeenSo 15 = .ok (.iload_n 1, 1) := by decide +kernel
theorem dX1_isAllSeenSo_16 : decode cX1_isAllSeenSo 16 = .ok (.aload_n 0, 1) := by decide +kernel
theorem dX1_isAllSeenSo_17 : decode cX1_isAllSeenSo 17 = .ok (.getfield 28, 3) := by decide +kernel
theorem dX1_isAllSeenSo_20 : decode cX1_isAllSeenSo 20 = .ok (.getfield 130, 3) := by decide +kernel
theorem dX1_isAllSeenSo_23 : decode cX1_isAllSeenSo 23 = .ok (.iload_n 2, 1) := by decide +kernel
theorem dX1_isAllSeenSo_24 : decode cX1_isAllSeenSo 24 = .ok (.iaload, 1) := by decide +kernel
theorem dX1_isAllSeenSo_25 : decode cX1_isAllSeenSo 25 = .ok (.invokestatic 133, 3) := by decide +kernel
theorem dX1_isAllSeenSo_28 : decode cX1_isAllSeenSo 28 = .ok (.istore_n 1, 1) := by decide +kernel
theorem dX1_isAllSeenSo_29 : decode cX1_isAllSeenSo 29 = .ok (.iinc 2 1, 3) := by decide +kernel
theorem dX1_isAllSeenSo_32 : decode cX1_isAllSeenSo 32 = .ok (.goto (-28), 3) := by decide +kernel
theorem dX1_isAllSeenSo_35 : decode cX1_isAllSeenSo 35 = .ok (.iconst 0, 1) := by decide +kernel
theorem dX1_isAllSeenSo_36 : decode cX1_isAllSeenSo 36 = .ok (.istore_n 2, 1) := by decide +kernel
theorem dX1_isAllSeenSo_37 : decode cX1_isAllSeenSo 37 = .ok (.iload_n 2, 1) := by decide +kernel
theorem dX1_isAllSeenSo_38 : decode cX1_isAllSeenSo 38 = .ok (.iload_n 1, 1) := by decide +kernel
theorem dX1_isAllSeenSo_39 : decode cX1_isAllSeenSo 39 = .ok (.if_icmp .gt 86, 3) := by decide +kernel
theorem dX1_isAllSeenSo_42 : decode cX1_isAllSeenSo 42 = .ok (.iconst 0, 1) := by decide +kernel
theorem dX1_isAllSeenSo_43 : decode cX1_isAllSeenSo 43 = .ok (.istore_n 3, 1) := by decide +kernel
theorem dX1_isAllSeenSo_44 : decode cX1_isAllSeenSo 44 = .ok (.iload_n 3, 1) := by decide +kernel
theorem dX1_isAllSeenSo_45 : decode cX1_isAllSeenSo 45 = .ok (.aload_n 0, 1) := by decide +kernel
theorem dX1_isAllSeenSo_46 : decode cX1_isAllSeenSo 46 = .ok (.getfield 28, 3) := by decide +kernel
theorem dX1_isAllSeenSo_49 : decode cX1_isAllSeenSo 49 = .ok (.getfield 125, 3) := by decide +kernel
theorem dX1_isAllSeenSo_52 : decode cX1_isAllSeenSo 52 = .ok (.if_icmp .ge 55, 3) := by decide +kernel
theorem dX1_isAllSeenSo_55 : decode cX1_isAllSeenSo 55 = .ok (.aload_n 0, 1) := by decide +kernel
theorem dX1_isAllSeenSo_56 : decode cX1_isAllSeenSo 56 = .ok (.getfield 28, 3) := by decide +kernel
theorem dX1_isAllSeenSo_59 : decode cX1_isAllSeenSo 59 = .ok (.getfield 130, 3) := by decide +kernel
theorem dX1_isAllSeenSo_62 : decode cX1_isAllSeenSo 62 = .ok (.iload_n 3, 1) := by decide +kernel
theorem dX1_isAllSeenSo_63 : decode cX1_isAllSeenSo 63 = .ok (.iaload, 1) := by decide +kernel
theorem dX1_isAllSeenSo_64 : decode cX1_isAllSeenSo 64 = .ok (.iload_n 2, 1) := by decide +kernel
theorem dX1_isAllSeenSo_65 : decode cX1_isAllSeenSo 65 = .ok (.if_icmp .ne 36, 3) := by decide +kernel
theorem dX1_isAllSeenSo_68 : decode cX1_isAllSeenSo 68 = .ok (.aload_n 0, 1) := by decide +kernel
theorem dX1_isAllSeenSo_69 : decode cX1_isAllSeenSo 69 = .ok (.getfield 18, 3) := by decide +kernel
theorem dX1_isAllSeenSo_72 : decode cX1_isAllSeenSo 72 = .ok (.aload_n 0, 1) := by decide +kernel
theorem dX1_isAllSeenSo_73 : decode cX1_isAllSeenSo 73 = .ok (.getfield 28, 3) := by decide +kernel
theorem dX1_isAllSeenSo_76 : decode cX1_isAllSeenSo 76 = .ok (.getfield 136, 3) := by decide +kernel
theorem dX1_isAllSeenSo_79 : decode cX1_isAllSeenSo 79 = .ok (.iload_n 3, 1) := by decide +kernel
theorem dX1_isAllSeenSo_80 : decode cX1_isAllSeenSo 80 = .ok (.iaload, 1) := by decide +kernel
theorem dX1_isAllSeenSo_81 : decode cX1_isAllSeenSo 81 = .ok (.invokevirtual 139, 3) := by decide +kernel
theorem dX1_isAllSeenSo_84 : decode cX1_isAllSeenSo 84 = .ok (.invokestatic 95, 3) := by decide +kernel
theorem dX1_isAllSeenSo_87 : decode cX1_isAllSeenSo 87 = .ok (.aload_n 0, 1) := by decide +kernel
theorem dX1_isAllSeenSo_88 : decode cX1_isAllSeenSo 88 = .ok (.getfield 28, 3) := by decide +kernel
theorem dX1_isAllSeenSo_91 : decode cX1_isAllSeenSo 91 = .ok (.getfield 142, 3) := by decide +kernel
theorem dX1_isAllSeenSo_94 : decode cX1_isAllSeenSo 94 = .ok (.iload_n 3, 1) := by decide +kernel
theorem dX1_isAllSeenSo_95 : decode cX1_isAllSeenSo 95 = .ok (.iaload, 1) := by decide +kernel
theorem dX1_isAllSeenSo_96 : decode cX1_isAllSeenSo 96 = .ok (.if_icmp .eq 5, 3) := by decide +kernel
theorem dX1_isAllSeenSo_99 : decode cX1_isAllSeenSo 99 = .ok (.iconst 0, 1) := by decide +kernel
theorem dX1_isAllSeenSo_100 : decode cX1_isAllSeenSo 100 = .ok (.ireturn, 1) := by decide +kernel
theorem dX1_isAllSeenSo_101 : decode cX1_isAllSeenSo 101 = .ok (.iinc 3 1, 3) := by decide +kernel
theorem dX1_isAllSeenSo_104 : decode cX1_isAllSeenSo 104 = .ok (.goto (-60), 3) := by decide +kernel
theorem dX1_isAllSeenSo_107 : decode cX1_isAllSeenSo 107 = .ok (.iload_n 2, 1) := by decide +kernel
theorem dX1_isAllSeenSo_108 : decode cX1_isAllSeenSo 108 = .ok (.iload_n 1, 1) := by decide +kernel
theorem dX1_isAllSeenSo_109 : decode cX1_isAllSeenSo 109 = .ok (.if_icmp .ge 10, 3) := by decide +kernel
theorem dX1_isAllSeenSo_112 : decode cX1_isAllSeenSo 112 = .ok (.aload_n 0, 1) := by decide +kernel
theorem dX1_isAllSeenSo_113 : decode cX1_isAllSeenSo 113 = .ok (.getfield 18, 3) := by decide +kernel
theorem dX1_isAllSeenSo_116 : decode cX1_isAllSeenSo 116 = .ok (.invokevirtual 48, 3) := by decide +kernel
theorem dX1_isAllSeenSo_119 : decode cX1_isAllSeenSo 119 = .ok (.iinc 2 1, 3) := by decide +kernel
theorem dX1_isAllSeenSo_122 : decode cX1_isAllSeenSo 122 = .ok (.goto (-85), 3) := by decide +kernel
theorem dX1_isAllSeenSo_125 : decode cX1_isAllSeenSo 125 = .ok (.iconst 1, 1) := by decide +kernel
theorem dX1_isAllSeenSo_126 : decode cX1_isAllSeenSo 126 = .ok (.ireturn, 1) := by decide +kernel
theorem dX1_countHot_0 : decode cX1_countHot 0 = .ok (.iconst 0, 1) := by decide +kernel
theorem dX1_countHot_1 : decode cX1_countHot 1 = .ok (.istore_n 3, 1) := by decide +kernel
theorem dX1_countHot_2 : decode cX1_countHot 2 = .ok (.iconst 0, 1) := by decide +kernel
theorem dX1_countHot_3 : decode cX1_countHot 3 = .ok (.istore 4, 2) := by decide +kernel
theorem dX1_countHot_5 : decode cX1_countHot 5 = .ok (.iload 4, 2) := by decide +kernel
theorem dX1_countHot_7 : decode cX1_countHot 7 = .ok (.aload_n 0, 1) := by decide +kernel
theorem dX1_countHot_8 : decode cX1_countHot 8 = .ok (.getfield 25, 3) := by decide +kernel
theorem dX1_countHot_11 : decode cX1_countHot 11 = .ok (.getfield 99, 3) := by decide +kernel
theorem dX1_countHot_14 : decode cX1_countHot 14 = .ok (.if_icmp .ge 52, 3) := by decide +kernel
theorem dX1_countHot_17 : decode cX1_countHot 17 = .ok (.aload_n 0, 1) := by decide +kernel
theorem dX1_countHot_18 : decode cX1_countHot 18 = .ok (.getfield 25, 3) := by decide +kernel
theorem dX1_countHot_21 : decode cX1_countHot 21 = .ok (.getfield 102, 3) := by decide +kernel
theorem dX1_countHot_24 : decode cX1_countHot 24 = .ok (.iload 4, 2) := by decide +kernel
theorem dX1_countHot_26 : decode cX1_countHot 26 = .ok (.baload, 1) := by decide +kernel
theorem dX1_countHot_27 : decode cX1_countHot 27 = .ok (.ifCond .ne 33, 3) := by decide +kernel
theorem dX1_countHot_30 : decode cX1_countHot 30 = .ok (.aload_n 0, 1) := by decide +kernel
theorem dX1_countHot_31 : decode cX1_countHot 31 = .ok (.iload 4, 2) := by decide +kernel
theorem dX1_countHot_33 : decode cX1_countHot 33 = .ok (.bipush 20, 2) := by decide +kernel
theorem dX1_countHot_35 : decode cX1_countHot 35 = .ok (.invokevirtual 109, 3) := by decide +kernel
theorem dX1_countHot_38 : decode cX1_countHot 38 = .ok (.aload_n 0, 1) := by decide +kernel
theorem dX1_countHot_39 : decode cX1_countHot 39 = .ok (.getfield 18, 3) := by decide +kernel
theorem dX1_countHot_42 : decode cX1_countHot 42 = .ok (.iload_n 2, 1) := by decide +kernel
theorem dX1_countHot_43 : decode cX1_countHot 43 = .ok (.invokevirtual 36, 3) := by decide +kernel
theorem dX1_countHot_46 : decode cX1_countHot 46 = .ok (.iload_n 3, 1) := by decide +kernel
theorem dX1_countHot_47 : decode cX1_countHot 47 = .ok (.aload_n 0, 1) := by decide +kernel
theorem dX1_countHot_48 : decode cX1_countHot 48 = .ok (.getfield 18, 3) := by decide +kernel
theorem dX1_countHot_51 : decode cX1_countHot 51 = .ok (.iload_n 1, 1) := by decide +kernel
theorem dX1_countHot_52 : decode cX1_countHot 52 = .ok (.invokevirtual 139, 3) := by decide +kernel
theorem dX1_countHot_55 : decode cX1_countHot 55 = .ok (.invokestatic 95, 3) := by decide +kernel
theorem dX1_countHot_58 : decode cX1_countHot 58 = .ok (.iadd, 1) := by decide +kernel
theorem dX1_countHot_59 : decode cX1_countHot 59 = .ok (.istore_n 3, 1) := by decide +kernel
theorem dX1_countHot_60 : decode cX1_countHot 60 = .ok (.iinc 4 1, 3) := by decide +kernel
theorem dX1_countHot_63 : decode cX1_countHot 63 = .ok (.goto (-58), 3) := by decide +kernel
theorem dX1_countHot_66 : decode cX1_countHot 66 = .ok (.iload_n 3, 1) := by decide +kernel
theorem dX1_countHot_67 : decode cX1_countHot 67 = .ok (.ireturn, 1) := by decide +kernel
theorem dX1_behindPlan_0 : decode cX1_behindPlan 0 = .ok (.aload_n 0, 1) := by decide +kernel
theorem dX1_behindPlan_1 : decode cX1_behindPlan 1 = .ok (.getfield 18, 3) := by decide +kernel
theorem dX1_behindPlan_4 : decode cX1_behindPlan 4 = .ok (.aload_n 0, 1) := by decide +kernel
theorem dX1_behindPlan_5 : decode cX1_behindPlan 5 = .ok (.getfield 25, 3) := by decide +kernel
theorem dX1_behindPlan_8 : decode cX1_behindPlan 8 = .ok (.invokevirtual 32, 3) := by decide +kernel
theorem dX1_behindPlan_11 : decode cX1_behindPlan 11 = .ok (.iconst 0, 1) := by decide +kernel
theorem dX1_behindPlan_12 : decode cX1_behindPlan 12 = .ok (.istore_n 2, 1) := by decide +kernel
theorem dX1_behindPlan_13 : decode cX1_behindPlan 13 = .ok (.iload_n 2, 1) := by decide +kernel
theorem dX1_behindPlan_14 : decode cX1_behindPlan 14 = .ok (.aload_n 1, 1) := by decide +kernel
theorem dX1_behindPlan_15 : decode cX1_behindPlan 15 = .ok (.getfield 125, 3) := by decide +kernel
theorem dX1_behindPlan_18 : decode cX1_behindPlan 18 = .ok (.if_icmp .ge 25, 3) := by decide +kernel
theorem dX1_behindPlan_21 : decode cX1_behindPlan 21 = .ok (.aload_n 0, 1) := by decide +kernel
theorem dX1_behindPlan_22 : decode cX1_behindPlan 22 = .ok (.aload_n 1, 1) := by decide +kernel
theorem dX1_behindPlan_23 : decode cX1_behindPlan 23 = .ok (.getfield 136, 3) := by decide +kernel
theorem dX1_behindPlan_26 : decode cX1_behindPlan 26 = .ok (.iload_n 2, 1) := by decide +kernel
theorem dX1_behindPlan_27 : decode cX1_behindPlan 27 = .ok (.iaload, 1) := by decide +kernel
theorem dX1_behindPlan_28 : decode cX1_behindPlan 28 = .ok (.aload_n 1, 1) := by decide +kernel
theorem dX1_behindPlan_29 : decode cX1_behindPlan 29 = .ok (.getfield 130, 3) := by decide +kernel
theorem dX1_behindPlan_32 : decode cX1_behindPlan 32 = .ok (.iload_n 2, 1) := by decide +kernel
theorem dX1_behindPlan_33 : decode cX1_behindPlan 33 = .ok (.iaload, 1) := by decide +kernel
theorem dX1_behindPlan_34 : decode cX1_behindPlan 34 = .ok (.invokevirtual 145, 3) := by decide +kernel
theorem dX1_behindPlan_37 : decode cX1_behindPlan 37 = .ok (.iinc 2 1, 3) := by decide +kernel
theorem dX1_behindPlan_40 : decode cX1_behindPlan 40 = .ok (.goto (-27), 3) := by decide +kernel
theorem dX1_behindPlan_43 : decode cX1_behindPlan 43 = .ok (.aload_n 0, 1) := by decide +kernel
theorem dX1_behindPlan_44 : decode cX1_behindPlan 44 = .ok (.getfield 18, 3) := by decide +kernel
theorem dX1_behindPlan_47 : decode cX1_behindPlan 47 = .ok (.areturn, 1) := by decide +kernel
theorem dX1_goPlanned_0 : decode cX1_goPlanned 0 = .ok (.iload_n 1, 1) := by decide +kernel
theorem dX1_goPlanned_1 : decode cX1_goPlanned 1 = .ok (.ifCond .ne 13, 3) := by decide +kernel
theorem dX1_goPlanned_4 : decode cX1_goPlanned 4 = .ok (.aload_n 0, 1) := by decide +kernel
theorem dX1_goPlanned_5 : decode cX1_goPlanned 5 = .ok (.getfield 18, 3) := by decide +kernel
theorem dX1_goPlanned_8 : decode cX1_goPlanned 8 = .ok (.invokevirtual 48, 3) := by decide +kernel
theorem dX1_goPlanned_11 : decode cX1_goPlanned 11 = .ok (.goto 49, 3) := by decide +kernel
theorem dX1_goPlanned_14 : decode cX1_goPlanned 14 = .ok (.iload_n 1, 1) := by decide +kernel
theorem dX1_goPlanned_15 : decode cX1_goPlanned 15 = .ok (.iconst 3, 1) := by decide +kernel
theorem dX1_goPlanned_16 : decode cX1_goPlanned 16 = .ok (.if_icmp .ne 14, 3) := by decide +kernel
theorem dX1_goPlanned_19 : decode cX1_goPlanned 19 = .ok (.aload_n 0, 1) := by decide +kernel
theorem dX1_goPlanned_20 : decode cX1_goPlanned 20 = .ok (.getfield 18, 3) := by decide +kernel
theorem dX1_goPlanned_23 : decode cX1_goPlanned 23 = .ok (.iload_n 2, 1) := by decide +kernel
theorem dX1_goPlanned_24 : decode cX1_goPlanned 24 = .ok (.putfield 40, 3) := by decide +kernel
theorem dX1_goPlanned_27 : decode cX1_goPlanned 27 = .ok (.goto 33, 3) := by decide +kernel
theorem dX1_goPlanned_30 : decode cX1_goPlanned 30 = .ok (.aload_n 0, 1) := by decide +kernel
theorem dX1_goPlanned_31 : decode cX1_goPlanned 31 = .ok (.getfield 18, 3) := by decide +kernel
theorem dX1_goPlanned_34 : decode cX1_goPlanned 34 = .ok (.iload_n 2, 1) := by decide +kernel
theorem dX1_goPlanned_35 : decode cX1_goPlanned 35 = .ok (.invokevirtual 148, 3) := by decide +kernel
theorem dX1_goPlanned_38 : decode cX1_goPlanned 38 = .ok (.ifCond .eq 22, 3) := by decide +kernel
theorem dX1_goPlanned_41 : decode cX1_goPlanned 41 = .ok (.aload_n 0, 1) := by decide +kernel
theorem dX1_goPlanned_42 : decode cX1_goPlanned 42 = .ok (.getfield 18, 3) := by decide +kernel
theorem dX1_goPlanned_45 : decode cX1_goPlanned 45 = .ok (.getfield 102, 3) := by decide +kernel
theorem dX1_goPlanned_48 : decode cX1_goPlanned 48 = .ok (.iload_n 2, 1) := by decide +kernel
theorem dX1_goPlanned_49 : decode cX1_goPlanned 49 = .ok (.iload_n 1, 1) := by decide +kernel
theorem dX1_goPlanned_50 : decode cX1_goPlanned 50 = .ok (.iconst 1, 1) := by decide +kernel
theorem dX1_goPlanned_51 : decode cX1_goPlanned 51 = .ok (.if_icmp .ne 7, 3) := by decide +kernel
theorem dX1_goPlanned_54 : decode cX1_goPlanned 54 = .ok (.iconst 1, 1) := by decide +kernel
theorem dX1_goPlanned_55 : decode cX1_goPlanned 55 = .ok (.goto 4, 3) := by decide +kernel
theorem dX1_goPlanned_58 : decode cX1_goPlanned 58 = .ok (.iconst 0, 1) := by decide +kernel
theorem dX1_goPlanned_59 : decode cX1_goPlanned 59 = .ok (.bastore, 1) := by decide +kernel
theorem dX1_goPlanned_60 : decode cX1_goPlanned 60 = .ok (.return_, 1) := by decide +kernel
theorem dX2_init_0 : decode cX2_init 0 = .ok (.aload_n 0, 1) := by decide +kernel
theorem dX2_init_1 : decode cX2_init 1 = .ok (.invokespecial 3, 3) := by decide +kernel
theorem dX2_init_4 : decode cX2_init 4 = .ok (.aload_n 0, 1) := by decide +kernel
theorem dX2_init_5 : decode cX2_init 5 = .ok (.bipush 100, 2) := by decide +kernel
theorem dX2_init_7 : decode cX2_init 7 = .ok (.newarray .byte, 2) := by decide +kernel
theorem dX2_init_9 : decode cX2_init 9 = .ok (.putfield 9, 3) := by decide +kernel
theorem dX2_init_12 : decode cX2_init 12 = .ok (.return_, 1) := by decide +kernel
theorem dX2_add_0 : decode cX2_add 0 = .ok (.aload_n 0, 1) := by decide +kernel
theorem dX2_add_1 : decode cX2_add 1 = .ok (.getfield 15, 3) := by decide +kernel
theorem dX2_add_4 : decode cX2_add 4 = .ok (.aload_n 0, 1) := by decide +kernel
theorem dX2_add_5 : decode cX2_add 5 = .ok (.getfield 9, 3) := by decide +kernel
theorem dX2_add_8 : decode cX2_add 8 = .ok (.arraylength, 1) := by decide +kernel
theorem dX2_add_9 : decode cX2_add 9 = .ok (.if_icmp .ge 23, 3) := by decide +kernel
theorem dX2_add_12 : decode cX2_add 12 = .ok (.aload_n 0, 1) := by decide +kernel
theorem dX2_add_13 : decode cX2_add 13 = .ok (.getfield 9, 3) := by decide +kernel
theorem dX2_add_16 : decode cX2_add 16 = .ok (.aload_n 0, 1) := by decide +kernel
theorem dX2_add_17 : decode cX2_add 17 = .ok (.getfield 15, 3) := by decide +kernel
theorem dX2_add_20 : decode cX2_add 20 = .ok (.iload_n 1, 1) := by decide +kernel
theorem dX2_add_21 : decode cX2_add 21 = .ok (.bastore, 1) := by decide +kernel
theorem dX2_add_22 : decode cX2_add 22 = .ok (.aload_n 0, 1) := by decide +kernel
theorem dX2_add_23 : decode cX2_add 23 = .ok (.dup, 1) := by decide +kernel
theorem dX2_add_24 : decode cX2_add 24 = .ok (.getfield 15, 3) := by decide +kernel
theorem dX2_add_27 : decode cX2_add 27 = .ok (.iconst 1, 1) := by decide +kernel
theorem dX2_add_28 : decode cX2_add 28 = .ok (.iadd, 1) := by decide +kernel
theorem dX2_add_29 : decode cX2_add 29 = .ok (.putfield 15, 3) := by decide +kernel
theorem dX2_add_32 : decode cX2_add 32 = .ok (.aload_n 0, 1) := by decide +kernel
theorem dX2_add_33 : decode cX2_add 33 = .ok (.getfield 15, 3) := by decide +kernel
theorem dX2_add_36 : decode cX2_add 36 = .ok (.ireturn, 1) := by decide +kernel
theorem dX2_empty_0 : decode cX2_empty 0 = .ok (.aload_n 0, 1) := by decide +kernel
theorem dX2_empty_1 : decode cX2_empty 1 = .ok (.iconst 0, 1) := by decide +kernel
theorem dX2_empty_2 : decode cX2_empty 2 = .ok (.putfield 15, 3) := by decide +kernel
theorem dX2_empty_5 : decode cX2_empty 5 = .ok (.return_, 1) := by decide +kernel
theorem dX2_reads_0 : decode cX2_reads 0 = .ok (.aload_n 1, 1) := by decide +kernel
theorem dX2_reads_1 : decode cX2_reads 1 = .ok (.invokevirtual 19, 3) := by decide +kernel
theorem dX2_reads_4 : decode cX2_reads 4 = .ok (.aload_n 0, 1) := by decide +kernel
theorem dX2_reads_5 : decode cX2_reads 5 = .ok (.aload_n 1, 1) := by decide +kernel
theorem dX2_reads_6 : decode cX2_reads 6 = .ok (.putfield 24, 3) := by decide +kernel
theorem dX2_reads_9 : decode cX2_reads 9 = .ok (.aload_n 0, 1) := by decide +kernel
theorem dX2_reads_10 : decode cX2_reads 10 = .ok (.iconst 0, 1) := by decide +kernel
theorem dX2_reads_11 : decode cX2_reads 11 = .ok (.putfield 28, 3) := by decide +kernel
theorem dX2_reads_14 : decode cX2_reads 14 = .ok (.iconst 1, 1) := by decide +kernel
theorem dX2_reads_15 : decode cX2_reads 15 = .ok (.istore_n 2, 1) := by decide +kernel
theorem dX2_reads_16 : decode cX2_reads 16 = .ok (.iload_n 2, 1) := by decide +kernel
theorem dX2_reads_17 : decode cX2_reads 17 = .ok (.bipush 10, 2) := by decide +kernel
theorem dX2_reads_19 : decode cX2_reads 19 = .ok (.if_icmp .gt 48, 3) := by decide +kernel
theorem dX2_reads_22 : decode cX2_reads 22 = .ok (.aload_n 0, 1) := by decide +kernel
theorem dX2_reads_23 : decode cX2_reads 23 = .ok (.invokevirtual 31, 3) := by decide +kernel
theorem dX2_reads_26 : decode cX2_reads 26 = .ok (.ifCond .ne 5, 3) := by decide +kernel
theorem dX2_reads_29 : decode cX2_reads 29 = .ok (.iconst 0, 1) := by decide +kernel
theorem dX2_reads_30 : decode cX2_reads 30 = .ok (.ireturn, 1) := by decide +kernel
theorem dX2_reads_31 : decode cX2_reads 31 = .ok (.aload_n 0, 1) := by decide +kernel
theorem dX2_reads_32 : decode cX2_reads 32 = .ok (.getfield 28, 3) := by decide +kernel
theorem dX2_reads_35 : decode cX2_reads 35 = .ok (.aload_n 0, 1) := by decide +kernel
theorem dX2_reads_36 : decode cX2_reads 36 = .ok (.getfield 15, 3) := by decide +kernel
theorem dX2_reads_39 : decode cX2_reads 39 = .ok (.if_icmp .ne 5, 3) := by decide +kernel
theorem dX2_reads_42 : decode cX2_reads 42 = .ok (.iconst 1, 1) := by decide +kernel
theorem dX2_reads_43 : decode cX2_reads 43 = .ok (.ireturn, 1) := by decide +kernel
theorem dX2_reads_44 : decode cX2_reads 44 = .ok (.iload_n 2, 1) := by decide +kernel
theorem dX2_reads_45 : decode cX2_reads 45 = .ok (.bipush 10, 2) := by decide +kernel
theorem dX2_reads_47 : decode cX2_reads 47 = .ok (.if_icmp .eq 12, 3) := by decide +kernel
theorem dX2_reads_50 : decode cX2_reads 50 = .ok (.aload_n 0, 1) := by decide +kernel
theorem dX2_reads_51 : decode cX2_reads 51 = .ok (.bipush 59, 2) := by decide +kernel
theorem dX2_reads_53 : decode cX2_reads 53 = .ok (.invokevirtual 35, 3) := by decide +kernel
theorem dX2_reads_56 : decode cX2_reads 56 = .ok (.ifCond .ne 5, 3) := by decide +kernel
theorem dX2_reads_59 : decode cX2_reads 59 = .ok (.iconst 0, 1) := by decide +kernel
theorem dX2_reads_60 : decode cX2_reads 60 = .ok (.ireturn, 1) := by decide +kernel
theorem dX2_reads_61 : decode cX2_reads 61 = .ok (.iinc 2 1, 3) := by decide +kernel
theorem dX2_reads_64 : decode cX2_reads 64 = .ok (.goto (-48), 3) := by decide +kernel
theorem dX2_reads_67 : decode cX2_reads 67 = .ok (.iconst 0, 1) := by decide +kernel
theorem dX2_reads_68 : decode cX2_reads 68 = .ok (.ireturn, 1) := by decide +kernel
theorem dX2_readsClause_0 : decode cX2_readsClause 0 = .ok (.aload_n 0, 1) := by decide +kernel
theorem dX2_readsClause_1 : decode cX2_readsClause 1 = .ok (.bipush 104, 2) := by decide +kernel
theorem dX2_readsClause_3 : decode cX2_readsClause 3 = .ok (.invokevirtual 39, 3) := by decide +kernel
theorem dX2_readsClause_6 : decode cX2_readsClause 6 = .ok (.ifCond .eq 26, 3) := by decide +kernel
theorem dX2_readsClause_9 : decode cX2_readsClause 9 = .ok (.aload_n 0, 1) := by decide +kernel
theorem dX2_readsClause_10 : decode cX2_readsClause 10 = .ok (.ldc 42, 2) := by decide +kernel
theorem dX2_readsClause_12 : decode cX2_readsClause 12 = .ok (.invokevirtual 44, 3) := by decide +kernel
theorem dX2_readsClause_15 : decode cX2_readsClause 15 = .ok (.ifCond .eq 15, 3) := by decide +kernel
theorem dX2_readsClause_18 : decode cX2_readsClause 18 = .ok (.aload_n 0, 1) := by decide +kernel
theorem dX2_readsClause_19 : decode cX2_readsClause 19 = .ok (.iconst 1, 1) := by decide +kernel
theorem dX2_readsClause_20 : decode cX2_readsClause 20 = .ok (.invokevirtual 48, 3) := by decide +kernel
theorem dX2_readsClause_23 : decode cX2_readsClause 23 = .ok (.ifCond .eq 7, 3) := by decide +kernel
theorem dX2_readsClause_26 : decode cX2_readsClause 26 = .ok (.iconst 1, 1) := by decide +kernel
theorem dX2_readsClause_27 : decode cX2_readsClause 27 = .ok (.goto 4, 3) := by decide +kernel
theorem dX2_readsClause_30 : decode cX2_readsClause 30 = .ok (.iconst 0, 1) := by decide +kernel
theorem dX2_readsClause_31 : decode cX2_readsClause 31 = .ok (.ireturn, 1) := by decide +kernel
theorem dX2_readsClause_32 : decode cX2_readsClause 32 = .ok (.aload_n 0, 1) := by decide +kernel
theorem dX2_readsClause_33 : decode cX2_readsClause 33 = .ok (.bipush 99, 2) := by decide +kernel
theorem dX2_readsClause_35 : decode cX2_readsClause 35 = .ok (.invokevirtual 39, 3) := by decide +kernel
theorem dX2_readsClause_38 : decode cX2_readsClause 38 = .ok (.ifCond .eq 26, 3) := by decide +kernel
theorem dX2_readsClause_41 : decode cX2_readsClause 41 = .ok (.aload_n 0, 1) := by decide +kernel
theorem dX2_readsClause_42 : decode cX2_readsClause 42 = .ok (.ldc 52, 2) := by decide +kernel
theorem dX2_readsClause_44 : decode cX2_readsClause 44 = .ok (.invokevirtual 44, 3) := by decide +kernel
theorem dX2_readsClause_47 : decode cX2_readsClause 47 = .ok (.ifCond .eq 15, 3) := by decide +kernel
theorem dX2_readsClause_50 : decode cX2_readsClause 50 = .ok (.aload_n 0, 1) := by decide +kernel
theorem dX2_readsClause_51 : decode cX2_readsClause 51 = .ok (.iconst (-1), 1) := by decide +kernel
theorem dX2_readsClause_52 : decode cX2_readsClause 52 = .ok (.invokevirtual 48, 3) := by decide +kernel
theorem dX2_readsClause_55 : decode cX2_readsClause 55 = .ok (.ifCond .eq 7, 3) := by decide +kernel
theorem dX2_readsClause_58 : decode cX2_readsClause 58 = .ok (.iconst 1, 1) := by decide +kernel
theorem dX2_readsClause_59 : decode cX2_readsClause 59 = .ok (.goto 4, 3) := by decide +kernel
theorem dX2_readsClause_62 : decode cX2_readsClause 62 = .ok (.iconst 0, 1) := by decide +kernel
theorem dX2_readsClause_63 : decode cX2_readsClause 63 = .ok (.ireturn, 1) := by decide +kernel
theorem dX2_readsClause_64 : decode cX2_readsClause 64 = .ok (.aload_n 0, 1) := by decide +kernel
theorem dX2_readsClause_65 : decode cX2_readsClause 65 = .ok (.ldc 54, 2) := by decide +kernel
theorem dX2_readsClause_67 : decode cX2_readsClause 67 = .ok (.invokevirtual 44, 3) := by decide +kernel
theorem dX2_readsClause_70 : decode cX2_readsClause 70 = .ok (.ifCond .eq 12, 3) := by decide +kernel
theorem dX2_readsClause_73 : decode cX2_readsClause 73 = .ok (.aload_n 0, 1) := by decide +kernel
theorem dX2_readsClause_74 : decode cX2_readsClause 74 = .ok (.bipush 32, 2) := by decide +kernel
theorem dX2_readsClause_76 : decode cX2_readsClause 76 = .ok (.invokevirtual 35, 3) := by decide +kernel
theorem dX2_readsClause_79 : decode cX2_readsClause 79 = .ok (.ifCond .ne 5, 3) := by decide +kernel
theorem dX2_readsClause_82 : decode cX2_readsClause 82 = .ok (.iconst 0, 1) := by decide +kernel
theorem dX2_readsClause_83 : decode cX2_readsClause 83 = .ok (.ireturn, 1) := by decide +kernel
theorem dX2_readsClause_84 : decode cX2_readsClause 84 = .ok (.aload_n 0, 1) := by decide +kernel
theorem dX2_readsClause_85 : decode cX2_readsClause 85 = .ok (.invokevirtual 56, 3) := by decide +kernel
theorem dX2_readsClause_88 : decode cX2_readsClause 88 = .ok (.istore_n 1, 1) := by decide +kernel
theorem dX2_readsClause_89 : decode cX2_readsClause 89 = .ok (.iload_n 1, 1) := by decide +kernel
theorem dX2_readsClause_90 : decode cX2_readsClause 90 = .ok (.ifCond .lt 11, 3) := by decide +kernel
theorem dX2_readsClause_93 : decode cX2_readsClause 93 = .ok (.aload_n 0, 1) := by decide +kernel
theorem dX2_readsClause_94 : decode cX2_readsClause 94 = .ok (.getfield 24, 3) := by decide +kernel
theorem dX2_readsClause_97 : decode cX2_readsClause 97 = .ok (.iload_n 1, 1) := by decide +kernel
theorem dX2_readsClause_98 : decode cX2_readsClause 98 = .ok (.putfield 60, 3) := by decide +kernel
theorem dX2_readsClause_101 : decode cX2_readsClause 101 = .ok (.iload_n 1, 1) := by decide +kernel
theorem dX2_readsClause_102 : decode cX2_readsClause 102 = .ok (.ifCond .lt 7, 3) := by decide +kernel
theorem dX2_readsClause_105 : decode cX2_readsClause 105 = .ok (.iconst 1, 1) := by decide +kernel
theorem dX2_readsClause_106 : decode cX2_readsClause 106 = .ok (.goto 4, 3) := by decide +kernel
theorem dX2_readsClause_109 : decode cX2_readsClause 109 = .ok (.iconst 0, 1) := by decide +kernel
theorem dX2_readsClause_110 : decode cX2_readsClause 110 = .ok (.ireturn, 1) := by decide +kernel
theorem dX2_readsHeat_0 : decode cX2_readsHeat 0 = .ok (.aload_n 0, 1) := by decide +kernel
theorem dX2_readsHeat_1 : decode cX2_readsHeat 1 = .ok (.bipush 32, 2) := by decide +kernel
theorem dX2_readsHeat_3 : decode cX2_readsHeat 3 = .ok (.invokevirtual 35, 3) := by decide +kernel
theorem dX2_readsHeat_6 : decode cX2_readsHeat 6 = .ok (.ifCond .ne 5, 3) := by decide +kernel
theorem dX2_readsHeat_9 : decode cX2_readsHeat 9 = .ok (.iconst 0, 1) := by decide +kernel
theorem dX2_readsHeat_10 : decode cX2_readsHeat 10 = .ok (.ireturn, 1) := by decide +kernel
theorem dX2_readsHeat_11 : decode cX2_readsHeat 11 = .ok (.aload_n 0, 1) := by decide +kernel
theorem dX2_readsHeat_12 : decode cX2_readsHeat 12 = .ok (.invokevirtual 56, 3) := by decide +kernel
theorem dX2_readsHeat_15 : decode cX2_readsHeat 15 = .ok (.istore_n 2, 1) := by decide +kernel
theorem dX2_readsHeat_16 : decode cX2_readsHeat 16 = .ok (.iload_n 2, 1) := by decide +kernel
theorem dX2_readsHeat_17 : decode cX2_readsHeat 17 = .ok (.ifCond .lt 20, 3) := by decide +kernel
theorem dX2_readsHeat_20 : decode cX2_readsHeat 20 = .ok (.aload_n 0, 1) := by decide +kernel
theorem dX2_readsHeat_21 : decode cX2_readsHeat 21 = .ok (.bipush 32, 2) := by decide +kernel
theorem dX2_readsHeat_23 : decode cX2_readsHeat 23 = .ok (.invokevirtual 35, 3) := by decide +kernel
theorem dX2_readsHeat_26 : decode cX2_readsHeat 26 = .ok (.ifCond .eq 11, 3) := by decide +kernel
theorem dX2_readsHeat_29 : decode cX2_readsHeat 29 = .ok (.aload_n 0, 1) := by decide +kernel
theorem dX2_readsHeat_30 : decode cX2_readsHeat 30 = .ok (.iconst 0, 1) := by decide +kernel
theorem dX2_readsHeat_31 : decode cX2_readsHeat 31 = .ok (.invokevirtual 62, 3) := by decide +kernel
theorem dX2_readsHeat_34 : decode cX2_readsHeat 34 = .ok (.ifCond .ne 5, 3) := by decide +kernel
theorem dX2_readsHeat_37 : decode cX2_readsHeat 37 = .ok (.iconst 0, 1) := by decide +kernel
theorem dX2_readsHeat_38 : decode cX2_readsHeat 38 = .ok (.ireturn, 1) := by decide +kernel
theorem dX2_readsHeat_39 : decode cX2_readsHeat 39 = .ok (.aload_n 0, 1) := by decide +kernel
theorem dX2_readsHeat_40 : decode cX2_readsHeat 40 = .ok (.getfield 24, 3) := by decide +kernel
theorem dX2_readsHeat_43 : decode cX2_readsHeat 43 = .ok (.iload_n 1, 1) := by decide +kernel
theorem dX2_readsHeat_44 : decode cX2_readsHeat 44 = .ok (.iload_n 2, 1) := by decide +kernel
theorem dX2_readsHeat_45 : decode cX2_readsHeat 45 = .ok (.imul, 1) := by decide +kernel
theorem dX2_readsHeat_46 : decode cX2_readsHeat 46 = .ok (.invokevirtual 65, 3) := by decide +kernel
theorem dX2_readsHeat_49 : decode cX2_readsHeat 49 = .ok (.iconst 1, 1) := by decide +kernel
theorem dX2_readsHeat_50 : decode cX2_readsHeat 50 = .ok (.ireturn, 1) := by decide +kernel
theorem dX2_readsEither_0 : decode cX2_readsEither 0 = .ok (.aload_n 0, 1) := by decide +kernel
theorem dX2_readsEither_1 : decode cX2_readsEither 1 = .ok (.iload_n 1, 1) := by decide +kernel
theorem dX2_readsEither_2 : decode cX2_readsEither 2 = .ok (.invokevirtual 69, 3) := by decide +kernel
theorem dX2_readsEither_5 : decode cX2_readsEither 5 = .ok (.ifCond .ne 5, 3) := by decide +kernel
theorem dX2_readsEither_8 : decode cX2_readsEither 8 = .ok (.iconst 0, 1) := by decide +kernel
theorem dX2_readsEither_9 : decode cX2_readsEither 9 = .ok (.ireturn, 1) := by decide +kernel
theorem dX2_readsEither_10 : decode cX2_readsEither 10 = .ok (.iconst 0, 1) := by decide +kernel
theorem dX2_readsEither_11 : decode cX2_readsEither 11 = .ok (.istore_n 2, 1) := by decide +kernel
theorem dX2_readsEither_12 : decode cX2_readsEither 12 = .ok (.iload_n 2, 1) := by decide +kernel
theorem dX2_readsEither_13 : decode cX2_readsEither 13 = .ok (.bipush 100, 2) := by decide +kernel
theorem dX2_readsEither_15 : decode cX2_readsEither 15 = .ok (.if_icmp .ge 37, 3) := by decide +kernel
theorem dX2_readsEither_18 : decode cX2_readsEither 18 = .ok (.aload_n 0, 1) := by decide +kernel
theorem dX2_readsEither_19 : decode cX2_readsEither 19 = .ok (.bipush 124, 2) := by decide +kernel
theorem dX2_readsEither_21 : decode cX2_readsEither 21 = .ok (.invokevirtual 35, 3) := by decide +kernel
theorem dX2_readsEither_24 : decode cX2_readsEither 24 = .ok (.ifCond .eq 28, 3) := by decide +kernel
theorem dX2_readsEither_27 : decode cX2_readsEither 27 = .ok (.aload_n 0, 1) := by decide +kernel
theorem dX2_readsEither_28 : decode cX2_readsEither 28 = .ok (.iload_n 1, 1) := by decide +kernel
theorem dX2_readsEither_29 : decode cX2_readsEither 29 = .ok (.invokevirtual 69, 3) := by decide +kernel
theorem dX2_readsEither_32 : decode cX2_readsEither 32 = .ok (.ifCond .ne 5, 3) := by decide +kernel
theorem dX2_readsEither_35 : decode cX2_readsEither 35 = .ok (.iconst 0, 1) := by decide +kernel
theorem dX2_readsEither_36 : decode cX2_readsEither 36 = .ok (.ireturn, 1) := by decide +kernel
theorem dX2_readsEither_37 : decode cX2_readsEither 37 = .ok (.aload_n 0, 1) := by decide +kernel
theorem dX2_readsEither_38 : decode cX2_readsEither 38 = .ok (.getfield 24, 3) := by decide +kernel
theorem dX2_readsEither_41 : decode cX2_readsEither 41 = .ok (.bipush (-3), 2) := by decide +kernel
theorem dX2_readsEither_43 : decode cX2_readsEither 43 = .ok (.invokevirtual 72, 3) := by decide +kernel
theorem dX2_readsEither_46 : decode cX2_readsEither 46 = .ok (.iinc 2 1, 3) := by decide +kernel
theorem dX2_readsEither_49 : decode cX2_readsEither 49 = .ok (.goto (-37), 3) := by decide +kernel
theorem dX2_readsEither_52 : decode cX2_readsEither 52 = .ok (.iconst 1, 1) := by decide +kernel
theorem dX2_readsEither_53 : decode cX2_readsEither 53 = .ok (.ireturn, 1) := by decide +kernel
theorem dX2_readsBoth_0 : decode cX2_readsBoth 0 = .ok (.aload_n 0, 1) := by decide +kernel
theorem dX2_readsBoth_1 : decode cX2_readsBoth 1 = .ok (.iload_n 1, 1) := by decide +kernel
theorem dX2_readsBoth_2 : decode cX2_readsBoth 2 = .ok (.invokevirtual 75, 3) := by decide +kernel
theorem dX2_readsBoth_5 : decode cX2_readsBoth 5 = .ok (.ifCond .ne 5, 3) := by decide +kernel
theorem dX2_readsBoth_8 : decode cX2_readsBoth 8 = .ok (.iconst 0, 1) := by decide +kernel
theorem dX2_readsBoth_9 : decode cX2_readsBoth 9 = .ok (.ireturn, 1) := by decide +kernel
theorem dX2_readsBoth_10 : decode cX2_readsBoth 10 = .ok (.iconst 0, 1) := by decide +kernel
theorem dX2_readsBoth_11 : decode cX2_readsBoth 11 = .ok (.istore_n 2, 1) := by decide +kernel
theorem dX2_readsBoth_12 : decode cX2_readsBoth 12 = .ok (.iload_n 2, 1) := by decide +kernel
theorem dX2_readsBoth_13 : decode cX2_readsBoth 13 = .ok (.bipush 100, 2) := by decide +kernel
theorem dX2_readsBoth_15 : decode cX2_readsBoth 15 = .ok (.if_icmp .ge 37, 3) := by decide +kernel
theorem dX2_readsBoth_18 : decode cX2_readsBoth 18 = .ok (.aload_n 0, 1) := by decide +kernel
theorem dX2_readsBoth_19 : decode cX2_readsBoth 19 = .ok (.bipush 38, 2) := by decide +kernel
theorem dX2_readsBoth_21 : decode cX2_readsBoth 21 = .ok (.invokevirtual 35, 3) := by decide +kernel
theorem dX2_readsBoth_24 : decode cX2_readsBoth 24 = .ok (.ifCond .eq 28, 3) := by decide +kernel
theorem dX2_readsBoth_27 : decode cX2_readsBoth 27 = .ok (.aload_n 0, 1) := by decide +kernel
theorem dX2_readsBoth_28 : decode cX2_readsBoth 28 = .ok (.iload_n 1, 1) := by decide +kernel
theorem dX2_readsBoth_29 : decode cX2_readsBoth 29 = .ok (.invokevirtual 75, 3) := by decide +kernel
theorem dX2_readsBoth_32 : decode cX2_readsBoth 32 = .ok (.ifCond .ne 5, 3) := by decide +kernel
theorem dX2_readsBoth_35 : decode cX2_readsBoth 35 = .ok (.iconst 0, 1) := by decide +kernel
theorem dX2_readsBoth_36 : decode cX2_readsBoth 36 = .ok (.ireturn, 1) := by decide +kernel
theorem dX2_readsBoth_37 : decode cX2_readsBoth 37 = .ok (.aload_n 0, 1) := by decide +kernel
theorem dX2_readsBoth_38 : decode cX2_readsBoth 38 = .ok (.getfield 24, 3) := by decide +kernel
theorem dX2_readsBoth_41 : decode cX2_readsBoth 41 = .ok (.bipush (-2), 2) := by decide +kernel
theorem dX2_readsBoth_43 : decode cX2_readsBoth 43 = .ok (.invokevirtual 72, 3) := by decide +kernel
theorem dX2_readsBoth_46 : decode cX2_readsBoth 46 = .ok (.iinc 2 1, 3) := by decide +kernel
theorem dX2_readsBoth_49 : decode cX2_readsBoth 49 = .ok (.goto (-37), 3) := by decide +kernel
theorem dX2_readsBoth_52 : decode cX2_readsBoth 52 = .ok (.iconst 1, 1) := by decide +kernel
theorem dX2_readsBoth_53 : decode cX2_readsBoth 53 = .ok (.ireturn, 1) := by decide +kernel
theorem dX2_readsFactor_0 : decode cX2_readsFactor 0 = .ok (.aload_n 0, 1) := by decide +kernel
theorem dX2_readsFactor_1 : decode cX2_readsFactor 1 = .ok (.bipush 33, 2) := by decide +kernel
theorem dX2_readsFactor_3 : decode cX2_readsFactor 3 = .ok (.invokevirtual 39, 3) := by decide +kernel
theorem dX2_readsFactor_6 : decode cX2_readsFactor 6 = .ok (.ifCond .ne 17, 3) := by decide +kernel
theorem dX2_readsFactor_9 : decode cX2_readsFactor 9 = .ok (.aload_n 0, 1) := by decide +kernel
theorem dX2_readsFactor_10 : decode cX2_readsFactor 10 = .ok (.bipush 40, 2) := by decide +kernel
theorem dX2_readsFactor_12 : decode cX2_readsFactor 12 = .ok (.invokevirtual 39, 3) := by decide +kernel
theorem dX2_readsFactor_15 : decode cX2_readsFactor 15 = .ok (.ifCond .ne 8, 3) := by decide +kernel
theorem dX2_readsFactor_18 : decode cX2_readsFactor 18 = .ok (.aload_n 0, 1) := by decide +kernel
theorem dX2_readsFactor_19 : decode cX2_readsFactor 19 = .ok (.invokevirtual 78, 3) := by decide +kernel
theorem dX2_readsFactor_22 : decode cX2_readsFactor 22 = .ok (.ireturn, 1) := by decide +kernel
theorem dX2_readsFactor_23 : decode cX2_readsFactor 23 = .ok (.iload_n 1, 1) := by decide +kernel
theorem dX2_readsFactor_24 : decode cX2_readsFactor 24 = .ok (.iconst 4, 1) := by decide +kernel
theorem dX2_readsFactor_25 : decode cX2_readsFactor 25 = .ok (.if_icmp .lt 5, 3) := by decide +kernel
theorem dX2_readsFactor_28 : decode cX2_readsFactor 28 = .ok (.iconst 0, 1) := by decide +kernel
theorem dX2_readsFactor_29 : decode cX2_readsFactor 29 = .ok (.ireturn, 1) := by decide +kernel
theorem dX2_readsFactor_30 : decode cX2_readsFactor 30 = .ok (.aload_n 0, 1) := by decide +kernel
theorem dX2_readsFactor_31 : decode cX2_readsFactor 31 = .ok (.bipush 40, 2) := by decide +kernel
theorem dX2_readsFactor_33 : decode cX2_readsFactor 33 = .ok (.invokevirtual 35, 3) := by decide +kernel
theorem dX2_readsFactor_36 : decode cX2_readsFactor 36 = .ok (.ifCond .eq 28, 3) := by decide +kernel
theorem dX2_readsFactor_39 : decode cX2_readsFactor 39 = .ok (.aload_n 0, 1) := by decide +kernel
theorem dX2_readsFactor_40 : decode cX2_readsFactor 40 = .ok (.iload_n 1, 1) := by decide +kernel
theorem dX2_readsFactor_41 : decode cX2_readsFactor 41 = .ok (.iconst 1, 1) := by decide +kernel
theorem dX2_readsFactor_42 : decode cX2_readsFactor 42 = .ok (.iadd, 1) := by decide +kernel
theorem dX2_readsFactor_43 : decode cX2_readsFactor 43 = .ok (.invokevirtual 62, 3) := by decide +kernel
theorem dX2_readsFactor_46 : decode cX2_readsFactor 46 = .ok (.ifCond .eq 16, 3) := by decide +kernel
theorem dX2_readsFactor_49 : decode cX2_readsFactor 49 = .ok (.aload_n 0, 1) := by decide +kernel
theorem dX2_readsFactor_50 : decode cX2_readsFactor 50 = .ok (.bipush 41, 2) := by decide +kernel
theorem dX2_readsFactor_52 : decode cX2_readsFactor 52 = .ok (.invokevirtual 35, 3) := by decide +kernel
theorem dX2_readsFactor_55 : decode cX2_readsFactor 55 = .ok (.ifCond .eq 7, 3) := by decide +kernel
theorem dX2_readsFactor_58 : decode cX2_readsFactor 58 = .ok (.iconst 1, 1) := by decide +kernel
theorem dX2_readsFactor_59 : decode cX2_readsFactor 59 = .ok (.goto 4, 3) := by decide +kernel
theorem dX2_readsFactor_62 : decode cX2_readsFactor 62 = .ok (.iconst 0, 1) := by decide +kernel
theorem dX2_readsFactor_63 : decode cX2_readsFactor 63 = .ok (.ireturn, 1) := by decide +kernel
theorem dX2_readsFactor_64 : decode cX2_readsFactor 64 = .ok (.aload_n 0, 1) := by decide +kernel
theorem dX2_readsFactor_65 : decode cX2_readsFactor 65 = .ok (.bipush 33, 2) := by decide +kernel
theorem dX2_readsFactor_67 : decode cX2_readsFactor 67 = .ok (.invokevirtual 35, 3) := by decide +kernel
theorem dX2_readsFactor_70 : decode cX2_readsFactor 70 = .ok (.ifCond .eq 13, 3) := by decide +kernel
theorem dX2_readsFactor_73 : decode cX2_readsFactor 73 = .ok (.aload_n 0, 1) := by decide +kernel
theorem dX2_readsFactor_74 : decode cX2_readsFactor 74 = .ok (.iload_n 1, 1) := by decide +kernel
theorem dX2_readsFactor_75 : decode cX2_readsFactor 75 = .ok (.iconst 1, 1) := by decide +kernel
theorem dX2_readsFactor_76 : decode cX2_readsFactor 76 = .ok (.iadd, 1) := by decide +kernel
theorem dX2_readsFactor_77 : decode cX2_readsFactor 77 = .ok (.invokevirtual 75, 3) := by decide +kernel
theorem dX2_readsFactor_80 : decode cX2_readsFactor 80 = .ok (.ifCond .ne 5, 3) := by decide +kernel
theorem dX2_readsFactor_83 : decode cX2_readsFactor 83 = .ok (.iconst 0, 1) := by decide +kernel
theorem dX2_readsFactor_84 : decode cX2_readsFactor 84 = .ok (.ireturn, 1) := by decide +kernel
theorem dX2_readsFactor_85 : decode cX2_readsFactor 85 = .ok (.aload_n 0, 1) := by decide +kernel
theorem dX2_readsFactor_86 : decode cX2_readsFactor 86 = .ok (.getfield 24, 3) := by decide +kernel
theorem dX2_readsFactor_89 : decode cX2_readsFactor 89 = .ok (.iconst (-1), 1) := by decide +kernel
theorem dX2_readsFactor_90 : decode cX2_readsFactor 90 = .ok (.invokevirtual 72, 3) := by decide +kernel
theorem dX2_readsFactor_93 : decode cX2_readsFactor 93 = .ok (.iconst 1, 1) := by decide +kernel
theorem dX2_readsFactor_94 : decode cX2_readsFactor 94 = .ok (.ireturn, 1) := by decide +kernel
theorem dX2_readsTest_0 : decode cX2_readsTest 0 = .ok (.aload_n 0, 1) := by decide +kernel
theorem dX2_readsTest_1 : decode cX2_readsTest 1 = .ok (.ldc 81, 2) := by decide +kernel
theorem dX2_readsTest_3 : decode cX2_readsTest 3 = .ok (.invokevirtual 83, 3) := by decide +kernel
theorem dX2_readsTest_6 : decode cX2_readsTest 6 = .ok (.istore_n 1, 1) := by decide +kernel
theorem dX2_readsTest_7 : decode cX2_readsTest 7 = .ok (.iload_n 1, 1) := by decide +kernel
theorem dX2_readsTest_8 : decode cX2_readsTest 8 = .ok (.ifCond .ge 5, 3) := by decide +kernel
theorem dX2_readsTest_11 : decode cX2_readsTest 11 = .ok (.iconst 0, 1) := by decide +kernel
theorem dX2_readsTest_12 : decode cX2_readsTest 12 = .ok (.ireturn, 1) := by decide +kernel
theorem dX2_readsTest_13 : decode cX2_readsTest 13 = .ok (.aload_n 0, 1) := by decide +kernel
theorem dX2_readsTest_14 : decode cX2_readsTest 14 = .ok (.ldc 87, 2) := by decide +kernel
theorem dX2_readsTest_16 : decode cX2_readsTest 16 = .ok (.invokevirtual 83, 3) := by decide +kernel
theorem dX2_readsTest_19 : decode cX2_readsTest 19 = .ok (.istore_n 2, 1) := by decide +kernel
theorem dX2_readsTest_20 : decode cX2_readsTest 20 = .ok (.iload_n 2, 1) := by decide +kernel
theorem dX2_readsTest_21 : decode cX2_readsTest 21 = .ok (.ifCond .ge 5, 3) := by decide +kernel
theorem dX2_readsTest_24 : decode cX2_readsTest 24 = .ok (.iconst 0, 1) := by decide +kernel
theorem dX2_readsTest_25 : decode cX2_readsTest 25 = .ok (.ireturn, 1) := by decide +kernel
theorem dX2_readsTest_26 : decode cX2_readsTest 26 = .ok (.aload_n 0, 1) := by decide +kernel
theorem dX2_readsTest_27 : decode cX2_readsTest 27 = .ok (.invokevirtual 56, 3) := by decide +kernel
theorem dX2_readsTest_30 : decode cX2_readsTest 30 = .ok (.istore_n 3, 1) := by decide +kernel
theorem dX2_readsTest_31 : decode cX2_readsTest 31 = .ok (.iload_n 3, 1) := by decide +kernel
theorem dX2_readsTest_32 : decode cX2_readsTest 32 = .ok (.ifCond .ge 5, 3) := by decide +kernel
theorem dX2_readsTest_35 : decode cX2_readsTest 35 = .ok (.iconst 0, 1) := by decide +kernel
theorem dX2_readsTest_36 : decode cX2_readsTest 36 = .ok (.ireturn, 1) := by decide +kernel
theorem dX2_readsTest_37 : decode cX2_readsTest 37 = .ok (.aload_n 0, 1) := by decide +kernel
theorem dX2_readsTest_38 : decode cX2_readsTest 38 = .ok (.getfield 24, 3) := by decide +kernel
theorem dX2_readsTest_41 : decode cX2_readsTest 41 = .ok (.iload_n 1, 1) := by decide +kernel
theorem dX2_readsTest_42 : decode cX2_readsTest 42 = .ok (.iload_n 2, 1) := by decide +kernel
theorem dX2_readsTest_43 : decode cX2_readsTest 43 = .ok (.iload_n 3, 1) := by decide +kernel
theorem dX2_readsTest_44 : decode cX2_readsTest 44 = .ok (.invokevirtual 89, 3) := by decide +kernel
theorem dX2_readsTest_47 : decode cX2_readsTest 47 = .ok (.iconst 1, 1) := by decide +kernel
theorem dX2_readsTest_48 : decode cX2_readsTest 48 = .ok (.ireturn, 1) := by decide +kernel
theorem dX2_takeNumber_0 : decode cX2_takeNumber 0 = .ok (.iconst (-1), 1) := by decide +kernel
theorem dX2_takeNumber_1 : decode cX2_takeNumber 1 = .ok (.istore_n 1, 1) := by decide +kernel
theorem dX2_takeNumber_2 : decode cX2_takeNumber 2 = .ok (.iconst 0, 1) := by decide +kernel
theorem dX2_takeNumber_3 : decode cX2_takeNumber 3 = .ok (.istore_n 2, 1) := by decide +kernel
theorem dX2_takeNumber_4 : decode cX2_takeNumber 4 = .ok (.iload_n 2, 1) := by decide +kernel
theorem dX2_takeNumber_5 : decode cX2_takeNumber 5 = .ok (.iconst 2, 1) := by decide +kernel
theorem dX2_takeNumber_6 : decode cX2_takeNumber 6 = .ok (.if_icmp .ge 80, 3) := by decide +kernel
theorem dX2_takeNumber_9 : decode cX2_takeNumber 9 = .ok (.aload_n 0, 1) := by decide +kernel
theorem dX2_takeNumber_10 : decode cX2_takeNumber 10 = .ok (.getfield 28, 3) := by decide +kernel
theorem dX2_takeNumber_13 : decode cX2_takeNumber 13 = .ok (.aload_n 0, 1) := by decide +kernel
theorem dX2_takeNumber_14 : decode cX2_takeNumber 14 = .ok (.getfield 15, 3) := by decide +kernel
theorem dX2_takeNumber_17 : decode cX2_takeNumber 17 = .ok (.if_icmp .ge 69, 3) := by decide +kernel
theorem dX2_takeNumber_20 : decode cX2_takeNumber 20 = .ok (.aload_n 0, 1) := by decide +kernel
theorem dX2_takeNumber_21 : decode cX2_takeNumber 21 = .ok (.getfield 9, 3) := by decide +kernel
theorem dX2_takeNumber_24 : decode cX2_takeNumber 24 = .ok (.aload_n 0, 1) := by decide +kernel
theorem dX2_takeNumber_25 : decode cX2_takeNumber 25 = .ok (.getfield 28, 3) := by decide +kernel
theorem dX2_takeNumber_28 : decode cX2_takeNumber 28 = .ok (.baload, 1) := by decide +kernel
theorem dX2_takeNumber_29 : decode cX2_takeNumber 29 = .ok (.bipush 48, 2) := by decide +kernel
theorem dX2_takeNumber_31 : decode cX2_takeNumber 31 = .ok (.if_icmp .lt 55, 3) := by decide +kernel
theorem dX2_takeNumber_34 : decode cX2_takeNumber 34 = .ok (.aload_n 0, 1) := by decide +kernel
theorem dX2_takeNumber_35 : decode cX2_takeNumber 35 = .ok (.getfield 9, 3) := by decide +kernel
theorem dX2_takeNumber_38 : decode cX2_takeNumber 38 = .ok (.aload_n 0, 1) := by decide +kernel
theorem dX2_takeNumber_39 : decode cX2_takeNumber 39 = .ok (.getfield 28, 3) := by decide +kernel
theorem dX2_takeNumber_42 : decode cX2_takeNumber 42 = .ok (.baload, 1) := by decide +kernel
theorem dX2_takeNumber_43 : decode cX2_takeNumber 43 = .ok (.bipush 57, 2) := by decide +kernel
theorem dX2_takeNumber_45 : decode cX2_takeNumber 45 = .ok (.if_icmp .gt 41, 3) := by decide +kernel
theorem dX2_takeNumber_48 : decode cX2_takeNumber 48 = .ok (.iload_n 1, 1) := by decide +kernel
theorem dX2_takeNumber_49 : decode cX2_takeNumber 49 = .ok (.iconst 0, 1) := by decide +kernel
theorem dX2_takeNumber_50 : decode cX2_takeNumber 50 = .ok (.invokestatic 93, 3) := by decide +kernel
theorem dX2_takeNumber_53 : decode cX2_takeNumber 53 = .ok (.bipush 10, 2) := by decide +kernel
theorem dX2_takeNumber_55 : decode cX2_takeNumber 55 = .ok (.imul, 1) := by decide +kernel
theorem dX2_takeNumber_56 : decode cX2_takeNumber 56 = .ok (.aload_n 0, 1) := by decide +kernel
theorem dX2_takeNumber_57 : decode cX2_takeNumber 57 = .ok (.getfield 9, 3) := by decide +kernel
theorem dX2_takeNumber_60 : decode cX2_takeNumber 60 = .ok (.aload_n 0, 1) := by decide +kernel
theorem dX2_takeNumber_61 : decode cX2_takeNumber 61 = .ok (.getfield 28, 3) := by decide +kernel
theorem dX2_takeNumber_64 : decode cX2_takeNumber 64 = .ok (.baload, 1) := by decide +kernel
theorem dX2_takeNumber_65 : decode cX2_takeNumber 65 = .ok (.iadd, 1) := by decide +kernel
theorem dX2_takeNumber_66 : decode cX2_takeNumber 66 = .ok (.bipush 48, 2) := by decide +kernel
theorem dX2_takeNumber_68 : decode cX2_takeNumber 68 = .ok (.isub, 1) := by decide +kernel
theorem dX2_takeNumber_69 : decode cX2_takeNumber 69 = .ok (.istore_n 1, 1) := by decide +kernel
theorem dX2_takeNumber_70 : decode cX2_takeNumber 70 = .ok (.aload_n 0, 1) := by decide +kernel
theorem dX2_takeNumber_71 : decode cX2_takeNumber 71 = .ok (.dup, 1) := by decide +kernel
theorem dX2_takeNumber_72 : decode cX2_takeNumber 72 = .ok (.getfield 28, 3) := by decide +kernel
theorem dX2_takeNumber_75 : decode cX2_takeNumber 75 = .ok (.iconst 1, 1) := by decide +kernel
theorem dX2_takeNumber_76 : decode cX2_takeNumber 76 = .ok (.iadd, 1) := by decide +kernel
theorem dX2_takeNumber_77 : decode cX2_takeNumber 77 = .ok (.putfield 28, 3) := by decide +kernel
theorem dX2_takeNumber_80 : decode cX2_takeNumber 80 = .ok (.iinc 2 1, 3) := by decide +kernel
theorem dX2_takeNumber_83 : decode cX2_takeNumber 83 = .ok (.goto (-79), 3) := by decide +kernel
theorem dX2_takeNumber_86 : decode cX2_takeNumber 86 = .ok (.iload_n 1, 1) := by decide +kernel
theorem dX2_takeNumber_87 : decode cX2_takeNumber 87 = .ok (.ireturn, 1) := by decide +kernel
theorem dX2_takeOneOf_0 : decode cX2_takeOneOf 0 = .ok (.aload_n 0, 1) := by decide +kernel
theorem dX2_takeOneOf_1 : decode cX2_takeOneOf 1 = .ok (.getfield 28, 3) := by decide +kernel
theorem dX2_takeOneOf_4 : decode cX2_takeOneOf 4 = .ok (.aload_n 0, 1) := by decide +kernel
theorem dX2_takeOneOf_5 : decode cX2_takeOneOf 5 = .ok (.getfield 15, 3) := by decide +kernel
theorem dX2_takeOneOf_8 : decode cX2_takeOneOf 8 = .ok (.if_icmp .ge 20, 3) := by decide +kernel
theorem dX2_takeOneOf_11 : decode cX2_takeOneOf 11 = .ok (.aload_n 1, 1) := by decide +kernel
theorem dX2_takeOneOf_12 : decode cX2_takeOneOf 12 = .ok (.aload_n 0, 1) := by decide +kernel
theorem dX2_takeOneOf_13 : decode cX2_takeOneOf 13 = .ok (.getfield 9, 3) := by decide +kernel
theorem dX2_takeOneOf_16 : decode cX2_takeOneOf 16 = .ok (.aload_n 0, 1) := by decide +kernel
theorem dX2_takeOneOf_17 : decode cX2_takeOneOf 17 = .ok (.getfield 28, 3) := by decide +kernel
theorem dX2_takeOneOf_20 : decode cX2_takeOneOf 20 = .ok (.baload, 1) := by decide +kernel
theorem dX2_takeOneOf_21 : decode cX2_takeOneOf 21 = .ok (.i2c, 1) := by decide +kernel
theorem dX2_takeOneOf_22 : decode cX2_takeOneOf 22 = .ok (.invokevirtual 99, 3) := by decide +kernel
theorem dX2_takeOneOf_25 : decode cX2_takeOneOf 25 = .ok (.goto 4, 3) := by decide +kernel
theorem dX2_takeOneOf_28 : decode cX2_takeOneOf 28 = .ok (.iconst (-1), 1) := by decide +kernel
theorem dX2_takeOneOf_29 : decode cX2_takeOneOf 29 = .ok (.istore_n 2, 1) := by decide +kernel
theorem dX2_takeOneOf_30 : decode cX2_takeOneOf 30 = .ok (.iload_n 2, 1) := by decide +kernel
theorem dX2_takeOneOf_31 : decode cX2_takeOneOf 31 = .ok (.ifCond .lt 13, 3) := by decide +kernel
theorem dX2_takeOneOf_34 : decode cX2_takeOneOf 34 = .ok (.aload_n 0, 1) := by decide +kernel
theorem dX2_takeOneOf_35 : decode cX2_takeOneOf 35 = .ok (.dup, 1) := by decide +kernel
theorem dX2_takeOneOf_36 : decode cX2_takeOneOf 36 = .ok (.getfield 28, 3) := by decide +kernel
theorem dX2_takeOneOf_39 : decode cX2_takeOneOf 39 = .ok (.iconst 1, 1) := by decide +kernel
theorem dX2_takeOneOf_40 : decode cX2_takeOneOf 40 = .ok (.iadd, 1) := by decide +kernel
theorem dX2_takeOneOf_41 : decode cX2_takeOneOf 41 = .ok (.putfield 28, 3) := by decide +kernel
theorem dX2_takeOneOf_44 : decode cX2_takeOneOf 44 = .ok (.iload_n 2, 1) := by decide +kernel
theorem dX2_takeOneOf_45 : decode cX2_takeOneOf 45 = .ok (.ireturn, 1) := by decide +kernel
theorem dX2_takesWord_0 : decode cX2_takesWord 0 = .ok (.iconst 0, 1) := by decide +kernel
theorem dX2_takesWord_1 : decode cX2_takesWord 1 = .ok (.istore_n 2, 1) := by decide +kernel
theorem dX2_takesWord_2 : decode cX2_takesWord 2 = .ok (.iload_n 2, 1) := by decide +kernel
theorem dX2_takesWord_3 : decode cX2_takesWord 3 = .ok (.aload_n 1, 1) := by decide +kernel
theorem dX2_takesWord_4 : decode cX2_takesWord 4 = .ok (.invokevirtual 105, 3) := by decide +kernel
theorem dX2_takesWord_7 : decode cX2_takesWord 7 = .ok (.if_icmp .ge 23, 3) := by decide +kernel
theorem dX2_takesWord_10 : decode cX2_takesWord 10 = .ok (.aload_n 0, 1) := by decide +kernel
theorem dX2_takesWord_11 : decode cX2_takesWord 11 = .ok (.aload_n 1, 1) := by decide +kernel
theorem dX2_takesWord_12 : decode cX2_takesWord 12 = .ok (.iload_n 2, 1) := by decide +kernel
theorem dX2_takesWord_13 : decode cX2_takesWord 13 = .ok (.invokevirtual 108, 3) := by decide +kernel
theorem dX2_takesWord_16 : decode cX2_takesWord 16 = .ok (.invokevirtual 35, 3) := by decide +kernel
theorem dX2_takesWord_19 : decode cX2_takesWord 19 = .ok (.ifCond .ne 5, 3) := by decide +kernel
theorem dX2_takesWord_22 : decode cX2_takesWord 22 = .ok (.iconst 0, 1) := by decide +kernel
theorem dX2_takesWord_23 : decode cX2_takesWord 23 = .ok (.ireturn, 1) := by decide +kernel
theorem dX2_takesWord_24 : decode cX2_takesWord 24 = .ok (.iinc 2 1, 3) := by decide +kernel
theorem dX2_takesWord_27 : decode cX2_takesWord 27 = .ok (.goto (-25), 3) := by decide +kernel
theorem dX2_takesWord_30 : decode cX2_takesWord 30 = .ok (.iconst 1, 1) := by decide +kernel
theorem dX2_takesWord_31 : decode cX2_takesWord 31 = .ok (.ireturn, 1) := by decide +kernel
theorem dX2_takes_0 : decode cX2_takes 0 = .ok (.aload_n 0, 1) := by decide +kernel
theorem dX2_takes_1 : decode cX2_takes 1 = .ok (.iload_n 1, 1) := by decide +kernel
theorem dX2_takes_2 : decode cX2_takes 2 = .ok (.invokevirtual 39, 3) := by decide +kernel
theorem dX2_takes_5 : decode cX2_takes 5 = .ok (.istore_n 2, 1) := by decide +kernel
theorem dX2_takes_6 : decode cX2_takes 6 = .ok (.iload_n 2, 1) := by decide +kernel
theorem dX2_takes_7 : decode cX2_takes 7 = .ok (.ifCond .eq 13, 3) := by decide +kernel
theorem dX2_takes_10 : decode cX2_takes 10 = .ok (.aload_n 0, 1) := by decide +kernel
theorem dX2_takes_11 : decode cX2_takes 11 = .ok (.dup, 1) := by decide +kernel
theorem dX2_takes_12 : decode cX2_takes 12 = .ok (.getfield 28, 3) := by decide +kernel
theorem dX2_takes_15 : decode cX2_takes 15 = .ok (.iconst 1, 1) := by decide +kernel
theorem dX2_takes_16 : decode cX2_takes 16 = .ok (.iadd, 1) := by decide +kernel
theorem dX2_takes_17 : decode cX2_takes 17 = .ok (.putfield 28, 3) := by decide +kernel
theorem dX2_takes_20 : decode cX2_takes 20 = .ok (.iload_n 2, 1) := by decide +kernel
theorem dX2_takes_21 : decode cX2_takes 21 = .ok (.ireturn, 1) := by decide +kernel
theorem dX2_sees_0 : decode cX2_sees 0 = .ok (.aload_n 0, 1) := by decide +kernel
theorem dX2_sees_1 : decode cX2_sees 1 = .ok (.getfield 28, 3) := by decide +kernel
theorem dX2_sees_4 : decode cX2_sees 4 = .ok (.aload_n 0, 1) := by decide +kernel
theorem dX2_sees_5 : decode cX2_sees 5 = .ok (.getfield 15, 3) := by decide +kernel
theorem dX2_sees_8 : decode cX2_sees 8 = .ok (.if_icmp .ge 20, 3) := by decide +kernel
theorem dX2_sees_11 : decode cX2_sees 11 = .ok (.aload_n 0, 1) := by decide +kernel
theorem dX2_sees_12 : decode cX2_sees 12 = .ok (.getfield 9, 3) := by decide +kernel
theorem dX2_sees_15 : decode cX2_sees 15 = .ok (.aload_n 0, 1) := by decide +kernel
theorem dX2_sees_16 : decode cX2_sees 16 = .ok (.getfield 28, 3) := by decide +kernel
theorem dX2_sees_19 : decode cX2_sees 19 = .ok (.baload, 1) := by decide +kernel
theorem dX2_sees_20 : decode cX2_sees 20 = .ok (.iload_n 1, 1) := by decide +kernel
theorem dX2_sees_21 : decode cX2_sees 21 = .ok (.if_icmp .ne 7, 3) := by decide +kernel
theorem dX2_sees_24 : decode cX2_sees 24 = .ok (.iconst 1, 1) := by decide +kernel
theorem dX2_sees_25 : decode cX2_sees 25 = .ok (.goto 4, 3) := by decide +kernel
theorem dX2_sees_28 : decode cX2_sees 28 = .ok (.iconst 0, 1) := by decide +kernel
theorem dX2_sees_29 : decode cX2_sees 29 = .ok (.ireturn, 1) := by decide +kernel
theorem dX3_init_0 : decode cX3_init 0 = .ok (.aload_n 0, 1) := by decide +kernel
theorem dX3_init_1 : decode cX3_init 1 = .ok (.invokespecial 1, 3) := by decide +kernel
theorem dX3_init_4 : decode cX3_init 4 = .ok (.aload_n 0, 1) := by decide +kernel
theorem dX3_init_5 : decode cX3_init 5 = .ok (.iload_n 1, 1) := by decide +kernel
theorem dX3_init_6 : decode cX3_init 6 = .ok (.newarray .int, 2) := by decide +kernel
theorem dX3_init_8 : decode cX3_init 8 = .ok (.putfield 7, 3) := by decide +kernel
theorem dX3_init_11 : decode cX3_init 11 = .ok (.aload_n 0, 1) := by decide +kernel
theorem dX3_init_12 : decode cX3_init 12 = .ok (.iload_n 1, 1) := by decide +kernel
theorem dX3_init_13 : decode cX3_init 13 = .ok (.newarray .int, 2) := by decide +kernel
theorem dX3_init_15 : decode cX3_init 15 = .ok (.putfield 13, 3) := by decide +kernel
theorem dX3_init_18 : decode cX3_init 18 = .ok (.aload_n 0, 1) := by decide +kernel
theorem dX3_init_19 : decode cX3_init 19 = .ok (.iload_n 1, 1) := by decide +kernel
theorem dX3_init_20 : decode cX3_init 20 = .ok (.newarray .int, 2) := by decide +kernel
theorem dX3_init_22 : decode cX3_init 22 = .ok (.putfield 16, 3) := by decide +kernel
theorem dX3_init_25 : decode cX3_init 25 = .ok (.return_, 1) := by decide +kernel
theorem dX3_isFull_0 : decode cX3_isFull 0 = .ok (.aload_n 0, 1) := by decide +kernel
theorem dX3_isFull_1 : decode cX3_isFull 1 = .ok (.getfield 19, 3) := by decide +kernel
theorem dX3_isFull_4 : decode cX3_isFull 4 = .ok (.aload_n 0, 1) := by decide +kernel
theorem dX3_isFull_5 : decode cX3_isFull 5 = .ok (.getfield 7, 3) := by decide +kernel
theorem dX3_isFull_8 : decode cX3_isFull 8 = .ok (.arraylength, 1) := by decide +kernel
theorem dX3_isFull_9 : decode cX3_isFull 9 = .ok (.if_icmp .lt 7, 3) := by decide +kernel
theorem dX3_isFull_12 : decode cX3_isFull 12 = .ok (.iconst 1, 1) := by decide +kernel
theorem dX3_isFull_13 : decode cX3_isFull 13 = .ok (.goto 4, 3) := by decide +kernel
theorem dX3_isFull_16 : decode cX3_isFull 16 = .ok (.iconst 0, 1) := by decide +kernel
theorem dX3_isFull_17 : decode cX3_isFull 17 = .ok (.ireturn, 1) := by decide +kernel
theorem dX3_add_0 : decode cX3_add 0 = .ok (.aload_n 0, 1) := by decide +kernel
theorem dX3_add_1 : decode cX3_add 1 = .ok (.invokevirtual 23, 3) := by decide +kernel
theorem dX3_add_4 : decode cX3_add 4 = .ok (.ifCond .ne 43, 3) := by decide +kernel
theorem dX3_add_7 : decode cX3_add 7 = .ok (.aload_n 0, 1) := by decide +kernel
theorem dX3_add_8 : decode cX3_add 8 = .ok (.getfield 7, 3) := by decide +kernel
theorem dX3_add_11 : decode cX3_add 11 = .ok (.aload_n 0, 1) := by decide +kernel
theorem dX3_add_12 : decode cX3_add 12 = .ok (.getfield 19, 3) := by decide +kernel
theorem dX3_add_15 : decode cX3_add 15 = .ok (.iload_n 1, 1) := by decide +kernel
theorem dX3_add_16 : decode cX3_add 16 = .ok (.iastore, 1) := by decide +kernel
theorem dX3_add_17 : decode cX3_add 17 = .ok (.aload_n 0, 1) := by decide +kernel
theorem dX3_add_18 : decode cX3_add 18 = .ok (.getfield 13, 3) := by decide +kernel
theorem dX3_add_21 : decode cX3_add 21 = .ok (.aload_n 0, 1) := by decide +kernel
theorem dX3_add_22 : decode cX3_add 22 = .ok (.getfield 19, 3) := by decide +kernel
theorem dX3_add_25 : decode cX3_add 25 = .ok (.iload_n 2, 1) := by decide +kernel
theorem dX3_add_26 : decode cX3_add 26 = .ok (.iastore, 1) := by decide +kernel
theorem dX3_add_27 : decode cX3_add 27 = .ok (.aload_n 0, 1) := by decide +kernel
theorem dX3_add_28 : decode cX3_add 28 = .ok (.getfield 16, 3) := by decide +kernel
theorem dX3_add_31 : decode cX3_add 31 = .ok (.aload_n 0, 1) := by decide +kernel
theorem dX3_add_32 : decode cX3_add 32 = .ok (.getfield 19, 3) := by decide +kernel
theorem dX3_add_35 : decode cX3_add 35 = .ok (.iload_n 3, 1) := by decide +kernel
theorem dX3_add_36 : decode cX3_add 36 = .ok (.iastore, 1) := by decide +kernel
theorem dX3_add_37 : decode cX3_add 37 = .ok (.aload_n 0, 1) := by decide +kernel
theorem dX3_add_38 : decode cX3_add 38 = .ok (.dup, 1) := by decide +kernel
theorem dX3_add_39 : decode cX3_add 39 = .ok (.getfield 19, 3) := by decide +kernel
theorem dX3_add_42 : decode cX3_add 42 = .ok (.iconst 1, 1) := by decide +kernel
theorem dX3_add_43 : decode cX3_add 43 = .ok (.iadd, 1) := by decide +kernel
theorem dX3_add_44 : decode cX3_add 44 = .ok (.putfield 19, 3) := by decide +kernel
theorem dX3_add_47 : decode cX3_add 47 = .ok (.aload_n 0, 1) := by decide +kernel
theorem dX3_add_48 : decode cX3_add 48 = .ok (.getfield 19, 3) := by decide +kernel
theorem dX3_add_51 : decode cX3_add 51 = .ok (.ireturn, 1) := by decide +kernel
theorem dX3_empty_0 : decode cX3_empty 0 = .ok (.aload_n 0, 1) := by decide +kernel
theorem dX3_empty_1 : decode cX3_empty 1 = .ok (.iconst 0, 1) := by decide +kernel
theorem dX3_empty_2 : decode cX3_empty 2 = .ok (.putfield 19, 3) := by decide +kernel
theorem dX3_empty_5 : decode cX3_empty 5 = .ok (.aload_n 0, 1) := by decide +kernel
theorem dX3_empty_6 : decode cX3_empty 6 = .ok (.getfield 19, 3) := by decide +kernel
theorem dX3_empty_9 : decode cX3_empty 9 = .ok (.ireturn, 1) := by decide +kernel
theorem dX3_become_0 : decode cX3_become 0 = .ok (.aload_n 0, 1) := by decide +kernel
theorem dX3_become_1 : decode cX3_become 1 = .ok (.aload_n 1, 1) := by decide +kernel
theorem dX3_become_2 : decode cX3_become 2 = .ok (.getfield 19, 3) := by decide +kernel
theorem dX3_become_5 : decode cX3_become 5 = .ok (.putfield 19, 3) := by decide +kernel
theorem dX3_become_8 : decode cX3_become 8 = .ok (.iconst 0, 1) := by decide +kernel
theorem dX3_become_9 : decode cX3_become 9 = .ok (.istore_n 2, 1) := by decide +kernel
theorem dX3_become_10 : decode cX3_become 10 = .ok (.iload_n 2, 1) := by decide +kernel
theorem dX3_become_11 : decode cX3_become 11 = .ok (.aload_n 0, 1) := by decide +kernel
theorem dX3_become_12 : decode cX3_become 12 = .ok (.getfield 19, 3) := by decide +kernel
theorem dX3_become_15 : decode cX3_become 15 = .ok (.if_icmp .ge 54, 3) := by decide +kernel
theorem dX3_become_18 : decode cX3_become 18 = .ok (.iload_n 2, 1) := by decide +kernel
theorem dX3_become_19 : decode cX3_become 19 = .ok (.aload_n 0, 1) := by decide +kernel
theorem dX3_become_20 : decode cX3_become 20 = .ok (.getfield 7, 3) := by decide +kernel
theorem dX3_become_23 : decode cX3_become 23 = .ok (.arraylength, 1) := by decide +kernel
theorem dX3_become_24 : decode cX3_become 24 = .ok (.if_icmp .ge 45, 3) := by decide +kernel
theorem dX3_become_27 : decode cX3_become 27 = .ok (.aload_n 0, 1) := by decide +kernel
theorem dX3_become_28 : decode cX3_become 28 = .ok (.getfield 7, 3) := by decide +kernel
theorem dX3_become_31 : decode cX3_become 31 = .ok (.iload_n 2, 1) := by decide +kernel
theorem dX3_become_32 : decode cX3_become 32 = .ok (.aload_n 1, 1) := by decide +kernel
theorem dX3_become_33 : decode cX3_become 33 = .ok (.getfield 7, 3) := by decide +kernel
theorem dX3_become_36 : decode cX3_become 36 = .ok (.iload_n 2, 1) := by decide +kernel
theorem dX3_become_37 : decode cX3_become 37 = .ok (.iaload, 1) := by decide +kernel
theorem dX3_become_38 : decode cX3_become 38 = .ok (.iastore, 1) := by decide +kernel
theorem dX3_become_39 : decode cX3_become 39 = .ok (.aload_n 0, 1) := by decide +kernel
theorem dX3_become_40 : decode cX3_become 40 = .ok (.getfield 13, 3) := by decide +kernel
theorem dX3_become_43 : decode cX3_become 43 = .ok (.iload_n 2, 1) := by decide +kernel
theorem dX3_become_44 : decode cX3_become 44 = .ok (.aload_n 1, 1) := by decide +kernel
theorem dX3_become_45 : decode cX3_become 45 = .ok (.getfield 13, 3) := by decide +kernel
theorem dX3_become_48 : decode cX3_become 48 = .ok (.iload_n 2, 1) := by decide +kernel
theorem dX3_become_49 : decode cX3_become 49 = .ok (.iaload, 1) := by decide +kernel
theorem dX3_become_50 : decode cX3_become 50 = .ok (.iastore, 1) := by decide +kernel
theorem dX3_become_51 : decode cX3_become 51 = .ok (.aload_n 0, 1) := by decide +kernel
theorem dX3_become_52 : decode cX3_become 52 = .ok (.getfield 16, 3) := by decide +kernel
theorem dX3_become_55 : decode cX3_become 55 = .ok (.iload_n 2, 1) := by decide +kernel
theorem dX3_become_56 : decode cX3_become 56 = .ok (.aload_n 1, 1) := by decide +kernel
theorem dX3_become_57 : decode cX3_become 57 = .ok (.getfield 16, 3) := by decide +kernel
theorem dX3_become_60 : decode cX3_become 60 = .ok (.iload_n 2, 1) := by decide +kernel
theorem dX3_become_61 : decode cX3_become 61 = .ok (.iaload, 1) := by decide +kernel
theorem dX3_become_62 : decode cX3_become 62 = .ok (.iastore, 1) := by decide +kernel
theorem dX3_become_63 : decode cX3_become 63 = .ok (.iinc 2 1, 3) := by decide +kernel
theorem dX3_become_66 : decode cX3_become 66 = .ok (.goto (-56), 3) := by decide +kernel
theorem dX3_become_69 : decode cX3_become 69 = .ok (.return_, 1) := by decide +kernel
theorem dX4_init_0 : decode cX4_init 0 = .ok (.aload_n 0, 1) := by decide +kernel
theorem dX4_init_1 : decode cX4_init 1 = .ok (.invokespecial 3, 3) := by decide +kernel
theorem dX4_init_4 : decode cX4_init 4 = .ok (.aload_n 0, 1) := by decide +kernel
theorem dX4_init_5 : decode cX4_init 5 = .ok (.bipush 80, 2) := by decide +kernel
theorem dX4_init_7 : decode cX4_init 7 = .ok (.putfield 9, 3) := by decide +kernel
theorem dX4_init_10 : decode cX4_init 10 = .ok (.aload_n 0, 1) := by decide +kernel
theorem dX4_init_11 : decode cX4_init 11 = .ok (.bipush 100, 2) := by decide +kernel
theorem dX4_init_13 : decode cX4_init 13 = .ok (.newarray .int, 2) := by decide +kernel
theorem dX4_init_15 : decode cX4_init 15 = .ok (.putfield 15, 3) := by decide +kernel
theorem dX4_init_18 : decode cX4_init 18 = .ok (.aload_n 0, 1) := by decide +kernel
theorem dX4_init_19 : decode cX4_init 19 = .ok (.bipush 10, 2) := by decide +kernel
theorem dX4_init_21 : decode cX4_init 21 = .ok (.newarray .int, 2) := by decide +kernel
theorem dX4_init_23 : decode cX4_init 23 = .ok (.putfield 19, 3) := by decide +kernel
theorem dX4_init_26 : decode cX4_init 26 = .ok (.return_, 1) := by decide +kernel
theorem dX4_empty_0 : decode cX4_empty 0 = .ok (.aload_n 0, 1) := by decide +kernel
theorem dX4_empty_1 : decode cX4_empty 1 = .ok (.bipush 80, 2) := by decide +kernel
theorem dX4_empty_3 : decode cX4_empty 3 = .ok (.putfield 9, 3) := by decide +kernel
theorem dX4_empty_6 : decode cX4_empty 6 = .ok (.aload_n 0, 1) := by decide +kernel
theorem dX4_empty_7 : decode cX4_empty 7 = .ok (.iconst 0, 1) := by decide +kernel
theorem dX4_empty_8 : decode cX4_empty 8 = .ok (.putfield 22, 3) := by decide +kernel
theorem dX4_empty_11 : decode cX4_empty 11 = .ok (.aload_n 0, 1) := by decide +kernel
theorem dX4_empty_12 : decode cX4_empty 12 = .ok (.iconst 0, 1) := by decide +kernel
theorem dX4_empty_13 : decode cX4_empty 13 = .ok (.putfield 25, 3) := by decide +kernel
theorem dX4_empty_16 : decode cX4_empty 16 = .ok (.return_, 1) := by decide +kernel
theorem dX4_addTest_0 : decode cX4_addTest 0 = .ok (.aload_n 0, 1) := by decide +kernel
theorem dX4_addTest_1 : decode cX4_addTest 1 = .ok (.iload_n 3, 1) := by decide +kernel
theorem dX4_addTest_2 : decode cX4_addTest 2 = .ok (.iconst 5, 1) := by decide +kernel
theorem dX4_addTest_3 : decode cX4_addTest 3 = .ok (.ishl, 1) := by decide +kernel
theorem dX4_addTest_4 : decode cX4_addTest 4 = .ok (.iload_n 2, 1) := by decide +kernel
theorem dX4_addTest_5 : decode cX4_addTest 5 = .ok (.iconst 3, 1) := by decide +kernel
theorem dX4_addTest_6 : decode cX4_addTest 6 = .ok (.ishl, 1) := by decide +kernel
theorem dX4_addTest_7 : decode cX4_addTest 7 = .ok (.ior, 1) := by decide +kernel
theorem dX4_addTest_8 : decode cX4_addTest 8 = .ok (.iload_n 1, 1) := by decide +kernel
theorem dX4_addTest_9 : decode cX4_addTest 9 = .ok (.ior, 1) := by decide +kernel
theorem dX4_addTest_10 : decode cX4_addTest 10 = .ok (.invokevirtual 28, 3) := by decide +kernel
theorem dX4_addTest_13 : decode cX4_addTest 13 = .ok (.return_, 1) := by decide +kernel
theorem dX4_addStep_0 : decode cX4_addStep 0 = .ok (.aload_n 0, 1) := by decide +kernel
theorem dX4_addStep_1 : decode cX4_addStep 1 = .ok (.getfield 22, 3) := by decide +kernel
theorem dX4_addStep_4 : decode cX4_addStep 4 = .ok (.aload_n 0, 1) := by decide +kernel
theorem dX4_addStep_5 : decode cX4_addStep 5 = .ok (.getfield 15, 3) := by decide +kernel
theorem dX4_addStep_8 : decode cX4_addStep 8 = .ok (.arraylength, 1) := by decide +kernel
theorem dX4_addStep_9 : decode cX4_addStep 9 = .ok (.if_icmp .ge 23, 3) := by decide +kernel
theorem dX4_addStep_12 : decode cX4_addStep 12 = .ok (.aload_n 0, 1) := by decide +kernel
theorem dX4_addStep_13 : decode cX4_addStep 13 = .ok (.getfield 15, 3) := by decide +kernel
theorem dX4_addStep_16 : decode cX4_addStep 16 = .ok (.aload_n 0, 1) := by decide +kernel
theorem dX4_addStep_17 : decode cX4_addStep 17 = .ok (.getfield 22, 3) := by decide +kernel
theorem dX4_addStep_20 : decode cX4_addStep 20 = .ok (.iload_n 1, 1) := by decide +kernel
theorem dX4_addStep_21 : decode cX4_addStep 21 = .ok (.iastore, 1) := by decide +kernel
theorem dX4_addStep_22 : decode cX4_addStep 22 = .ok (.aload_n 0, 1) := by decide +kernel
theorem dX4_addStep_23 : decode cX4_addStep 23 = .ok (.dup, 1) := by decide +kernel
theorem dX4_addStep_24 : decode cX4_addStep 24 = .ok (.getfield 22, 3) := by decide +kernel
theorem dX4_addStep_27 : decode cX4_addStep 27 = .ok (.iconst 1, 1) := by decide +kernel
theorem dX4_addStep_28 : decode cX4_addStep 28 = .ok (.iadd, 1) := by decide +kernel
theorem dX4_addStep_29 : decode cX4_addStep 29 = .ok (.putfield 22, 3) := by decide +kernel
theorem dX4_addStep_32 : decode cX4_addStep 32 = .ok (.return_, 1) := by decide +kernel
theorem dX4_addClause_0 : decode cX4_addClause 0 = .ok (.aload_n 0, 1) := by decide +kernel
theorem dX4_addClause_1 : decode cX4_addClause 1 = .ok (.getfield 25, 3) := by decide +kernel
theorem dX4_addClause_4 : decode cX4_addClause 4 = .ok (.aload_n 0, 1) := by decide +kernel
theorem dX4_addClause_5 : decode cX4_addClause 5 = .ok (.getfield 19, 3) := by decide +kernel
theorem dX4_addClause_8 : decode cX4_addClause 8 = .ok (.arraylength, 1) := by decide +kernel
theorem dX4_addClause_9 : decode cX4_addClause 9 = .ok (.if_icmp .ge 29, 3) := by decide +kernel
theorem dX4_addClause_12 : decode cX4_addClause 12 = .ok (.aload_n 0, 1) := by decide +kernel
theorem dX4_addClause_13 : decode cX4_addClause 13 = .ok (.getfield 19, 3) := by decide +kernel
theorem dX4_addClause_16 : decode cX4_addClause 16 = .ok (.aload_n 0, 1) := by decide +kernel
theorem dX4_addClause_17 : decode cX4_addClause 17 = .ok (.getfield 25, 3) := by decide +kernel
theorem dX4_addClause_20 : decode cX4_addClause 20 = .ok (.iload_n 1, 1) := by decide +kernel
theorem dX4_addClause_21 : decode cX4_addClause 21 = .ok (.iastore, 1) := by decide +kernel
theorem dX4_addClause_22 : decode cX4_addClause 22 = .ok (.aload_n 0, 1) := by decide +kernel
theorem dX4_addClause_23 : decode cX4_addClause 23 = .ok (.dup, 1) := by decide +kernel
theorem dX4_addClause_24 : decode cX4_addClause 24 = .ok (.getfield 25, 3) := by decide +kernel
theorem dX4_addClause_27 : decode cX4_addClause 27 = .ok (.iconst 1, 1) := by decide +kernel
theorem dX4_addClause_28 : decode cX4_addClause 28 = .ok (.iadd, 1) := by decide +kernel
theorem dX4_addClause_29 : decode cX4_addClause 29 = .ok (.putfield 25, 3) := by decide +kernel
theorem dX4_addClause_32 : decode cX4_addClause 32 = .ok (.aload_n 0, 1) := by decide +kernel
theorem dX4_addClause_33 : decode cX4_addClause 33 = .ok (.bipush (-4), 2) := by decide +kernel
theorem dX4_addClause_35 : decode cX4_addClause 35 = .ok (.invokevirtual 28, 3) := by decide +kernel
theorem dX4_addClause_38 : decode cX4_addClause 38 = .ok (.return_, 1) := by decide +kernel
theorem dX4_sum_0 : decode cX4_sum 0 = .ok (.iconst 0, 1) := by decide +kernel
theorem dX4_sum_1 : decode cX4_sum 1 = .ok (.istore_n 2, 1) := by decide +kernel
theorem dX4_sum_2 : decode cX4_sum 2 = .ok (.iconst 0, 1) := by decide +kernel
theorem dX4_sum_3 : decode cX4_sum 3 = .ok (.istore_n 3, 1) := by decide +kernel
theorem dX4_sum_4 : decode cX4_sum 4 = .ok (.iconst 0, 1) := by decide +kernel
theorem dX4_sum_5 : decode cX4_sum 5 = .ok (.istore 4, 2) := by decide +kernel
theorem dX4_sum_7 : decode cX4_sum 7 = .ok (.iconst 0, 1) := by decide +kernel
theorem dX4_sum_8 : decode cX4_sum 8 = .ok (.istore 5, 2) := by decide +kernel
theorem dX4_sum_10 : decode cX4_sum 10 = .ok (.iload 5, 2) := by decide +kernel
theorem dX4_sum_12 : decode cX4_sum 12 = .ok (.aload_n 0, 1) := by decide +kernel
theorem dX4_sum_13 : decode cX4_sum 13 = .ok (.getfield 22, 3) := by decide +kernel
theorem dX4_sum_16 : decode cX4_sum 16 = .ok (.if_icmp .ge 140, 3) := by decide +kernel
theorem dX4_sum_19 : decode cX4_sum 19 = .ok (.aload_n 0, 1) := by decide +kernel
theorem dX4_sum_20 : decode cX4_sum 20 = .ok (.getfield 15, 3) := by decide +kernel
theorem dX4_sum_23 : decode cX4_sum 23 = .ok (.iload 5, 2) := by decide +kernel
theorem dX4_sum_25 : decode cX4_sum 25 = .ok (.iaload, 1) := by decide +kernel
theorem dX4_sum_26 : decode cX4_sum 26 = .ok (.istore 6, 2) := by decide +kernel
theorem dX4_sum_28 : decode cX4_sum 28 = .ok (.iload 4, 2) := by decide +kernel
theorem dX4_sum_30 : decode cX4_sum 30 = .ok (.iconst 1, 1) := by decide +kernel
theorem dX4_sum_31 : decode cX4_sum 31 = .ok (.iand, 1) := by decide +kernel
theorem dX4_sum_32 : decode cX4_sum 32 = .ok (.istore 7, 2) := by decide +kernel
theorem dX4_sum_34 : decode cX4_sum 34 = .ok (.iload 6, 2) := by decide +kernel
theorem dX4_sum_36 : decode cX4_sum 36 = .ok (.ifCond .lt 25, 3) := by decide +kernel
theorem dX4_sum_39 : decode cX4_sum 39 = .ok (.iload 4, 2) := by decide +kernel
theorem dX4_sum_41 : decode cX4_sum 41 = .ok (.iconst 1, 1) := by decide +kernel
theorem dX4_sum_42 : decode cX4_sum 42 = .ok (.ishl, 1) := by decide +kernel
theorem dX4_sum_43 : decode cX4_sum 43 = .ok (.iload 6, 2) := by decide +kernel
theorem dX4_sum_45 : decode cX4_sum 45 = .ok (.aload_n 1, 1) := by decide +kernel
theorem dX4_sum_46 : decode cX4_sum 46 = .ok (.iload 6, 2) := by decide +kernel
theorem dX4_sum_48 : decode cX4_sum 48 = .ok (.bipush 7, 2) := by decide +kernel
theorem dX4_sum_50 : decode cX4_sum 50 = .ok (.iand, 1) := by decide +kernel
theorem dX4_sum_51 : decode cX4_sum 51 = .ok (.iaload, 1) := by decide +kernel
theorem dX4_sum_52 : decode cX4_sum 52 = .ok (.invokestatic 32, 3) := by decide +kernel
theorem dX4_sum_55 : decode cX4_sum 55 = .ok (.ior, 1) := by decide +kernel
theorem dX4_sum_56 : decode cX4_sum 56 = .ok (.istore 4, 2) := by decide +kernel
theorem dX4_sum_58 : decode cX4_sum 58 = .ok (.goto 92, 3) := by decide +kernel
theorem dX4_sum_61 : decode cX4_sum 61 = .ok (.iload 6, 2) := by decide +kernel
theorem dX4_sum_63 : decode cX4_sum 63 = .ok (.iconst (-1), 1) := by decide +kernel
theorem dX4_sum_64 : decode cX4_sum 64 = .ok (.if_icmp .ne 12, 3) := by decide +kernel
theorem dX4_sum_67 : decode cX4_sum 67 = .ok (.iload 4, 2) := by decide +kernel
theorem dX4_sum_69 : decode cX4_sum 69 = .ok (.iconst 1, 1) := by decide +kernel
theorem dX4_sum_70 : decode cX4_sum 70 = .ok (.ixor, 1) := by decide +kernel
theorem dX4_sum_71 : decode cX4_sum 71 = .ok (.istore 4, 2) := by decide +kernel
theorem dX4_sum_73 : decode cX4_sum 73 = .ok (.goto 77, 3) := by decide +kernel
theorem dX4_sum_76 : decode cX4_sum 76 = .ok (.iload 6, 2) := by decide +kernel
theorem dX4_sum_78 : decode cX4_sum 78 = .ok (.bipush (-2), 2) := by decide +kernel
theorem dX4_sum_80 : decode cX4_sum 80 = .ok (.if_icmp .ne 18, 3) := by decide +kernel
theorem dX4_sum_83 : decode cX4_sum 83 = .ok (.iload 4, 2) := by decide +kernel
theorem dX4_sum_85 : decode cX4_sum 85 = .ok (.iconst 1, 1) := by decide +kernel
theorem dX4_sum_86 : decode cX4_sum 86 = .ok (.ishr, 1) := by decide +kernel
theorem dX4_sum_87 : decode cX4_sum 87 = .ok (.iload 7, 2) := by decide +kernel
theorem dX4_sum_89 : decode cX4_sum 89 = .ok (.bipush (-2), 2) := by decide +kernel
theorem dX4_sum_91 : decode cX4_sum 91 = .ok (.ior, 1) := by decide +kernel
theorem dX4_sum_92 : decode cX4_sum 92 = .ok (.iand, 1) := by decide +kernel
theorem dX4_sum_93 : decode cX4_sum 93 = .ok (.istore 4, 2) := by decide +kernel
theorem dX4_sum_95 : decode cX4_sum 95 = .ok (.goto 55, 3) := by decide +kernel
theorem dX4_sum_98 : decode cX4_sum 98 = .ok (.iload 6, 2) := by decide +kernel
theorem dX4_sum_100 : decode cX4_sum 100 = .ok (.bipush (-3), 2) := by decide +kernel
theorem dX4_sum_102 : decode cX4_sum 102 = .ok (.if_icmp .ne 15, 3) := by decide +kernel
theorem dX4_sum_105 : decode cX4_sum 105 = .ok (.iload 4, 2) := by decide +kernel
theorem dX4_sum_107 : decode cX4_sum 107 = .ok (.iconst 1, 1) := by decide +kernel
theorem dX4_sum_108 : decode cX4_sum 108 = .ok (.ishr, 1) := by decide +kernel
theorem dX4_sum_109 : decode cX4_sum 109 = .ok (.iload 7, 2) := by decide +kernel
theorem dX4_sum_111 : decode cX4_sum 111 = .ok (.ior, 1) := by decide +kernel
theorem dX4_sum_112 : decode cX4_sum 112 = .ok (.istore 4, 2) := by decide +kernel
theorem dX4_sum_114 : decode cX4_sum 114 = .ok (.goto 36, 3) := by decide +kernel
theorem dX4_sum_117 : decode cX4_sum 117 = .ok (.iload_n 3, 1) := by decide +kernel
theorem dX4_sum_118 : decode cX4_sum 118 = .ok (.aload_n 0, 1) := by decide +kernel
theorem dX4_sum_119 : decode cX4_sum 119 = .ok (.getfield 25, 3) := by decide +kernel
theorem dX4_sum_122 : decode cX4_sum 122 = .ok (.if_icmp .ge 28, 3) := by decide +kernel
theorem dX4_sum_125 : decode cX4_sum 125 = .ok (.iload_n 2, 1) := by decide +kernel
theorem dX4_sum_126 : decode cX4_sum 126 = .ok (.iload 7, 2) := by decide +kernel
theorem dX4_sum_128 : decode cX4_sum 128 = .ok (.iconst 1, 1) := by decide +kernel
theorem dX4_sum_129 : decode cX4_sum 129 = .ok (.if_icmp .ne 12, 3) := by decide +kernel
theorem dX4_sum_132 : decode cX4_sum 132 = .ok (.aload_n 0, 1) := by decide +kernel
theorem dX4_sum_133 : decode cX4_sum 133 = .ok (.getfield 19, 3) := by decide +kernel
theorem dX4_sum_136 : decode cX4_sum 136 = .ok (.iload_n 3, 1) := by decide +kernel
theorem dX4_sum_137 : decode cX4_sum 137 = .ok (.iaload, 1) := by decide +kernel
theorem dX4_sum_138 : decode cX4_sum 138 = .ok (.goto 4, 3) := by decide +kernel
theorem dX4_sum_141 : decode cX4_sum 141 = .ok (.iconst 0, 1) := by decide +kernel
theorem dX4_sum_142 : decode cX4_sum 142 = .ok (.iadd, 1) := by decide +kernel
theorem dX4_sum_143 : decode cX4_sum 143 = .ok (.istore_n 2, 1) := by decide +kernel
theorem dX4_sum_144 : decode cX4_sum 144 = .ok (.iinc 3 1, 3) := by decide +kernel
theorem dX4_sum_147 : decode cX4_sum 147 = .ok (.iconst 0, 1) := by decide +kernel
theorem dX4_sum_148 : decode cX4_sum 148 = .ok (.istore 4, 2) := by decide +kernel
theorem dX4_sum_150 : decode cX4_sum 150 = .ok (.iinc 5 1, 3) := by decide +kernel
theorem dX4_sum_153 : decode cX4_sum 153 = .ok (.goto (-143), 3) := by decide +kernel
theorem dX4_sum_156 : decode cX4_sum 156 = .ok (.iload_n 2, 1) := by decide +kernel
theorem dX4_sum_157 : decode cX4_sum 157 = .ok (.ireturn, 1) := by decide +kernel
theorem dX4_test_0 : decode cX4_test 0 = .ok (.iload_n 0, 1) := by decide +kernel
theorem dX4_test_1 : decode cX4_test 1 = .ok (.iconst 5, 1) := by decide +kernel
theorem dX4_test_2 : decode cX4_test 2 = .ok (.ishr, 1) := by decide +kernel
theorem dX4_test_3 : decode cX4_test 3 = .ok (.istore_n 2, 1) := by decide +kernel
theorem dX4_test_4 : decode cX4_test 4 = .ok (.iload_n 0, 1) := by decide +kernel
theorem dX4_test_5 : decode cX4_test 5 = .ok (.iconst 3, 1) := by decide +kernel
theorem dX4_test_6 : decode cX4_test 6 = .ok (.ishr, 1) := by decide +kernel
theorem dX4_test_7 : decode cX4_test 7 = .ok (.iconst 3, 1) := by decide +kernel
theorem dX4_test_8 : decode cX4_test 8 = .ok (.iand, 1) := by decide +kernel
theorem dX4_test_9 : decode cX4_test 9 = .ok (.lookupswitch 49 #[(0, 27), (1, 38)], 27) := by decide +kernel
theorem dX4_test_36 : decode cX4_test 36 = .ok (.iload_n 1, 1) := by decide +kernel
theorem dX4_test_37 : decode cX4_test 37 = .ok (.iload_n 2, 1) := by decide +kernel
theorem dX4_test_38 : decode cX4_test 38 = .ok (.if_icmp .ge 7, 3) := by decide +kernel
theorem dX4_test_41 : decode cX4_test 41 = .ok (.iconst 1, 1) := by decide +kernel
theorem dX4_test_42 : decode cX4_test 42 = .ok (.goto 4, 3) := by decide +kernel
theorem dX4_test_45 : decode cX4_test 45 = .ok (.iconst 0, 1) := by decide +kernel
theorem dX4_test_46 : decode cX4_test 46 = .ok (.ireturn, 1) := by decide +kernel
theorem dX4_test_47 : decode cX4_test 47 = .ok (.iload_n 1, 1) := by decide +kernel
theorem dX4_test_48 : decode cX4_test 48 = .ok (.iload_n 2, 1) := by decide +kernel
theorem dX4_test_49 : decode cX4_test 49 = .ok (.if_icmp .ne 7, 3) := by decide +kernel
theorem dX4_test_52 : decode cX4_test 52 = .ok (.iconst 1, 1) := by decide +kernel
theorem dX4_test_53 : decode cX4_test 53 = .ok (.goto 4, 3) := by decide +kernel
theorem dX4_test_56 : decode cX4_test 56 = .ok (.iconst 0, 1) := by decide +kernel
theorem dX4_test_57 : decode cX4_test 57 = .ok (.ireturn, 1) := by decide +kernel
theorem dX4_test_58 : decode cX4_test 58 = .ok (.iload_n 1, 1) := by decide +kernel
theorem dX4_test_59 : decode cX4_test 59 = .ok (.iload_n 2, 1) := by decide +kernel
theorem dX4_test_60 : decode cX4_test 60 = .ok (.if_icmp .le 7, 3) := by decide +kernel
theorem dX4_test_63 : decode cX4_test 63 = .ok (.iconst 1, 1) := by decide +kernel
theorem dX4_test_64 : decode cX4_test 64 = .ok (.goto 4, 3) := by decide +kernel
theorem dX4_test_67 : decode cX4_test 67 = .ok (.iconst 0, 1) := by decide +kernel
theorem dX4_test_68 : decode cX4_test 68 = .ok (.ireturn, 1) := by decide +kernel
theorem dX5_init_0 : decode cX5_init 0 = .ok (.aload_n 0, 1) := by decide +kernel
theorem dX5_init_1 : decode cX5_init 1 = .ok (.invokespecial 3, 3) := by decide +kernel
theorem dX5_init_4 : decode cX5_init 4 = .ok (.aload_n 0, 1) := by decide +kernel
theorem dX5_init_5 : decode cX5_init 5 = .ok (.bipush 6, 2) := by decide +kernel
theorem dX5_init_7 : decode cX5_init 7 = .ok (.newarray .int, 2) := by decide +kernel
theorem dX5_init_9 : decode cX5_init 9 = .ok (.putfield 9, 3) := by decide +kernel
theorem dX5_init_12 : decode cX5_init 12 = .ok (.aload_n 0, 1) := by decide +kernel
theorem dX5_init_13 : decode cX5_init 13 = .ok (.bipush 6, 2) := by decide +kernel
theorem dX5_init_15 : decode cX5_init 15 = .ok (.newarray .int, 2) := by decide +kernel
theorem dX5_init_17 : decode cX5_init 17 = .ok (.putfield 15, 3) := by decide +kernel
theorem dX5_init_20 : decode cX5_init 20 = .ok (.aload_n 0, 1) := by decide +kernel
theorem dX5_init_21 : decode cX5_init 21 = .ok (.bipush 6, 2) := by decide +kernel
theorem dX5_init_23 : decode cX5_init 23 = .ok (.bipush 60, 2) := by decide +kernel
theorem dX5_init_25 : decode cX5_init 25 = .ok (.multianewarray 18 2, 4) := by decide +kernel
theorem dX5_init_29 : decode cX5_init 29 = .ok (.putfield 20, 3) := by decide +kernel
theorem dX5_init_32 : decode cX5_init 32 = .ok (.iconst 0, 1) := by decide +kernel
theorem dX5_init_33 : decode cX5_init 33 = .ok (.istore_n 1, 1) := by decide +kernel
theorem dX5_init_34 : decode cX5_init 34 = .ok (.iload_n 1, 1) := by decide +kernel
theorem dX5_init_35 : decode cX5_init 35 = .ok (.bipush 6, 2) := by decide +kernel
theorem dX5_init_37 : decode cX5_init 37 = .ok (.if_icmp .ge 16, 3) := by decide +kernel
theorem dX5_init_40 : decode cX5_init 40 = .ok (.aload_n 0, 1) := by decide +kernel
theorem dX5_init_41 : decode cX5_init 41 = .ok (.getfield 9, 3) := by decide +kernel
theorem dX5_init_44 : decode cX5_init 44 = .ok (.iload_n 1, 1) := by decide +kernel
theorem dX5_init_45 : decode cX5_init 45 = .ok (.iconst (-1), 1) := by decide +kernel
theorem dX5_init_46 : decode cX5_init 46 = .ok (.iastore, 1) := by decide +kernel
theorem dX5_init_47 : decode cX5_init 47 = .ok (.iinc 1 1, 3) := by decide +kernel
theorem dX5_init_50 : decode cX5_init 50 = .ok (.goto (-16), 3) := by decide +kernel
theorem dX5_init_53 : decode cX5_init 53 = .ok (.return_, 1) := by decide +kernel
theorem dX5_has_0 : decode cX5_has 0 = .ok (.iload_n 1, 1) := by decide +kernel
theorem dX5_has_1 : decode cX5_has 1 = .ok (.ifCond .lt 13, 3) := by decide +kernel
theorem dX5_has_4 : decode cX5_has 4 = .ok (.iload_n 1, 1) := by decide +kernel
theorem dX5_has_5 : decode cX5_has 5 = .ok (.bipush 6, 2) := by decide +kernel
theorem dX5_has_7 : decode cX5_has 7 = .ok (.if_icmp .ge 7, 3) := by decide +kernel
theorem dX5_has_10 : decode cX5_has 10 = .ok (.iconst 1, 1) := by decide +kernel
theorem dX5_has_11 : decode cX5_has 11 = .ok (.goto 4, 3) := by decide +kernel
theorem dX5_has_14 : decode cX5_has 14 = .ok (.iconst 0, 1) := by decide +kernel
theorem dX5_has_15 : decode cX5_has 15 = .ok (.ireturn, 1) := by decide +kernel
theorem dX5_holds_0 : decode cX5_holds 0 = .ok (.aload_n 0, 1) := by decide +kernel
theorem dX5_holds_1 : decode cX5_holds 1 = .ok (.getfield 9, 3) := by decide +kernel
theorem dX5_holds_4 : decode cX5_holds 4 = .ok (.iload_n 1, 1) := by decide +kernel
theorem dX5_holds_5 : decode cX5_holds 5 = .ok (.iaload, 1) := by decide +kernel
theorem dX5_holds_6 : decode cX5_holds 6 = .ok (.iconst (-1), 1) := by decide +kernel
theorem dX5_holds_7 : decode cX5_holds 7 = .ok (.if_icmp .eq 7, 3) := by decide +kernel
theorem dX5_holds_10 : decode cX5_holds 10 = .ok (.iconst 1, 1) := by decide +kernel
theorem dX5_holds_11 : decode cX5_holds 11 = .ok (.goto 4, 3) := by decide +kernel
theorem dX5_holds_14 : decode cX5_holds 14 = .ok (.iconst 0, 1) := by decide +kernel
theorem dX5_holds_15 : decode cX5_holds 15 = .ok (.ireturn, 1) := by decide +kernel
theorem dX5_hasItems_0 : decode cX5_hasItems 0 = .ok (.iload_n 3, 1) := by decide +kernel
theorem dX5_hasItems_1 : decode cX5_hasItems 1 = .ok (.ifCond .lt 33, 3) := by decide +kernel
theorem dX5_hasItems_4 : decode cX5_hasItems 4 = .ok (.iload_n 3, 1) := by decide +kernel
theorem dX5_hasItems_5 : decode cX5_hasItems 5 = .ok (.aload_n 0, 1) := by decide +kernel
theorem dX5_hasItems_6 : decode cX5_hasItems 6 = .ok (.getfield 15, 3) := by decide +kernel
theorem dX5_hasItems_9 : decode cX5_hasItems 9 = .ok (.iload_n 1, 1) := by decide +kernel
theorem dX5_hasItems_10 : decode cX5_hasItems 10 = .ok (.iaload, 1) := by decide +kernel
theorem dX5_hasItems_11 : decode cX5_hasItems 11 = .ok (.if_icmp .gt 23, 3) := by decide +kernel
theorem dX5_hasItems_14 : decode cX5_hasItems 14 = .ok (.iload_n 2, 1) := by decide +kernel
theorem dX5_hasItems_15 : decode cX5_hasItems 15 = .ok (.ifCond .lt 19, 3) := by decide +kernel
theorem dX5_hasItems_18 : decode cX5_hasItems 18 = .ok (.iload_n 2, 1) := by decide +kernel
theorem dX5_hasItems_19 : decode cX5_hasItems 19 = .ok (.aload_n 0, 1) := by decide +kernel
theorem dX5_hasItems_20 : decode cX5_hasItems 20 = .ok (.getfield 15, 3) := by decide +kernel
theorem dX5_hasItems_23 : decode cX5_hasItems 23 = .ok (.iload_n 1, 1) := by decide +kernel
theorem dX5_hasItems_24 : decode cX5_hasItems 24 = .ok (.iaload, 1) := by decide +kernel
theorem dX5_hasItems_25 : decode cX5_hasItems 25 = .ok (.iload_n 3, 1) := by decide +kernel
theorem dX5_hasItems_26 : decode cX5_hasItems 26 = .ok (.isub, 1) := by decide +kernel
theorem dX5_hasItems_27 : decode cX5_hasItems 27 = .ok (.if_icmp .gt 7, 3) := by decide +kernel
theorem dX5_hasItems_30 : decode cX5_hasItems 30 = .ok (.iconst 1, 1) := by decide +kernel
theorem dX5_hasItems_31 : decode cX5_hasItems 31 = .ok (.goto 4, 3) := by decide +kernel
theorem dX5_hasItems_34 : decode cX5_hasItems 34 = .ok (.iconst 0, 1) := by decide +kernel
theorem dX5_hasItems_35 : decode cX5_hasItems 35 = .ok (.ireturn, 1) := by decide +kernel
theorem dX5_become_0 : decode cX5_become 0 = .ok (.aload_n 0, 1) := by decide +kernel
theorem dX5_become_1 : decode cX5_become 1 = .ok (.getfield 9, 3) := by decide +kernel
theorem dX5_become_4 : decode cX5_become 4 = .ok (.iload_n 1, 1) := by decide +kernel
theorem dX5_become_5 : decode cX5_become 5 = .ok (.iload_n 2, 1) := by decide +kernel
theorem dX5_become_6 : decode cX5_become 6 = .ok (.iastore, 1) := by decide +kernel
theorem dX5_become_7 : decode cX5_become 7 = .ok (.aload_n 0, 1) := by decide +kernel
theorem dX5_become_8 : decode cX5_become 8 = .ok (.getfield 15, 3) := by decide +kernel
theorem dX5_become_11 : decode cX5_become 11 = .ok (.iload_n 1, 1) := by decide +kernel
theorem dX5_become_12 : decode cX5_become 12 = .ok (.iload_n 3, 1) := by decide +kernel
theorem dX5_become_13 : decode cX5_become 13 = .ok (.iastore, 1) := by decide +kernel
theorem dX5_become_14 : decode cX5_become 14 = .ok (.iconst 0, 1) := by decide +kernel
theorem dX5_become_15 : decode cX5_become 15 = .ok (.istore 4, 2) := by decide +kernel
theorem dX5_become_17 : decode cX5_become 17 = .ok (.iload 4, 2) := by decide +kernel
theorem dX5_become_19 : decode cX5_become 19 = .ok (.iload_n 3, 1) := by decide +kernel
theorem dX5_become_20 : decode cX5_become 20 = .ok (.if_icmp .ge 19, 3) := by decide +kernel
theorem dX5_become_23 : decode cX5_become 23 = .ok (.aload_n 0, 1) := by decide +kernel
theorem dX5_become_24 : decode cX5_become 24 = .ok (.getfield 20, 3) := by decide +kernel
theorem dX5_become_27 : decode cX5_become 27 = .ok (.iload_n 1, 1) := by decide +kernel
theorem dX5_become_28 : decode cX5_become 28 = .ok (.aaload, 1) := by decide +kernel
theorem dX5_become_29 : decode cX5_become 29 = .ok (.iload 4, 2) := by decide +kernel
theorem dX5_become_31 : decode cX5_become 31 = .ok (.lconst 0, 1) := by decide +kernel
theorem dX5_become_32 : decode cX5_become 32 = .ok (.lastore, 1) := by decide +kernel
theorem dX5_become_33 : decode cX5_become 33 = .ok (.iinc 4 1, 3) := by decide +kernel
theorem dX5_become_36 : decode cX5_become 36 = .ok (.goto (-19), 3) := by decide +kernel
theorem dX5_become_39 : decode cX5_become 39 = .ok (.iconst 1, 1) := by decide +kernel
theorem dX5_become_40 : decode cX5_become 40 = .ok (.ireturn, 1) := by decide +kernel
theorem dX5_put_0 : decode cX5_put 0 = .ok (.aload_n 0, 1) := by decide +kernel
theorem dX5_put_1 : decode cX5_put 1 = .ok (.getfield 20, 3) := by decide +kernel
theorem dX5_put_4 : decode cX5_put 4 = .ok (.iload_n 1, 1) := by decide +kernel
theorem dX5_put_5 : decode cX5_put 5 = .ok (.aaload, 1) := by decide +kernel
theorem dX5_put_6 : decode cX5_put 6 = .ok (.iload_n 2, 1) := by decide +kernel
theorem dX5_put_7 : decode cX5_put 7 = .ok (.aload_n 0, 1) := by decide +kernel
theorem dX5_put_8 : decode cX5_put 8 = .ok (.getfield 9, 3) := by decide +kernel
theorem dX5_put_11 : decode cX5_put 11 = .ok (.iload_n 1, 1) := by decide +kernel
theorem dX5_put_12 : decode cX5_put 12 = .ok (.iaload, 1) := by decide +kernel
theorem dX5_put_13 : decode cX5_put 13 = .ok (.lload_n 3, 1) := by decide +kernel
theorem dX5_put_14 : decode cX5_put 14 = .ok (.invokestatic 23, 3) := by decide +kernel
theorem dX5_put_17 : decode cX5_put 17 = .ok (.lastore, 1) := by decide +kernel
theorem dX5_put_18 : decode cX5_put 18 = .ok (.iconst 1, 1) := by decide +kernel
theorem dX5_put_19 : decode cX5_put 19 = .ok (.ireturn, 1) := by decide +kernel
theorem dX5_cut_0 : decode cX5_cut 0 = .ok (.iload_n 0, 1) := by decide +kernel
theorem dX5_cut_1 : decode cX5_cut 1 = .ok (.tableswitch 47 0 3 #[31, 36, 41, 45], 31) := by decide +kernel
theorem dX5_cut_32 : decode cX5_cut 32 = .ok (.lload_n 1, 1) := by decide +kernel
theorem dX5_cut_33 : decode cX5_cut 33 = .ok (.l2i, 1) := by decide +kernel
theorem dX5_cut_34 : decode cX5_cut 34 = .ok (.i2b, 1) := by decide +kernel
theorem dX5_cut_35 : decode cX5_cut 35 = .ok (.i2l, 1) := by decide +kernel
theorem dX5_cut_36 : decode cX5_cut 36 = .ok (.lreturn, 1) := by decide +kernel
theorem dX5_cut_37 : decode cX5_cut 37 = .ok (.lload_n 1, 1) := by decide +kernel
theorem dX5_cut_38 : decode cX5_cut 38 = .ok (.l2i, 1) := by decide +kernel
theorem dX5_cut_39 : decode cX5_cut 39 = .ok (.i2s, 1) := by decide +kernel
theorem dX5_cut_40 : decode cX5_cut 40 = .ok (.i2l, 1) := by decide +kernel
theorem dX5_cut_41 : decode cX5_cut 41 = .ok (.lreturn, 1) := by decide +kernel
theorem dX5_cut_42 : decode cX5_cut 42 = .ok (.lload_n 1, 1) := by decide +kernel
theorem dX5_cut_43 : decode cX5_cut 43 = .ok (.l2i, 1) := by decide +kernel
theorem dX5_cut_44 : decode cX5_cut 44 = .ok (.i2l, 1) := by decide +kernel
theorem dX5_cut_45 : decode cX5_cut 45 = .ok (.lreturn, 1) := by decide +kernel
theorem dX5_cut_46 : decode cX5_cut 46 = .ok (.lload_n 1, 1) := by decide +kernel
theorem dX5_cut_47 : decode cX5_cut 47 = .ok (.lreturn, 1) := by decide +kernel
theorem dX5_cut_48 : decode cX5_cut 48 = .ok (.lload_n 1, 1) := by decide +kernel
theorem dX5_cut_49 : decode cX5_cut 49 = .ok (.lconst 0, 1) := by decide +kernel
theorem dX5_cut_50 : decode cX5_cut 50 = .ok (.lcmp, 1) := by decide +kernel
theorem dX5_cut_51 : decode cX5_cut 51 = .ok (.ifCond .eq 7, 3) := by decide +kernel
theorem dX5_cut_54 : decode cX5_cut 54 = .ok (.iconst 1, 1) := by decide +kernel
theorem dX5_cut_55 : decode cX5_cut 55 = .ok (.goto 4, 3) := by decide +kernel
theorem dX5_cut_58 : decode cX5_cut 58 = .ok (.iconst 0, 1) := by decide +kernel
theorem dX5_cut_59 : decode cX5_cut 59 = .ok (.invokestatic 27, 3) := by decide +kernel
theorem dX5_cut_62 : decode cX5_cut 62 = .ok (.i2l, 1) := by decide +kernel
theorem dX5_cut_63 : decode cX5_cut 63 = .ok (.lreturn, 1) := by decide +kernel
theorem dX6_init_0 : decode cX6_init 0 = .ok (.aload_n 0, 1) := by decide +kernel
theorem dX6_init_1 : decode cX6_init 1 = .ok (.invokespecial 3, 3) := by decide +kernel
theorem dX6_init_4 : decode cX6_init 4 = .ok (.aload_n 0, 1) := by decide +kernel
theorem dX6_init_5 : decode cX6_init 5 = .ok (.bipush 6, 2) := by decide +kernel
theorem dX6_init_7 : decode cX6_init 7 = .ok (.newarray .int, 2) := by decide +kernel
theorem dX6_init_9 : decode cX6_init 9 = .ok (.putfield 9, 3) := by decide +kernel
theorem dX6_init_12 : decode cX6_init 12 = .ok (.aload_n 0, 1) := by decide +kernel
theorem dX6_init_13 : decode cX6_init 13 = .ok (.bipush 6, 2) := by decide +kernel
theorem dX6_init_15 : decode cX6_init 15 = .ok (.newarray .int, 2) := by decide +kernel
theorem dX6_init_17 : decode cX6_init 17 = .ok (.putfield 15, 3) := by decide +kernel
theorem dX6_init_20 : decode cX6_init 20 = .ok (.aload_n 0, 1) := by decide +kernel
theorem dX6_init_21 : decode cX6_init 21 = .ok (.bipush 6, 2) := by decide +kernel
theorem dX6_init_23 : decode cX6_init 23 = .ok (.newarray .int, 2) := by decide +kernel
theorem dX6_init_25 : decode cX6_init 25 = .ok (.putfield 18, 3) := by decide +kernel
theorem dX6_init_28 : decode cX6_init 28 = .ok (.aload_n 0, 1) := by decide +kernel
theorem dX6_init_29 : decode cX6_init 29 = .ok (.bipush 6, 2) := by decide +kernel
theorem dX6_init_31 : decode cX6_init 31 = .ok (.newarray .boolean, 2) := by decide +kernel
theorem dX6_init_33 : decode cX6_init 33 = .ok (.putfield 21, 3) := by decide +kernel
theorem dX6_init_36 : decode cX6_init 36 = .ok (.aload_n 0, 1) := by decide +kernel
theorem dX6_init_37 : decode cX6_init 37 = .ok (.bipush 24, 2) := by decide +kernel
theorem dX6_init_39 : decode cX6_init 39 = .ok (.newarray .int, 2) := by decide +kernel
theorem dX6_init_41 : decode cX6_init 41 = .ok (.putfield 25, 3) := by decide +kernel
theorem dX6_init_44 : decode cX6_init 44 = .ok (.aload_n 0, 1) := by decide +kernel
theorem dX6_init_45 : decode cX6_init 45 = .ok (.iconst 4, 1) := by decide +kernel
theorem dX6_init_46 : decode cX6_init 46 = .ok (.newarray .int, 2) := by decide +kernel
theorem dX6_init_48 : decode cX6_init 48 = .ok (.putfield 28, 3) := by decide +kernel
theorem dX6_init_51 : decode cX6_init 51 = .ok (.aload_n 0, 1) := by decide +kernel
theorem dX6_init_52 : decode cX6_init 52 = .ok (.iconst 4, 1) := by decide +kernel
theorem dX6_init_53 : decode cX6_init 53 = .ok (.newarray .int, 2) := by decide +kernel
theorem dX6_init_55 : decode cX6_init 55 = .ok (.putfield 31, 3) := by decide +kernel
theorem dX6_init_58 : decode cX6_init 58 = .ok (.aload_n 0, 1) := by decide +kernel
theorem dX6_init_59 : decode cX6_init 59 = .ok (.iconst 4, 1) := by decide +kernel
theorem dX6_init_60 : decode cX6_init 60 = .ok (.newarray .int, 2) := by decide +kernel
theorem dX6_init_62 : decode cX6_init 62 = .ok (.putfield 34, 3) := by decide +kernel
theorem dX6_init_65 : decode cX6_init 65 = .ok (.aload_n 0, 1) := by decide +kernel
theorem dX6_init_66 : decode cX6_init 66 = .ok (.iconst (-1), 1) := by decide +kernel
theorem dX6_init_67 : decode cX6_init 67 = .ok (.putfield 37, 3) := by decide +kernel
theorem dX6_init_70 : decode cX6_init 70 = .ok (.aload_n 0, 1) := by decide +kernel
theorem dX6_init_71 : decode cX6_init 71 = .ok (.bipush 6, 2) := by decide +kernel
theorem dX6_init_73 : decode cX6_init 73 = .ok (.newarray .int, 2) := by decide +kernel
theorem dX6_init_75 : decode cX6_init 75 = .ok (.putfield 41, 3) := by decide +kernel
theorem dX6_init_78 : decode cX6_init 78 = .ok (.aload_n 0, 1) := by decide +kernel
theorem dX6_init_79 : decode cX6_init 79 = .ok (.bipush 8, 2) := by decide +kernel
theorem dX6_init_81 : decode cX6_init 81 = .ok (.newarray .int, 2) := by decide +kernel
theorem dX6_init_83 : decode cX6_init 83 = .ok (.putfield 46, 3) := by decide +kernel
theorem dX6_init_86 : decode cX6_init 86 = .ok (.return_, 1) := by decide +kernel
theorem dX6_hasOne_0 : decode cX6_hasOne 0 = .ok (.iload_n 1, 1) := by decide +kernel
theorem dX6_hasOne_1 : decode cX6_hasOne 1 = .ok (.ifCond .lt 15, 3) := by decide +kernel
theorem dX6_hasOne_4 : decode cX6_hasOne 4 = .ok (.iload_n 1, 1) := by decide +kernel
theorem dX6_hasOne_5 : decode cX6_hasOne 5 = .ok (.aload_n 0, 1) := by decide +kernel
theorem dX6_hasOne_6 : decode cX6_hasOne 6 = .ok (.getfield 49, 3) := by decide +kernel
theorem dX6_hasOne_9 : decode cX6_hasOne 9 = .ok (.if_icmp .ge 7, 3) := by decide +kernel
theorem dX6_hasOne_12 : decode cX6_hasOne 12 = .ok (.iconst 1, 1) := by decide +kernel
theorem dX6_hasOne_13 : decode cX6_hasOne 13 = .ok (.goto 4, 3) := by decide +kernel
theorem dX6_hasOne_16 : decode cX6_hasOne 16 = .ok (.iconst 0, 1) := by decide +kernel
theorem dX6_hasOne_17 : decode cX6_hasOne 17 = .ok (.ireturn, 1) := by decide +kernel
theorem dX6_hasWork_0 : decode cX6_hasWork 0 = .ok (.iload_n 1, 1) := by decide +kernel
theorem dX6_hasWork_1 : decode cX6_hasWork 1 = .ok (.ifCond .lt 15, 3) := by decide +kernel
theorem dX6_hasWork_4 : decode cX6_hasWork 4 = .ok (.iload_n 1, 1) := by decide +kernel
theorem dX6_hasWork_5 : decode cX6_hasWork 5 = .ok (.aload_n 0, 1) := by decide +kernel
theorem dX6_hasWork_6 : decode cX6_hasWork 6 = .ok (.getfield 52, 3) := by decide +kernel
theorem dX6_hasWork_9 : decode cX6_hasWork 9 = .ok (.if_icmp .ge 7, 3) := by decide +kernel
theorem dX6_hasWork_12 : decode cX6_hasWork 12 = .ok (.iconst 1, 1) := by decide +kernel
theorem dX6_hasWork_13 : decode cX6_hasWork 13 = .ok (.goto 4, 3) := by decide +kernel
theorem dX6_hasWork_16 : decode cX6_hasWork 16 = .ok (.iconst 0, 1) := by decide +kernel
theorem dX6_hasWork_17 : decode cX6_hasWork 17 = .ok (.ireturn, 1) := by decide +kernel
theorem dX6_addOne_0 : decode cX6_addOne 0 = .ok (.aload_n 0, 1) := by decide +kernel
theorem dX6_addOne_1 : decode cX6_addOne 1 = .ok (.getfield 49, 3) := by decide +kernel
theorem dX6_addOne_4 : decode cX6_addOne 4 = .ok (.istore 4, 2) := by decide +kernel
theorem dX6_addOne_6 : decode cX6_addOne 6 = .ok (.aload_n 0, 1) := by decide +kernel
theorem dX6_addOne_7 : decode cX6_addOne 7 = .ok (.getfield 9, 3) := by decide +kernel
theorem dX6_addOne_10 : decode cX6_addOne 10 = .ok (.iload 4, 2) := by decide +kernel
theorem dX6_addOne_12 : decode cX6_addOne 12 = .ok (.iload_n 1, 1) := by decide +kernel
theorem dX6_addOne_13 : decode cX6_addOne 13 = .ok (.iastore, 1) := by decide +kernel
theorem dX6_addOne_14 : decode cX6_addOne 14 = .ok (.aload_n 0, 1) := by decide +kernel
theorem dX6_addOne_15 : decode cX6_addOne 15 = .ok (.getfield 15, 3) := by decide +kernel
theorem dX6_addOne_18 : decode cX6_addOne 18 = .ok (.iload 4, 2) := by decide +kernel
theorem dX6_addOne_20 : decode cX6_addOne 20 = .ok (.iload_n 2, 1) := by decide +kernel
theorem dX6_addOne_21 : decode cX6_addOne 21 = .ok (.iastore, 1) := by decide +kernel
theorem dX6_addOne_22 : decode cX6_addOne 22 = .ok (.aload_n 0, 1) := by decide +kernel
theorem dX6_addOne_23 : decode cX6_addOne 23 = .ok (.getfield 18, 3) := by decide +kernel
theorem dX6_addOne_26 : decode cX6_addOne 26 = .ok (.iload 4, 2) := by decide +kernel
theorem dX6_addOne_28 : decode cX6_addOne 28 = .ok (.iload_n 3, 1) := by decide +kernel
theorem dX6_addOne_29 : decode cX6_addOne 29 = .ok (.iastore, 1) := by decide +kernel
theorem dX6_addOne_30 : decode cX6_addOne 30 = .ok (.aload_n 0, 1) := by decide +kernel
theorem dX6_addOne_31 : decode cX6_addOne 31 = .ok (.getfield 21, 3) := by decide +kernel
theorem dX6_addOne_34 : decode cX6_addOne 34 = .ok (.iload 4, 2) := by decide +kernel
theorem dX6_addOne_36 : decode cX6_addOne 36 = .ok (.iconst 0, 1) := by decide +kernel
theorem dX6_addOne_37 : decode cX6_addOne 37 = .ok (.bastore, 1) := by decide +kernel
theorem dX6_addOne_38 : decode cX6_addOne 38 = .ok (.iconst 0, 1) := by decide +kernel
theorem dX6_addOne_39 : decode cX6_addOne 39 = .ok (.istore 5, 2) := by decide +kernel
theorem dX6_addOne_41 : decode cX6_addOne 41 = .ok (.iload 5, 2) := by decide +kernel
theorem dX6_addOne_43 : decode cX6_addOne 43 = .ok (.iconst 4, 1) := by decide +kernel
theorem dX6_addOne_44 : decode cX6_addOne 44 = .ok (.if_icmp .ge 22, 3) := by decide +kernel
theorem dX6_addOne_47 : decode cX6_addOne 47 = .ok (.aload_n 0, 1) := by decide +kernel
theorem dX6_addOne_48 : decode cX6_addOne 48 = .ok (.getfield 25, 3) := by decide +kernel
theorem dX6_addOne_51 : decode cX6_addOne 51 = .ok (.iload 4, 2) := by decide +kernel
theorem dX6_addOne_53 : decode cX6_addOne 53 = .ok (.iconst 4, 1) := by decide +kernel
theorem dX6_addOne_54 : decode cX6_addOne 54 = .ok (.imul, 1) := by decide +kernel
theorem dX6_addOne_55 : decode cX6_addOne 55 = .ok (.iload 5, 2) := by decide +kernel
theorem dX6_addOne_57 : decode cX6_addOne 57 = .ok (.iadd, 1) := by decide +kernel
theorem dX6_addOne_58 : decode cX6_addOne 58 = .ok (.iconst 0, 1) := by decide +kernel
theorem dX6_addOne_59 : decode cX6_addOne 59 = .ok (.iastore, 1) := by decide +kernel
theorem dX6_addOne_60 : decode cX6_addOne 60 = .ok (.iinc 5 1, 3) := by decide +kernel
theorem dX6_addOne_63 : decode cX6_addOne 63 = .ok (.goto (-22), 3) := by decide +kernel
theorem dX6_addOne_66 : decode cX6_addOne 66 = .ok (.aload_n 0, 1) := by decide +kernel
theorem dX6_addOne_67 : decode cX6_addOne 67 = .ok (.dup, 1) := by decide +kernel
theorem dX6_addOne_68 : decode cX6_addOne 68 = .ok (.getfield 49, 3) := by decide +kernel
theorem dX6_addOne_71 : decode cX6_addOne 71 = .ok (.iconst 1, 1) := by decide +kernel
theorem dX6_addOne_72 : decode cX6_addOne 72 = .ok (.iadd, 1) := by decide +kernel
theorem dX6_addOne_73 : decode cX6_addOne 73 = .ok (.putfield 49, 3) := by decide +kernel
theorem dX6_addOne_76 : decode cX6_addOne 76 = .ok (.iload 4, 2) := by decide +kernel
theorem dX6_addOne_78 : decode cX6_addOne 78 = .ok (.ireturn, 1) := by decide +kernel
theorem dX6_addWork_0 : decode cX6_addWork 0 = .ok (.aload_n 0, 1) := by decide +kernel
theorem dX6_addWork_1 : decode cX6_addWork 1 = .ok (.getfield 52, 3) := by decide +kernel
theorem dX6_addWork_4 : decode cX6_addWork 4 = .ok (.istore_n 3, 1) := by decide +kernel
theorem dX6_addWork_5 : decode cX6_addWork 5 = .ok (.aload_n 0, 1) := by decide +kernel
theorem dX6_addWork_6 : decode cX6_addWork 6 = .ok (.getfield 28, 3) := by decide +kernel
theorem dX6_addWork_9 : decode cX6_addWork 9 = .ok (.iload_n 3, 1) := by decide +kernel
theorem dX6_addWork_10 : decode cX6_addWork 10 = .ok (.iload_n 1, 1) := by decide +kernel
theorem dX6_addWork_11 : decode cX6_addWork 11 = .ok (.iastore, 1) := by decide +kernel
theorem dX6_addWork_12 : decode cX6_addWork 12 = .ok (.aload_n 0, 1) := by decide +kernel
theorem dX6_addWork_13 : decode cX6_addWork 13 = .ok (.getfield 31, 3) := by decide +kernel
theorem dX6_addWork_16 : decode cX6_addWork 16 = .ok (.iload_n 3, 1) := by decide +kernel
theorem dX6_addWork_17 : decode cX6_addWork 17 = .ok (.iload_n 2, 1) := by decide +kernel
theorem dX6_addWork_18 : decode cX6_addWork 18 = .ok (.iastore, 1) := by decide +kernel
theorem dX6_addWork_19 : decode cX6_addWork 19 = .ok (.aload_n 0, 1) := by decide +kernel
theorem dX6_addWork_20 : decode cX6_addWork 20 = .ok (.getfield 34, 3) := by decide +kernel
theorem dX6_addWork_23 : decode cX6_addWork 23 = .ok (.iload_n 3, 1) := by decide +kernel
theorem dX6_addWork_24 : decode cX6_addWork 24 = .ok (.iconst 0, 1) := by decide +kernel
theorem dX6_addWork_25 : decode cX6_addWork 25 = .ok (.iastore, 1) := by decide +kernel
theorem dX6_addWork_26 : decode cX6_addWork 26 = .ok (.aload_n 0, 1) := by decide +kernel
theorem dX6_addWork_27 : decode cX6_addWork 27 = .ok (.dup, 1) := by decide +kernel
theorem dX6_addWork_28 : decode cX6_addWork 28 = .ok (.getfield 52, 3) := by decide +kernel
theorem dX6_addWork_31 : decode cX6_addWork 31 = .ok (.iconst 1, 1) := by decide +kernel
theorem dX6_addWork_32 : decode cX6_addWork 32 = .ok (.iadd, 1) := by decide +kernel
theorem dX6_addWork_33 : decode cX6_addWork 33 = .ok (.putfield 52, 3) := by decide +kernel
theorem dX6_addWork_36 : decode cX6_addWork 36 = .ok (.iload_n 3, 1) := by decide +kernel
theorem dX6_addWork_37 : decode cX6_addWork 37 = .ok (.ireturn, 1) := by decide +kernel
theorem dX6_become_0 : decode cX6_become 0 = .ok (.aload_n 0, 1) := by decide +kernel
theorem dX6_become_1 : decode cX6_become 1 = .ok (.aload_n 1, 1) := by decide +kernel
theorem dX6_become_2 : decode cX6_become 2 = .ok (.getfield 49, 3) := by decide +kernel
theorem dX6_become_5 : decode cX6_become 5 = .ok (.putfield 49, 3) := by decide +kernel
theorem dX6_become_8 : decode cX6_become 8 = .ok (.aload_n 1, 1) := by decide +kernel
theorem dX6_become_9 : decode cX6_become 9 = .ok (.getfield 9, 3) := by decide +kernel
theorem dX6_become_12 : decode cX6_become 12 = .ok (.iconst 0, 1) := by decide +kernel
theorem dX6_become_13 : decode cX6_become 13 = .ok (.aload_n 0, 1) := by decide +kernel
theorem dX6_become_14 : decode cX6_become 14 = .ok (.getfield 9, 3) := by decide +kernel
theorem dX6_become_17 : decode cX6_become 17 = .ok (.iconst 0, 1) := by decide +kernel
theorem dX6_become_18 : decode cX6_become 18 = .ok (.bipush 6, 2) := by decide +kernel
theorem dX6_become_20 : decode cX6_become 20 = .ok (.invokestatic 55, 3) := by decide +kernel
theorem dX6_become_23 : decode cX6_become 23 = .ok (.aload_n 1, 1) := by decide +kernel
theorem dX6_become_24 : decode cX6_become 24 = .ok (.getfield 15, 3) := by decide +kernel
theorem dX6_become_27 : decode cX6_become 27 = .ok (.iconst 0, 1) := by decide +kernel
theorem dX6_become_28 : decode cX6_become 28 = .ok (.aload_n 0, 1) := by decide +kernel
theorem dX6_become_29 : decode cX6_become 29 = .ok (.getfield 15, 3) := by decide +kernel
theorem dX6_become_32 : decode cX6_become 32 = .ok (.iconst 0, 1) := by decide +kernel
theorem dX6_become_33 : decode cX6_become 33 = .ok (.bipush 6, 2) := by decide +kernel
theorem dX6_become_35 : decode cX6_become 35 = .ok (.invokestatic 55, 3) := by decide +kernel
theorem dX6_become_38 : decode cX6_become 38 = .ok (.aload_n 1, 1) := by decide +kernel
theorem dX6_become_39 : decode cX6_become 39 = .ok (.getfield 18, 3) := by decide +kernel
theorem dX6_become_42 : decode cX6_become 42 = .ok (.iconst 0, 1) := by decide +kernel
theorem dX6_become_43 : decode cX6_become 43 = .ok (.aload_n 0, 1) := by decide +kernel
theorem dX6_become_44 : decode cX6_become 44 = .ok (.getfield 18, 3) := by decide +kernel
theorem dX6_become_47 : decode cX6_become 47 = .ok (.iconst 0, 1) := by decide +kernel
theorem dX6_become_48 : decode cX6_become 48 = .ok (.bipush 6, 2) := by decide +kernel
theorem dX6_become_50 : decode cX6_become 50 = .ok (.invokestatic 55, 3) := by decide +kernel
theorem dX6_become_53 : decode cX6_become 53 = .ok (.iconst 0, 1) := by decide +kernel
theorem dX6_become_54 : decode cX6_become 54 = .ok (.istore_n 2, 1) := by decide +kernel
theorem dX6_become_55 : decode cX6_become 55 = .ok (.iload_n 2, 1) := by decide +kernel
theorem dX6_become_56 : decode cX6_become 56 = .ok (.bipush 6, 2) := by decide +kernel
theorem dX6_become_58 : decode cX6_become 58 = .ok (.if_icmp .ge 21, 3) := by decide +kernel
theorem dX6_become_61 : decode cX6_become 61 = .ok (.aload_n 0, 1) := by decide +kernel
theorem dX6_become_62 : decode cX6_become 62 = .ok (.getfield 21, 3) := by decide +kernel
theorem dX6_become_65 : decode cX6_become 65 = .ok (.iload_n 2, 1) := by decide +kernel
theorem dX6_become_66 : decode cX6_become 66 = .ok (.aload_n 1, 1) := by decide +kernel
theorem dX6_become_67 : decode cX6_become 67 = .ok (.getfield 21, 3) := by decide +kernel
theorem dX6_become_70 : decode cX6_become 70 = .ok (.iload_n 2, 1) := by decide +kernel
theorem dX6_become_71 : decode cX6_become 71 = .ok (.baload, 1) := by decide +kernel
theorem dX6_become_72 : decode cX6_become 72 = .ok (.bastore, 1) := by decide +kernel
theorem dX6_become_73 : decode cX6_become 73 = .ok (.iinc 2 1, 3) := by decide +kernel
theorem dX6_become_76 : decode cX6_become 76 = .ok (.goto (-21), 3) := by decide +kernel
theorem dX6_become_79 : decode cX6_become 79 = .ok (.aload_n 1, 1) := by decide +kernel
theorem dX6_become_80 : decode cX6_become 80 = .ok (.getfield 25, 3) := by decide +kernel
theorem dX6_become_83 : decode cX6_become 83 = .ok (.iconst 0, 1) := by decide +kernel
theorem dX6_become_84 : decode cX6_become 84 = .ok (.aload_n 0, 1) := by decide +kernel
theorem dX6_become_85 : decode cX6_become 85 = .ok (.getfield 25, 3) := by decide +kernel
theorem dX6_become_88 : decode cX6_become 88 = .ok (.iconst 0, 1) := by decide +kernel
theorem dX6_become_89 : decode cX6_become 89 = .ok (.aload_n 0, 1) := by decide +kernel
theorem dX6_become_90 : decode cX6_become 90 = .ok (.getfield 25, 3) := by decide +kernel
theorem dX6_become_93 : decode cX6_become 93 = .ok (.arraylength, 1) := by decide +kernel
theorem dX6_become_94 : decode cX6_become 94 = .ok (.invokestatic 55, 3) := by decide +kernel
theorem dX6_become_97 : decode cX6_become 97 = .ok (.aload_n 0, 1) := by decide +kernel
theorem dX6_become_98 : decode cX6_become 98 = .ok (.aload_n 1, 1) := by decide +kernel
theorem dX6_become_99 : decode cX6_become 99 = .ok (.getfield 52, 3) := by decide +kernel
theorem dX6_become_102 : decode cX6_become 102 = .ok (.putfield 52, 3) := by decide +kernel
theorem dX6_become_105 : decode cX6_become 105 = .ok (.aload_n 1, 1) := by decide +kernel
theorem dX6_become_106 : decode cX6_become 106 = .ok (.getfield 28, 3) := by decide +kernel
theorem dX6_become_109 : decode cX6_become 109 = .ok (.iconst 0, 1) := by decide +kernel
theorem dX6_become_110 : decode cX6_become 110 = .ok (.aload_n 0, 1) := by decide +kernel
theorem dX6_become_111 : decode cX6_become 111 = .ok (.getfield 28, 3) := by decide +kernel
theorem dX6_become_114 : decode cX6_become 114 = .ok (.iconst 0, 1) := by decide +kernel
theorem dX6_become_115 : decode cX6_become 115 = .ok (.iconst 4, 1) := by decide +kernel
theorem dX6_become_116 : decode cX6_become 116 = .ok (.invokestatic 55, 3) := by decide +kernel
theorem dX6_become_119 : decode cX6_become 119 = .ok (.aload_n 1, 1) := by decide +kernel
theorem dX6_become_120 : decode cX6_become 120 = .ok (.getfield 31, 3) := by decide +kernel
theorem dX6_become_123 : decode cX6_become 123 = .ok (.iconst 0, 1) := by decide +kernel
theorem dX6_become_124 : decode cX6_become 124 = .ok (.aload_n 0, 1) := by decide +kernel
theorem dX6_become_125 : decode cX6_become 125 = .ok (.getfield 31, 3) := by decide +kernel
theorem dX6_become_128 : decode cX6_become 128 = .ok (.iconst 0, 1) := by decide +kernel
theorem dX6_become_129 : decode cX6_become 129 = .ok (.iconst 4, 1) := by decide +kernel
theorem dX6_become_130 : decode cX6_become 130 = .ok (.invokestatic 55, 3) := by decide +kernel
theorem dX6_become_133 : decode cX6_become 133 = .ok (.aload_n 1, 1) := by decide +kernel
theorem dX6_become_134 : decode cX6_become 134 = .ok (.getfield 34, 3) := by decide +kernel
theorem dX6_become_137 : decode cX6_become 137 = .ok (.iconst 0, 1) := by decide +kernel
theorem dX6_become_138 : decode cX6_become 138 = .ok (.aload_n 0, 1) := by decide +kernel
theorem dX6_become_139 : decode cX6_become 139 = .ok (.getfield 34, 3) := by decide +kernel
theorem dX6_become_142 : decode cX6_become 142 = .ok (.iconst 0, 1) := by decide +kernel
theorem dX6_become_143 : decode cX6_become 143 = .ok (.iconst 4, 1) := by decide +kernel
theorem dX6_become_144 : decode cX6_become 144 = .ok (.invokestatic 55, 3) := by decide +kernel
theorem dX6_become_147 : decode cX6_become 147 = .ok (.aload_n 0, 1) := by decide +kernel
theorem dX6_become_148 : decode cX6_become 148 = .ok (.aload_n 1, 1) := by decide +kernel
theorem dX6_become_149 : decode cX6_become 149 = .ok (.getfield 37, 3) := by decide +kernel
theorem dX6_become_152 : decode cX6_become 152 = .ok (.putfield 37, 3) := by decide +kernel
theorem dX6_become_155 : decode cX6_become 155 = .ok (.aload_n 0, 1) := by decide +kernel
theorem dX6_become_156 : decode cX6_become 156 = .ok (.aload_n 1, 1) := by decide +kernel
theorem dX6_become_157 : decode cX6_become 157 = .ok (.getfield 61, 3) := by decide +kernel
theorem dX6_become_160 : decode cX6_become 160 = .ok (.putfield 61, 3) := by decide +kernel
theorem dX6_become_163 : decode cX6_become 163 = .ok (.aload_n 0, 1) := by decide +kernel
theorem dX6_become_164 : decode cX6_become 164 = .ok (.aload_n 1, 1) := by decide +kernel
theorem dX6_become_165 : decode cX6_become 165 = .ok (.getfield 64, 3) := by decide +kernel
theorem dX6_become_168 : decode cX6_become 168 = .ok (.putfield 64, 3) := by decide +kernel
theorem dX6_become_171 : decode cX6_become 171 = .ok (.return_, 1) := by decide +kernel
theorem dX6_isHot_0 : decode cX6_isHot 0 = .ok (.aload_n 0, 1) := by decide +kernel
theorem dX6_isHot_1 : decode cX6_isHot 1 = .ok (.iload_n 1, 1) := by decide +kernel
theorem dX6_isHot_2 : decode cX6_isHot 2 = .ok (.invokevirtual 68, 3) := by decide +kernel
theorem dX6_isHot_5 : decode cX6_isHot 5 = .ok (.ifCond .eq 18, 3) := by decide +kernel
theorem dX6_isHot_8 : decode cX6_isHot 8 = .ok (.aload_n 0, 1) := by decide +kernel
theorem dX6_isHot_9 : decode cX6_isHot 9 = .ok (.getfield 18, 3) := by decide +kernel
theorem dX6_isHot_12 : decode cX6_isHot 12 = .ok (.iload_n 1, 1) := by decide +kernel
theorem dX6_isHot_13 : decode cX6_isHot 13 = .ok (.iaload, 1) := by decide +kernel
theorem dX6_isHot_14 : decode cX6_isHot 14 = .ok (.bipush 50, 2) := by decide +kernel
theorem dX6_isHot_16 : decode cX6_isHot 16 = .ok (.if_icmp .lt 7, 3) := by decide +kernel
theorem dX6_isHot_19 : decode cX6_isHot 19 = .ok (.iconst 1, 1) := by decide +kernel
theorem dX6_isHot_20 : decode cX6_isHot 20 = .ok (.goto 4, 3) := by decide +kernel
theorem dX6_isHot_23 : decode cX6_isHot 23 = .ok (.iconst 0, 1) := by decide +kernel
theorem dX6_isHot_24 : decode cX6_isHot 24 = .ok (.ireturn, 1) := by decide +kernel
theorem dX6_isDone_0 : decode cX6_isDone 0 = .ok (.aload_n 0, 1) := by decide +kernel
theorem dX6_isDone_1 : decode cX6_isDone 1 = .ok (.iload_n 1, 1) := by decide +kernel
theorem dX6_isDone_2 : decode cX6_isDone 2 = .ok (.invokevirtual 72, 3) := by decide +kernel
theorem dX6_isDone_5 : decode cX6_isDone 5 = .ok (.ifCond .eq 22, 3) := by decide +kernel
theorem dX6_isDone_8 : decode cX6_isDone 8 = .ok (.aload_n 0, 1) := by decide +kernel
theorem dX6_isDone_9 : decode cX6_isDone 9 = .ok (.getfield 34, 3) := by decide +kernel
theorem dX6_isDone_12 : decode cX6_isDone 12 = .ok (.iload_n 1, 1) := by decide +kernel
theorem dX6_isDone_13 : decode cX6_isDone 13 = .ok (.iaload, 1) := by decide +kernel
theorem dX6_isDone_14 : decode cX6_isDone 14 = .ok (.aload_n 0, 1) := by decide +kernel
theorem dX6_isDone_15 : decode cX6_isDone 15 = .ok (.getfield 28, 3) := by decide +kernel
theorem dX6_isDone_18 : decode cX6_isDone 18 = .ok (.iload_n 1, 1) := by decide +kernel
theorem dX6_isDone_19 : decode cX6_isDone 19 = .ok (.iaload, 1) := by decide +kernel
theorem dX6_isDone_20 : decode cX6_isDone 20 = .ok (.if_icmp .lt 7, 3) := by decide +kernel
theorem dX6_isDone_23 : decode cX6_isDone 23 = .ok (.iconst 1, 1) := by decide +kernel
theorem dX6_isDone_24 : decode cX6_isDone 24 = .ok (.goto 4, 3) := by decide +kernel
theorem dX6_isDone_27 : decode cX6_isDone 27 = .ok (.iconst 0, 1) := by decide +kernel
theorem dX6_isDone_28 : decode cX6_isDone 28 = .ok (.ireturn, 1) := by decide +kernel
theorem dX6_doneBits_0 : decode cX6_doneBits 0 = .ok (.iconst 0, 1) := by decide +kernel
theorem dX6_doneBits_1 : decode cX6_doneBits 1 = .ok (.istore_n 1, 1) := by decide +kernel
theorem dX6_doneBits_2 : decode cX6_doneBits 2 = .ok (.iconst 0, 1) := by decide +kernel
theorem dX6_doneBits_3 : decode cX6_doneBits 3 = .ok (.istore_n 2, 1) := by decide +kernel
theorem dX6_doneBits_4 : decode cX6_doneBits 4 = .ok (.iload_n 2, 1) := by decide +kernel
theorem dX6_doneBits_5 : decode cX6_doneBits 5 = .ok (.aload_n 0, 1) := by decide +kernel
theorem dX6_doneBits_6 : decode cX6_doneBits 6 = .ok (.getfield 52, 3) := by decide +kernel
theorem dX6_doneBits_9 : decode cX6_doneBits 9 = .ok (.if_icmp .ge 23, 3) := by decide +kernel
theorem dX6_doneBits_12 : decode cX6_doneBits 12 = .ok (.aload_n 0, 1) := by decide +kernel
theorem dX6_doneBits_13 : decode cX6_doneBits 13 = .ok (.iload_n 2, 1) := by decide +kernel
theorem dX6_doneBits_14 : decode cX6_doneBits 14 = .ok (.invokevirtual 75, 3) := by decide +kernel
theorem dX6_doneBits_17 : decode cX6_doneBits 17 = .ok (.ifCond .eq 9, 3) := by decide +kernel
theorem dX6_doneBits_20 : decode cX6_doneBits 20 = .ok (.iload_n 1, 1) := by decide +kernel
theorem dX6_doneBits_21 : decode cX6_doneBits 21 = .ok (.iconst 1, 1) := by decide +kernel
theorem dX6_doneBits_22 : decode cX6_doneBits 22 = .ok (.iload_n 2, 1) := by decide +kernel
theorem dX6_doneBits_23 : decode cX6_doneBits 23 = .ok (.ishl, 1) := by decide +kernel
theorem dX6_doneBits_24 : decode cX6_doneBits 24 = .ok (.ior, 1) := by decide +kernel
theorem dX6_doneBits_25 : decode cX6_doneBits 25 = .ok (.istore_n 1, 1) := by decide +kernel
theorem dX6_doneBits_26 : decode cX6_doneBits 26 = .ok (.iinc 2 1, 3) := by decide +kernel
theorem dX6_doneBits_29 : decode cX6_doneBits 29 = .ok (.goto (-25), 3) := by decide +kernel
theorem dX6_doneBits_32 : decode cX6_doneBits 32 = .ok (.iload_n 1, 1) := by decide +kernel
theorem dX6_doneBits_33 : decode cX6_doneBits 33 = .ok (.ireturn, 1) := by decide +kernel
theorem dX6_heatOfAll_0 : decode cX6_heatOfAll 0 = .ok (.iconst 0, 1) := by decide +kernel
theorem dX6_heatOfAll_1 : decode cX6_heatOfAll 1 = .ok (.istore_n 1, 1) := by decide +kernel
theorem dX6_heatOfAll_2 : decode cX6_heatOfAll 2 = .ok (.iconst 0, 1) := by decide +kernel
theorem dX6_heatOfAll_3 : decode cX6_heatOfAll 3 = .ok (.istore_n 2, 1) := by decide +kernel
theorem dX6_heatOfAll_4 : decode cX6_heatOfAll 4 = .ok (.iload_n 2, 1) := by decide +kernel
theorem dX6_heatOfAll_5 : decode cX6_heatOfAll 5 = .ok (.aload_n 0, 1) := by decide +kernel
theorem dX6_heatOfAll_6 : decode cX6_heatOfAll 6 = .ok (.getfield 49, 3) := by decide +kernel
theorem dX6_heatOfAll_9 : decode cX6_heatOfAll 9 = .ok (.if_icmp .ge 18, 3) := by decide +kernel
theorem dX6_heatOfAll_12 : decode cX6_heatOfAll 12 = .ok (.iload_n 1, 1) := by decide +kernel
theorem dX6_heatOfAll_13 : decode cX6_heatOfAll 13 = .ok (.aload_n 0, 1) := by decide +kernel
theorem dX6_heatOfAll_14 : decode cX6_heatOfAll 14 = .ok (.getfield 18, 3) := by decide +kernel
theorem dX6_heatOfAll_17 : decode cX6_heatOfAll 17 = .ok (.iload_n 2, 1) := by decide +kernel
theorem dX6_heatOfAll_18 : decode cX6_heatOfAll 18 = .ok (.iaload, 1) := by decide +kernel
theorem dX6_heatOfAll_19 : decode cX6_heatOfAll 19 = .ok (.iadd, 1) := by decide +kernel
theorem dX6_heatOfAll_20 : decode cX6_heatOfAll 20 = .ok (.istore_n 1, 1) := by decide +kernel
theorem dX6_heatOfAll_21 : decode cX6_heatOfAll 21 = .ok (.iinc 2 1, 3) := by decide +kernel
theorem dX6_heatOfAll_24 : decode cX6_heatOfAll 24 = .ok (.goto (-20), 3) := by decide +kernel
theorem dX6_heatOfAll_27 : decode cX6_heatOfAll 27 = .ok (.iload_n 1, 1) := by decide +kernel
theorem dX6_heatOfAll_28 : decode cX6_heatOfAll 28 = .ok (.ireturn, 1) := by decide +kernel
theorem dX6_countHere_0 : decode cX6_countHere 0 = .ok (.iconst 0, 1) := by decide +kernel
theorem dX6_countHere_1 : decode cX6_countHere 1 = .ok (.istore_n 1, 1) := by decide +kernel
theorem dX6_countHere_2 : decode cX6_countHere 2 = .ok (.iconst 0, 1) := by decide +kernel
theorem dX6_countHere_3 : decode cX6_countHere 3 = .ok (.istore_n 2, 1) := by decide +kernel
theorem dX6_countHere_4 : decode cX6_countHere 4 = .ok (.iload_n 2, 1) := by decide +kernel
theorem dX6_countHere_5 : decode cX6_countHere 5 = .ok (.aload_n 0, 1) := by decide +kernel
theorem dX6_countHere_6 : decode cX6_countHere 6 = .ok (.getfield 49, 3) := by decide +kernel
theorem dX6_countHere_9 : decode cX6_countHere 9 = .ok (.if_icmp .ge 21, 3) := by decide +kernel
theorem dX6_countHere_12 : decode cX6_countHere 12 = .ok (.aload_n 0, 1) := by decide +kernel
theorem dX6_countHere_13 : decode cX6_countHere 13 = .ok (.getfield 21, 3) := by decide +kernel
theorem dX6_countHere_16 : decode cX6_countHere 16 = .ok (.iload_n 2, 1) := by decide +kernel
theorem dX6_countHere_17 : decode cX6_countHere 17 = .ok (.baload, 1) := by decide +kernel
theorem dX6_countHere_18 : decode cX6_countHere 18 = .ok (.ifCond .ne 6, 3) := by decide +kernel
theorem dX6_countHere_21 : decode cX6_countHere 21 = .ok (.iinc 1 1, 3) := by decide +kernel
theorem dX6_countHere_24 : decode cX6_countHere 24 = .ok (.iinc 2 1, 3) := by decide +kernel
theorem dX6_countHere_27 : decode cX6_countHere 27 = .ok (.goto (-23), 3) := by decide +kernel
theorem dX6_countHere_30 : decode cX6_countHere 30 = .ok (.iload_n 1, 1) := by decide +kernel
theorem dX6_countHere_31 : decode cX6_countHere 31 = .ok (.ireturn, 1) := by decide +kernel
theorem dX6_hottest_0 : decode cX6_hottest 0 = .ok (.iconst (-1), 1) := by decide +kernel
theorem dX6_hottest_1 : decode cX6_hottest 1 = .ok (.istore_n 1, 1) := by decide +kernel
theorem dX6_hottest_2 : decode cX6_hottest 2 = .ok (.iconst 0, 1) := by decide +kernel
theorem dX6_hottest_3 : decode cX6_hottest 3 = .ok (.istore_n 2, 1) := by decide +kernel
theorem dX6_hottest_4 : decode cX6_hottest 4 = .ok (.iload_n 2, 1) := by decide +kernel
theorem dX6_hottest_5 : decode cX6_hottest 5 = .ok (.aload_n 0, 1) := by decide +kernel
theorem dX6_hottest_6 : decode cX6_hottest 6 = .ok (.getfield 49, 3) := by decide +kernel
theorem dX6_hottest_9 : decode cX6_hottest 9 = .ok (.if_icmp .ge 39, 3) := by decide +kernel
theorem dX6_hottest_12 : decode cX6_hottest 12 = .ok (.aload_n 0, 1) := by decide +kernel
theorem dX6_hottest_13 : decode cX6_hottest 13 = .ok (.getfield 21, 3) := by decide +kernel
theorem dX6_hottest_16 : decode cX6_hottest 16 = .ok (.iload_n 2, 1) := by decide +kernel
theorem dX6_hottest_17 : decode cX6_hottest 17 = .ok (.baload, 1) := by decide +kernel
theorem dX6_hottest_18 : decode cX6_hottest 18 = .ok (.ifCond .ne 24, 3) := by decide +kernel
theorem dX6_hottest_21 : decode cX6_hottest 21 = .ok (.iload_n 1, 1) := by decide +kernel
theorem dX6_hottest_22 : decode cX6_hottest 22 = .ok (.ifCond .lt 18, 3) := by decide +kernel
theorem dX6_hottest_25 : decode cX6_hottest 25 = .ok (.aload_n 0, 1) := by decide +kernel
theorem dX6_hottest_26 : decode cX6_hottest 26 = .ok (.getfield 18, 3) := by decide +kernel
theorem dX6_hottest_29 : decode cX6_hottest 29 = .ok (.iload_n 2, 1) := by decide +kernel
theorem dX6_hottest_30 : decode cX6_hottest 30 = .ok (.iaload, 1) := by decide +kernel
theorem dX6_hottest_31 : decode cX6_hottest 31 = .ok (.aload_n 0, 1) := by decide +kernel
theorem dX6_hottest_32 : decode cX6_hottest 32 = .ok (.getfield 18, 3) := by decide +kernel
theorem dX6_hottest_35 : decode cX6_hottest 35 = .ok (.iload_n 1, 1) := by decide +kernel
theorem dX6_hottest_36 : decode cX6_hottest 36 = .ok (.iaload, 1) := by decide +kernel
theorem dX6_hottest_37 : decode cX6_hottest 37 = .ok (.if_icmp .le 5, 3) := by decide +kernel
theorem dX6_hottest_40 : decode cX6_hottest 40 = .ok (.iload_n 2, 1) := by decide +kernel
theorem dX6_hottest_41 : decode cX6_hottest 41 = .ok (.istore_n 1, 1) := by decide +kernel
theorem dX6_hottest_42 : decode cX6_hottest 42 = .ok (.iinc 2 1, 3) := by decide +kernel
theorem dX6_hottest_45 : decode cX6_hottest 45 = .ok (.goto (-41), 3) := by decide +kernel
theorem dX6_hottest_48 : decode cX6_hottest 48 = .ok (.iload_n 1, 1) := by decide +kernel
theorem dX6_hottest_49 : decode cX6_hottest 49 = .ok (.ireturn, 1) := by decide +kernel
theorem dX6_countBeside_0 : decode cX6_countBeside 0 = .ok (.iconst 0, 1) := by decide +kernel
theorem dX6_countBeside_1 : decode cX6_countBeside 1 = .ok (.istore_n 3, 1) := by decide +kernel
theorem dX6_countBeside_2 : decode cX6_countBeside 2 = .ok (.aload_n 0, 1) := by decide +kernel
theorem dX6_countBeside_3 : decode cX6_countBeside 3 = .ok (.iload_n 1, 1) := by decide +kernel
theorem dX6_countBeside_4 : decode cX6_countBeside 4 = .ok (.iconst 1, 1) := by decide +kernel
theorem dX6_countBeside_5 : decode cX6_countBeside 5 = .ok (.isub, 1) := by decide +kernel
theorem dX6_countBeside_6 : decode cX6_countBeside 6 = .ok (.invokevirtual 68, 3) := by decide +kernel
theorem dX6_countBeside_9 : decode cX6_countBeside 9 = .ok (.ifCond .eq 29, 3) := by decide +kernel
theorem dX6_countBeside_12 : decode cX6_countBeside 12 = .ok (.aload_n 0, 1) := by decide +kernel
theorem dX6_countBeside_13 : decode cX6_countBeside 13 = .ok (.getfield 21, 3) := by decide +kernel
theorem dX6_countBeside_16 : decode cX6_countBeside 16 = .ok (.iload_n 1, 1) := by decide +kernel
theorem dX6_countBeside_17 : decode cX6_countBeside 17 = .ok (.iconst 1, 1) := by decide +kernel
theorem dX6_countBeside_18 : decode cX6_countBeside 18 = .ok (.isub, 1) := by decide +kernel
theorem dX6_countBeside_19 : decode cX6_countBeside 19 = .ok (.baload, 1) := by decide +kernel
theorem dX6_countBeside_20 : decode cX6_countBeside 20 = .ok (.ifCond .ne 18, 3) := by decide +kernel
theorem dX6_countBeside_23 : decode cX6_countBeside 23 = .ok (.aload_n 0, 1) := by decide +kernel
theorem dX6_countBeside_24 : decode cX6_countBeside 24 = .ok (.getfield 18, 3) := by decide +kernel
theorem dX6_countBeside_27 : decode cX6_countBeside 27 = .ok (.iload_n 1, 1) := by decide +kernel
theorem dX6_countBeside_28 : decode cX6_countBeside 28 = .ok (.iconst 1, 1) := by decide +kernel
theorem dX6_countBeside_29 : decode cX6_countBeside 29 = .ok (.isub, 1) := by decide +kernel
theorem dX6_countBeside_30 : decode cX6_countBeside 30 = .ok (.iaload, 1) := by decide +kernel
theorem dX6_countBeside_31 : decode cX6_countBeside 31 = .ok (.iload_n 2, 1) := by decide +kernel
theorem dX6_countBeside_32 : decode cX6_countBeside 32 = .ok (.if_icmp .lt 6, 3) := by decide +kernel
theorem dX6_countBeside_35 : decode cX6_countBeside 35 = .ok (.iinc 3 1, 3) := by decide +kernel
theorem dX6_countBeside_38 : decode cX6_countBeside 38 = .ok (.aload_n 0, 1) := by decide +kernel
theorem dX6_countBeside_39 : decode cX6_countBeside 39 = .ok (.iload_n 1, 1) := by decide +kernel
theorem dX6_countBeside_40 : decode cX6_countBeside 40 = .ok (.iconst 1, 1) := by decide +kernel
theorem dX6_countBeside_41 : decode cX6_countBeside 41 = .ok (.iadd, 1) := by decide +kernel
theorem dX6_countBeside_42 : decode cX6_countBeside 42 = .ok (.invokevirtual 68, 3) := by decide +kernel
theorem dX6_countBeside_45 : decode cX6_countBeside 45 = .ok (.ifCond .eq 29, 3) := by decide +kernel
theorem dX6_countBeside_48 : decode cX6_countBeside 48 = .ok (.aload_n 0, 1) := by decide +kernel
theorem dX6_countBeside_49 : decode cX6_countBeside 49 = .ok (.getfield 21, 3) := by decide +kernel
theorem dX6_countBeside_52 : decode cX6_countBeside 52 = .ok (.iload_n 1, 1) := by decide +kernel
theorem dX6_countBeside_53 : decode cX6_countBeside 53 = .ok (.iconst 1, 1) := by decide +kernel
theorem dX6_countBeside_54 : decode cX6_countBeside 54 = .ok (.iadd, 1) := by decide +kernel
theorem dX6_countBeside_55 : decode cX6_countBeside 55 = .ok (.baload, 1) := by decide +kernel
theorem dX6_countBeside_56 : decode cX6_countBeside 56 = .ok (.ifCond .ne 18, 3) := by decide +kernel
theorem dX6_countBeside_59 : decode cX6_countBeside 59 = .ok (.aload_n 0, 1) := by decide +kernel
theorem dX6_countBeside_60 : decode cX6_countBeside 60 = .ok (.getfield 18, 3) := by decide +kernel
theorem dX6_countBeside_63 : decode cX6_countBeside 63 = .ok (.iload_n 1, 1) := by decide +kernel
theorem dX6_countBeside_64 : decode cX6_countBeside 64 = .ok (.iconst 1, 1) := by decide +kernel
theorem dX6_countBeside_65 : decode cX6_countBeside 65 = .ok (.iadd, 1) := by decide +kernel
theorem dX6_countBeside_66 : decode cX6_countBeside 66 = .ok (.iaload, 1) := by decide +kernel
theorem dX6_countBeside_67 : decode cX6_countBeside 67 = .ok (.iload_n 2, 1) := by decide +kernel
theorem dX6_countBeside_68 : decode cX6_countBeside 68 = .ok (.if_icmp .lt 6, 3) := by decide +kernel
theorem dX6_countBeside_71 : decode cX6_countBeside 71 = .ok (.iinc 3 1, 3) := by decide +kernel
theorem dX6_countBeside_74 : decode cX6_countBeside 74 = .ok (.iload_n 3, 1) := by decide +kernel
theorem dX6_countBeside_75 : decode cX6_countBeside 75 = .ok (.ireturn, 1) := by decide +kernel
theorem dX6_spark_0 : decode cX6_spark 0 = .ok (.aload_n 0, 1) := by decide +kernel
theorem dX6_spark_1 : decode cX6_spark 1 = .ok (.getfield 64, 3) := by decide +kernel
theorem dX6_spark_4 : decode cX6_spark 4 = .ok (.ifnonnull 8, 3) := by decide +kernel
theorem dX6_spark_7 : decode cX6_spark 7 = .ok (.bipush 80, 2) := by decide +kernel
theorem dX6_spark_9 : decode cX6_spark 9 = .ok (.goto 10, 3) := by decide +kernel
theorem dX6_spark_12 : decode cX6_spark 12 = .ok (.aload_n 0, 1) := by decide +kernel
theorem dX6_spark_13 : decode cX6_spark 13 = .ok (.getfield 64, 3) := by decide +kernel
theorem dX6_spark_16 : decode cX6_spark 16 = .ok (.getfield 78, 3) := by decide +kernel
theorem dX6_spark_19 : decode cX6_spark 19 = .ok (.ireturn, 1) := by decide +kernel
theorem dX6_riseOf_0 : decode cX6_riseOf 0 = .ok (.aload_n 0, 1) := by decide +kernel
theorem dX6_riseOf_1 : decode cX6_riseOf 1 = .ok (.iload_n 1, 1) := by decide +kernel
theorem dX6_riseOf_2 : decode cX6_riseOf 2 = .ok (.bipush 50, 2) := by decide +kernel
theorem dX6_riseOf_4 : decode cX6_riseOf 4 = .ok (.invokevirtual 81, 3) := by decide +kernel
theorem dX6_riseOf_7 : decode cX6_riseOf 7 = .ok (.istore_n 2, 1) := by decide +kernel
theorem dX6_riseOf_8 : decode cX6_riseOf 8 = .ok (.aload_n 0, 1) := by decide +kernel
theorem dX6_riseOf_9 : decode cX6_riseOf 9 = .ok (.iload_n 1, 1) := by decide +kernel
theorem dX6_riseOf_10 : decode cX6_riseOf 10 = .ok (.iload_n 2, 1) := by decide +kernel
theorem dX6_riseOf_11 : decode cX6_riseOf 11 = .ok (.invokevirtual 85, 3) := by decide +kernel
theorem dX6_riseOf_14 : decode cX6_riseOf 14 = .ok (.aload_n 0, 1) := by decide +kernel
theorem dX6_riseOf_15 : decode cX6_riseOf 15 = .ok (.getfield 64, 3) := by decide +kernel
theorem dX6_riseOf_18 : decode cX6_riseOf 18 = .ok (.ifnonnull 7, 3) := by decide +kernel
theorem dX6_riseOf_21 : decode cX6_riseOf 21 = .ok (.iconst 0, 1) := by decide +kernel
theorem dX6_riseOf_22 : decode cX6_riseOf 22 = .ok (.goto 14, 3) := by decide +kernel
theorem dX6_riseOf_25 : decode cX6_riseOf 25 = .ok (.aload_n 0, 1) := by decide +kernel
theorem dX6_riseOf_26 : decode cX6_riseOf 26 = .ok (.getfield 64, 3) := by decide +kernel
theorem dX6_riseOf_29 : decode cX6_riseOf 29 = .ok (.aload_n 0, 1) := by decide +kernel
theorem dX6_riseOf_30 : decode cX6_riseOf 30 = .ok (.getfield 46, 3) := by decide +kernel
theorem dX6_riseOf_33 : decode cX6_riseOf 33 = .ok (.invokevirtual 89, 3) := by decide +kernel
theorem dX6_riseOf_36 : decode cX6_riseOf 36 = .ok (.istore_n 3, 1) := by decide +kernel
theorem dX6_riseOf_37 : decode cX6_riseOf 37 = .ok (.aload_n 0, 1) := by decide +kernel
theorem dX6_riseOf_38 : decode cX6_riseOf 38 = .ok (.getfield 61, 3) := by decide +kernel
theorem dX6_riseOf_41 : decode cX6_riseOf 41 = .ok (.iconst 3, 1) := by decide +kernel
theorem dX6_riseOf_42 : decode cX6_riseOf 42 = .ok (.irem, 1) := by decide +kernel
theorem dX6_riseOf_43 : decode cX6_riseOf 43 = .ok (.ifCond .ne 9, 3) := by decide +kernel
theorem dX6_riseOf_46 : decode cX6_riseOf 46 = .ok (.iload_n 3, 1) := by decide +kernel
theorem dX6_riseOf_47 : decode cX6_riseOf 47 = .ok (.iconst 5, 1) := by decide +kernel
theorem dX6_riseOf_48 : decode cX6_riseOf 48 = .ok (.iadd, 1) := by decide +kernel
theorem dX6_riseOf_49 : decode cX6_riseOf 49 = .ok (.goto 4, 3) := by decide +kernel
theorem dX6_riseOf_52 : decode cX6_riseOf 52 = .ok (.iload_n 3, 1) := by decide +kernel
theorem dX6_riseOf_53 : decode cX6_riseOf 53 = .ok (.istore 4, 2) := by decide +kernel
theorem dX6_riseOf_55 : decode cX6_riseOf 55 = .ok (.aload_n 0, 1) := by decide +kernel
theorem dX6_riseOf_56 : decode cX6_riseOf 56 = .ok (.getfield 18, 3) := by decide +kernel
theorem dX6_riseOf_59 : decode cX6_riseOf 59 = .ok (.iload_n 1, 1) := by decide +kernel
theorem dX6_riseOf_60 : decode cX6_riseOf 60 = .ok (.iaload, 1) := by decide +kernel
theorem dX6_riseOf_61 : decode cX6_riseOf 61 = .ok (.bipush 50, 2) := by decide +kernel
theorem dX6_riseOf_63 : decode cX6_riseOf 63 = .ok (.if_icmp .lt 9, 3) := by decide +kernel
theorem dX6_riseOf_66 : decode cX6_riseOf 66 = .ok (.iload_n 3, 1) := by decide +kernel
theorem dX6_riseOf_67 : decode cX6_riseOf 67 = .ok (.iconst 3, 1) := by decide +kernel
theorem dX6_riseOf_68 : decode cX6_riseOf 68 = .ok (.isub, 1) := by decide +kernel
theorem dX6_riseOf_69 : decode cX6_riseOf 69 = .ok (.goto 4, 3) := by decide +kernel
theorem dX6_riseOf_72 : decode cX6_riseOf 72 = .ok (.iload_n 3, 1) := by decide +kernel
theorem dX6_riseOf_73 : decode cX6_riseOf 73 = .ok (.istore 5, 2) := by decide +kernel
theorem dX6_riseOf_75 : decode cX6_riseOf 75 = .ok (.aload_n 0, 1) := by decide +kernel
theorem dX6_riseOf_76 : decode cX6_riseOf 76 = .ok (.getfield 9, 3) := by decide +kernel
theorem dX6_riseOf_79 : decode cX6_riseOf 79 = .ok (.iload_n 1, 1) := by decide +kernel
theorem dX6_riseOf_80 : decode cX6_riseOf 80 = .ok (.iaload, 1) := by decide +kernel
theorem dX6_riseOf_81 : decode cX6_riseOf 81 = .ok (.tableswitch 86 1 6 #[39, 42, 45, 49, 59, 66], 39) := by decide +kernel
theorem dX6_riseOf_120 : decode cX6_riseOf 120 = .ok (.iload 5, 2) := by decide +kernel
theorem dX6_riseOf_122 : decode cX6_riseOf 122 = .ok (.ireturn, 1) := by decide +kernel
theorem dX6_riseOf_123 : decode cX6_riseOf 123 = .ok (.iload 4, 2) := by decide +kernel
theorem dX6_riseOf_125 : decode cX6_riseOf 125 = .ok (.ireturn, 1) := by decide +kernel
theorem dX6_riseOf_126 : decode cX6_riseOf 126 = .ok (.iload_n 3, 1) := by decide +kernel
theorem dX6_riseOf_127 : decode cX6_riseOf 127 = .ok (.iconst 2, 1) := by decide +kernel
theorem dX6_riseOf_128 : decode cX6_riseOf 128 = .ok (.idiv, 1) := by decide +kernel
theorem dX6_riseOf_129 : decode cX6_riseOf 129 = .ok (.ireturn, 1) := by decide +kernel
theorem dX6_riseOf_130 : decode cX6_riseOf 130 = .ok (.iload 5, 2) := by decide +kernel
theorem dX6_riseOf_132 : decode cX6_riseOf 132 = .ok (.aload_n 0, 1) := by decide +kernel
theorem dX6_riseOf_133 : decode cX6_riseOf 133 = .ok (.getfield 15, 3) := by decide +kernel
theorem dX6_riseOf_136 : decode cX6_riseOf 136 = .ok (.iload_n 1, 1) := by decide +kernel
theorem dX6_riseOf_137 : decode cX6_riseOf 137 = .ok (.iaload, 1) := by decide +kernel
theorem dX6_riseOf_138 : decode cX6_riseOf 138 = .ok (.iadd, 1) := by decide +kernel
theorem dX6_riseOf_139 : decode cX6_riseOf 139 = .ok (.ireturn, 1) := by decide +kernel
theorem dX6_riseOf_140 : decode cX6_riseOf 140 = .ok (.iload 4, 2) := by decide +kernel
theorem dX6_riseOf_142 : decode cX6_riseOf 142 = .ok (.iconst 2, 1) := by decide +kernel
theorem dX6_riseOf_143 : decode cX6_riseOf 143 = .ok (.iload_n 2, 1) := by decide +kernel
theorem dX6_riseOf_144 : decode cX6_riseOf 144 = .ok (.imul, 1) := by decide +kernel
theorem dX6_riseOf_145 : decode cX6_riseOf 145 = .ok (.iadd, 1) := by decide +kernel
theorem dX6_riseOf_146 : decode cX6_riseOf 146 = .ok (.ireturn, 1) := by decide +kernel
theorem dX6_riseOf_147 : decode cX6_riseOf 147 = .ok (.iload_n 3, 1) := by decide +kernel
theorem dX6_riseOf_148 : decode cX6_riseOf 148 = .ok (.iconst 2, 1) := by decide +kernel
theorem dX6_riseOf_149 : decode cX6_riseOf 149 = .ok (.idiv, 1) := by decide +kernel
theorem dX6_riseOf_150 : decode cX6_riseOf 150 = .ok (.aload_n 0, 1) := by decide +kernel
theorem dX6_riseOf_151 : decode cX6_riseOf 151 = .ok (.getfield 25, 3) := by decide +kernel
theorem dX6_riseOf_154 : decode cX6_riseOf 154 = .ok (.iload_n 1, 1) := by decide +kernel
theorem dX6_riseOf_155 : decode cX6_riseOf 155 = .ok (.iconst 4, 1) := by decide +kernel
theorem dX6_riseOf_156 : decode cX6_riseOf 156 = .ok (.imul, 1) := by decide +kernel
theorem dX6_riseOf_157 : decode cX6_riseOf 157 = .ok (.aload_n 0, 1) := by decide +kernel
theorem dX6_riseOf_158 : decode cX6_riseOf 158 = .ok (.getfield 61, 3) := by decide +kernel
theorem dX6_riseOf_161 : decode cX6_riseOf 161 = .ok (.iconst 4, 1) := by decide +kernel
theorem dX6_riseOf_162 : decode cX6_riseOf 162 = .ok (.irem, 1) := by decide +kernel
theorem dX6_riseOf_163 : decode cX6_riseOf 163 = .ok (.iadd, 1) := by decide +kernel
theorem dX6_riseOf_164 : decode cX6_riseOf 164 = .ok (.iaload, 1) := by decide +kernel
theorem dX6_riseOf_165 : decode cX6_riseOf 165 = .ok (.iadd, 1) := by decide +kernel
theorem dX6_riseOf_166 : decode cX6_riseOf 166 = .ok (.ireturn, 1) := by decide +kernel
theorem dX6_riseOf_167 : decode cX6_riseOf 167 = .ok (.iload_n 3, 1) := by decide +kernel
theorem dX6_riseOf_168 : decode cX6_riseOf 168 = .ok (.ireturn, 1) := by decide +kernel
theorem dX6_setLetters_0 : decode cX6_setLetters 0 = .ok (.aload_n 0, 1) := by decide +kernel
theorem dX6_setLetters_1 : decode cX6_setLetters 1 = .ok (.getfield 46, 3) := by decide +kernel
theorem dX6_setLetters_4 : decode cX6_setLetters 4 = .ok (.iconst 0, 1) := by decide +kernel
theorem dX6_setLetters_5 : decode cX6_setLetters 5 = .ok (.iload_n 1, 1) := by decide +kernel
theorem dX6_setLetters_6 : decode cX6_setLetters 6 = .ok (.iastore, 1) := by decide +kernel
theorem dX6_setLetters_7 : decode cX6_setLetters 7 = .ok (.aload_n 0, 1) := by decide +kernel
theorem dX6_setLetters_8 : decode cX6_setLetters 8 = .ok (.getfield 46, 3) := by decide +kernel
theorem dX6_setLetters_11 : decode cX6_setLetters 11 = .ok (.iconst 1, 1) := by decide +kernel
theorem dX6_setLetters_12 : decode cX6_setLetters 12 = .ok (.aload_n 0, 1) := by decide +kernel
theorem dX6_setLetters_13 : decode cX6_setLetters 13 = .ok (.getfield 9, 3) := by decide +kernel
theorem dX6_setLetters_16 : decode cX6_setLetters 16 = .ok (.iload_n 1, 1) := by decide +kernel
theorem dX6_setLetters_17 : decode cX6_setLetters 17 = .ok (.iaload, 1) := by decide +kernel
theorem dX6_setLetters_18 : decode cX6_setLetters 18 = .ok (.iastore, 1) := by decide +kernel
theorem dX6_setLetters_19 : decode cX6_setLetters 19 = .ok (.aload_n 0, 1) := by decide +kernel
theorem dX6_setLetters_20 : decode cX6_setLetters 20 = .ok (.getfield 46, 3) := by decide +kernel
theorem dX6_setLetters_23 : decode cX6_setLetters 23 = .ok (.iconst 2, 1) := by decide +kernel
theorem dX6_setLetters_24 : decode cX6_setLetters 24 = .ok (.aload_n 0, 1) := by decide +kernel
theorem dX6_setLetters_25 : decode cX6_setLetters 25 = .ok (.getfield 15, 3) := by decide +kernel
theorem dX6_setLetters_28 : decode cX6_setLetters 28 = .ok (.iload_n 1, 1) := by decide +kernel
theorem dX6_setLetters_29 : decode cX6_setLetters 29 = .ok (.iaload, 1) := by decide +kernel
theorem dX6_setLetters_30 : decode cX6_setLetters 30 = .ok (.iastore, 1) := by decide +kernel
theorem dX6_setLetters_31 : decode cX6_setLetters 31 = .ok (.aload_n 0, 1) := by decide +kernel
theorem dX6_setLetters_32 : decode cX6_setLetters 32 = .ok (.getfield 46, 3) := by decide +kernel
theorem dX6_setLetters_35 : decode cX6_setLetters 35 = .ok (.iconst 3, 1) := by decide +kernel
theorem dX6_setLetters_36 : decode cX6_setLetters 36 = .ok (.aload_n 0, 1) := by decide +kernel
theorem dX6_setLetters_37 : decode cX6_setLetters 37 = .ok (.getfield 18, 3) := by decide +kernel
theorem dX6_setLetters_40 : decode cX6_setLetters 40 = .ok (.iload_n 1, 1) := by decide +kernel
theorem dX6_setLetters_41 : decode cX6_setLetters 41 = .ok (.iaload, 1) := by decide +kernel
theorem dX6_setLetters_42 : decode cX6_setLetters 42 = .ok (.bipush 10, 2) := by decide +kernel
theorem dX6_setLetters_44 : decode cX6_setLetters 44 = .ok (.idiv, 1) := by decide +kernel
theorem dX6_setLetters_45 : decode cX6_setLetters 45 = .ok (.iastore, 1) := by decide +kernel
theorem dX6_setLetters_46 : decode cX6_setLetters 46 = .ok (.aload_n 0, 1) := by decide +kernel
theorem dX6_setLetters_47 : decode cX6_setLetters 47 = .ok (.getfield 46, 3) := by decide +kernel
theorem dX6_setLetters_50 : decode cX6_setLetters 50 = .ok (.iconst 4, 1) := by decide +kernel
theorem dX6_setLetters_51 : decode cX6_setLetters 51 = .ok (.iload_n 2, 1) := by decide +kernel
theorem dX6_setLetters_52 : decode cX6_setLetters 52 = .ok (.iastore, 1) := by decide +kernel
theorem dX6_setLetters_53 : decode cX6_setLetters 53 = .ok (.aload_n 0, 1) := by decide +kernel
theorem dX6_setLetters_54 : decode cX6_setLetters 54 = .ok (.getfield 46, 3) := by decide +kernel
theorem dX6_setLetters_57 : decode cX6_setLetters 57 = .ok (.iconst 5, 1) := by decide +kernel
theorem dX6_setLetters_58 : decode cX6_setLetters 58 = .ok (.aload_n 0, 1) := by decide +kernel
theorem dX6_setLetters_59 : decode cX6_setLetters 59 = .ok (.getfield 61, 3) := by decide +kernel
theorem dX6_setLetters_62 : decode cX6_setLetters 62 = .ok (.bipush 10, 2) := by decide +kernel
theorem dX6_setLetters_64 : decode cX6_setLetters 64 = .ok (.irem, 1) := by decide +kernel
theorem dX6_setLetters_65 : decode cX6_setLetters 65 = .ok (.iastore, 1) := by decide +kernel
theorem dX6_setLetters_66 : decode cX6_setLetters 66 = .ok (.return_, 1) := by decide +kernel
theorem dX6_goOn_0 : decode cX6_goOn 0 = .ok (.iconst 0, 1) := by decide +kernel
theorem dX6_goOn_1 : decode cX6_goOn 1 = .ok (.istore_n 2, 1) := by decide +kernel
theorem dX6_goOn_2 : decode cX6_goOn 2 = .ok (.iload_n 2, 1) := by decide +kernel
theorem dX6_goOn_3 : decode cX6_goOn 3 = .ok (.iload_n 1, 1) := by decide +kernel
theorem dX6_goOn_4 : decode cX6_goOn 4 = .ok (.if_icmp .ge 13, 3) := by decide +kernel
theorem dX6_goOn_7 : decode cX6_goOn 7 = .ok (.aload_n 0, 1) := by decide +kernel
theorem dX6_goOn_8 : decode cX6_goOn 8 = .ok (.invokevirtual 93, 3) := by decide +kernel
theorem dX6_goOn_11 : decode cX6_goOn 11 = .ok (.iinc 2 1, 3) := by decide +kernel
theorem dX6_goOn_14 : decode cX6_goOn 14 = .ok (.goto (-12), 3) := by decide +kernel
theorem dX6_goOn_17 : decode cX6_goOn 17 = .ok (.return_, 1) := by decide +kernel
theorem dX6_goOneMinute_0 : decode cX6_goOneMinute 0 = .ok (.aload_n 0, 1) := by decide +kernel
theorem dX6_goOneMinute_1 : decode cX6_goOneMinute 1 = .ok (.aload_n 0, 1) := by decide +kernel
theorem dX6_goOneMinute_2 : decode cX6_goOneMinute 2 = .ok (.getfield 37, 3) := by decide +kernel
theorem dX6_goOneMinute_5 : decode cX6_goOneMinute 5 = .ok (.invokevirtual 72, 3) := by decide +kernel
theorem dX6_goOneMinute_8 : decode cX6_goOneMinute 8 = .ok (.ifCond .eq 21, 3) := by decide +kernel
theorem dX6_goOneMinute_11 : decode cX6_goOneMinute 11 = .ok (.aload_n 0, 1) := by decide +kernel
theorem dX6_goOneMinute_12 : decode cX6_goOneMinute 12 = .ok (.aload_n 0, 1) := by decide +kernel
theorem dX6_goOneMinute_13 : decode cX6_goOneMinute 13 = .ok (.getfield 37, 3) := by decide +kernel
theorem dX6_goOneMinute_16 : decode cX6_goOneMinute 16 = .ok (.invokevirtual 75, 3) := by decide +kernel
theorem dX6_goOneMinute_19 : decode cX6_goOneMinute 19 = .ok (.ifCond .ne 10, 3) := by decide +kernel
theorem dX6_goOneMinute_22 : decode cX6_goOneMinute 22 = .ok (.aload_n 0, 1) := by decide +kernel
theorem dX6_goOneMinute_23 : decode cX6_goOneMinute 23 = .ok (.invokevirtual 96, 3) := by decide +kernel
theorem dX6_goOneMinute_26 : decode cX6_goOneMinute 26 = .ok (.goto 4, 3) := by decide +kernel
theorem dX6_goOneMinute_29 : decode cX6_goOneMinute 29 = .ok (.iconst (-1), 1) := by decide +kernel
theorem dX6_goOneMinute_30 : decode cX6_goOneMinute 30 = .ok (.istore_n 1, 1) := by decide +kernel
theorem dX6_goOneMinute_31 : decode cX6_goOneMinute 31 = .ok (.aload_n 0, 1) := by decide +kernel
theorem dX6_goOneMinute_32 : decode cX6_goOneMinute 32 = .ok (.invokevirtual 100, 3) := by decide +kernel
theorem dX6_goOneMinute_35 : decode cX6_goOneMinute 35 = .ok (.istore_n 2, 1) := by decide +kernel
theorem dX6_goOneMinute_36 : decode cX6_goOneMinute 36 = .ok (.iconst 0, 1) := by decide +kernel
theorem dX6_goOneMinute_37 : decode cX6_goOneMinute 37 = .ok (.istore_n 3, 1) := by decide +kernel
theorem dX6_goOneMinute_38 : decode cX6_goOneMinute 38 = .ok (.iload_n 3, 1) := by decide +kernel
theorem dX6_goOneMinute_39 : decode cX6_goOneMinute 39 = .ok (.aload_n 0, 1) := by decide +kernel
theorem dX6_goOneMinute_40 : decode cX6_goOneMinute 40 = .ok (.getfield 49, 3) := by decide +kernel
theorem dX6_goOneMinute_43 : decode cX6_goOneMinute 43 = .ok (.if_icmp .ge 76, 3) := by decide +kernel
theorem dX6_goOneMinute_46 : decode cX6_goOneMinute 46 = .ok (.aload_n 0, 1) := by decide +kernel
theorem dX6_goOneMinute_47 : decode cX6_goOneMinute 47 = .ok (.getfield 41, 3) := by decide +kernel
theorem dX6_goOneMinute_50 : decode cX6_goOneMinute 50 = .ok (.iload_n 3, 1) := by decide +kernel
theorem dX6_goOneMinute_51 : decode cX6_goOneMinute 51 = .ok (.aload_n 0, 1) := by decide +kernel
theorem dX6_goOneMinute_52 : decode cX6_goOneMinute 52 = .ok (.getfield 18, 3) := by decide +kernel
theorem dX6_goOneMinute_55 : decode cX6_goOneMinute 55 = .ok (.iload_n 3, 1) := by decide +kernel
theorem dX6_goOneMinute_56 : decode cX6_goOneMinute 56 = .ok (.iaload, 1) := by decide +kernel
theorem dX6_goOneMinute_57 : decode cX6_goOneMinute 57 = .ok (.iastore, 1) := by decide +kernel
theorem dX6_goOneMinute_58 : decode cX6_goOneMinute 58 = .ok (.aload_n 0, 1) := by decide +kernel
theorem dX6_goOneMinute_59 : decode cX6_goOneMinute 59 = .ok (.getfield 21, 3) := by decide +kernel
theorem dX6_goOneMinute_62 : decode cX6_goOneMinute 62 = .ok (.iload_n 3, 1) := by decide +kernel
theorem dX6_goOneMinute_63 : decode cX6_goOneMinute 63 = .ok (.baload, 1) := by decide +kernel
theorem dX6_goOneMinute_64 : decode cX6_goOneMinute 64 = .ok (.ifCond .ne 49, 3) := by decide +kernel
theorem dX6_goOneMinute_67 : decode cX6_goOneMinute 67 = .ok (.iload_n 3, 1) := by decide +kernel
theorem dX6_goOneMinute_68 : decode cX6_goOneMinute 68 = .ok (.iload_n 1, 1) := by decide +kernel
theorem dX6_goOneMinute_69 : decode cX6_goOneMinute 69 = .ok (.if_icmp .eq 44, 3) := by decide +kernel
theorem dX6_goOneMinute_72 : decode cX6_goOneMinute 72 = .ok (.aload_n 0, 1) := by decide +kernel
theorem dX6_goOneMinute_73 : decode cX6_goOneMinute 73 = .ok (.iload_n 3, 1) := by decide +kernel
theorem dX6_goOneMinute_74 : decode cX6_goOneMinute 74 = .ok (.invokevirtual 102, 3) := by decide +kernel
theorem dX6_goOneMinute_77 : decode cX6_goOneMinute 77 = .ok (.bipush 10, 2) := by decide +kernel
theorem dX6_goOneMinute_79 : decode cX6_goOneMinute 79 = .ok (.aload_n 0, 1) := by decide +kernel
theorem dX6_goOneMinute_80 : decode cX6_goOneMinute 80 = .ok (.iload_n 3, 1) := by decide +kernel
theorem dX6_goOneMinute_81 : decode cX6_goOneMinute 81 = .ok (.iload_n 2, 1) := by decide +kernel
theorem dX6_goOneMinute_82 : decode cX6_goOneMinute 82 = .ok (.invokevirtual 81, 3) := by decide +kernel
theorem dX6_goOneMinute_85 : decode cX6_goOneMinute 85 = .ok (.imul, 1) := by decide +kernel
theorem dX6_goOneMinute_86 : decode cX6_goOneMinute 86 = .ok (.iadd, 1) := by decide +kernel
theorem dX6_goOneMinute_87 : decode cX6_goOneMinute 87 = .ok (.istore 4, 2) := by decide +kernel
theorem dX6_goOneMinute_89 : decode cX6_goOneMinute 89 = .ok (.aload_n 0, 1) := by decide +kernel
theorem dX6_goOneMinute_90 : decode cX6_goOneMinute 90 = .ok (.getfield 41, 3) := by decide +kernel
theorem dX6_goOneMinute_93 : decode cX6_goOneMinute 93 = .ok (.iload_n 3, 1) := by decide +kernel
theorem dX6_goOneMinute_94 : decode cX6_goOneMinute 94 = .ok (.iconst 0, 1) := by decide +kernel
theorem dX6_goOneMinute_95 : decode cX6_goOneMinute 95 = .ok (.bipush 99, 2) := by decide +kernel
theorem dX6_goOneMinute_97 : decode cX6_goOneMinute 97 = .ok (.aload_n 0, 1) := by decide +kernel
theorem dX6_goOneMinute_98 : decode cX6_goOneMinute 98 = .ok (.getfield 18, 3) := by decide +kernel
theorem dX6_goOneMinute_101 : decode cX6_goOneMinute 101 = .ok (.iload_n 3, 1) := by decide +kernel
theorem dX6_goOneMinute_102 : decode cX6_goOneMinute 102 = .ok (.iaload, 1) := by decide +kernel
theorem dX6_goOneMinute_103 : decode cX6_goOneMinute 103 = .ok (.iload 4, 2) := by decide +kernel
theorem dX6_goOneMinute_105 : decode cX6_goOneMinute 105 = .ok (.iadd, 1) := by decide +kernel
theorem dX6_goOneMinute_106 : decode cX6_goOneMinute 106 = .ok (.invokestatic 106, 3) := by decide +kernel
theorem dX6_goOneMinute_109 : decode cX6_goOneMinute 109 = .ok (.invokestatic 111, 3) := by decide +kernel
theorem dX6_goOneMinute_112 : decode cX6_goOneMinute 112 = .ok (.iastore, 1) := by decide +kernel
theorem dX6_goOneMinute_113 : decode cX6_goOneMinute 113 = .ok (.iinc 3 1, 3) := by decide +kernel
theorem dX6_goOneMinute_116 : decode cX6_goOneMinute 116 = .ok (.goto (-78), 3) := by decide +kernel
theorem dX6_goOneMinute_119 : decode cX6_goOneMinute 119 = .ok (.iload_n 1, 1) := by decide +kernel
theorem dX6_goOneMinute_120 : decode cX6_goOneMinute 120 = .ok (.ifCond .lt 41, 3) := by decide +kernel
theorem dX6_goOneMinute_123 : decode cX6_goOneMinute 123 = .ok (.aload_n 0, 1) := by decide +kernel
theorem dX6_goOneMinute_124 : decode cX6_goOneMinute 124 = .ok (.getfield 34, 3) := by decide +kernel
theorem dX6_goOneMinute_127 : decode cX6_goOneMinute 127 = .ok (.aload_n 0, 1) := by decide +kernel
theorem dX6_goOneMinute_128 : decode cX6_goOneMinute 128 = .ok (.getfield 37, 3) := by decide +kernel
theorem dX6_goOneMinute_131 : decode cX6_goOneMinute 131 = .ok (.sipush 9999, 3) := by decide +kernel
theorem dX6_goOneMinute_134 : decode cX6_goOneMinute 134 = .ok (.aload_n 0, 1) := by decide +kernel
theorem dX6_goOneMinute_135 : decode cX6_goOneMinute 135 = .ok (.getfield 34, 3) := by decide +kernel
theorem dX6_goOneMinute_138 : decode cX6_goOneMinute 138 = .ok (.aload_n 0, 1) := by decide +kernel
theorem dX6_goOneMinute_139 : decode cX6_goOneMinute 139 = .ok (.getfield 37, 3) := by decide +kernel
theorem dX6_goOneMinute_142 : decode cX6_goOneMinute 142 = .ok (.iaload, 1) := by decide +kernel
theorem dX6_goOneMinute_143 : decode cX6_goOneMinute 143 = .ok (.aload_n 0, 1) := by decide +kernel
theorem dX6_goOneMinute_144 : decode cX6_goOneMinute 144 = .ok (.getfield 18, 3) := by decide +kernel
theorem dX6_goOneMinute_147 : decode cX6_goOneMinute 147 = .ok (.iload_n 1, 1) := by decide +kernel
theorem dX6_goOneMinute_148 : decode cX6_goOneMinute 148 = .ok (.iaload, 1) := by decide +kernel
theorem dX6_goOneMinute_149 : decode cX6_goOneMinute 149 = .ok (.iadd, 1) := by decide +kernel
theorem dX6_goOneMinute_150 : decode cX6_goOneMinute 150 = .ok (.invokestatic 106, 3) := by decide +kernel
theorem dX6_goOneMinute_153 : decode cX6_goOneMinute 153 = .ok (.iastore, 1) := by decide +kernel
theorem dX6_goOneMinute_154 : decode cX6_goOneMinute 154 = .ok (.aload_n 0, 1) := by decide +kernel
theorem dX6_goOneMinute_155 : decode cX6_goOneMinute 155 = .ok (.getfield 41, 3) := by decide +kernel
theorem dX6_goOneMinute_158 : decode cX6_goOneMinute 158 = .ok (.iload_n 1, 1) := by decide +kernel
theorem dX6_goOneMinute_159 : decode cX6_goOneMinute 159 = .ok (.iconst 0, 1) := by decide +kernel
theorem dX6_goOneMinute_160 : decode cX6_goOneMinute 160 = .ok (.iastore, 1) := by decide +kernel
theorem dX6_goOneMinute_161 : decode cX6_goOneMinute 161 = .ok (.aload_n 0, 1) := by decide +kernel
theorem dX6_goOneMinute_162 : decode cX6_goOneMinute 162 = .ok (.getfield 41, 3) := by decide +kernel
theorem dX6_goOneMinute_165 : decode cX6_goOneMinute 165 = .ok (.iconst 0, 1) := by decide +kernel
theorem dX6_goOneMinute_166 : decode cX6_goOneMinute 166 = .ok (.aload_n 0, 1) := by decide +kernel
theorem dX6_goOneMinute_167 : decode cX6_goOneMinute 167 = .ok (.getfield 18, 3) := by decide +kernel
theorem dX6_goOneMinute_170 : decode cX6_goOneMinute 170 = .ok (.iconst 0, 1) := by decide +kernel
theorem dX6_goOneMinute_171 : decode cX6_goOneMinute 171 = .ok (.bipush 6, 2) := by decide +kernel
theorem dX6_goOneMinute_173 : decode cX6_goOneMinute 173 = .ok (.invokestatic 55, 3) := by decide +kernel
theorem dX6_goOneMinute_176 : decode cX6_goOneMinute 176 = .ok (.aload_n 0, 1) := by decide +kernel
theorem dX6_goOneMinute_177 : decode cX6_goOneMinute 177 = .ok (.dup, 1) := by decide +kernel
theorem dX6_goOneMinute_178 : decode cX6_goOneMinute 178 = .ok (.getfield 61, 3) := by decide +kernel
theorem dX6_goOneMinute_181 : decode cX6_goOneMinute 181 = .ok (.iconst 1, 1) := by decide +kernel
theorem dX6_goOneMinute_182 : decode cX6_goOneMinute 182 = .ok (.iadd, 1) := by decide +kernel
theorem dX6_goOneMinute_183 : decode cX6_goOneMinute 183 = .ok (.putfield 61, 3) := by decide +kernel
theorem dX6_goOneMinute_186 : decode cX6_goOneMinute 186 = .ok (.return_, 1) := by decide +kernel
theorem dX7_init_0 : decode cX7_init 0 = .ok (.aload_n 0, 1) := by decide +kernel
theorem dX7_init_1 : decode cX7_init 1 = .ok (.invokespecial 3, 3) := by decide +kernel
theorem dX7_init_4 : decode cX7_init 4 = .ok (.aload_n 0, 1) := by decide +kernel
theorem dX7_init_5 : decode cX7_init 5 = .ok (.new 9, 3) := by decide +kernel
theorem dX7_init_8 : decode cX7_init 8 = .ok (.dup, 1) := by decide +kernel
theorem dX7_init_9 : decode cX7_init 9 = .ok (.invokespecial 11, 3) := by decide +kernel
theorem dX7_init_12 : decode cX7_init 12 = .ok (.putfield 12, 3) := by decide +kernel
theorem dX7_init_15 : decode cX7_init 15 = .ok (.aload_n 0, 1) := by decide +kernel
theorem dX7_init_16 : decode cX7_init 16 = .ok (.new 18, 3) := by decide +kernel
theorem dX7_init_19 : decode cX7_init 19 = .ok (.dup, 1) := by decide +kernel
theorem dX7_init_20 : decode cX7_init 20 = .ok (.iconst 5, 1) := by decide +kernel
theorem dX7_init_21 : decode cX7_init 21 = .ok (.invokespecial 20, 3) := by decide +kernel
theorem dX7_init_24 : decode cX7_init 24 = .ok (.putfield 23, 3) := by decide +kernel
theorem dX7_init_27 : decode cX7_init 27 = .ok (.aload_n 0, 1) := by decide +kernel
theorem dX7_init_28 : decode cX7_init 28 = .ok (.new 18, 3) := by decide +kernel
theorem dX7_init_31 : decode cX7_init 31 = .ok (.dup, 1) := by decide +kernel
theorem dX7_init_32 : decode cX7_init 32 = .ok (.bipush 10, 2) := by decide +kernel
theorem dX7_init_34 : decode cX7_init 34 = .ok (.invokespecial 20, 3) := by decide +kernel
theorem dX7_init_37 : decode cX7_init 37 = .ok (.putfield 27, 3) := by decide +kernel
theorem dX7_init_40 : decode cX7_init 40 = .ok (.aload_n 0, 1) := by decide +kernel
theorem dX7_init_41 : decode cX7_init 41 = .ok (.new 18, 3) := by decide +kernel
theorem dX7_init_44 : decode cX7_init 44 = .ok (.dup, 1) := by decide +kernel
theorem dX7_init_45 : decode cX7_init 45 = .ok (.bipush 8, 2) := by decide +kernel
theorem dX7_init_47 : decode cX7_init 47 = .ok (.invokespecial 20, 3) := by decide +kernel
theorem dX7_init_50 : decode cX7_init 50 = .ok (.putfield 30, 3) := by decide +kernel
theorem dX7_init_53 : decode cX7_init 53 = .ok (.return_, 1) := by decide +kernel
theorem dX7_become_0 : decode cX7_become 0 = .ok (.aload_n 0, 1) := by decide +kernel
theorem dX7_become_1 : decode cX7_become 1 = .ok (.getfield 12, 3) := by decide +kernel
theorem dX7_become_4 : decode cX7_become 4 = .ok (.aload_n 1, 1) := by decide +kernel
theorem dX7_become_5 : decode cX7_become 5 = .ok (.getfield 12, 3) := by decide +kernel
theorem dX7_become_8 : decode cX7_become 8 = .ok (.invokevirtual 33, 3) := by decide +kernel
theorem dX7_become_11 : decode cX7_become 11 = .ok (.aload_n 0, 1) := by decide +kernel
theorem dX7_become_12 : decode cX7_become 12 = .ok (.getfield 23, 3) := by decide +kernel
theorem dX7_become_15 : decode cX7_become 15 = .ok (.aload_n 1, 1) := by decide +kernel
theorem dX7_become_16 : decode cX7_become 16 = .ok (.getfield 23, 3) := by decide +kernel
theorem dX7_become_19 : decode cX7_become 19 = .ok (.invokevirtual 37, 3) := by decide +kernel
theorem dX7_become_22 : decode cX7_become 22 = .ok (.aload_n 0, 1) := by decide +kernel
theorem dX7_become_23 : decode cX7_become 23 = .ok (.getfield 27, 3) := by decide +kernel
theorem dX7_become_26 : decode cX7_become 26 = .ok (.aload_n 1, 1) := by decide +kernel
theorem dX7_become_27 : decode cX7_become 27 = .ok (.getfield 27, 3) := by decide +kernel
theorem dX7_become_30 : decode cX7_become 30 = .ok (.invokevirtual 37, 3) := by decide +kernel
theorem dX7_become_33 : decode cX7_become 33 = .ok (.aload_n 0, 1) := by decide +kernel
theorem dX7_become_34 : decode cX7_become 34 = .ok (.getfield 30, 3) := by decide +kernel
theorem dX7_become_37 : decode cX7_become 37 = .ok (.aload_n 1, 1) := by decide +kernel
theorem dX7_become_38 : decode cX7_become 38 = .ok (.getfield 30, 3) := by decide +kernel
theorem dX7_become_41 : decode cX7_become 41 = .ok (.invokevirtual 37, 3) := by decide +kernel
theorem dX7_become_44 : decode cX7_become 44 = .ok (.return_, 1) := by decide +kernel
end
section
/-! ===== decode rows ===== -/
theorem dX8_init_0 : decode cX8_init 0 = .ok (.aload_n 0, 1) := by decide +kernel
theorem dX8_init_1 : decode cX8_init 1 = .ok (.invokespecial 3, 3) := by decide +kernel
theorem dX8_init_4 : decode cX8_init 4 = .ok (.aload_n 0, 1) := by decide +kernel
theorem dX8_init_5 : decode cX8_init 5 = .ok (.new 9, 3) := by decide +kernel
theorem dX8_init_8 : decode cX8_init 8 = .ok (.dup, 1) := by decide +kernel
theorem dX8_init_9 : decode cX8_init 9 = .ok (.invokespecial 11, 3) := by decide +kernel
theorem dX8_init_12 : decode cX8_init 12 = .ok (.putfield 12, 3) := by decide +kernel
theorem dX8_init_15 : decode cX8_init 15 = .ok (.aload_n 0, 1) := by decide +kernel
theorem dX8_init_16 : decode cX8_init 16 = .ok (.new 9, 3) := by decide +kernel
theorem dX8_init_19 : decode cX8_init 19 = .ok (.dup, 1) := by decide +kernel
theorem dX8_init_20 : decode cX8_init 20 = .ok (.invokespecial 11, 3) := by decide +kernel
theorem dX8_init_23 : decode cX8_init 23 = .ok (.putfield 18, 3) := by decide +kernel
theorem dX8_init_26 : decode cX8_init 26 = .ok (.aload_n 0, 1) := by decide +kernel
theorem dX8_init_27 : decode cX8_init 27 = .ok (.aload_n 0, 1) := by decide +kernel
theorem dX8_init_28 : decode cX8_init 28 = .ok (.getfield 12, 3) := by decide +kernel
theorem dX8_init_31 : decode cX8_init 31 = .ok (.getfield 21, 3) := by decide +kernel
theorem dX8_init_34 : decode cX8_init 34 = .ok (.putfield 25, 3) := by decide +kernel
theorem dX8_init_37 : decode cX8_init 37 = .ok (.aload_n 0, 1) := by decide +kernel
theorem dX8_init_38 : decode cX8_init 38 = .ok (.new 26, 3) := by decide +kernel
theorem dX8_init_41 : decode cX8_init 41 = .ok (.dup, 1) := by decide +kernel
theorem dX8_init_42 : decode cX8_init 42 = .ok (.aload_n 0, 1) := by decide +kernel
theorem dX8_init_43 : decode cX8_init 43 = .ok (.getfield 12, 3) := by decide +kernel
theorem dX8_init_46 : decode cX8_init 46 = .ok (.getfield 21, 3) := by decide +kernel
theorem dX8_init_49 : decode cX8_init 49 = .ok (.aload_n 0, 1) := by decide +kernel
theorem dX8_init_50 : decode cX8_init 50 = .ok (.getfield 12, 3) := by decide +kernel
theorem dX8_init_53 : decode cX8_init 53 = .ok (.getfield 28, 3) := by decide +kernel
theorem dX8_init_56 : decode cX8_init 56 = .ok (.invokespecial 32, 3) := by decide +kernel
theorem dX8_init_59 : decode cX8_init 59 = .ok (.putfield 35, 3) := by decide +kernel
theorem dX8_init_62 : decode cX8_init 62 = .ok (.aload_n 0, 1) := by decide +kernel
theorem dX8_init_63 : decode cX8_init 63 = .ok (.new 39, 3) := by decide +kernel
theorem dX8_init_66 : decode cX8_init 66 = .ok (.dup, 1) := by decide +kernel
theorem dX8_init_67 : decode cX8_init 67 = .ok (.invokespecial 41, 3) := by decide +kernel
theorem dX8_init_70 : decode cX8_init 70 = .ok (.putfield 42, 3) := by decide +kernel
theorem dX8_init_73 : decode cX8_init 73 = .ok (.aload_n 0, 1) := by decide +kernel
theorem dX8_init_74 : decode cX8_init 74 = .ok (.bipush 6, 2) := by decide +kernel
theorem dX8_init_76 : decode cX8_init 76 = .ok (.anewarray 46, 3) := by decide +kernel
theorem dX8_init_79 : decode cX8_init 79 = .ok (.putfield 48, 3) := by decide +kernel
theorem dX8_init_82 : decode cX8_init 82 = .ok (.aload_n 0, 1) := by decide +kernel
theorem dX8_init_83 : decode cX8_init 83 = .ok (.new 52, 3) := by decide +kernel
theorem dX8_init_86 : decode cX8_init 86 = .ok (.dup, 1) := by decide +kernel
theorem dX8_init_87 : decode cX8_init 87 = .ok (.invokespecial 54, 3) := by decide +kernel
theorem dX8_init_90 : decode cX8_init 90 = .ok (.putfield 55, 3) := by decide +kernel
theorem dX8_init_93 : decode cX8_init 93 = .ok (.aload_n 0, 1) := by decide +kernel
theorem dX8_init_94 : decode cX8_init 94 = .ok (.new 59, 3) := by decide +kernel
theorem dX8_init_97 : decode cX8_init 97 = .ok (.dup, 1) := by decide +kernel
theorem dX8_init_98 : decode cX8_init 98 = .ok (.invokespecial 61, 3) := by decide +kernel
theorem dX8_init_101 : decode cX8_init 101 = .ok (.putfield 62, 3) := by decide +kernel
theorem dX8_init_104 : decode cX8_init 104 = .ok (.iconst 0, 1) := by decide +kernel
theorem dX8_init_105 : decode cX8_init 105 = .ok (.istore_n 1, 1) := by decide +kernel
theorem dX8_init_106 : decode cX8_init 106 = .ok (.iload_n 1, 1) := by decide +kernel
theorem dX8_init_107 : decode cX8_init 107 = .ok (.aload_n 0, 1) := by decide +kernel
theorem dX8_init_108 : decode cX8_init 108 = .ok (.getfield 48, 3) := by decide +kernel
theorem dX8_init_111 : decode cX8_init 111 = .ok (.arraylength, 1) := by decide +kernel
theorem dX8_init_112 : decode cX8_init 112 = .ok (.if_icmp .ge 22, 3) := by decide +kernel
theorem dX8_init_115 : decode cX8_init 115 = .ok (.aload_n 0, 1) := by decide +kernel
theorem dX8_init_116 : decode cX8_init 116 = .ok (.getfield 48, 3) := by decide +kernel
theorem dX8_init_119 : decode cX8_init 119 = .ok (.iload_n 1, 1) := by decide +kernel
theorem dX8_init_120 : decode cX8_init 120 = .ok (.new 46, 3) := by decide +kernel
theorem dX8_init_123 : decode cX8_init 123 = .ok (.dup, 1) := by decide +kernel
theorem dX8_init_124 : decode cX8_init 124 = .ok (.invokespecial 66, 3) := by decide +kernel
theorem dX8_init_127 : decode cX8_init 127 = .ok (.aastore, 1) := by decide +kernel
theorem dX8_init_128 : decode cX8_init 128 = .ok (.iinc 1 1, 3) := by decide +kernel
theorem dX8_init_131 : decode cX8_init 131 = .ok (.goto (-25), 3) := by decide +kernel
theorem dX8_init_134 : decode cX8_init 134 = .ok (.return_, 1) := by decide +kernel
theorem dX8_one_0 : decode cX8_one 0 = .ok (.iload_n 1, 1) := by decide +kernel
theorem dX8_one_1 : decode cX8_one 1 = .ok (.iconst 0, 1) := by decide +kernel
theorem dX8_one_2 : decode cX8_one 2 = .ok (.bipush 6, 2) := by decide +kernel
theorem dX8_one_4 : decode cX8_one 4 = .ok (.invokestatic 67, 3) := by decide +kernel
theorem dX8_one_7 : decode cX8_one 7 = .ok (.ifCond .ne 5, 3) := by decide +kernel
theorem dX8_one_10 : decode cX8_one 10 = .ok (.iconst (-1), 1) := by decide +kernel
theorem dX8_one_11 : decode cX8_one 11 = .ok (.ireturn, 1) := by decide +kernel
theorem dX8_one_12 : decode cX8_one 12 = .ok (.iload_n 2, 1) := by decide +kernel
theorem dX8_one_13 : decode cX8_one 13 = .ok (.iconst 0, 1) := by decide +kernel
theorem dX8_one_14 : decode cX8_one 14 = .ok (.bipush 9, 2) := by decide +kernel
theorem dX8_one_16 : decode cX8_one 16 = .ok (.invokestatic 67, 3) := by decide +kernel
theorem dX8_one_19 : decode cX8_one 19 = .ok (.ifCond .eq 13, 3) := by decide +kernel
theorem dX8_one_22 : decode cX8_one 22 = .ok (.iload_n 3, 1) := by decide +kernel
theorem dX8_one_23 : decode cX8_one 23 = .ok (.iconst 0, 1) := by decide +kernel
theorem dX8_one_24 : decode cX8_one 24 = .ok (.bipush 99, 2) := by decide +kernel
theorem dX8_one_26 : decode cX8_one 26 = .ok (.invokestatic 67, 3) := by decide +kernel
theorem dX8_one_29 : decode cX8_one 29 = .ok (.ifCond .ne 6, 3) := by decide +kernel
theorem dX8_one_32 : decode cX8_one 32 = .ok (.bipush (-2), 2) := by decide +kernel
theorem dX8_one_34 : decode cX8_one 34 = .ok (.ireturn, 1) := by decide +kernel
theorem dX8_one_35 : decode cX8_one 35 = .ok (.aload_n 0, 1) := by decide +kernel
theorem dX8_one_36 : decode cX8_one 36 = .ok (.getfield 25, 3) := by decide +kernel
theorem dX8_one_39 : decode cX8_one 39 = .ok (.getfield 71, 3) := by decide +kernel
theorem dX8_one_42 : decode cX8_one 42 = .ok (.bipush 6, 2) := by decide +kernel
theorem dX8_one_44 : decode cX8_one 44 = .ok (.if_icmp .lt 6, 3) := by decide +kernel
theorem dX8_one_47 : decode cX8_one 47 = .ok (.bipush (-4), 2) := by decide +kernel
theorem dX8_one_49 : decode cX8_one 49 = .ok (.ireturn, 1) := by decide +kernel
theorem dX8_one_50 : decode cX8_one 50 = .ok (.aload_n 0, 1) := by decide +kernel
theorem dX8_one_51 : decode cX8_one 51 = .ok (.getfield 25, 3) := by decide +kernel
theorem dX8_one_54 : decode cX8_one 54 = .ok (.iload_n 1, 1) := by decide +kernel
theorem dX8_one_55 : decode cX8_one 55 = .ok (.iload_n 2, 1) := by decide +kernel
theorem dX8_one_56 : decode cX8_one 56 = .ok (.iload_n 3, 1) := by decide +kernel
theorem dX8_one_57 : decode cX8_one 57 = .ok (.invokevirtual 77, 3) := by decide +kernel
theorem dX8_one_60 : decode cX8_one 60 = .ok (.ireturn, 1) := by decide +kernel
theorem dX8_of_0 : decode cX8_of 0 = .ok (.aload_n 0, 1) := by decide +kernel
theorem dX8_of_1 : decode cX8_of 1 = .ok (.getfield 25, 3) := by decide +kernel
theorem dX8_of_4 : decode cX8_of 4 = .ok (.iload_n 1, 1) := by decide +kernel
theorem dX8_of_5 : decode cX8_of 5 = .ok (.invokevirtual 81, 3) := by decide +kernel
theorem dX8_of_8 : decode cX8_of 8 = .ok (.ifCond .ne 7, 3) := by decide +kernel
theorem dX8_of_11 : decode cX8_of 11 = .ok (.sipush (-10001), 3) := by decide +kernel
theorem dX8_of_14 : decode cX8_of 14 = .ok (.ireturn, 1) := by decide +kernel
theorem dX8_of_15 : decode cX8_of 15 = .ok (.iload_n 2, 1) := by decide +kernel
theorem dX8_of_16 : decode cX8_of 16 = .ok (.tableswitch 103 0 5 #[40, 50, 60, 70, 83, 92], 40) := by decide +kernel
theorem dX8_of_56 : decode cX8_of 56 = .ok (.aload_n 0, 1) := by decide +kernel
theorem dX8_of_57 : decode cX8_of 57 = .ok (.getfield 25, 3) := by decide +kernel
theorem dX8_of_60 : decode cX8_of 60 = .ok (.getfield 85, 3) := by decide +kernel
theorem dX8_of_63 : decode cX8_of 63 = .ok (.iload_n 1, 1) := by decide +kernel
theorem dX8_of_64 : decode cX8_of 64 = .ok (.iaload, 1) := by decide +kernel
theorem dX8_of_65 : decode cX8_of 65 = .ok (.ireturn, 1) := by decide +kernel
theorem dX8_of_66 : decode cX8_of 66 = .ok (.aload_n 0, 1) := by decide +kernel
theorem dX8_of_67 : decode cX8_of 67 = .ok (.getfield 25, 3) := by decide +kernel
theorem dX8_of_70 : decode cX8_of 70 = .ok (.getfield 89, 3) := by decide +kernel
theorem dX8_of_73 : decode cX8_of 73 = .ok (.iload_n 1, 1) := by decide +kernel
theorem dX8_of_74 : decode cX8_of 74 = .ok (.iaload, 1) := by decide +kernel
theorem dX8_of_75 : decode cX8_of 75 = .ok (.ireturn, 1) := by decide +kernel
theorem dX8_of_76 : decode cX8_of 76 = .ok (.aload_n 0, 1) := by decide +kernel
theorem dX8_of_77 : decode cX8_of 77 = .ok (.getfield 25, 3) := by decide +kernel
theorem dX8_of_80 : decode cX8_of 80 = .ok (.getfield 92, 3) := by decide +kernel
theorem dX8_of_83 : decode cX8_of 83 = .ok (.iload_n 1, 1) := by decide +kernel
theorem dX8_of_84 : decode cX8_of 84 = .ok (.iaload, 1) := by decide +kernel
theorem dX8_of_85 : decode cX8_of 85 = .ok (.ireturn, 1) := by decide +kernel
theorem dX8_of_86 : decode cX8_of 86 = .ok (.aload_n 0, 1) := by decide +kernel
theorem dX8_of_87 : decode cX8_of 87 = .ok (.getfield 25, 3) := by decide +kernel
theorem dX8_of_90 : decode cX8_of 90 = .ok (.getfield 95, 3) := by decide +kernel
theorem dX8_of_93 : decode cX8_of 93 = .ok (.iload_n 1, 1) := by decide +kernel
theorem dX8_of_94 : decode cX8_of 94 = .ok (.baload, 1) := by decide +kernel
theorem dX8_of_95 : decode cX8_of 95 = .ok (.invokestatic 99, 3) := by decide +kernel
theorem dX8_of_98 : decode cX8_of 98 = .ok (.ireturn, 1) := by decide +kernel
theorem dX8_of_99 : decode cX8_of 99 = .ok (.aload_n 0, 1) := by decide +kernel
theorem dX8_of_100 : decode cX8_of 100 = .ok (.getfield 25, 3) := by decide +kernel
theorem dX8_of_103 : decode cX8_of 103 = .ok (.iload_n 1, 1) := by decide +kernel
theorem dX8_of_104 : decode cX8_of 104 = .ok (.invokevirtual 103, 3) := by decide +kernel
theorem dX8_of_107 : decode cX8_of 107 = .ok (.ireturn, 1) := by decide +kernel
theorem dX8_of_108 : decode cX8_of 108 = .ok (.aload_n 0, 1) := by decide +kernel
theorem dX8_of_109 : decode cX8_of 109 = .ok (.getfield 25, 3) := by decide +kernel
theorem dX8_of_112 : decode cX8_of 112 = .ok (.iload_n 1, 1) := by decide +kernel
theorem dX8_of_113 : decode cX8_of 113 = .ok (.bipush 50, 2) := by decide +kernel
theorem dX8_of_115 : decode cX8_of 115 = .ok (.invokevirtual 107, 3) := by decide +kernel
theorem dX8_of_118 : decode cX8_of 118 = .ok (.ireturn, 1) := by decide +kernel
theorem dX8_of_119 : decode cX8_of 119 = .ok (.sipush (-10001), 3) := by decide +kernel
theorem dX8_of_122 : decode cX8_of 122 = .ok (.ireturn, 1) := by decide +kernel
theorem dX8_heat_0 : decode cX8_heat 0 = .ok (.aload_n 0, 1) := by decide +kernel
theorem dX8_heat_1 : decode cX8_heat 1 = .ok (.getfield 25, 3) := by decide +kernel
theorem dX8_heat_4 : decode cX8_heat 4 = .ok (.iload_n 1, 1) := by decide +kernel
theorem dX8_heat_5 : decode cX8_heat 5 = .ok (.invokevirtual 81, 3) := by decide +kernel
theorem dX8_heat_8 : decode cX8_heat 8 = .ok (.ifCond .ne 5, 3) := by decide +kernel
theorem dX8_heat_11 : decode cX8_heat 11 = .ok (.iconst (-1), 1) := by decide +kernel
theorem dX8_heat_12 : decode cX8_heat 12 = .ok (.ireturn, 1) := by decide +kernel
theorem dX8_heat_13 : decode cX8_heat 13 = .ok (.iload_n 2, 1) := by decide +kernel
theorem dX8_heat_14 : decode cX8_heat 14 = .ok (.iconst 0, 1) := by decide +kernel
theorem dX8_heat_15 : decode cX8_heat 15 = .ok (.bipush 99, 2) := by decide +kernel
theorem dX8_heat_17 : decode cX8_heat 17 = .ok (.invokestatic 67, 3) := by decide +kernel
theorem dX8_heat_20 : decode cX8_heat 20 = .ok (.ifCond .ne 6, 3) := by decide +kernel
theorem dX8_heat_23 : decode cX8_heat 23 = .ok (.bipush (-2), 2) := by decide +kernel
theorem dX8_heat_25 : decode cX8_heat 25 = .ok (.ireturn, 1) := by decide +kernel
theorem dX8_heat_26 : decode cX8_heat 26 = .ok (.aload_n 0, 1) := by decide +kernel
theorem dX8_heat_27 : decode cX8_heat 27 = .ok (.getfield 25, 3) := by decide +kernel
theorem dX8_heat_30 : decode cX8_heat 30 = .ok (.getfield 92, 3) := by decide +kernel
theorem dX8_heat_33 : decode cX8_heat 33 = .ok (.iload_n 1, 1) := by decide +kernel
theorem dX8_heat_34 : decode cX8_heat 34 = .ok (.iaload, 1) := by decide +kernel
theorem dX8_heat_35 : decode cX8_heat 35 = .ok (.istore_n 3, 1) := by decide +kernel
theorem dX8_heat_36 : decode cX8_heat 36 = .ok (.aload_n 0, 1) := by decide +kernel
theorem dX8_heat_37 : decode cX8_heat 37 = .ok (.getfield 25, 3) := by decide +kernel
theorem dX8_heat_40 : decode cX8_heat 40 = .ok (.getfield 92, 3) := by decide +kernel
theorem dX8_heat_43 : decode cX8_heat 43 = .ok (.iload_n 1, 1) := by decide +kernel
theorem dX8_heat_44 : decode cX8_heat 44 = .ok (.iload_n 2, 1) := by decide +kernel
theorem dX8_heat_45 : decode cX8_heat 45 = .ok (.iastore, 1) := by decide +kernel
theorem dX8_heat_46 : decode cX8_heat 46 = .ok (.iload_n 3, 1) := by decide +kernel
theorem dX8_heat_47 : decode cX8_heat 47 = .ok (.ireturn, 1) := by decide +kernel
theorem dX8_away_0 : decode cX8_away 0 = .ok (.aload_n 0, 1) := by decide +kernel
theorem dX8_away_1 : decode cX8_away 1 = .ok (.getfield 25, 3) := by decide +kernel
theorem dX8_away_4 : decode cX8_away 4 = .ok (.iload_n 1, 1) := by decide +kernel
theorem dX8_away_5 : decode cX8_away 5 = .ok (.invokevirtual 81, 3) := by decide +kernel
theorem dX8_away_8 : decode cX8_away 8 = .ok (.ifCond .ne 5, 3) := by decide +kernel
theorem dX8_away_11 : decode cX8_away 11 = .ok (.iconst (-1), 1) := by decide +kernel
theorem dX8_away_12 : decode cX8_away 12 = .ok (.ireturn, 1) := by decide +kernel
theorem dX8_away_13 : decode cX8_away 13 = .ok (.aload_n 0, 1) := by decide +kernel
theorem dX8_away_14 : decode cX8_away 14 = .ok (.getfield 25, 3) := by decide +kernel
theorem dX8_away_17 : decode cX8_away 17 = .ok (.getfield 95, 3) := by decide +kernel
theorem dX8_away_20 : decode cX8_away 20 = .ok (.iload_n 1, 1) := by decide +kernel
theorem dX8_away_21 : decode cX8_away 21 = .ok (.baload, 1) := by decide +kernel
theorem dX8_away_22 : decode cX8_away 22 = .ok (.invokestatic 99, 3) := by decide +kernel
theorem dX8_away_25 : decode cX8_away 25 = .ok (.istore_n 3, 1) := by decide +kernel
theorem dX8_away_26 : decode cX8_away 26 = .ok (.aload_n 0, 1) := by decide +kernel
theorem dX8_away_27 : decode cX8_away 27 = .ok (.getfield 25, 3) := by decide +kernel
theorem dX8_away_30 : decode cX8_away 30 = .ok (.getfield 95, 3) := by decide +kernel
theorem dX8_away_33 : decode cX8_away 33 = .ok (.iload_n 1, 1) := by decide +kernel
theorem dX8_away_34 : decode cX8_away 34 = .ok (.iload_n 2, 1) := by decide +kernel
theorem dX8_away_35 : decode cX8_away 35 = .ok (.bastore, 1) := by decide +kernel
theorem dX8_away_36 : decode cX8_away 36 = .ok (.iload_n 3, 1) := by decide +kernel
theorem dX8_away_37 : decode cX8_away 37 = .ok (.ireturn, 1) := by decide +kernel
theorem dX8_work_0 : decode cX8_work 0 = .ok (.iload_n 1, 1) := by decide +kernel
theorem dX8_work_1 : decode cX8_work 1 = .ok (.iconst 1, 1) := by decide +kernel
theorem dX8_work_2 : decode cX8_work 2 = .ok (.sipush 999, 3) := by decide +kernel
theorem dX8_work_5 : decode cX8_work 5 = .ok (.invokestatic 67, 3) := by decide +kernel
theorem dX8_work_8 : decode cX8_work 8 = .ok (.ifCond .eq 13, 3) := by decide +kernel
theorem dX8_work_11 : decode cX8_work 11 = .ok (.iload_n 2, 1) := by decide +kernel
theorem dX8_work_12 : decode cX8_work 12 = .ok (.iconst 0, 1) := by decide +kernel
theorem dX8_work_13 : decode cX8_work 13 = .ok (.bipush 60, 2) := by decide +kernel
theorem dX8_work_15 : decode cX8_work 15 = .ok (.invokestatic 67, 3) := by decide +kernel
theorem dX8_work_18 : decode cX8_work 18 = .ok (.ifCond .ne 6, 3) := by decide +kernel
theorem dX8_work_21 : decode cX8_work 21 = .ok (.bipush (-2), 2) := by decide +kernel
theorem dX8_work_23 : decode cX8_work 23 = .ok (.ireturn, 1) := by decide +kernel
theorem dX8_work_24 : decode cX8_work 24 = .ok (.aload_n 0, 1) := by decide +kernel
theorem dX8_work_25 : decode cX8_work 25 = .ok (.getfield 25, 3) := by decide +kernel
theorem dX8_work_28 : decode cX8_work 28 = .ok (.getfield 111, 3) := by decide +kernel
theorem dX8_work_31 : decode cX8_work 31 = .ok (.iconst 4, 1) := by decide +kernel
theorem dX8_work_32 : decode cX8_work 32 = .ok (.if_icmp .lt 6, 3) := by decide +kernel
theorem dX8_work_35 : decode cX8_work 35 = .ok (.bipush (-4), 2) := by decide +kernel
theorem dX8_work_37 : decode cX8_work 37 = .ok (.ireturn, 1) := by decide +kernel
theorem dX8_work_38 : decode cX8_work 38 = .ok (.aload_n 0, 1) := by decide +kernel
theorem dX8_work_39 : decode cX8_work 39 = .ok (.getfield 25, 3) := by decide +kernel
theorem dX8_work_42 : decode cX8_work 42 = .ok (.iload_n 1, 1) := by decide +kernel
theorem dX8_work_43 : decode cX8_work 43 = .ok (.iload_n 2, 1) := by decide +kernel
theorem dX8_work_44 : decode cX8_work 44 = .ok (.invokevirtual 114, 3) := by decide +kernel
theorem dX8_work_47 : decode cX8_work 47 = .ok (.ireturn, 1) := by decide +kernel
theorem dX8_piece_0 : decode cX8_piece 0 = .ok (.aload_n 0, 1) := by decide +kernel
theorem dX8_piece_1 : decode cX8_piece 1 = .ok (.getfield 25, 3) := by decide +kernel
theorem dX8_piece_4 : decode cX8_piece 4 = .ok (.iload_n 1, 1) := by decide +kernel
theorem dX8_piece_5 : decode cX8_piece 5 = .ok (.invokevirtual 117, 3) := by decide +kernel
theorem dX8_piece_8 : decode cX8_piece 8 = .ok (.ifCond .ne 5, 3) := by decide +kernel
theorem dX8_piece_11 : decode cX8_piece 11 = .ok (.iconst (-1), 1) := by decide +kernel
theorem dX8_piece_12 : decode cX8_piece 12 = .ok (.ireturn, 1) := by decide +kernel
theorem dX8_piece_13 : decode cX8_piece 13 = .ok (.iload_n 2, 1) := by decide +kernel
theorem dX8_piece_14 : decode cX8_piece 14 = .ok (.tableswitch 85 0 4 #[34, 44, 54, 64, 76], 34) := by decide +kernel
theorem dX8_piece_48 : decode cX8_piece 48 = .ok (.aload_n 0, 1) := by decide +kernel
theorem dX8_piece_49 : decode cX8_piece 49 = .ok (.getfield 25, 3) := by decide +kernel
theorem dX8_piece_52 : decode cX8_piece 52 = .ok (.getfield 120, 3) := by decide +kernel
theorem dX8_piece_55 : decode cX8_piece 55 = .ok (.iload_n 1, 1) := by decide +kernel
theorem dX8_piece_56 : decode cX8_piece 56 = .ok (.iaload, 1) := by decide +kernel
theorem dX8_piece_57 : decode cX8_piece 57 = .ok (.ireturn, 1) := by decide +kernel
theorem dX8_piece_58 : decode cX8_piece 58 = .ok (.aload_n 0, 1) := by decide +kernel
theorem dX8_piece_59 : decode cX8_piece 59 = .ok (.getfield 25, 3) := by decide +kernel
theorem dX8_piece_62 : decode cX8_piece 62 = .ok (.getfield 123, 3) := by decide +kernel
theorem dX8_piece_65 : decode cX8_piece 65 = .ok (.iload_n 1, 1) := by decide +kernel
theorem dX8_piece_66 : decode cX8_piece 66 = .ok (.iaload, 1) := by decide +kernel
theorem dX8_piece_67 : decode cX8_piece 67 = .ok (.ireturn, 1) := by decide +kernel
theorem dX8_piece_68 : decode cX8_piece 68 = .ok (.aload_n 0, 1) := by decide +kernel
theorem dX8_piece_69 : decode cX8_piece 69 = .ok (.getfield 25, 3) := by decide +kernel
theorem dX8_piece_72 : decode cX8_piece 72 = .ok (.getfield 126, 3) := by decide +kernel
theorem dX8_piece_75 : decode cX8_piece 75 = .ok (.iload_n 1, 1) := by decide +kernel
theorem dX8_piece_76 : decode cX8_piece 76 = .ok (.iaload, 1) := by decide +kernel
theorem dX8_piece_77 : decode cX8_piece 77 = .ok (.ireturn, 1) := by decide +kernel
theorem dX8_piece_78 : decode cX8_piece 78 = .ok (.aload_n 0, 1) := by decide +kernel
theorem dX8_piece_79 : decode cX8_piece 79 = .ok (.getfield 25, 3) := by decide +kernel
theorem dX8_piece_82 : decode cX8_piece 82 = .ok (.iload_n 1, 1) := by decide +kernel
theorem dX8_piece_83 : decode cX8_piece 83 = .ok (.invokevirtual 129, 3) := by decide +kernel
theorem dX8_piece_86 : decode cX8_piece 86 = .ok (.invokestatic 99, 3) := by decide +kernel
theorem dX8_piece_89 : decode cX8_piece 89 = .ok (.ireturn, 1) := by decide +kernel
theorem dX8_piece_90 : decode cX8_piece 90 = .ok (.aload_n 0, 1) := by decide +kernel
theorem dX8_piece_91 : decode cX8_piece 91 = .ok (.getfield 35, 3) := by decide +kernel
theorem dX8_piece_94 : decode cX8_piece 94 = .ok (.iload_n 1, 1) := by decide +kernel
theorem dX8_piece_95 : decode cX8_piece 95 = .ok (.invokevirtual 132, 3) := by decide +kernel
theorem dX8_piece_98 : decode cX8_piece 98 = .ok (.ireturn, 1) := by decide +kernel
theorem dX8_piece_99 : decode cX8_piece 99 = .ok (.iconst (-1), 1) := by decide +kernel
theorem dX8_piece_100 : decode cX8_piece 100 = .ok (.ireturn, 1) := by decide +kernel
theorem dX8_anvil_0 : decode cX8_anvil 0 = .ok (.iload_n 1, 1) := by decide +kernel
theorem dX8_anvil_1 : decode cX8_anvil 1 = .ok (.iconst (-1), 1) := by decide +kernel
theorem dX8_anvil_2 : decode cX8_anvil 2 = .ok (.if_icmp .eq 16, 3) := by decide +kernel
theorem dX8_anvil_5 : decode cX8_anvil 5 = .ok (.aload_n 0, 1) := by decide +kernel
theorem dX8_anvil_6 : decode cX8_anvil 6 = .ok (.getfield 25, 3) := by decide +kernel
theorem dX8_anvil_9 : decode cX8_anvil 9 = .ok (.iload_n 1, 1) := by decide +kernel
theorem dX8_anvil_10 : decode cX8_anvil 10 = .ok (.invokevirtual 117, 3) := by decide +kernel
theorem dX8_anvil_13 : decode cX8_anvil 13 = .ok (.ifCond .ne 5, 3) := by decide +kernel
theorem dX8_anvil_16 : decode cX8_anvil 16 = .ok (.iconst (-1), 1) := by decide +kernel
theorem dX8_anvil_17 : decode cX8_anvil 17 = .ok (.ireturn, 1) := by decide +kernel
theorem dX8_anvil_18 : decode cX8_anvil 18 = .ok (.aload_n 0, 1) := by decide +kernel
theorem dX8_anvil_19 : decode cX8_anvil 19 = .ok (.getfield 25, 3) := by decide +kernel
theorem dX8_anvil_22 : decode cX8_anvil 22 = .ok (.getfield 135, 3) := by decide +kernel
theorem dX8_anvil_25 : decode cX8_anvil 25 = .ok (.invokestatic 138, 3) := by decide +kernel
theorem dX8_anvil_28 : decode cX8_anvil 28 = .ok (.istore_n 2, 1) := by decide +kernel
theorem dX8_anvil_29 : decode cX8_anvil 29 = .ok (.aload_n 0, 1) := by decide +kernel
theorem dX8_anvil_30 : decode cX8_anvil 30 = .ok (.getfield 25, 3) := by decide +kernel
theorem dX8_anvil_33 : decode cX8_anvil 33 = .ok (.iload_n 1, 1) := by decide +kernel
theorem dX8_anvil_34 : decode cX8_anvil 34 = .ok (.putfield 135, 3) := by decide +kernel
theorem dX8_anvil_37 : decode cX8_anvil 37 = .ok (.iload_n 2, 1) := by decide +kernel
theorem dX8_anvil_38 : decode cX8_anvil 38 = .ok (.ireturn, 1) := by decide +kernel
theorem dX8_row_0 : decode cX8_row 0 = .ok (.aload_n 0, 1) := by decide +kernel
theorem dX8_row_1 : decode cX8_row 1 = .ok (.getfield 25, 3) := by decide +kernel
theorem dX8_row_4 : decode cX8_row 4 = .ok (.iload_n 1, 1) := by decide +kernel
theorem dX8_row_5 : decode cX8_row 5 = .ok (.invokevirtual 81, 3) := by decide +kernel
theorem dX8_row_8 : decode cX8_row 8 = .ok (.ifCond .eq 12, 3) := by decide +kernel
theorem dX8_row_11 : decode cX8_row 11 = .ok (.iload_n 2, 1) := by decide +kernel
theorem dX8_row_12 : decode cX8_row 12 = .ok (.iconst 0, 1) := by decide +kernel
theorem dX8_row_13 : decode cX8_row 13 = .ok (.iconst 3, 1) := by decide +kernel
theorem dX8_row_14 : decode cX8_row 14 = .ok (.invokestatic 67, 3) := by decide +kernel
theorem dX8_row_17 : decode cX8_row 17 = .ok (.ifCond .ne 5, 3) := by decide +kernel
theorem dX8_row_20 : decode cX8_row 20 = .ok (.iconst (-1), 1) := by decide +kernel
theorem dX8_row_21 : decode cX8_row 21 = .ok (.ireturn, 1) := by decide +kernel
theorem dX8_row_22 : decode cX8_row 22 = .ok (.iload_n 3, 1) := by decide +kernel
theorem dX8_row_23 : decode cX8_row 23 = .ok (.iconst 0, 1) := by decide +kernel
theorem dX8_row_24 : decode cX8_row 24 = .ok (.bipush 9, 2) := by decide +kernel
theorem dX8_row_26 : decode cX8_row 26 = .ok (.invokestatic 67, 3) := by decide +kernel
theorem dX8_row_29 : decode cX8_row 29 = .ok (.ifCond .ne 6, 3) := by decide +kernel
theorem dX8_row_32 : decode cX8_row 32 = .ok (.bipush (-2), 2) := by decide +kernel
theorem dX8_row_34 : decode cX8_row 34 = .ok (.ireturn, 1) := by decide +kernel
theorem dX8_row_35 : decode cX8_row 35 = .ok (.aload_n 0, 1) := by decide +kernel
theorem dX8_row_36 : decode cX8_row 36 = .ok (.getfield 25, 3) := by decide +kernel
theorem dX8_row_39 : decode cX8_row 39 = .ok (.getfield 85, 3) := by decide +kernel
theorem dX8_row_42 : decode cX8_row 42 = .ok (.iload_n 1, 1) := by decide +kernel
theorem dX8_row_43 : decode cX8_row 43 = .ok (.iaload, 1) := by decide +kernel
theorem dX8_row_44 : decode cX8_row 44 = .ok (.bipush 6, 2) := by decide +kernel
theorem dX8_row_46 : decode cX8_row 46 = .ok (.if_icmp .eq 6, 3) := by decide +kernel
theorem dX8_row_49 : decode cX8_row 49 = .ok (.bipush (-3), 2) := by decide +kernel
theorem dX8_row_51 : decode cX8_row 51 = .ok (.ireturn, 1) := by decide +kernel
theorem dX8_row_52 : decode cX8_row 52 = .ok (.iload_n 1, 1) := by decide +kernel
theorem dX8_row_53 : decode cX8_row 53 = .ok (.iconst 4, 1) := by decide +kernel
theorem dX8_row_54 : decode cX8_row 54 = .ok (.imul, 1) := by decide +kernel
theorem dX8_row_55 : decode cX8_row 55 = .ok (.iload_n 2, 1) := by decide +kernel
theorem dX8_row_56 : decode cX8_row 56 = .ok (.iadd, 1) := by decide +kernel
theorem dX8_row_57 : decode cX8_row 57 = .ok (.istore 4, 2) := by decide +kernel
theorem dX8_row_59 : decode cX8_row 59 = .ok (.aload_n 0, 1) := by decide +kernel
theorem dX8_row_60 : decode cX8_row 60 = .ok (.getfield 25, 3) := by decide +kernel
theorem dX8_row_63 : decode cX8_row 63 = .ok (.getfield 141, 3) := by decide +kernel
theorem dX8_row_66 : decode cX8_row 66 = .ok (.iload 4, 2) := by decide +kernel
theorem dX8_row_68 : decode cX8_row 68 = .ok (.iaload, 1) := by decide +kernel
theorem dX8_row_69 : decode cX8_row 69 = .ok (.istore 5, 2) := by decide +kernel
theorem dX8_row_71 : decode cX8_row 71 = .ok (.aload_n 0, 1) := by decide +kernel
theorem dX8_row_72 : decode cX8_row 72 = .ok (.getfield 25, 3) := by decide +kernel
theorem dX8_row_75 : decode cX8_row 75 = .ok (.getfield 141, 3) := by decide +kernel
theorem dX8_row_78 : decode cX8_row 78 = .ok (.iload 4, 2) := by decide +kernel
theorem dX8_row_80 : decode cX8_row 80 = .ok (.iload_n 3, 1) := by decide +kernel
theorem dX8_row_81 : decode cX8_row 81 = .ok (.iastore, 1) := by decide +kernel
theorem dX8_row_82 : decode cX8_row 82 = .ok (.iload 5, 2) := by decide +kernel
theorem dX8_row_84 : decode cX8_row 84 = .ok (.ireturn, 1) := by decide +kernel
theorem dX8_feed_0 : decode cX8_feed 0 = .ok (.iload_n 1, 1) := by decide +kernel
theorem dX8_feed_1 : decode cX8_feed 1 = .ok (.iconst 0, 1) := by decide +kernel
theorem dX8_feed_2 : decode cX8_feed 2 = .ok (.bipush 127, 2) := by decide +kernel
theorem dX8_feed_4 : decode cX8_feed 4 = .ok (.invokestatic 67, 3) := by decide +kernel
theorem dX8_feed_7 : decode cX8_feed 7 = .ok (.ifCond .ne 6, 3) := by decide +kernel
theorem dX8_feed_10 : decode cX8_feed 10 = .ok (.bipush (-2), 2) := by decide +kernel
theorem dX8_feed_12 : decode cX8_feed 12 = .ok (.ireturn, 1) := by decide +kernel
theorem dX8_feed_13 : decode cX8_feed 13 = .ok (.aload_n 0, 1) := by decide +kernel
theorem dX8_feed_14 : decode cX8_feed 14 = .ok (.getfield 42, 3) := by decide +kernel
theorem dX8_feed_17 : decode cX8_feed 17 = .ok (.getfield 144, 3) := by decide +kernel
theorem dX8_feed_20 : decode cX8_feed 20 = .ok (.bipush 100, 2) := by decide +kernel
theorem dX8_feed_22 : decode cX8_feed 22 = .ok (.if_icmp .lt 6, 3) := by decide +kernel
theorem dX8_feed_25 : decode cX8_feed 25 = .ok (.bipush (-4), 2) := by decide +kernel
theorem dX8_feed_27 : decode cX8_feed 27 = .ok (.ireturn, 1) := by decide +kernel
theorem dX8_feed_28 : decode cX8_feed 28 = .ok (.aload_n 0, 1) := by decide +kernel
theorem dX8_feed_29 : decode cX8_feed 29 = .ok (.getfield 42, 3) := by decide +kernel
theorem dX8_feed_32 : decode cX8_feed 32 = .ok (.iload_n 1, 1) := by decide +kernel
theorem dX8_feed_33 : decode cX8_feed 33 = .ok (.i2b, 1) := by decide +kernel
theorem dX8_feed_34 : decode cX8_feed 34 = .ok (.invokevirtual 147, 3) := by decide +kernel
theorem dX8_feed_37 : decode cX8_feed 37 = .ok (.ireturn, 1) := by decide +kernel
theorem dX8_square_0 : decode cX8_square 0 = .ok (.aload_n 0, 1) := by decide +kernel
theorem dX8_square_1 : decode cX8_square 1 = .ok (.getfield 151, 3) := by decide +kernel
theorem dX8_square_4 : decode cX8_square 4 = .ok (.bipush 6, 2) := by decide +kernel
theorem dX8_square_6 : decode cX8_square 6 = .ok (.if_icmp .lt 6, 3) := by decide +kernel
theorem dX8_square_9 : decode cX8_square 9 = .ok (.bipush (-4), 2) := by decide +kernel
theorem dX8_square_11 : decode cX8_square 11 = .ok (.ireturn, 1) := by decide +kernel
theorem dX8_square_12 : decode cX8_square 12 = .ok (.aload_n 0, 1) := by decide +kernel
theorem dX8_square_13 : decode cX8_square 13 = .ok (.getfield 48, 3) := by decide +kernel
theorem dX8_square_16 : decode cX8_square 16 = .ok (.aload_n 0, 1) := by decide +kernel
theorem dX8_square_17 : decode cX8_square 17 = .ok (.getfield 151, 3) := by decide +kernel
theorem dX8_square_20 : decode cX8_square 20 = .ok (.aaload, 1) := by decide +kernel
theorem dX8_square_21 : decode cX8_square 21 = .ok (.astore_n 1, 1) := by decide +kernel
theorem dX8_square_22 : decode cX8_square 22 = .ok (.aload_n 0, 1) := by decide +kernel
theorem dX8_square_23 : decode cX8_square 23 = .ok (.getfield 42, 3) := by decide +kernel
theorem dX8_square_26 : decode cX8_square 26 = .ok (.aload_n 1, 1) := by decide +kernel
theorem dX8_square_27 : decode cX8_square 27 = .ok (.invokevirtual 154, 3) := by decide +kernel
theorem dX8_square_30 : decode cX8_square 30 = .ok (.istore_n 2, 1) := by decide +kernel
theorem dX8_square_31 : decode cX8_square 31 = .ok (.aload_n 0, 1) := by decide +kernel
theorem dX8_square_32 : decode cX8_square 32 = .ok (.getfield 42, 3) := by decide +kernel
theorem dX8_square_35 : decode cX8_square 35 = .ok (.invokevirtual 158, 3) := by decide +kernel
theorem dX8_square_38 : decode cX8_square 38 = .ok (.iload_n 2, 1) := by decide +kernel
theorem dX8_square_39 : decode cX8_square 39 = .ok (.ifCond .ne 14, 3) := by decide +kernel
theorem dX8_square_42 : decode cX8_square 42 = .ok (.bipush (-10), 2) := by decide +kernel
theorem dX8_square_44 : decode cX8_square 44 = .ok (.aload_n 0, 1) := by decide +kernel
theorem dX8_square_45 : decode cX8_square 45 = .ok (.getfield 42, 3) := by decide +kernel
theorem dX8_square_48 : decode cX8_square 48 = .ok (.getfield 161, 3) := by decide +kernel
theorem dX8_square_51 : decode cX8_square 51 = .ok (.isub, 1) := by decide +kernel
theorem dX8_square_52 : decode cX8_square 52 = .ok (.ireturn, 1) := by decide +kernel
theorem dX8_square_53 : decode cX8_square 53 = .ok (.aload_n 0, 1) := by decide +kernel
theorem dX8_square_54 : decode cX8_square 54 = .ok (.getfield 25, 3) := by decide +kernel
theorem dX8_square_57 : decode cX8_square 57 = .ok (.aload_n 1, 1) := by decide +kernel
theorem dX8_square_58 : decode cX8_square 58 = .ok (.putfield 164, 3) := by decide +kernel
theorem dX8_square_61 : decode cX8_square 61 = .ok (.aload_n 0, 1) := by decide +kernel
theorem dX8_square_62 : decode cX8_square 62 = .ok (.dup, 1) := by decide +kernel
theorem dX8_square_63 : decode cX8_square 63 = .ok (.getfield 151, 3) := by decide +kernel
theorem dX8_square_66 : decode cX8_square 66 = .ok (.iconst 1, 1) := by decide +kernel
theorem dX8_square_67 : decode cX8_square 67 = .ok (.iadd, 1) := by decide +kernel
theorem dX8_square_68 : decode cX8_square 68 = .ok (.putfield 151, 3) := by decide +kernel
theorem dX8_square_71 : decode cX8_square 71 = .ok (.aload_n 0, 1) := by decide +kernel
theorem dX8_square_72 : decode cX8_square 72 = .ok (.getfield 151, 3) := by decide +kernel
theorem dX8_square_75 : decode cX8_square 75 = .ok (.iconst 1, 1) := by decide +kernel
theorem dX8_square_76 : decode cX8_square 76 = .ok (.isub, 1) := by decide +kernel
theorem dX8_square_77 : decode cX8_square 77 = .ok (.ireturn, 1) := by decide +kernel
theorem dX8_told_0 : decode cX8_told 0 = .ok (.iload_n 1, 1) := by decide +kernel
theorem dX8_told_1 : decode cX8_told 1 = .ok (.tableswitch 93 0 5 #[39, 47, 55, 66, 74, 85], 39) := by decide +kernel
theorem dX8_told_40 : decode cX8_told 40 = .ok (.aload_n 0, 1) := by decide +kernel
theorem dX8_told_41 : decode cX8_told 41 = .ok (.getfield 25, 3) := by decide +kernel
theorem dX8_told_44 : decode cX8_told 44 = .ok (.getfield 168, 3) := by decide +kernel
theorem dX8_told_47 : decode cX8_told 47 = .ok (.ireturn, 1) := by decide +kernel
theorem dX8_told_48 : decode cX8_told 48 = .ok (.aload_n 0, 1) := by decide +kernel
theorem dX8_told_49 : decode cX8_told 49 = .ok (.getfield 25, 3) := by decide +kernel
theorem dX8_told_52 : decode cX8_told 52 = .ok (.invokevirtual 171, 3) := by decide +kernel
theorem dX8_told_55 : decode cX8_told 55 = .ok (.ireturn, 1) := by decide +kernel
theorem dX8_told_56 : decode cX8_told 56 = .ok (.aload_n 0, 1) := by decide +kernel
theorem dX8_told_57 : decode cX8_told 57 = .ok (.getfield 25, 3) := by decide +kernel
theorem dX8_told_60 : decode cX8_told 60 = .ok (.getfield 135, 3) := by decide +kernel
theorem dX8_told_63 : decode cX8_told 63 = .ok (.invokestatic 138, 3) := by decide +kernel
theorem dX8_told_66 : decode cX8_told 66 = .ok (.ireturn, 1) := by decide +kernel
theorem dX8_told_67 : decode cX8_told 67 = .ok (.aload_n 0, 1) := by decide +kernel
theorem dX8_told_68 : decode cX8_told 68 = .ok (.getfield 25, 3) := by decide +kernel
theorem dX8_told_71 : decode cX8_told 71 = .ok (.invokevirtual 175, 3) := by decide +kernel
theorem dX8_told_74 : decode cX8_told 74 = .ok (.ireturn, 1) := by decide +kernel
theorem dX8_told_75 : decode cX8_told 75 = .ok (.aload_n 0, 1) := by decide +kernel
theorem dX8_told_76 : decode cX8_told 76 = .ok (.getfield 25, 3) := by decide +kernel
theorem dX8_told_79 : decode cX8_told 79 = .ok (.invokevirtual 178, 3) := by decide +kernel
theorem dX8_told_82 : decode cX8_told 82 = .ok (.invokestatic 138, 3) := by decide +kernel
theorem dX8_told_85 : decode cX8_told 85 = .ok (.ireturn, 1) := by decide +kernel
theorem dX8_told_86 : decode cX8_told 86 = .ok (.aload_n 0, 1) := by decide +kernel
theorem dX8_told_87 : decode cX8_told 87 = .ok (.getfield 25, 3) := by decide +kernel
theorem dX8_told_90 : decode cX8_told 90 = .ok (.invokevirtual 181, 3) := by decide +kernel
theorem dX8_told_93 : decode cX8_told 93 = .ok (.ireturn, 1) := by decide +kernel
theorem dX8_told_94 : decode cX8_told 94 = .ok (.iconst (-1), 1) := by decide +kernel
theorem dX8_told_95 : decode cX8_told 95 = .ok (.ireturn, 1) := by decide +kernel
theorem dX8_pass_0 : decode cX8_pass 0 = .ok (.iload_n 1, 1) := by decide +kernel
theorem dX8_pass_1 : decode cX8_pass 1 = .ok (.iconst 0, 1) := by decide +kernel
theorem dX8_pass_2 : decode cX8_pass 2 = .ok (.bipush 60, 2) := by decide +kernel
theorem dX8_pass_4 : decode cX8_pass 4 = .ok (.invokestatic 67, 3) := by decide +kernel
theorem dX8_pass_7 : decode cX8_pass 7 = .ok (.ifCond .ne 6, 3) := by decide +kernel
theorem dX8_pass_10 : decode cX8_pass 10 = .ok (.bipush (-2), 2) := by decide +kernel
theorem dX8_pass_12 : decode cX8_pass 12 = .ok (.ireturn, 1) := by decide +kernel
theorem dX8_pass_13 : decode cX8_pass 13 = .ok (.aload_n 0, 1) := by decide +kernel
theorem dX8_pass_14 : decode cX8_pass 14 = .ok (.getfield 25, 3) := by decide +kernel
theorem dX8_pass_17 : decode cX8_pass 17 = .ok (.getfield 168, 3) := by decide +kernel
theorem dX8_pass_20 : decode cX8_pass 20 = .ok (.iload_n 1, 1) := by decide +kernel
theorem dX8_pass_21 : decode cX8_pass 21 = .ok (.iadd, 1) := by decide +kernel
theorem dX8_pass_22 : decode cX8_pass 22 = .ok (.sipush 9999, 3) := by decide +kernel
theorem dX8_pass_25 : decode cX8_pass 25 = .ok (.if_icmp .le 6, 3) := by decide +kernel
theorem dX8_pass_28 : decode cX8_pass 28 = .ok (.bipush (-3), 2) := by decide +kernel
theorem dX8_pass_30 : decode cX8_pass 30 = .ok (.ireturn, 1) := by decide +kernel
theorem dX8_pass_31 : decode cX8_pass 31 = .ok (.aload_n 0, 1) := by decide +kernel
theorem dX8_pass_32 : decode cX8_pass 32 = .ok (.getfield 25, 3) := by decide +kernel
theorem dX8_pass_35 : decode cX8_pass 35 = .ok (.iload_n 1, 1) := by decide +kernel
theorem dX8_pass_36 : decode cX8_pass 36 = .ok (.invokevirtual 184, 3) := by decide +kernel
theorem dX8_pass_39 : decode cX8_pass 39 = .ok (.aload_n 0, 1) := by decide +kernel
theorem dX8_pass_40 : decode cX8_pass 40 = .ok (.getfield 25, 3) := by decide +kernel
theorem dX8_pass_43 : decode cX8_pass 43 = .ok (.getfield 168, 3) := by decide +kernel
theorem dX8_pass_46 : decode cX8_pass 46 = .ok (.ireturn, 1) := by decide +kernel
theorem dX8_on_0 : decode cX8_on 0 = .ok (.aload_n 0, 1) := by decide +kernel
theorem dX8_on_1 : decode cX8_on 1 = .ok (.getfield 25, 3) := by decide +kernel
theorem dX8_on_4 : decode cX8_on 4 = .ok (.iload_n 2, 1) := by decide +kernel
theorem dX8_on_5 : decode cX8_on 5 = .ok (.bipush 10, 2) := by decide +kernel
theorem dX8_on_7 : decode cX8_on 7 = .ok (.isub, 1) := by decide +kernel
theorem dX8_on_8 : decode cX8_on 8 = .ok (.invokevirtual 81, 3) := by decide +kernel
theorem dX8_on_11 : decode cX8_on 11 = .ok (.istore_n 3, 1) := by decide +kernel
theorem dX8_on_12 : decode cX8_on 12 = .ok (.aload_n 0, 1) := by decide +kernel
theorem dX8_on_13 : decode cX8_on 13 = .ok (.getfield 25, 3) := by decide +kernel
theorem dX8_on_16 : decode cX8_on 16 = .ok (.iload_n 2, 1) := by decide +kernel
theorem dX8_on_17 : decode cX8_on 17 = .ok (.bipush 20, 2) := by decide +kernel
theorem dX8_on_19 : decode cX8_on 19 = .ok (.isub, 1) := by decide +kernel
theorem dX8_on_20 : decode cX8_on 20 = .ok (.invokevirtual 117, 3) := by decide +kernel
theorem dX8_on_23 : decode cX8_on 23 = .ok (.istore 4, 2) := by decide +kernel
theorem dX8_on_25 : decode cX8_on 25 = .ok (.iload_n 2, 1) := by decide +kernel
theorem dX8_on_26 : decode cX8_on 26 = .ok (.ifCond .eq 14, 3) := by decide +kernel
theorem dX8_on_29 : decode cX8_on 29 = .ok (.iload_n 3, 1) := by decide +kernel
theorem dX8_on_30 : decode cX8_on 30 = .ok (.ifCond .ne 10, 3) := by decide +kernel
theorem dX8_on_33 : decode cX8_on 33 = .ok (.iload 4, 2) := by decide +kernel
theorem dX8_on_35 : decode cX8_on 35 = .ok (.ifCond .ne 5, 3) := by decide +kernel
theorem dX8_on_38 : decode cX8_on 38 = .ok (.iconst (-1), 1) := by decide +kernel
theorem dX8_on_39 : decode cX8_on 39 = .ok (.ireturn, 1) := by decide +kernel
theorem dX8_on_40 : decode cX8_on 40 = .ok (.iload_n 1, 1) := by decide +kernel
theorem dX8_on_41 : decode cX8_on 41 = .ok (.iconst 0, 1) := by decide +kernel
theorem dX8_on_42 : decode cX8_on 42 = .ok (.bipush 60, 2) := by decide +kernel
theorem dX8_on_44 : decode cX8_on 44 = .ok (.invokestatic 67, 3) := by decide +kernel
theorem dX8_on_47 : decode cX8_on 47 = .ok (.ifCond .ne 6, 3) := by decide +kernel
theorem dX8_on_50 : decode cX8_on 50 = .ok (.bipush (-2), 2) := by decide +kernel
theorem dX8_on_52 : decode cX8_on 52 = .ok (.ireturn, 1) := by decide +kernel
theorem dX8_on_53 : decode cX8_on 53 = .ok (.aload_n 0, 1) := by decide +kernel
theorem dX8_on_54 : decode cX8_on 54 = .ok (.getfield 35, 3) := by decide +kernel
theorem dX8_on_57 : decode cX8_on 57 = .ok (.iload_n 1, 1) := by decide +kernel
theorem dX8_on_58 : decode cX8_on 58 = .ok (.invokevirtual 188, 3) := by decide +kernel
theorem dX8_on_61 : decode cX8_on 61 = .ok (.astore 5, 2) := by decide +kernel
theorem dX8_on_63 : decode cX8_on 63 = .ok (.iload_n 3, 1) := by decide +kernel
theorem dX8_on_64 : decode cX8_on 64 = .ok (.ifCond .eq 14, 3) := by decide +kernel
theorem dX8_on_67 : decode cX8_on 67 = .ok (.aload 5, 2) := by decide +kernel
theorem dX8_on_69 : decode cX8_on 69 = .ok (.getfield 92, 3) := by decide +kernel
theorem dX8_on_72 : decode cX8_on 72 = .ok (.iload_n 2, 1) := by decide +kernel
theorem dX8_on_73 : decode cX8_on 73 = .ok (.bipush 10, 2) := by decide +kernel
theorem dX8_on_75 : decode cX8_on 75 = .ok (.isub, 1) := by decide +kernel
theorem dX8_on_76 : decode cX8_on 76 = .ok (.iaload, 1) := by decide +kernel
theorem dX8_on_77 : decode cX8_on 77 = .ok (.ireturn, 1) := by decide +kernel
theorem dX8_on_78 : decode cX8_on 78 = .ok (.iload 4, 2) := by decide +kernel
theorem dX8_on_80 : decode cX8_on 80 = .ok (.ifCond .eq 16, 3) := by decide +kernel
theorem dX8_on_83 : decode cX8_on 83 = .ok (.aload 5, 2) := by decide +kernel
theorem dX8_on_85 : decode cX8_on 85 = .ok (.getfield 126, 3) := by decide +kernel
theorem dX8_on_88 : decode cX8_on 88 = .ok (.iload_n 2, 1) := by decide +kernel
theorem dX8_on_89 : decode cX8_on 89 = .ok (.bipush 20, 2) := by decide +kernel
theorem dX8_on_91 : decode cX8_on 91 = .ok (.isub, 1) := by decide +kernel
theorem dX8_on_92 : decode cX8_on 92 = .ok (.iaload, 1) := by decide +kernel
theorem dX8_on_93 : decode cX8_on 93 = .ok (.goto 8, 3) := by decide +kernel
theorem dX8_on_96 : decode cX8_on 96 = .ok (.aload 5, 2) := by decide +kernel
theorem dX8_on_98 : decode cX8_on 98 = .ok (.invokevirtual 175, 3) := by decide +kernel
theorem dX8_on_101 : decode cX8_on 101 = .ok (.ireturn, 1) := by decide +kernel
theorem dX8_best_0 : decode cX8_best 0 = .ok (.iload_n 2, 1) := by decide +kernel
theorem dX8_best_1 : decode cX8_best 1 = .ok (.iconst (-1), 1) := by decide +kernel
theorem dX8_best_2 : decode cX8_best 2 = .ok (.iconst 3, 1) := by decide +kernel
theorem dX8_best_3 : decode cX8_best 3 = .ok (.invokestatic 67, 3) := by decide +kernel
theorem dX8_best_6 : decode cX8_best 6 = .ok (.ifCond .ne 5, 3) := by decide +kernel
theorem dX8_best_9 : decode cX8_best 9 = .ok (.iconst (-1), 1) := by decide +kernel
theorem dX8_best_10 : decode cX8_best 10 = .ok (.ireturn, 1) := by decide +kernel
theorem dX8_best_11 : decode cX8_best 11 = .ok (.iload_n 1, 1) := by decide +kernel
theorem dX8_best_12 : decode cX8_best 12 = .ok (.iconst 0, 1) := by decide +kernel
theorem dX8_best_13 : decode cX8_best 13 = .ok (.bipush 40, 2) := by decide +kernel
theorem dX8_best_15 : decode cX8_best 15 = .ok (.invokestatic 67, 3) := by decide +kernel
theorem dX8_best_18 : decode cX8_best 18 = .ok (.ifCond .ne 6, 3) := by decide +kernel
theorem dX8_best_21 : decode cX8_best 21 = .ok (.bipush (-2), 2) := by decide +kernel
theorem dX8_best_23 : decode cX8_best 23 = .ok (.ireturn, 1) := by decide +kernel
theorem dX8_best_24 : decode cX8_best 24 = .ok (.aload_n 0, 1) := by decide +kernel
theorem dX8_best_25 : decode cX8_best 25 = .ok (.getfield 35, 3) := by decide +kernel
theorem dX8_best_28 : decode cX8_best 28 = .ok (.iload_n 1, 1) := by decide +kernel
theorem dX8_best_29 : decode cX8_best 29 = .ok (.invokevirtual 192, 3) := by decide +kernel
theorem dX8_best_32 : decode cX8_best 32 = .ok (.istore_n 3, 1) := by decide +kernel
theorem dX8_best_33 : decode cX8_best 33 = .ok (.iload_n 2, 1) := by decide +kernel
theorem dX8_best_34 : decode cX8_best 34 = .ok (.iconst (-1), 1) := by decide +kernel
theorem dX8_best_35 : decode cX8_best 35 = .ok (.if_icmp .ne 5, 3) := by decide +kernel
theorem dX8_best_38 : decode cX8_best 38 = .ok (.iload_n 3, 1) := by decide +kernel
theorem dX8_best_39 : decode cX8_best 39 = .ok (.ireturn, 1) := by decide +kernel
theorem dX8_best_40 : decode cX8_best 40 = .ok (.iload_n 2, 1) := by decide +kernel
theorem dX8_best_41 : decode cX8_best 41 = .ok (.aload_n 0, 1) := by decide +kernel
theorem dX8_best_42 : decode cX8_best 42 = .ok (.getfield 25, 3) := by decide +kernel
theorem dX8_best_45 : decode cX8_best 45 = .ok (.getfield 111, 3) := by decide +kernel
theorem dX8_best_48 : decode cX8_best 48 = .ok (.if_icmp .ge 15, 3) := by decide +kernel
theorem dX8_best_51 : decode cX8_best 51 = .ok (.aload_n 0, 1) := by decide +kernel
theorem dX8_best_52 : decode cX8_best 52 = .ok (.getfield 35, 3) := by decide +kernel
theorem dX8_best_55 : decode cX8_best 55 = .ok (.getfield 195, 3) := by decide +kernel
theorem dX8_best_58 : decode cX8_best 58 = .ok (.iload_n 2, 1) := by decide +kernel
theorem dX8_best_59 : decode cX8_best 59 = .ok (.iaload, 1) := by decide +kernel
theorem dX8_best_60 : decode cX8_best 60 = .ok (.goto 5, 3) := by decide +kernel
theorem dX8_best_63 : decode cX8_best 63 = .ok (.bipush (-5), 2) := by decide +kernel
theorem dX8_best_65 : decode cX8_best 65 = .ok (.ireturn, 1) := by decide +kernel
theorem dX8_talk_0 : decode cX8_talk 0 = .ok (.iload_n 2, 1) := by decide +kernel
theorem dX8_talk_1 : decode cX8_talk 1 = .ok (.iconst 0, 1) := by decide +kernel
theorem dX8_talk_2 : decode cX8_talk 2 = .ok (.iconst 1, 1) := by decide +kernel
theorem dX8_talk_3 : decode cX8_talk 3 = .ok (.invokestatic 67, 3) := by decide +kernel
theorem dX8_talk_6 : decode cX8_talk 6 = .ok (.ifCond .ne 5, 3) := by decide +kernel
theorem dX8_talk_9 : decode cX8_talk 9 = .ok (.iconst (-1), 1) := by decide +kernel
theorem dX8_talk_10 : decode cX8_talk 10 = .ok (.ireturn, 1) := by decide +kernel
theorem dX8_talk_11 : decode cX8_talk 11 = .ok (.iload_n 1, 1) := by decide +kernel
theorem dX8_talk_12 : decode cX8_talk 12 = .ok (.iconst 0, 1) := by decide +kernel
theorem dX8_talk_13 : decode cX8_talk 13 = .ok (.bipush 99, 2) := by decide +kernel
theorem dX8_talk_15 : decode cX8_talk 15 = .ok (.invokestatic 67, 3) := by decide +kernel
theorem dX8_talk_18 : decode cX8_talk 18 = .ok (.ifCond .ne 6, 3) := by decide +kernel
theorem dX8_talk_21 : decode cX8_talk 21 = .ok (.bipush (-2), 2) := by decide +kernel
theorem dX8_talk_23 : decode cX8_talk 23 = .ok (.ireturn, 1) := by decide +kernel
theorem dX8_talk_24 : decode cX8_talk 24 = .ok (.aload_n 0, 1) := by decide +kernel
theorem dX8_talk_25 : decode cX8_talk 25 = .ok (.getfield 35, 3) := by decide +kernel
theorem dX8_talk_28 : decode cX8_talk 28 = .ok (.iload_n 1, 1) := by decide +kernel
theorem dX8_talk_29 : decode cX8_talk 29 = .ok (.invokevirtual 198, 3) := by decide +kernel
theorem dX8_talk_32 : decode cX8_talk 32 = .ok (.istore_n 3, 1) := by decide +kernel
theorem dX8_talk_33 : decode cX8_talk 33 = .ok (.iload_n 3, 1) := by decide +kernel
theorem dX8_talk_34 : decode cX8_talk 34 = .ok (.ifCond .ge 6, 3) := by decide +kernel
theorem dX8_talk_37 : decode cX8_talk 37 = .ok (.bipush (-5), 2) := by decide +kernel
theorem dX8_talk_39 : decode cX8_talk 39 = .ok (.ireturn, 1) := by decide +kernel
theorem dX8_talk_40 : decode cX8_talk 40 = .ok (.iload_n 2, 1) := by decide +kernel
theorem dX8_talk_41 : decode cX8_talk 41 = .ok (.ifCond .ne 7, 3) := by decide +kernel
theorem dX8_talk_44 : decode cX8_talk 44 = .ok (.iload_n 3, 1) := by decide +kernel
theorem dX8_talk_45 : decode cX8_talk 45 = .ok (.goto 12, 3) := by decide +kernel
theorem dX8_talk_48 : decode cX8_talk 48 = .ok (.aload_n 0, 1) := by decide +kernel
theorem dX8_talk_49 : decode cX8_talk 49 = .ok (.getfield 35, 3) := by decide +kernel
theorem dX8_talk_52 : decode cX8_talk 52 = .ok (.iload_n 3, 1) := by decide +kernel
theorem dX8_talk_53 : decode cX8_talk 53 = .ok (.iload_n 1, 1) := by decide +kernel
theorem dX8_talk_54 : decode cX8_talk 54 = .ok (.invokevirtual 201, 3) := by decide +kernel
theorem dX8_talk_57 : decode cX8_talk 57 = .ok (.ireturn, 1) := by decide +kernel
theorem dX8_see_0 : decode cX8_see 0 = .ok (.iload_n 1, 1) := by decide +kernel
theorem dX8_see_1 : decode cX8_see 1 = .ok (.iconst (-1), 1) := by decide +kernel
theorem dX8_see_2 : decode cX8_see 2 = .ok (.if_icmp .ne 14, 3) := by decide +kernel
theorem dX8_see_5 : decode cX8_see 5 = .ok (.aload_n 0, 1) := by decide +kernel
theorem dX8_see_6 : decode cX8_see 6 = .ok (.getfield 12, 3) := by decide +kernel
theorem dX8_see_9 : decode cX8_see 9 = .ok (.getfield 28, 3) := by decide +kernel
theorem dX8_see_12 : decode cX8_see 12 = .ok (.invokevirtual 204, 3) := by decide +kernel
theorem dX8_see_15 : decode cX8_see 15 = .ok (.ireturn, 1) := by decide +kernel
theorem dX8_see_16 : decode cX8_see 16 = .ok (.aload_n 0, 1) := by decide +kernel
theorem dX8_see_17 : decode cX8_see 17 = .ok (.getfield 25, 3) := by decide +kernel
theorem dX8_see_20 : decode cX8_see 20 = .ok (.iload_n 1, 1) := by decide +kernel
theorem dX8_see_21 : decode cX8_see 21 = .ok (.invokevirtual 81, 3) := by decide +kernel
theorem dX8_see_24 : decode cX8_see 24 = .ok (.ifCond .ne 5, 3) := by decide +kernel
theorem dX8_see_27 : decode cX8_see 27 = .ok (.iconst (-1), 1) := by decide +kernel
theorem dX8_see_28 : decode cX8_see 28 = .ok (.ireturn, 1) := by decide +kernel
theorem dX8_see_29 : decode cX8_see 29 = .ok (.iload_n 2, 1) := by decide +kernel
theorem dX8_see_30 : decode cX8_see 30 = .ok (.iconst 0, 1) := by decide +kernel
theorem dX8_see_31 : decode cX8_see 31 = .ok (.bipush 12, 2) := by decide +kernel
theorem dX8_see_33 : decode cX8_see 33 = .ok (.invokestatic 67, 3) := by decide +kernel
theorem dX8_see_36 : decode cX8_see 36 = .ok (.ifCond .ne 6, 3) := by decide +kernel
theorem dX8_see_39 : decode cX8_see 39 = .ok (.bipush (-2), 2) := by decide +kernel
theorem dX8_see_41 : decode cX8_see 41 = .ok (.ireturn, 1) := by decide +kernel
theorem dX8_see_42 : decode cX8_see 42 = .ok (.aload_n 0, 1) := by decide +kernel
theorem dX8_see_43 : decode cX8_see 43 = .ok (.getfield 12, 3) := by decide +kernel
theorem dX8_see_46 : decode cX8_see 46 = .ok (.getfield 28, 3) := by decide +kernel
theorem dX8_see_49 : decode cX8_see 49 = .ok (.invokevirtual 208, 3) := by decide +kernel
theorem dX8_see_52 : decode cX8_see 52 = .ok (.ifCond .eq 8, 3) := by decide +kernel
theorem dX8_see_55 : decode cX8_see 55 = .ok (.bipush (-4), 2) := by decide +kernel
theorem dX8_see_57 : decode cX8_see 57 = .ok (.goto 19, 3) := by decide +kernel
theorem dX8_see_60 : decode cX8_see 60 = .ok (.aload_n 0, 1) := by decide +kernel
theorem dX8_see_61 : decode cX8_see 61 = .ok (.getfield 12, 3) := by decide +kernel
theorem dX8_see_64 : decode cX8_see 64 = .ok (.getfield 28, 3) := by decide +kernel
theorem dX8_see_67 : decode cX8_see 67 = .ok (.iload_n 1, 1) := by decide +kernel
theorem dX8_see_68 : decode cX8_see 68 = .ok (.iload_n 2, 1) := by decide +kernel
theorem dX8_see_69 : decode cX8_see 69 = .ok (.iload_n 3, 1) := by decide +kernel
theorem dX8_see_70 : decode cX8_see 70 = .ok (.invokestatic 99, 3) := by decide +kernel
theorem dX8_see_73 : decode cX8_see 73 = .ok (.invokevirtual 212, 3) := by decide +kernel
theorem dX8_see_76 : decode cX8_see 76 = .ok (.ireturn, 1) := by decide +kernel
theorem dX8_can_0 : decode cX8_can 0 = .ok (.aload_n 0, 1) := by decide +kernel
theorem dX8_can_1 : decode cX8_can 1 = .ok (.getfield 25, 3) := by decide +kernel
theorem dX8_can_4 : decode cX8_can 4 = .ok (.iload_n 1, 1) := by decide +kernel
theorem dX8_can_5 : decode cX8_can 5 = .ok (.invokevirtual 81, 3) := by decide +kernel
theorem dX8_can_8 : decode cX8_can 8 = .ok (.ifCond .eq 21, 3) := by decide +kernel
theorem dX8_can_11 : decode cX8_can 11 = .ok (.iload_n 2, 1) := by decide +kernel
theorem dX8_can_12 : decode cX8_can 12 = .ok (.iconst 0, 1) := by decide +kernel
theorem dX8_can_13 : decode cX8_can 13 = .ok (.iconst 1, 1) := by decide +kernel
theorem dX8_can_14 : decode cX8_can 14 = .ok (.invokestatic 67, 3) := by decide +kernel
theorem dX8_can_17 : decode cX8_can 17 = .ok (.ifCond .eq 12, 3) := by decide +kernel
theorem dX8_can_20 : decode cX8_can 20 = .ok (.iload_n 3, 1) := by decide +kernel
theorem dX8_can_21 : decode cX8_can 21 = .ok (.iconst 0, 1) := by decide +kernel
theorem dX8_can_22 : decode cX8_can 22 = .ok (.iconst 1, 1) := by decide +kernel
theorem dX8_can_23 : decode cX8_can 23 = .ok (.invokestatic 67, 3) := by decide +kernel
theorem dX8_can_26 : decode cX8_can 26 = .ok (.ifCond .ne 5, 3) := by decide +kernel
theorem dX8_can_29 : decode cX8_can 29 = .ok (.iconst (-1), 1) := by decide +kernel
theorem dX8_can_30 : decode cX8_can 30 = .ok (.ireturn, 1) := by decide +kernel
theorem dX8_can_31 : decode cX8_can 31 = .ok (.aload_n 0, 1) := by decide +kernel
theorem dX8_can_32 : decode cX8_can 32 = .ok (.getfield 35, 3) := by decide +kernel
theorem dX8_can_35 : decode cX8_can 35 = .ok (.iload_n 1, 1) := by decide +kernel
theorem dX8_can_36 : decode cX8_can 36 = .ok (.iload_n 2, 1) := by decide +kernel
theorem dX8_can_37 : decode cX8_can 37 = .ok (.ifCond .ne 7, 3) := by decide +kernel
theorem dX8_can_40 : decode cX8_can 40 = .ok (.iconst 1, 1) := by decide +kernel
theorem dX8_can_41 : decode cX8_can 41 = .ok (.goto 4, 3) := by decide +kernel
theorem dX8_can_44 : decode cX8_can 44 = .ok (.iconst 0, 1) := by decide +kernel
theorem dX8_can_45 : decode cX8_can 45 = .ok (.iload_n 3, 1) := by decide +kernel
theorem dX8_can_46 : decode cX8_can 46 = .ok (.ifCond .ne 7, 3) := by decide +kernel
theorem dX8_can_49 : decode cX8_can 49 = .ok (.iconst 1, 1) := by decide +kernel
theorem dX8_can_50 : decode cX8_can 50 = .ok (.goto 4, 3) := by decide +kernel
theorem dX8_can_53 : decode cX8_can 53 = .ok (.iconst 0, 1) := by decide +kernel
theorem dX8_can_54 : decode cX8_can 54 = .ok (.invokevirtual 214, 3) := by decide +kernel
theorem dX8_can_57 : decode cX8_can 57 = .ok (.ireturn, 1) := by decide +kernel
theorem dX8_odds_0 : decode cX8_odds 0 = .ok (.aload_n 0, 1) := by decide +kernel
theorem dX8_odds_1 : decode cX8_odds 1 = .ok (.getfield 25, 3) := by decide +kernel
theorem dX8_odds_4 : decode cX8_odds 4 = .ok (.iload_n 1, 1) := by decide +kernel
theorem dX8_odds_5 : decode cX8_odds 5 = .ok (.invokevirtual 81, 3) := by decide +kernel
theorem dX8_odds_8 : decode cX8_odds 8 = .ok (.ifCond .eq 13, 3) := by decide +kernel
theorem dX8_odds_11 : decode cX8_odds 11 = .ok (.iload_n 2, 1) := by decide +kernel
theorem dX8_odds_12 : decode cX8_odds 12 = .ok (.iconst 0, 1) := by decide +kernel
theorem dX8_odds_13 : decode cX8_odds 13 = .ok (.bipush 20, 2) := by decide +kernel
theorem dX8_odds_15 : decode cX8_odds 15 = .ok (.invokestatic 67, 3) := by decide +kernel
theorem dX8_odds_18 : decode cX8_odds 18 = .ok (.ifCond .ne 7, 3) := by decide +kernel
theorem dX8_odds_21 : decode cX8_odds 21 = .ok (.ldc2_w 218, 3) := by decide +kernel
theorem dX8_odds_24 : decode cX8_odds 24 = .ok (.lreturn, 1) := by decide +kernel
theorem dX8_odds_25 : decode cX8_odds 25 = .ok (.aload_n 0, 1) := by decide +kernel
theorem dX8_odds_26 : decode cX8_odds 26 = .ok (.getfield 35, 3) := by decide +kernel
theorem dX8_odds_29 : decode cX8_odds 29 = .ok (.iload_n 1, 1) := by decide +kernel
theorem dX8_odds_30 : decode cX8_odds 30 = .ok (.iload_n 2, 1) := by decide +kernel
theorem dX8_odds_31 : decode cX8_odds 31 = .ok (.invokevirtual 220, 3) := by decide +kernel
theorem dX8_odds_34 : decode cX8_odds 34 = .ok (.aload_n 0, 1) := by decide +kernel
theorem dX8_odds_35 : decode cX8_odds 35 = .ok (.getfield 25, 3) := by decide +kernel
theorem dX8_odds_38 : decode cX8_odds 38 = .ok (.invokevirtual 223, 3) := by decide +kernel
theorem dX8_odds_41 : decode cX8_odds 41 = .ok (.iload_n 3, 1) := by decide +kernel
theorem dX8_odds_42 : decode cX8_odds 42 = .ok (.invokestatic 226, 3) := by decide +kernel
theorem dX8_odds_45 : decode cX8_odds 45 = .ok (.lreturn, 1) := by decide +kernel
theorem dX8_mean_0 : decode cX8_mean 0 = .ok (.iload_n 1, 1) := by decide +kernel
theorem dX8_mean_1 : decode cX8_mean 1 = .ok (.iconst 0, 1) := by decide +kernel
theorem dX8_mean_2 : decode cX8_mean 2 = .ok (.bipush 60, 2) := by decide +kernel
theorem dX8_mean_4 : decode cX8_mean 4 = .ok (.invokestatic 67, 3) := by decide +kernel
theorem dX8_mean_7 : decode cX8_mean 7 = .ok (.ifCond .ne 7, 3) := by decide +kernel
theorem dX8_mean_10 : decode cX8_mean 10 = .ok (.ldc2_w 218, 3) := by decide +kernel
theorem dX8_mean_13 : decode cX8_mean 13 = .ok (.lreturn, 1) := by decide +kernel
theorem dX8_mean_14 : decode cX8_mean 14 = .ok (.aload_n 0, 1) := by decide +kernel
theorem dX8_mean_15 : decode cX8_mean 15 = .ok (.getfield 35, 3) := by decide +kernel
theorem dX8_mean_18 : decode cX8_mean 18 = .ok (.iload_n 1, 1) := by decide +kernel
theorem dX8_mean_19 : decode cX8_mean 19 = .ok (.invokevirtual 188, 3) := by decide +kernel
theorem dX8_mean_22 : decode cX8_mean 22 = .ok (.invokevirtual 181, 3) := by decide +kernel
theorem dX8_mean_25 : decode cX8_mean 25 = .ok (.aload_n 0, 1) := by decide +kernel
theorem dX8_mean_26 : decode cX8_mean 26 = .ok (.getfield 25, 3) := by decide +kernel
theorem dX8_mean_29 : decode cX8_mean 29 = .ok (.getfield 71, 3) := by decide +kernel
theorem dX8_mean_32 : decode cX8_mean 32 = .ok (.iload_n 2, 1) := by decide +kernel
theorem dX8_mean_33 : decode cX8_mean 33 = .ok (.invokestatic 226, 3) := by decide +kernel
theorem dX8_mean_36 : decode cX8_mean 36 = .ok (.lreturn, 1) := by decide +kernel
theorem dX8_plan_0 : decode cX8_plan 0 = .ok (.iload_n 1, 1) := by decide +kernel
theorem dX8_plan_1 : decode cX8_plan 1 = .ok (.iconst (-1), 1) := by decide +kernel
theorem dX8_plan_2 : decode cX8_plan 2 = .ok (.if_icmp .ne 14, 3) := by decide +kernel
theorem dX8_plan_5 : decode cX8_plan 5 = .ok (.aload_n 0, 1) := by decide +kernel
theorem dX8_plan_6 : decode cX8_plan 6 = .ok (.getfield 12, 3) := by decide +kernel
theorem dX8_plan_9 : decode cX8_plan 9 = .ok (.getfield 230, 3) := by decide +kernel
theorem dX8_plan_12 : decode cX8_plan 12 = .ok (.invokevirtual 204, 3) := by decide +kernel
theorem dX8_plan_15 : decode cX8_plan 15 = .ok (.ireturn, 1) := by decide +kernel
theorem dX8_plan_16 : decode cX8_plan 16 = .ok (.iload_n 1, 1) := by decide +kernel
theorem dX8_plan_17 : decode cX8_plan 17 = .ok (.iconst 1, 1) := by decide +kernel
theorem dX8_plan_18 : decode cX8_plan 18 = .ok (.if_icmp .eq 8, 3) := by decide +kernel
theorem dX8_plan_21 : decode cX8_plan 21 = .ok (.iload_n 1, 1) := by decide +kernel
theorem dX8_plan_22 : decode cX8_plan 22 = .ok (.iconst 2, 1) := by decide +kernel
theorem dX8_plan_23 : decode cX8_plan 23 = .ok (.if_icmp .ne 7, 3) := by decide +kernel
theorem dX8_plan_26 : decode cX8_plan 26 = .ok (.iconst 1, 1) := by decide +kernel
theorem dX8_plan_27 : decode cX8_plan 27 = .ok (.goto 4, 3) := by decide +kernel
theorem dX8_plan_30 : decode cX8_plan 30 = .ok (.iconst 0, 1) := by decide +kernel
theorem dX8_plan_31 : decode cX8_plan 31 = .ok (.istore_n 3, 1) := by decide +kernel
theorem dX8_plan_32 : decode cX8_plan 32 = .ok (.iload_n 1, 1) := by decide +kernel
theorem dX8_plan_33 : decode cX8_plan 33 = .ok (.ifCond .eq 14, 3) := by decide +kernel
theorem dX8_plan_36 : decode cX8_plan 36 = .ok (.iload_n 3, 1) := by decide +kernel
theorem dX8_plan_37 : decode cX8_plan 37 = .ok (.ifCond .ne 10, 3) := by decide +kernel
theorem dX8_plan_40 : decode cX8_plan 40 = .ok (.iload_n 1, 1) := by decide +kernel
theorem dX8_plan_41 : decode cX8_plan 41 = .ok (.iconst 3, 1) := by decide +kernel
theorem dX8_plan_42 : decode cX8_plan 42 = .ok (.if_icmp .eq 5, 3) := by decide +kernel
theorem dX8_plan_45 : decode cX8_plan 45 = .ok (.iconst (-1), 1) := by decide +kernel
theorem dX8_plan_46 : decode cX8_plan 46 = .ok (.ireturn, 1) := by decide +kernel
theorem dX8_plan_47 : decode cX8_plan 47 = .ok (.iload_n 3, 1) := by decide +kernel
theorem dX8_plan_48 : decode cX8_plan 48 = .ok (.ifCond .eq 14, 3) := by decide +kernel
theorem dX8_plan_51 : decode cX8_plan 51 = .ok (.aload_n 0, 1) := by decide +kernel
theorem dX8_plan_52 : decode cX8_plan 52 = .ok (.getfield 25, 3) := by decide +kernel
theorem dX8_plan_55 : decode cX8_plan 55 = .ok (.iload_n 2, 1) := by decide +kernel
theorem dX8_plan_56 : decode cX8_plan 56 = .ok (.invokevirtual 81, 3) := by decide +kernel
theorem dX8_plan_59 : decode cX8_plan 59 = .ok (.ifCond .eq 19, 3) := by decide +kernel
theorem dX8_plan_62 : decode cX8_plan 62 = .ok (.iload_n 1, 1) := by decide +kernel
theorem dX8_plan_63 : decode cX8_plan 63 = .ok (.iconst 3, 1) := by decide +kernel
theorem dX8_plan_64 : decode cX8_plan 64 = .ok (.if_icmp .ne 16, 3) := by decide +kernel
theorem dX8_plan_67 : decode cX8_plan 67 = .ok (.aload_n 0, 1) := by decide +kernel
theorem dX8_plan_68 : decode cX8_plan 68 = .ok (.getfield 25, 3) := by decide +kernel
theorem dX8_plan_71 : decode cX8_plan 71 = .ok (.iload_n 2, 1) := by decide +kernel
theorem dX8_plan_72 : decode cX8_plan 72 = .ok (.invokevirtual 117, 3) := by decide +kernel
theorem dX8_plan_75 : decode cX8_plan 75 = .ok (.ifCond .ne 5, 3) := by decide +kernel
theorem dX8_plan_78 : decode cX8_plan 78 = .ok (.iconst (-1), 1) := by decide +kernel
theorem dX8_plan_79 : decode cX8_plan 79 = .ok (.ireturn, 1) := by decide +kernel
theorem dX8_plan_80 : decode cX8_plan 80 = .ok (.aload_n 0, 1) := by decide +kernel
theorem dX8_plan_81 : decode cX8_plan 81 = .ok (.getfield 12, 3) := by decide +kernel
theorem dX8_plan_84 : decode cX8_plan 84 = .ok (.getfield 230, 3) := by decide +kernel
theorem dX8_plan_87 : decode cX8_plan 87 = .ok (.invokevirtual 208, 3) := by decide +kernel
theorem dX8_plan_90 : decode cX8_plan 90 = .ok (.ifCond .eq 8, 3) := by decide +kernel
theorem dX8_plan_93 : decode cX8_plan 93 = .ok (.bipush (-4), 2) := by decide +kernel
theorem dX8_plan_95 : decode cX8_plan 95 = .ok (.goto 16, 3) := by decide +kernel
theorem dX8_plan_98 : decode cX8_plan 98 = .ok (.aload_n 0, 1) := by decide +kernel
theorem dX8_plan_99 : decode cX8_plan 99 = .ok (.getfield 12, 3) := by decide +kernel
theorem dX8_plan_102 : decode cX8_plan 102 = .ok (.getfield 230, 3) := by decide +kernel
theorem dX8_plan_105 : decode cX8_plan 105 = .ok (.iload_n 1, 1) := by decide +kernel
theorem dX8_plan_106 : decode cX8_plan 106 = .ok (.iload_n 2, 1) := by decide +kernel
theorem dX8_plan_107 : decode cX8_plan 107 = .ok (.iconst 0, 1) := by decide +kernel
theorem dX8_plan_108 : decode cX8_plan 108 = .ok (.invokevirtual 212, 3) := by decide +kernel
theorem dX8_plan_111 : decode cX8_plan 111 = .ok (.ireturn, 1) := by decide +kernel
theorem dX8_ends_0 : decode cX8_ends 0 = .ok (.iload_n 1, 1) := by decide +kernel
theorem dX8_ends_1 : decode cX8_ends 1 = .ok (.iconst 0, 1) := by decide +kernel
theorem dX8_ends_2 : decode cX8_ends 2 = .ok (.iconst 1, 1) := by decide +kernel
theorem dX8_ends_3 : decode cX8_ends 3 = .ok (.invokestatic 67, 3) := by decide +kernel
theorem dX8_ends_6 : decode cX8_ends 6 = .ok (.ifCond .ne 5, 3) := by decide +kernel
theorem dX8_ends_9 : decode cX8_ends 9 = .ok (.iconst (-1), 1) := by decide +kernel
theorem dX8_ends_10 : decode cX8_ends 10 = .ok (.ireturn, 1) := by decide +kernel
theorem dX8_ends_11 : decode cX8_ends 11 = .ok (.aload_n 0, 1) := by decide +kernel
theorem dX8_ends_12 : decode cX8_ends 12 = .ok (.getfield 35, 3) := by decide +kernel
theorem dX8_ends_15 : decode cX8_ends 15 = .ok (.aload_n 0, 1) := by decide +kernel
theorem dX8_ends_16 : decode cX8_ends 16 = .ok (.getfield 12, 3) := by decide +kernel
theorem dX8_ends_19 : decode cX8_ends 19 = .ok (.getfield 230, 3) := by decide +kernel
theorem dX8_ends_22 : decode cX8_ends 22 = .ok (.invokevirtual 233, 3) := by decide +kernel
theorem dX8_ends_25 : decode cX8_ends 25 = .ok (.astore_n 2, 1) := by decide +kernel
theorem dX8_ends_26 : decode cX8_ends 26 = .ok (.iload_n 1, 1) := by decide +kernel
theorem dX8_ends_27 : decode cX8_ends 27 = .ok (.ifCond .ne 10, 3) := by decide +kernel
theorem dX8_ends_30 : decode cX8_ends 30 = .ok (.aload_n 2, 1) := by decide +kernel
theorem dX8_ends_31 : decode cX8_ends 31 = .ok (.invokevirtual 181, 3) := by decide +kernel
theorem dX8_ends_34 : decode cX8_ends 34 = .ok (.goto 7, 3) := by decide +kernel
theorem dX8_ends_37 : decode cX8_ends 37 = .ok (.aload_n 2, 1) := by decide +kernel
theorem dX8_ends_38 : decode cX8_ends 38 = .ok (.invokevirtual 175, 3) := by decide +kernel
theorem dX8_ends_41 : decode cX8_ends 41 = .ok (.ireturn, 1) := by decide +kernel
theorem dX8_book_0 : decode cX8_book 0 = .ok (.iload_n 1, 1) := by decide +kernel
theorem dX8_book_1 : decode cX8_book 1 = .ok (.iconst (-1), 1) := by decide +kernel
theorem dX8_book_2 : decode cX8_book 2 = .ok (.if_icmp .ne 14, 3) := by decide +kernel
theorem dX8_book_5 : decode cX8_book 5 = .ok (.aload_n 0, 1) := by decide +kernel
theorem dX8_book_6 : decode cX8_book 6 = .ok (.getfield 12, 3) := by decide +kernel
theorem dX8_book_9 : decode cX8_book 9 = .ok (.getfield 237, 3) := by decide +kernel
theorem dX8_book_12 : decode cX8_book 12 = .ok (.invokevirtual 204, 3) := by decide +kernel
theorem dX8_book_15 : decode cX8_book 15 = .ok (.ireturn, 1) := by decide +kernel
theorem dX8_book_16 : decode cX8_book 16 = .ok (.aload_n 0, 1) := by decide +kernel
theorem dX8_book_17 : decode cX8_book 17 = .ok (.getfield 25, 3) := by decide +kernel
theorem dX8_book_20 : decode cX8_book 20 = .ok (.iload_n 1, 1) := by decide +kernel
theorem dX8_book_21 : decode cX8_book 21 = .ok (.invokevirtual 81, 3) := by decide +kernel
theorem dX8_book_24 : decode cX8_book 24 = .ok (.ifCond .ne 5, 3) := by decide +kernel
theorem dX8_book_27 : decode cX8_book 27 = .ok (.iconst (-1), 1) := by decide +kernel
theorem dX8_book_28 : decode cX8_book 28 = .ok (.ireturn, 1) := by decide +kernel
theorem dX8_book_29 : decode cX8_book 29 = .ok (.iload_n 2, 1) := by decide +kernel
theorem dX8_book_30 : decode cX8_book 30 = .ok (.iconst 0, 1) := by decide +kernel
theorem dX8_book_31 : decode cX8_book 31 = .ok (.bipush 99, 2) := by decide +kernel
theorem dX8_book_33 : decode cX8_book 33 = .ok (.invokestatic 67, 3) := by decide +kernel
theorem dX8_book_36 : decode cX8_book 36 = .ok (.ifCond .ne 6, 3) := by decide +kernel
theorem dX8_book_39 : decode cX8_book 39 = .ok (.bipush (-2), 2) := by decide +kernel
theorem dX8_book_41 : decode cX8_book 41 = .ok (.ireturn, 1) := by decide +kernel
theorem dX8_book_42 : decode cX8_book 42 = .ok (.aload_n 0, 1) := by decide +kernel
theorem dX8_book_43 : decode cX8_book 43 = .ok (.getfield 12, 3) := by decide +kernel
theorem dX8_book_46 : decode cX8_book 46 = .ok (.getfield 237, 3) := by decide +kernel
theorem dX8_book_49 : decode cX8_book 49 = .ok (.invokevirtual 208, 3) := by decide +kernel
theorem dX8_book_52 : decode cX8_book 52 = .ok (.ifCond .eq 8, 3) := by decide +kernel
theorem dX8_book_55 : decode cX8_book 55 = .ok (.bipush (-4), 2) := by decide +kernel
theorem dX8_book_57 : decode cX8_book 57 = .ok (.goto 16, 3) := by decide +kernel
theorem dX8_book_60 : decode cX8_book 60 = .ok (.aload_n 0, 1) := by decide +kernel
theorem dX8_book_61 : decode cX8_book 61 = .ok (.getfield 12, 3) := by decide +kernel
theorem dX8_book_64 : decode cX8_book 64 = .ok (.getfield 237, 3) := by decide +kernel
theorem dX8_book_67 : decode cX8_book 67 = .ok (.iload_n 1, 1) := by decide +kernel
theorem dX8_book_68 : decode cX8_book 68 = .ok (.iload_n 2, 1) := by decide +kernel
theorem dX8_book_69 : decode cX8_book 69 = .ok (.iconst 0, 1) := by decide +kernel
theorem dX8_book_70 : decode cX8_book 70 = .ok (.invokevirtual 212, 3) := by decide +kernel
theorem dX8_book_73 : decode cX8_book 73 = .ok (.ireturn, 1) := by decide +kernel
theorem dX8_looked_0 : decode cX8_looked 0 = .ok (.aload_n 0, 1) := by decide +kernel
theorem dX8_looked_1 : decode cX8_looked 1 = .ok (.getfield 12, 3) := by decide +kernel
theorem dX8_looked_4 : decode cX8_looked 4 = .ok (.getfield 237, 3) := by decide +kernel
theorem dX8_looked_7 : decode cX8_looked 7 = .ok (.astore_n 1, 1) := by decide +kernel
theorem dX8_looked_8 : decode cX8_looked 8 = .ok (.iconst 0, 1) := by decide +kernel
theorem dX8_looked_9 : decode cX8_looked 9 = .ok (.istore_n 2, 1) := by decide +kernel
theorem dX8_looked_10 : decode cX8_looked 10 = .ok (.iload_n 2, 1) := by decide +kernel
theorem dX8_looked_11 : decode cX8_looked 11 = .ok (.aload_n 1, 1) := by decide +kernel
theorem dX8_looked_12 : decode cX8_looked 12 = .ok (.getfield 240, 3) := by decide +kernel
theorem dX8_looked_15 : decode cX8_looked 15 = .ok (.if_icmp .ge 47, 3) := by decide +kernel
theorem dX8_looked_18 : decode cX8_looked 18 = .ok (.aload_n 1, 1) := by decide +kernel
theorem dX8_looked_19 : decode cX8_looked 19 = .ok (.getfield 241, 3) := by decide +kernel
theorem dX8_looked_22 : decode cX8_looked 22 = .ok (.iload_n 2, 1) := by decide +kernel
theorem dX8_looked_23 : decode cX8_looked 23 = .ok (.iaload, 1) := by decide +kernel
theorem dX8_looked_24 : decode cX8_looked 24 = .ok (.istore_n 3, 1) := by decide +kernel
theorem dX8_looked_25 : decode cX8_looked 25 = .ok (.aload_n 0, 1) := by decide +kernel
theorem dX8_looked_26 : decode cX8_looked 26 = .ok (.getfield 25, 3) := by decide +kernel
theorem dX8_looked_29 : decode cX8_looked 29 = .ok (.iload_n 3, 1) := by decide +kernel
theorem dX8_looked_30 : decode cX8_looked 30 = .ok (.invokevirtual 81, 3) := by decide +kernel
theorem dX8_looked_33 : decode cX8_looked 33 = .ok (.ifCond .eq 23, 3) := by decide +kernel
theorem dX8_looked_36 : decode cX8_looked 36 = .ok (.aload_n 0, 1) := by decide +kernel
theorem dX8_looked_37 : decode cX8_looked 37 = .ok (.getfield 25, 3) := by decide +kernel
theorem dX8_looked_40 : decode cX8_looked 40 = .ok (.getfield 92, 3) := by decide +kernel
theorem dX8_looked_43 : decode cX8_looked 43 = .ok (.iload_n 3, 1) := by decide +kernel
theorem dX8_looked_44 : decode cX8_looked 44 = .ok (.iaload, 1) := by decide +kernel
theorem dX8_looked_45 : decode cX8_looked 45 = .ok (.aload_n 1, 1) := by decide +kernel
theorem dX8_looked_46 : decode cX8_looked 46 = .ok (.getfield 244, 3) := by decide +kernel
theorem dX8_looked_49 : decode cX8_looked 49 = .ok (.iload_n 2, 1) := by decide +kernel
theorem dX8_looked_50 : decode cX8_looked 50 = .ok (.iaload, 1) := by decide +kernel
theorem dX8_looked_51 : decode cX8_looked 51 = .ok (.if_icmp .eq 5, 3) := by decide +kernel
theorem dX8_looked_54 : decode cX8_looked 54 = .ok (.iload_n 2, 1) := by decide +kernel
theorem dX8_looked_55 : decode cX8_looked 55 = .ok (.ireturn, 1) := by decide +kernel
theorem dX8_looked_56 : decode cX8_looked 56 = .ok (.iinc 2 1, 3) := by decide +kernel
theorem dX8_looked_59 : decode cX8_looked 59 = .ok (.goto (-49), 3) := by decide +kernel
theorem dX8_looked_62 : decode cX8_looked 62 = .ok (.bipush (-5), 2) := by decide +kernel
theorem dX8_looked_64 : decode cX8_looked 64 = .ok (.ireturn, 1) := by decide +kernel
theorem dX8_judge_0 : decode cX8_judge 0 = .ok (.aload_n 0, 1) := by decide +kernel
theorem dX8_judge_1 : decode cX8_judge 1 = .ok (.getfield 62, 3) := by decide +kernel
theorem dX8_judge_4 : decode cX8_judge 4 = .ok (.iload_n 1, 1) := by decide +kernel
theorem dX8_judge_5 : decode cX8_judge 5 = .ok (.invokevirtual 247, 3) := by decide +kernel
theorem dX8_judge_8 : decode cX8_judge 8 = .ok (.ifCond .ne 5, 3) := by decide +kernel
theorem dX8_judge_11 : decode cX8_judge 11 = .ok (.iconst (-1), 1) := by decide +kernel
theorem dX8_judge_12 : decode cX8_judge 12 = .ok (.ireturn, 1) := by decide +kernel
theorem dX8_judge_13 : decode cX8_judge 13 = .ok (.aload_n 0, 1) := by decide +kernel
theorem dX8_judge_14 : decode cX8_judge 14 = .ok (.getfield 62, 3) := by decide +kernel
theorem dX8_judge_17 : decode cX8_judge 17 = .ok (.iload_n 1, 1) := by decide +kernel
theorem dX8_judge_18 : decode cX8_judge 18 = .ok (.invokevirtual 250, 3) := by decide +kernel
theorem dX8_judge_21 : decode cX8_judge 21 = .ok (.ifCond .eq 18, 3) := by decide +kernel
theorem dX8_judge_24 : decode cX8_judge 24 = .ok (.aload_n 0, 1) := by decide +kernel
theorem dX8_judge_25 : decode cX8_judge 25 = .ok (.getfield 62, 3) := by decide +kernel
theorem dX8_judge_28 : decode cX8_judge 28 = .ok (.getfield 253, 3) := by decide +kernel
theorem dX8_judge_31 : decode cX8_judge 31 = .ok (.iload_n 1, 1) := by decide +kernel
theorem dX8_judge_32 : decode cX8_judge 32 = .ok (.iaload, 1) := by decide +kernel
theorem dX8_judge_33 : decode cX8_judge 33 = .ok (.ifCond .eq 6, 3) := by decide +kernel
theorem dX8_judge_36 : decode cX8_judge 36 = .ok (.bipush (-12), 2) := by decide +kernel
theorem dX8_judge_38 : decode cX8_judge 38 = .ok (.ireturn, 1) := by decide +kernel
theorem dX8_judge_39 : decode cX8_judge 39 = .ok (.iconst 0, 1) := by decide +kernel
theorem dX8_judge_40 : decode cX8_judge 40 = .ok (.istore_n 3, 1) := by decide +kernel
theorem dX8_judge_41 : decode cX8_judge 41 = .ok (.iload_n 3, 1) := by decide +kernel
theorem dX8_judge_42 : decode cX8_judge 42 = .ok (.aload_n 0, 1) := by decide +kernel
theorem dX8_judge_43 : decode cX8_judge 43 = .ok (.getfield 25, 3) := by decide +kernel
theorem dX8_judge_46 : decode cX8_judge 46 = .ok (.getfield 71, 3) := by decide +kernel
theorem dX8_judge_49 : decode cX8_judge 49 = .ok (.if_icmp .ge 73, 3) := by decide +kernel
theorem dX8_judge_52 : decode cX8_judge 52 = .ok (.aload_n 0, 1) := by decide +kernel
theorem dX8_judge_53 : decode cX8_judge 53 = .ok (.getfield 62, 3) := by decide +kernel
theorem dX8_judge_56 : decode cX8_judge 56 = .ok (.iload_n 1, 1) := by decide +kernel
theorem dX8_judge_57 : decode cX8_judge 57 = .ok (.invokevirtual 250, 3) := by decide +kernel
theorem dX8_judge_60 : decode cX8_judge 60 = .ok (.ifCond .eq 22, 3) := by decide +kernel
theorem dX8_judge_63 : decode cX8_judge 63 = .ok (.iload_n 2, 1) := by decide +kernel
theorem dX8_judge_64 : decode cX8_judge 64 = .ok (.ifCond .lt 18, 3) := by decide +kernel
theorem dX8_judge_67 : decode cX8_judge 67 = .ok (.iload_n 2, 1) := by decide +kernel
theorem dX8_judge_68 : decode cX8_judge 68 = .ok (.aload_n 0, 1) := by decide +kernel
theorem dX8_judge_69 : decode cX8_judge 69 = .ok (.getfield 62, 3) := by decide +kernel
theorem dX8_judge_72 : decode cX8_judge 72 = .ok (.getfield 256, 3) := by decide +kernel
theorem dX8_judge_75 : decode cX8_judge 75 = .ok (.iload_n 1, 1) := by decide +kernel
theorem dX8_judge_76 : decode cX8_judge 76 = .ok (.iaload, 1) := by decide +kernel
theorem dX8_judge_77 : decode cX8_judge 77 = .ok (.iload_n 3, 1) := by decide +kernel
theorem dX8_judge_78 : decode cX8_judge 78 = .ok (.isub, 1) := by decide +kernel
theorem dX8_judge_79 : decode cX8_judge 79 = .ok (.if_icmp .lt 8, 3) := by decide +kernel
theorem dX8_judge_82 : decode cX8_judge 82 = .ok (.bipush 100, 2) := by decide +kernel
theorem dX8_judge_84 : decode cX8_judge 84 = .ok (.iload_n 3, 1) := by decide +kernel
theorem dX8_judge_85 : decode cX8_judge 85 = .ok (.iadd, 1) := by decide +kernel
theorem dX8_judge_86 : decode cX8_judge 86 = .ok (.ireturn, 1) := by decide +kernel
theorem dX8_judge_87 : decode cX8_judge 87 = .ok (.aload_n 0, 1) := by decide +kernel
theorem dX8_judge_88 : decode cX8_judge 88 = .ok (.getfield 62, 3) := by decide +kernel
theorem dX8_judge_91 : decode cX8_judge 91 = .ok (.getfield 258, 3) := by decide +kernel
theorem dX8_judge_94 : decode cX8_judge 94 = .ok (.iload_n 1, 1) := by decide +kernel
theorem dX8_judge_95 : decode cX8_judge 95 = .ok (.aaload, 1) := by decide +kernel
theorem dX8_judge_96 : decode cX8_judge 96 = .ok (.iload_n 2, 1) := by decide +kernel
theorem dX8_judge_97 : decode cX8_judge 97 = .ok (.iload_n 3, 1) := by decide +kernel
theorem dX8_judge_98 : decode cX8_judge 98 = .ok (.iadd, 1) := by decide +kernel
theorem dX8_judge_99 : decode cX8_judge 99 = .ok (.laload, 1) := by decide +kernel
theorem dX8_judge_100 : decode cX8_judge 100 = .ok (.aload_n 0, 1) := by decide +kernel
theorem dX8_judge_101 : decode cX8_judge 101 = .ok (.getfield 25, 3) := by decide +kernel
theorem dX8_judge_104 : decode cX8_judge 104 = .ok (.getfield 92, 3) := by decide +kernel
theorem dX8_judge_107 : decode cX8_judge 107 = .ok (.iload_n 3, 1) := by decide +kernel
theorem dX8_judge_108 : decode cX8_judge 108 = .ok (.iaload, 1) := by decide +kernel
theorem dX8_judge_109 : decode cX8_judge 109 = .ok (.i2l, 1) := by decide +kernel
theorem dX8_judge_110 : decode cX8_judge 110 = .ok (.lcmp, 1) := by decide +kernel
theorem dX8_judge_111 : decode cX8_judge 111 = .ok (.ifCond .eq 5, 3) := by decide +kernel
theorem dX8_judge_114 : decode cX8_judge 114 = .ok (.iload_n 3, 1) := by decide +kernel
theorem dX8_judge_115 : decode cX8_judge 115 = .ok (.ireturn, 1) := by decide +kernel
theorem dX8_judge_116 : decode cX8_judge 116 = .ok (.iinc 3 1, 3) := by decide +kernel
theorem dX8_judge_119 : decode cX8_judge 119 = .ok (.goto (-78), 3) := by decide +kernel
theorem dX8_judge_122 : decode cX8_judge 122 = .ok (.bipush (-5), 2) := by decide +kernel
theorem dX8_judge_124 : decode cX8_judge 124 = .ok (.ireturn, 1) := by decide +kernel
theorem dX8_image_0 : decode cX8_image 0 = .ok (.aload_n 0, 1) := by decide +kernel
theorem dX8_image_1 : decode cX8_image 1 = .ok (.getfield 18, 3) := by decide +kernel
theorem dX8_image_4 : decode cX8_image 4 = .ok (.aload_n 0, 1) := by decide +kernel
theorem dX8_image_5 : decode cX8_image 5 = .ok (.getfield 12, 3) := by decide +kernel
theorem dX8_image_8 : decode cX8_image 8 = .ok (.invokevirtual 262, 3) := by decide +kernel
theorem dX8_image_11 : decode cX8_image 11 = .ok (.aload_n 0, 1) := by decide +kernel
theorem dX8_image_12 : decode cX8_image 12 = .ok (.iconst 1, 1) := by decide +kernel
theorem dX8_image_13 : decode cX8_image 13 = .ok (.putfield 266, 3) := by decide +kernel
theorem dX8_image_16 : decode cX8_image 16 = .ok (.aload_n 0, 1) := by decide +kernel
theorem dX8_image_17 : decode cX8_image 17 = .ok (.getfield 25, 3) := by decide +kernel
theorem dX8_image_20 : decode cX8_image 20 = .ok (.getfield 71, 3) := by decide +kernel
theorem dX8_image_23 : decode cX8_image 23 = .ok (.ireturn, 1) := by decide +kernel
theorem dX8_undo_0 : decode cX8_undo 0 = .ok (.aload_n 0, 1) := by decide +kernel
theorem dX8_undo_1 : decode cX8_undo 1 = .ok (.getfield 266, 3) := by decide +kernel
theorem dX8_undo_4 : decode cX8_undo 4 = .ok (.ifCond .ne 6, 3) := by decide +kernel
theorem dX8_undo_7 : decode cX8_undo 7 = .ok (.bipush (-3), 2) := by decide +kernel
theorem dX8_undo_9 : decode cX8_undo 9 = .ok (.ireturn, 1) := by decide +kernel
theorem dX8_undo_10 : decode cX8_undo 10 = .ok (.aload_n 0, 1) := by decide +kernel
theorem dX8_undo_11 : decode cX8_undo 11 = .ok (.getfield 12, 3) := by decide +kernel
theorem dX8_undo_14 : decode cX8_undo 14 = .ok (.aload_n 0, 1) := by decide +kernel
theorem dX8_undo_15 : decode cX8_undo 15 = .ok (.getfield 18, 3) := by decide +kernel
theorem dX8_undo_18 : decode cX8_undo 18 = .ok (.invokevirtual 262, 3) := by decide +kernel
theorem dX8_undo_21 : decode cX8_undo 21 = .ok (.aload_n 0, 1) := by decide +kernel
theorem dX8_undo_22 : decode cX8_undo 22 = .ok (.getfield 25, 3) := by decide +kernel
theorem dX8_undo_25 : decode cX8_undo 25 = .ok (.getfield 71, 3) := by decide +kernel
theorem dX8_undo_28 : decode cX8_undo 28 = .ok (.ireturn, 1) := by decide +kernel
theorem dX8_act_0 : decode cX8_act 0 = .ok (.aload_n 0, 1) := by decide +kernel
theorem dX8_act_1 : decode cX8_act 1 = .ok (.getfield 55, 3) := by decide +kernel
theorem dX8_act_4 : decode cX8_act 4 = .ok (.iconst 0, 1) := by decide +kernel
theorem dX8_act_5 : decode cX8_act 5 = .ok (.putfield 270, 3) := by decide +kernel
theorem dX8_act_8 : decode cX8_act 8 = .ok (.aload_n 0, 1) := by decide +kernel
theorem dX8_act_9 : decode cX8_act 9 = .ok (.getfield 25, 3) := by decide +kernel
theorem dX8_act_12 : decode cX8_act 12 = .ok (.iload_n 1, 1) := by decide +kernel
theorem dX8_act_13 : decode cX8_act 13 = .ok (.invokevirtual 81, 3) := by decide +kernel
theorem dX8_act_16 : decode cX8_act 16 = .ok (.ifCond .eq 12, 3) := by decide +kernel
theorem dX8_act_19 : decode cX8_act 19 = .ok (.iload_n 2, 1) := by decide +kernel
theorem dX8_act_20 : decode cX8_act 20 = .ok (.iconst 0, 1) := by decide +kernel
theorem dX8_act_21 : decode cX8_act 21 = .ok (.iconst 2, 1) := by decide +kernel
theorem dX8_act_22 : decode cX8_act 22 = .ok (.invokestatic 67, 3) := by decide +kernel
theorem dX8_act_25 : decode cX8_act 25 = .ok (.ifCond .ne 5, 3) := by decide +kernel
theorem dX8_act_28 : decode cX8_act 28 = .ok (.iconst 0, 1) := by decide +kernel
theorem dX8_act_29 : decode cX8_act 29 = .ok (.ireturn, 1) := by decide +kernel
theorem dX8_act_30 : decode cX8_act 30 = .ok (.aload_n 0, 1) := by decide +kernel
theorem dX8_act_31 : decode cX8_act 31 = .ok (.getfield 55, 3) := by decide +kernel
theorem dX8_act_34 : decode cX8_act 34 = .ok (.aload_n 0, 1) := by decide +kernel
theorem dX8_act_35 : decode cX8_act 35 = .ok (.getfield 25, 3) := by decide +kernel
theorem dX8_act_38 : decode cX8_act 38 = .ok (.iload_n 1, 1) := by decide +kernel
theorem dX8_act_39 : decode cX8_act 39 = .ok (.iload_n 2, 1) := by decide +kernel
theorem dX8_act_40 : decode cX8_act 40 = .ok (.iload_n 3, 1) := by decide +kernel
theorem dX8_act_41 : decode cX8_act 41 = .ok (.invokevirtual 273, 3) := by decide +kernel
theorem dX8_act_44 : decode cX8_act 44 = .ok (.ireturn, 1) := by decide +kernel
theorem dX8_trace_0 : decode cX8_trace 0 = .ok (.iload_n 1, 1) := by decide +kernel
theorem dX8_trace_1 : decode cX8_trace 1 = .ok (.ifCond .lt 32, 3) := by decide +kernel
theorem dX8_trace_4 : decode cX8_trace 4 = .ok (.iload_n 1, 1) := by decide +kernel
theorem dX8_trace_5 : decode cX8_trace 5 = .ok (.aload_n 0, 1) := by decide +kernel
theorem dX8_trace_6 : decode cX8_trace 6 = .ok (.getfield 55, 3) := by decide +kernel
theorem dX8_trace_9 : decode cX8_trace 9 = .ok (.getfield 270, 3) := by decide +kernel
theorem dX8_trace_12 : decode cX8_trace 12 = .ok (.if_icmp .ge 21, 3) := by decide +kernel
theorem dX8_trace_15 : decode cX8_trace 15 = .ok (.iload_n 1, 1) := by decide +kernel
theorem dX8_trace_16 : decode cX8_trace 16 = .ok (.bipush 20, 2) := by decide +kernel
theorem dX8_trace_18 : decode cX8_trace 18 = .ok (.if_icmp .ge 15, 3) := by decide +kernel
theorem dX8_trace_21 : decode cX8_trace 21 = .ok (.aload_n 0, 1) := by decide +kernel
theorem dX8_trace_22 : decode cX8_trace 22 = .ok (.getfield 55, 3) := by decide +kernel
theorem dX8_trace_25 : decode cX8_trace 25 = .ok (.getfield 277, 3) := by decide +kernel
theorem dX8_trace_28 : decode cX8_trace 28 = .ok (.iload_n 1, 1) := by decide +kernel
theorem dX8_trace_29 : decode cX8_trace 29 = .ok (.iaload, 1) := by decide +kernel
theorem dX8_trace_30 : decode cX8_trace 30 = .ok (.goto 4, 3) := by decide +kernel
theorem dX8_trace_33 : decode cX8_trace 33 = .ok (.iconst (-1), 1) := by decide +kernel
theorem dX8_trace_34 : decode cX8_trace 34 = .ok (.ireturn, 1) := by decide +kernel
theorem dX8_taken_0 : decode cX8_taken 0 = .ok (.iload_n 2, 1) := by decide +kernel
theorem dX8_taken_1 : decode cX8_taken 1 = .ok (.iconst 0, 1) := by decide +kernel
theorem dX8_taken_2 : decode cX8_taken 2 = .ok (.bipush 6, 2) := by decide +kernel
theorem dX8_taken_4 : decode cX8_taken 4 = .ok (.invokestatic 67, 3) := by decide +kernel
theorem dX8_taken_7 : decode cX8_taken 7 = .ok (.ifCond .ne 6, 3) := by decide +kernel
theorem dX8_taken_10 : decode cX8_taken 10 = .ok (.bipush (-2), 2) := by decide +kernel
theorem dX8_taken_12 : decode cX8_taken 12 = .ok (.ireturn, 1) := by decide +kernel
theorem dX8_taken_13 : decode cX8_taken 13 = .ok (.aload_n 0, 1) := by decide +kernel
theorem dX8_taken_14 : decode cX8_taken 14 = .ok (.getfield 25, 3) := by decide +kernel
theorem dX8_taken_17 : decode cX8_taken 17 = .ok (.iload_n 1, 1) := by decide +kernel
theorem dX8_taken_18 : decode cX8_taken 18 = .ok (.invokevirtual 81, 3) := by decide +kernel
theorem dX8_taken_21 : decode cX8_taken 21 = .ok (.ifCond .ne 6, 3) := by decide +kernel
theorem dX8_taken_24 : decode cX8_taken 24 = .ok (.bipush (-11), 2) := by decide +kernel
theorem dX8_taken_26 : decode cX8_taken 26 = .ok (.ireturn, 1) := by decide +kernel
theorem dX8_taken_27 : decode cX8_taken 27 = .ok (.aload_n 0, 1) := by decide +kernel
theorem dX8_taken_28 : decode cX8_taken 28 = .ok (.getfield 25, 3) := by decide +kernel
theorem dX8_taken_31 : decode cX8_taken 31 = .ok (.getfield 85, 3) := by decide +kernel
theorem dX8_taken_34 : decode cX8_taken 34 = .ok (.iload_n 1, 1) := by decide +kernel
theorem dX8_taken_35 : decode cX8_taken 35 = .ok (.iaload, 1) := by decide +kernel
theorem dX8_taken_36 : decode cX8_taken 36 = .ok (.iload_n 2, 1) := by decide +kernel
theorem dX8_taken_37 : decode cX8_taken 37 = .ok (.invokestatic 280, 3) := by decide +kernel
theorem dX8_taken_40 : decode cX8_taken 40 = .ok (.ifCond .eq 15, 3) := by decide +kernel
theorem dX8_taken_43 : decode cX8_taken 43 = .ok (.aload_n 0, 1) := by decide +kernel
theorem dX8_taken_44 : decode cX8_taken 44 = .ok (.getfield 25, 3) := by decide +kernel
theorem dX8_taken_47 : decode cX8_taken 47 = .ok (.getfield 85, 3) := by decide +kernel
theorem dX8_taken_50 : decode cX8_taken 50 = .ok (.iload_n 1, 1) := by decide +kernel
theorem dX8_taken_51 : decode cX8_taken 51 = .ok (.iaload, 1) := by decide +kernel
theorem dX8_taken_52 : decode cX8_taken 52 = .ok (.goto 5, 3) := by decide +kernel
theorem dX8_taken_55 : decode cX8_taken 55 = .ok (.bipush (-12), 2) := by decide +kernel
theorem dX8_taken_57 : decode cX8_taken 57 = .ok (.ireturn, 1) := by decide +kernel
theorem dX8_count_0 : decode cX8_count 0 = .ok (.iload_n 1, 1) := by decide +kernel
theorem dX8_count_1 : decode cX8_count 1 = .ok (.tableswitch 117 0 7 #[47, 55, 63, 68, 79, 90, 101, 109], 47) := by decide +kernel
theorem dX8_count_48 : decode cX8_count 48 = .ok (.aload_n 0, 1) := by decide +kernel
theorem dX8_count_49 : decode cX8_count 49 = .ok (.getfield 25, 3) := by decide +kernel
theorem dX8_count_52 : decode cX8_count 52 = .ok (.getfield 71, 3) := by decide +kernel
theorem dX8_count_55 : decode cX8_count 55 = .ok (.ireturn, 1) := by decide +kernel
theorem dX8_count_56 : decode cX8_count 56 = .ok (.aload_n 0, 1) := by decide +kernel
theorem dX8_count_57 : decode cX8_count 57 = .ok (.getfield 25, 3) := by decide +kernel
theorem dX8_count_60 : decode cX8_count 60 = .ok (.getfield 111, 3) := by decide +kernel
theorem dX8_count_63 : decode cX8_count 63 = .ok (.ireturn, 1) := by decide +kernel
theorem dX8_count_64 : decode cX8_count 64 = .ok (.aload_n 0, 1) := by decide +kernel
theorem dX8_count_65 : decode cX8_count 65 = .ok (.getfield 151, 3) := by decide +kernel
theorem dX8_count_68 : decode cX8_count 68 = .ok (.ireturn, 1) := by decide +kernel
theorem dX8_count_69 : decode cX8_count 69 = .ok (.aload_n 0, 1) := by decide +kernel
theorem dX8_count_70 : decode cX8_count 70 = .ok (.getfield 12, 3) := by decide +kernel
theorem dX8_count_73 : decode cX8_count 73 = .ok (.getfield 28, 3) := by decide +kernel
theorem dX8_count_76 : decode cX8_count 76 = .ok (.getfield 240, 3) := by decide +kernel
theorem dX8_count_79 : decode cX8_count 79 = .ok (.ireturn, 1) := by decide +kernel
theorem dX8_count_80 : decode cX8_count 80 = .ok (.aload_n 0, 1) := by decide +kernel
theorem dX8_count_81 : decode cX8_count 81 = .ok (.getfield 12, 3) := by decide +kernel
theorem dX8_count_84 : decode cX8_count 84 = .ok (.getfield 230, 3) := by decide +kernel
theorem dX8_count_87 : decode cX8_count 87 = .ok (.getfield 240, 3) := by decide +kernel
theorem dX8_count_90 : decode cX8_count 90 = .ok (.ireturn, 1) := by decide +kernel
theorem dX8_count_91 : decode cX8_count 91 = .ok (.aload_n 0, 1) := by decide +kernel
theorem dX8_count_92 : decode cX8_count 92 = .ok (.getfield 12, 3) := by decide +kernel
theorem dX8_count_95 : decode cX8_count 95 = .ok (.getfield 237, 3) := by decide +kernel
theorem dX8_count_98 : decode cX8_count 98 = .ok (.getfield 240, 3) := by decide +kernel
theorem dX8_count_101 : decode cX8_count 101 = .ok (.ireturn, 1) := by decide +kernel
theorem dX8_count_102 : decode cX8_count 102 = .ok (.aload_n 0, 1) := by decide +kernel
theorem dX8_count_103 : decode cX8_count 103 = .ok (.getfield 42, 3) := by decide +kernel
theorem dX8_count_106 : decode cX8_count 106 = .ok (.getfield 144, 3) := by decide +kernel
theorem dX8_count_109 : decode cX8_count 109 = .ok (.ireturn, 1) := by decide +kernel
theorem dX8_count_110 : decode cX8_count 110 = .ok (.aload_n 0, 1) := by decide +kernel
theorem dX8_count_111 : decode cX8_count 111 = .ok (.getfield 55, 3) := by decide +kernel
theorem dX8_count_114 : decode cX8_count 114 = .ok (.getfield 270, 3) := by decide +kernel
theorem dX8_count_117 : decode cX8_count 117 = .ok (.ireturn, 1) := by decide +kernel
theorem dX8_count_118 : decode cX8_count 118 = .ok (.bipush (-2), 2) := by decide +kernel
theorem dX8_count_120 : decode cX8_count 120 = .ok (.ireturn, 1) := by decide +kernel
theorem dX8_tape_0 : decode cX8_tape 0 = .ok (.aload_n 0, 1) := by decide +kernel
theorem dX8_tape_1 : decode cX8_tape 1 = .ok (.getfield 62, 3) := by decide +kernel
theorem dX8_tape_4 : decode cX8_tape 4 = .ok (.iload_n 1, 1) := by decide +kernel
theorem dX8_tape_5 : decode cX8_tape 5 = .ok (.invokevirtual 247, 3) := by decide +kernel
theorem dX8_tape_8 : decode cX8_tape 8 = .ok (.ifCond .ne 5, 3) := by decide +kernel
theorem dX8_tape_11 : decode cX8_tape 11 = .ok (.iconst (-1), 1) := by decide +kernel
theorem dX8_tape_12 : decode cX8_tape 12 = .ok (.ireturn, 1) := by decide +kernel
theorem dX8_tape_13 : decode cX8_tape 13 = .ok (.iload_n 2, 1) := by decide +kernel
theorem dX8_tape_14 : decode cX8_tape 14 = .ok (.iconst (-1), 1) := by decide +kernel
theorem dX8_tape_15 : decode cX8_tape 15 = .ok (.if_icmp .ne 14, 3) := by decide +kernel
theorem dX8_tape_18 : decode cX8_tape 18 = .ok (.aload_n 0, 1) := by decide +kernel
theorem dX8_tape_19 : decode cX8_tape 19 = .ok (.getfield 62, 3) := by decide +kernel
theorem dX8_tape_22 : decode cX8_tape 22 = .ok (.iload_n 1, 1) := by decide +kernel
theorem dX8_tape_23 : decode cX8_tape 23 = .ok (.iload_n 2, 1) := by decide +kernel
theorem dX8_tape_24 : decode cX8_tape 24 = .ok (.iconst 0, 1) := by decide +kernel
theorem dX8_tape_25 : decode cX8_tape 25 = .ok (.invokevirtual 284, 3) := by decide +kernel
theorem dX8_tape_28 : decode cX8_tape 28 = .ok (.ireturn, 1) := by decide +kernel
theorem dX8_tape_29 : decode cX8_tape 29 = .ok (.iload_n 2, 1) := by decide +kernel
theorem dX8_tape_30 : decode cX8_tape 30 = .ok (.iconst 0, 1) := by decide +kernel
theorem dX8_tape_31 : decode cX8_tape 31 = .ok (.iconst 4, 1) := by decide +kernel
theorem dX8_tape_32 : decode cX8_tape 32 = .ok (.invokestatic 67, 3) := by decide +kernel
theorem dX8_tape_35 : decode cX8_tape 35 = .ok (.ifCond .eq 9, 3) := by decide +kernel
theorem dX8_tape_38 : decode cX8_tape 38 = .ok (.iload_n 3, 1) := by decide +kernel
theorem dX8_tape_39 : decode cX8_tape 39 = .ok (.bipush 60, 2) := by decide +kernel
theorem dX8_tape_41 : decode cX8_tape 41 = .ok (.if_icmp .le 6, 3) := by decide +kernel
theorem dX8_tape_44 : decode cX8_tape 44 = .ok (.bipush (-2), 2) := by decide +kernel
theorem dX8_tape_46 : decode cX8_tape 46 = .ok (.ireturn, 1) := by decide +kernel
theorem dX8_tape_47 : decode cX8_tape 47 = .ok (.iload_n 3, 1) := by decide +kernel
theorem dX8_tape_48 : decode cX8_tape 48 = .ok (.ifCond .ge 8, 3) := by decide +kernel
theorem dX8_tape_51 : decode cX8_tape 51 = .ok (.bipush (-14), 2) := by decide +kernel
theorem dX8_tape_53 : decode cX8_tape 53 = .ok (.goto 13, 3) := by decide +kernel
theorem dX8_tape_56 : decode cX8_tape 56 = .ok (.aload_n 0, 1) := by decide +kernel
theorem dX8_tape_57 : decode cX8_tape 57 = .ok (.getfield 62, 3) := by decide +kernel
theorem dX8_tape_60 : decode cX8_tape 60 = .ok (.iload_n 1, 1) := by decide +kernel
theorem dX8_tape_61 : decode cX8_tape 61 = .ok (.iload_n 2, 1) := by decide +kernel
theorem dX8_tape_62 : decode cX8_tape 62 = .ok (.iload_n 3, 1) := by decide +kernel
theorem dX8_tape_63 : decode cX8_tape 63 = .ok (.invokevirtual 284, 3) := by decide +kernel
theorem dX8_tape_66 : decode cX8_tape 66 = .ok (.ireturn, 1) := by decide +kernel
theorem dX8_item_0 : decode cX8_item 0 = .ok (.aload_n 0, 1) := by decide +kernel
theorem dX8_item_1 : decode cX8_item 1 = .ok (.getfield 62, 3) := by decide +kernel
theorem dX8_item_4 : decode cX8_item 4 = .ok (.iload_n 1, 1) := by decide +kernel
theorem dX8_item_5 : decode cX8_item 5 = .ok (.invokevirtual 247, 3) := by decide +kernel
theorem dX8_item_8 : decode cX8_item 8 = .ok (.ifCond .ne 5, 3) := by decide +kernel
theorem dX8_item_11 : decode cX8_item 11 = .ok (.iconst (-1), 1) := by decide +kernel
theorem dX8_item_12 : decode cX8_item 12 = .ok (.ireturn, 1) := by decide +kernel
theorem dX8_item_13 : decode cX8_item 13 = .ok (.aload_n 0, 1) := by decide +kernel
theorem dX8_item_14 : decode cX8_item 14 = .ok (.getfield 62, 3) := by decide +kernel
theorem dX8_item_17 : decode cX8_item 17 = .ok (.iload_n 1, 1) := by decide +kernel
theorem dX8_item_18 : decode cX8_item 18 = .ok (.invokevirtual 250, 3) := by decide +kernel
theorem dX8_item_21 : decode cX8_item 21 = .ok (.ifCond .ne 6, 3) := by decide +kernel
theorem dX8_item_24 : decode cX8_item 24 = .ok (.bipush (-11), 2) := by decide +kernel
theorem dX8_item_26 : decode cX8_item 26 = .ok (.ireturn, 1) := by decide +kernel
theorem dX8_item_27 : decode cX8_item 27 = .ok (.aload_n 0, 1) := by decide +kernel
theorem dX8_item_28 : decode cX8_item 28 = .ok (.getfield 62, 3) := by decide +kernel
theorem dX8_item_31 : decode cX8_item 31 = .ok (.iload_n 1, 1) := by decide +kernel
theorem dX8_item_32 : decode cX8_item 32 = .ok (.iload_n 2, 1) := by decide +kernel
theorem dX8_item_33 : decode cX8_item 33 = .ok (.iconst 1, 1) := by decide +kernel
theorem dX8_item_34 : decode cX8_item 34 = .ok (.invokevirtual 286, 3) := by decide +kernel
theorem dX8_item_37 : decode cX8_item 37 = .ok (.ifCond .eq 16, 3) := by decide +kernel
theorem dX8_item_40 : decode cX8_item 40 = .ok (.aload_n 0, 1) := by decide +kernel
theorem dX8_item_41 : decode cX8_item 41 = .ok (.getfield 62, 3) := by decide +kernel
theorem dX8_item_44 : decode cX8_item 44 = .ok (.iload_n 1, 1) := by decide +kernel
theorem dX8_item_45 : decode cX8_item 45 = .ok (.iload_n 2, 1) := by decide +kernel
theorem dX8_item_46 : decode cX8_item 46 = .ok (.lload_n 3, 1) := by decide +kernel
theorem dX8_item_47 : decode cX8_item 47 = .ok (.invokevirtual 289, 3) := by decide +kernel
theorem dX8_item_50 : decode cX8_item 50 = .ok (.goto 5, 3) := by decide +kernel
theorem dX8_item_53 : decode cX8_item 53 = .ok (.bipush (-13), 2) := by decide +kernel
theorem dX8_item_55 : decode cX8_item 55 = .ok (.ireturn, 1) := by decide +kernel
theorem dX8_read_0 : decode cX8_read 0 = .ok (.aload_n 0, 1) := by decide +kernel
theorem dX8_read_1 : decode cX8_read 1 = .ok (.getfield 62, 3) := by decide +kernel
theorem dX8_read_4 : decode cX8_read 4 = .ok (.iload_n 1, 1) := by decide +kernel
theorem dX8_read_5 : decode cX8_read 5 = .ok (.invokevirtual 247, 3) := by decide +kernel
theorem dX8_read_8 : decode cX8_read 8 = .ok (.ifCond .eq 41, 3) := by decide +kernel
theorem dX8_read_11 : decode cX8_read 11 = .ok (.aload_n 0, 1) := by decide +kernel
theorem dX8_read_12 : decode cX8_read 12 = .ok (.getfield 62, 3) := by decide +kernel
theorem dX8_read_15 : decode cX8_read 15 = .ok (.iload_n 1, 1) := by decide +kernel
theorem dX8_read_16 : decode cX8_read 16 = .ok (.invokevirtual 250, 3) := by decide +kernel
theorem dX8_read_19 : decode cX8_read 19 = .ok (.ifCond .eq 30, 3) := by decide +kernel
theorem dX8_read_22 : decode cX8_read 22 = .ok (.aload_n 0, 1) := by decide +kernel
theorem dX8_read_23 : decode cX8_read 23 = .ok (.getfield 62, 3) := by decide +kernel
theorem dX8_read_26 : decode cX8_read 26 = .ok (.iload_n 1, 1) := by decide +kernel
theorem dX8_read_27 : decode cX8_read 27 = .ok (.iload_n 2, 1) := by decide +kernel
theorem dX8_read_28 : decode cX8_read 28 = .ok (.iconst 1, 1) := by decide +kernel
theorem dX8_read_29 : decode cX8_read 29 = .ok (.invokevirtual 286, 3) := by decide +kernel
theorem dX8_read_32 : decode cX8_read 32 = .ok (.ifCond .eq 17, 3) := by decide +kernel
theorem dX8_read_35 : decode cX8_read 35 = .ok (.aload_n 0, 1) := by decide +kernel
theorem dX8_read_36 : decode cX8_read 36 = .ok (.getfield 62, 3) := by decide +kernel
theorem dX8_read_39 : decode cX8_read 39 = .ok (.getfield 258, 3) := by decide +kernel
theorem dX8_read_42 : decode cX8_read 42 = .ok (.iload_n 1, 1) := by decide +kernel
theorem dX8_read_43 : decode cX8_read 43 = .ok (.aaload, 1) := by decide +kernel
theorem dX8_read_44 : decode cX8_read 44 = .ok (.iload_n 2, 1) := by decide +kernel
theorem dX8_read_45 : decode cX8_read 45 = .ok (.laload, 1) := by decide +kernel
theorem dX8_read_46 : decode cX8_read 46 = .ok (.goto 6, 3) := by decide +kernel
theorem dX8_read_49 : decode cX8_read 49 = .ok (.ldc2_w 218, 3) := by decide +kernel
theorem dX8_read_52 : decode cX8_read 52 = .ok (.lreturn, 1) := by decide +kernel
theorem dX8_shift_0 : decode cX8_shift 0 = .ok (.aload_n 0, 1) := by decide +kernel
theorem dX8_shift_1 : decode cX8_shift 1 = .ok (.getfield 62, 3) := by decide +kernel
theorem dX8_shift_4 : decode cX8_shift 4 = .ok (.iload_n 1, 1) := by decide +kernel
theorem dX8_shift_5 : decode cX8_shift 5 = .ok (.invokevirtual 247, 3) := by decide +kernel
theorem dX8_shift_8 : decode cX8_shift 8 = .ok (.ifCond .eq 14, 3) := by decide +kernel
theorem dX8_shift_11 : decode cX8_shift 11 = .ok (.aload_n 0, 1) := by decide +kernel
theorem dX8_shift_12 : decode cX8_shift 12 = .ok (.getfield 62, 3) := by decide +kernel
theorem dX8_shift_15 : decode cX8_shift 15 = .ok (.iload_n 3, 1) := by decide +kernel
theorem dX8_shift_16 : decode cX8_shift 16 = .ok (.invokevirtual 247, 3) := by decide +kernel
theorem dX8_shift_19 : decode cX8_shift 19 = .ok (.ifCond .ne 5, 3) := by decide +kernel
theorem dX8_shift_22 : decode cX8_shift 22 = .ok (.iconst (-1), 1) := by decide +kernel
theorem dX8_shift_23 : decode cX8_shift 23 = .ok (.ireturn, 1) := by decide +kernel
theorem dX8_shift_24 : decode cX8_shift 24 = .ok (.aload_n 0, 1) := by decide +kernel
theorem dX8_shift_25 : decode cX8_shift 25 = .ok (.getfield 62, 3) := by decide +kernel
theorem dX8_shift_28 : decode cX8_shift 28 = .ok (.iload_n 1, 1) := by decide +kernel
theorem dX8_shift_29 : decode cX8_shift 29 = .ok (.invokevirtual 250, 3) := by decide +kernel
theorem dX8_shift_32 : decode cX8_shift 32 = .ok (.ifCond .eq 14, 3) := by decide +kernel
theorem dX8_shift_35 : decode cX8_shift 35 = .ok (.aload_n 0, 1) := by decide +kernel
theorem dX8_shift_36 : decode cX8_shift 36 = .ok (.getfield 62, 3) := by decide +kernel
theorem dX8_shift_39 : decode cX8_shift 39 = .ok (.iload_n 3, 1) := by decide +kernel
theorem dX8_shift_40 : decode cX8_shift 40 = .ok (.invokevirtual 250, 3) := by decide +kernel
theorem dX8_shift_43 : decode cX8_shift 43 = .ok (.ifCond .ne 6, 3) := by decide +kernel
theorem dX8_shift_46 : decode cX8_shift 46 = .ok (.bipush (-11), 2) := by decide +kernel
theorem dX8_shift_48 : decode cX8_shift 48 = .ok (.ireturn, 1) := by decide +kernel
theorem dX8_shift_49 : decode cX8_shift 49 = .ok (.aload_n 0, 1) := by decide +kernel
theorem dX8_shift_50 : decode cX8_shift 50 = .ok (.getfield 62, 3) := by decide +kernel
theorem dX8_shift_53 : decode cX8_shift 53 = .ok (.getfield 253, 3) := by decide +kernel
theorem dX8_shift_56 : decode cX8_shift 56 = .ok (.iload_n 1, 1) := by decide +kernel
theorem dX8_shift_57 : decode cX8_shift 57 = .ok (.iaload, 1) := by decide +kernel
theorem dX8_shift_58 : decode cX8_shift 58 = .ok (.aload_n 0, 1) := by decide +kernel
theorem dX8_shift_59 : decode cX8_shift 59 = .ok (.getfield 62, 3) := by decide +kernel
theorem dX8_shift_62 : decode cX8_shift 62 = .ok (.getfield 253, 3) := by decide +kernel
theorem dX8_shift_65 : decode cX8_shift 65 = .ok (.iload_n 3, 1) := by decide +kernel
theorem dX8_shift_66 : decode cX8_shift 66 = .ok (.iaload, 1) := by decide +kernel
theorem dX8_shift_67 : decode cX8_shift 67 = .ok (.if_icmp .eq 6, 3) := by decide +kernel
theorem dX8_shift_70 : decode cX8_shift 70 = .ok (.bipush (-12), 2) := by decide +kernel
theorem dX8_shift_72 : decode cX8_shift 72 = .ok (.ireturn, 1) := by decide +kernel
theorem dX8_shift_73 : decode cX8_shift 73 = .ok (.aload_n 0, 1) := by decide +kernel
theorem dX8_shift_74 : decode cX8_shift 74 = .ok (.getfield 62, 3) := by decide +kernel
theorem dX8_shift_77 : decode cX8_shift 77 = .ok (.iload_n 1, 1) := by decide +kernel
theorem dX8_shift_78 : decode cX8_shift 78 = .ok (.iload_n 2, 1) := by decide +kernel
theorem dX8_shift_79 : decode cX8_shift 79 = .ok (.iload 5, 2) := by decide +kernel
theorem dX8_shift_81 : decode cX8_shift 81 = .ok (.invokevirtual 286, 3) := by decide +kernel
theorem dX8_shift_84 : decode cX8_shift 84 = .ok (.ifCond .eq 18, 3) := by decide +kernel
theorem dX8_shift_87 : decode cX8_shift 87 = .ok (.aload_n 0, 1) := by decide +kernel
theorem dX8_shift_88 : decode cX8_shift 88 = .ok (.getfield 62, 3) := by decide +kernel
theorem dX8_shift_91 : decode cX8_shift 91 = .ok (.iload_n 3, 1) := by decide +kernel
theorem dX8_shift_92 : decode cX8_shift 92 = .ok (.iload 4, 2) := by decide +kernel
theorem dX8_shift_94 : decode cX8_shift 94 = .ok (.iload 5, 2) := by decide +kernel
theorem dX8_shift_96 : decode cX8_shift 96 = .ok (.invokevirtual 286, 3) := by decide +kernel
theorem dX8_shift_99 : decode cX8_shift 99 = .ok (.ifCond .ne 6, 3) := by decide +kernel
theorem dX8_shift_102 : decode cX8_shift 102 = .ok (.bipush (-13), 2) := by decide +kernel
theorem dX8_shift_104 : decode cX8_shift 104 = .ok (.ireturn, 1) := by decide +kernel
theorem dX8_shift_105 : decode cX8_shift 105 = .ok (.aload_n 0, 1) := by decide +kernel
theorem dX8_shift_106 : decode cX8_shift 106 = .ok (.getfield 62, 3) := by decide +kernel
theorem dX8_shift_109 : decode cX8_shift 109 = .ok (.getfield 258, 3) := by decide +kernel
theorem dX8_shift_112 : decode cX8_shift 112 = .ok (.iload_n 1, 1) := by decide +kernel
theorem dX8_shift_113 : decode cX8_shift 113 = .ok (.aaload, 1) := by decide +kernel
theorem dX8_shift_114 : decode cX8_shift 114 = .ok (.iload_n 2, 1) := by decide +kernel
theorem dX8_shift_115 : decode cX8_shift 115 = .ok (.aload_n 0, 1) := by decide +kernel
theorem dX8_shift_116 : decode cX8_shift 116 = .ok (.getfield 62, 3) := by decide +kernel
theorem dX8_shift_119 : decode cX8_shift 119 = .ok (.getfield 258, 3) := by decide +kernel
theorem dX8_shift_122 : decode cX8_shift 122 = .ok (.iload_n 3, 1) := by decide +kernel
theorem dX8_shift_123 : decode cX8_shift 123 = .ok (.aaload, 1) := by decide +kernel
theorem dX8_shift_124 : decode cX8_shift 124 = .ok (.iload 4, 2) := by decide +kernel
theorem dX8_shift_126 : decode cX8_shift 126 = .ok (.iload 5, 2) := by decide +kernel
theorem dX8_shift_128 : decode cX8_shift 128 = .ok (.invokestatic 293, 3) := by decide +kernel
theorem dX8_shift_131 : decode cX8_shift 131 = .ok (.iload 5, 2) := by decide +kernel
theorem dX8_shift_133 : decode cX8_shift 133 = .ok (.ireturn, 1) := by decide +kernel
theorem dX8_isWithin_0 : decode cX8_isWithin 0 = .ok (.iload_n 0, 1) := by decide +kernel
theorem dX8_isWithin_1 : decode cX8_isWithin 1 = .ok (.iload_n 1, 1) := by decide +kernel
theorem dX8_isWithin_2 : decode cX8_isWithin 2 = .ok (.if_icmp .lt 12, 3) := by decide +kernel
theorem dX8_isWithin_5 : decode cX8_isWithin 5 = .ok (.iload_n 0, 1) := by decide +kernel
theorem dX8_isWithin_6 : decode cX8_isWithin 6 = .ok (.iload_n 2, 1) := by decide +kernel
theorem dX8_isWithin_7 : decode cX8_isWithin 7 = .ok (.if_icmp .gt 7, 3) := by decide +kernel
theorem dX8_isWithin_10 : decode cX8_isWithin 10 = .ok (.iconst 1, 1) := by decide +kernel
theorem dX8_isWithin_11 : decode cX8_isWithin 11 = .ok (.goto 4, 3) := by decide +kernel
theorem dX8_isWithin_14 : decode cX8_isWithin 14 = .ok (.iconst 0, 1) := by decide +kernel
theorem dX8_isWithin_15 : decode cX8_isWithin 15 = .ok (.ireturn, 1) := by decide +kernel
theorem dX8_asNumber_0 : decode cX8_asNumber 0 = .ok (.iload_n 0, 1) := by decide +kernel
theorem dX8_asNumber_1 : decode cX8_asNumber 1 = .ok (.ifCond .eq 7, 3) := by decide +kernel
theorem dX8_asNumber_4 : decode cX8_asNumber 4 = .ok (.iconst 1, 1) := by decide +kernel
theorem dX8_asNumber_5 : decode cX8_asNumber 5 = .ok (.goto 4, 3) := by decide +kernel
theorem dX8_asNumber_8 : decode cX8_asNumber 8 = .ok (.iconst 0, 1) := by decide +kernel
theorem dX8_asNumber_9 : decode cX8_asNumber 9 = .ok (.ireturn, 1) := by decide +kernel
theorem dX8_orLacks_0 : decode cX8_orLacks 0 = .ok (.iload_n 0, 1) := by decide +kernel
theorem dX8_orLacks_1 : decode cX8_orLacks 1 = .ok (.ifCond .ge 8, 3) := by decide +kernel
theorem dX8_orLacks_4 : decode cX8_orLacks 4 = .ok (.bipush (-5), 2) := by decide +kernel
theorem dX8_orLacks_6 : decode cX8_orLacks 6 = .ok (.goto 4, 3) := by decide +kernel
theorem dX8_orLacks_9 : decode cX8_orLacks 9 = .ok (.iload_n 0, 1) := by decide +kernel
theorem dX8_orLacks_10 : decode cX8_orLacks 10 = .ok (.ireturn, 1) := by decide +kernel
theorem dX8_isOrIsUnder_0 : decode cX8_isOrIsUnder 0 = .ok (.iload_n 0, 1) := by decide +kernel
theorem dX8_isOrIsUnder_1 : decode cX8_isOrIsUnder 1 = .ok (.istore_n 2, 1) := by decide +kernel
theorem dX8_isOrIsUnder_2 : decode cX8_isOrIsUnder 2 = .ok (.iconst 0, 1) := by decide +kernel
theorem dX8_isOrIsUnder_3 : decode cX8_isOrIsUnder 3 = .ok (.istore_n 3, 1) := by decide +kernel
theorem dX8_isOrIsUnder_4 : decode cX8_isOrIsUnder 4 = .ok (.iload_n 3, 1) := by decide +kernel
theorem dX8_isOrIsUnder_5 : decode cX8_isOrIsUnder 5 = .ok (.getstatic 299, 3) := by decide +kernel
theorem dX8_isOrIsUnder_8 : decode cX8_isOrIsUnder 8 = .ok (.arraylength, 1) := by decide +kernel
theorem dX8_isOrIsUnder_9 : decode cX8_isOrIsUnder 9 = .ok (.if_icmp .ge 32, 3) := by decide +kernel
theorem dX8_isOrIsUnder_12 : decode cX8_isOrIsUnder 12 = .ok (.iload_n 2, 1) := by decide +kernel
theorem dX8_isOrIsUnder_13 : decode cX8_isOrIsUnder 13 = .ok (.iconst 0, 1) := by decide +kernel
theorem dX8_isOrIsUnder_14 : decode cX8_isOrIsUnder 14 = .ok (.bipush 6, 2) := by decide +kernel
theorem dX8_isOrIsUnder_16 : decode cX8_isOrIsUnder 16 = .ok (.invokestatic 67, 3) := by decide +kernel
theorem dX8_isOrIsUnder_19 : decode cX8_isOrIsUnder 19 = .ok (.ifCond .eq 22, 3) := by decide +kernel
theorem dX8_isOrIsUnder_22 : decode cX8_isOrIsUnder 22 = .ok (.iload_n 2, 1) := by decide +kernel
theorem dX8_isOrIsUnder_23 : decode cX8_isOrIsUnder 23 = .ok (.iload_n 1, 1) := by decide +kernel
theorem dX8_isOrIsUnder_24 : decode cX8_isOrIsUnder 24 = .ok (.if_icmp .ne 5, 3) := by decide +kernel
theorem dX8_isOrIsUnder_27 : decode cX8_isOrIsUnder 27 = .ok (.iconst 1, 1) := by decide +kernel
theorem dX8_isOrIsUnder_28 : decode cX8_isOrIsUnder 28 = .ok (.ireturn, 1) := by decide +kernel
theorem dX8_isOrIsUnder_29 : decode cX8_isOrIsUnder 29 = .ok (.getstatic 299, 3) := by decide +kernel
theorem dX8_isOrIsUnder_32 : decode cX8_isOrIsUnder 32 = .ok (.iload_n 2, 1) := by decide +kernel
theorem dX8_isOrIsUnder_33 : decode cX8_isOrIsUnder 33 = .ok (.iaload, 1) := by decide +kernel
theorem dX8_isOrIsUnder_34 : decode cX8_isOrIsUnder 34 = .ok (.istore_n 2, 1) := by decide +kernel
theorem dX8_isOrIsUnder_35 : decode cX8_isOrIsUnder 35 = .ok (.iinc 3 1, 3) := by decide +kernel
theorem dX8_isOrIsUnder_38 : decode cX8_isOrIsUnder 38 = .ok (.goto (-34), 3) := by decide +kernel
theorem dX8_isOrIsUnder_41 : decode cX8_isOrIsUnder 41 = .ok (.iconst 0, 1) := by decide +kernel
theorem dX8_isOrIsUnder_42 : decode cX8_isOrIsUnder 42 = .ok (.ireturn, 1) := by decide +kernel
theorem dX8_lowestTerms_0 : decode cX8_lowestTerms 0 = .ok (.iload_n 1, 1) := by decide +kernel
theorem dX8_lowestTerms_1 : decode cX8_lowestTerms 1 = .ok (.iconst 1, 1) := by decide +kernel
theorem dX8_lowestTerms_2 : decode cX8_lowestTerms 2 = .ok (.if_icmp .lt 12, 3) := by decide +kernel
theorem dX8_lowestTerms_5 : decode cX8_lowestTerms 5 = .ok (.iload_n 2, 1) := by decide +kernel
theorem dX8_lowestTerms_6 : decode cX8_lowestTerms 6 = .ok (.iconst 0, 1) := by decide +kernel
theorem dX8_lowestTerms_7 : decode cX8_lowestTerms 7 = .ok (.iconst 1, 1) := by decide +kernel
theorem dX8_lowestTerms_8 : decode cX8_lowestTerms 8 = .ok (.invokestatic 67, 3) := by decide +kernel
theorem dX8_lowestTerms_11 : decode cX8_lowestTerms 11 = .ok (.ifCond .ne 7, 3) := by decide +kernel
theorem dX8_lowestTerms_14 : decode cX8_lowestTerms 14 = .ok (.ldc2_w 218, 3) := by decide +kernel
theorem dX8_lowestTerms_17 : decode cX8_lowestTerms 17 = .ok (.lreturn, 1) := by decide +kernel
theorem dX8_lowestTerms_18 : decode cX8_lowestTerms 18 = .ok (.iload_n 1, 1) := by decide +kernel
theorem dX8_lowestTerms_19 : decode cX8_lowestTerms 19 = .ok (.istore_n 3, 1) := by decide +kernel
theorem dX8_lowestTerms_20 : decode cX8_lowestTerms 20 = .ok (.iload_n 3, 1) := by decide +kernel
theorem dX8_lowestTerms_21 : decode cX8_lowestTerms 21 = .ok (.iconst 1, 1) := by decide +kernel
theorem dX8_lowestTerms_22 : decode cX8_lowestTerms 22 = .ok (.if_icmp .le 21, 3) := by decide +kernel
theorem dX8_lowestTerms_25 : decode cX8_lowestTerms 25 = .ok (.iload_n 0, 1) := by decide +kernel
theorem dX8_lowestTerms_26 : decode cX8_lowestTerms 26 = .ok (.iload_n 3, 1) := by decide +kernel
theorem dX8_lowestTerms_27 : decode cX8_lowestTerms 27 = .ok (.irem, 1) := by decide +kernel
theorem dX8_lowestTerms_28 : decode cX8_lowestTerms 28 = .ok (.ifCond .ne 9, 3) := by decide +kernel
theorem dX8_lowestTerms_31 : decode cX8_lowestTerms 31 = .ok (.iload_n 1, 1) := by decide +kernel
theorem dX8_lowestTerms_32 : decode cX8_lowestTerms 32 = .ok (.iload_n 3, 1) := by decide +kernel
theorem dX8_lowestTerms_33 : decode cX8_lowestTerms 33 = .ok (.irem, 1) := by decide +kernel
theorem dX8_lowestTerms_34 : decode cX8_lowestTerms 34 = .ok (.ifCond .eq 9, 3) := by decide +kernel
theorem dX8_lowestTerms_37 : decode cX8_lowestTerms 37 = .ok (.iinc 3 (-1), 3) := by decide +kernel
theorem dX8_lowestTerms_40 : decode cX8_lowestTerms 40 = .ok (.goto (-20), 3) := by decide +kernel
theorem dX8_lowestTerms_43 : decode cX8_lowestTerms 43 = .ok (.iload_n 2, 1) := by decide +kernel
theorem dX8_lowestTerms_44 : decode cX8_lowestTerms 44 = .ok (.ifCond .ne 10, 3) := by decide +kernel
theorem dX8_lowestTerms_47 : decode cX8_lowestTerms 47 = .ok (.iload_n 0, 1) := by decide +kernel
theorem dX8_lowestTerms_48 : decode cX8_lowestTerms 48 = .ok (.iload_n 3, 1) := by decide +kernel
theorem dX8_lowestTerms_49 : decode cX8_lowestTerms 49 = .ok (.idiv, 1) := by decide +kernel
theorem dX8_lowestTerms_50 : decode cX8_lowestTerms 50 = .ok (.i2l, 1) := by decide +kernel
theorem dX8_lowestTerms_51 : decode cX8_lowestTerms 51 = .ok (.goto 7, 3) := by decide +kernel
theorem dX8_lowestTerms_54 : decode cX8_lowestTerms 54 = .ok (.iload_n 1, 1) := by decide +kernel
theorem dX8_lowestTerms_55 : decode cX8_lowestTerms 55 = .ok (.iload_n 3, 1) := by decide +kernel
theorem dX8_lowestTerms_56 : decode cX8_lowestTerms 56 = .ok (.idiv, 1) := by decide +kernel
theorem dX8_lowestTerms_57 : decode cX8_lowestTerms 57 = .ok (.i2l, 1) := by decide +kernel
theorem dX8_lowestTerms_58 : decode cX8_lowestTerms 58 = .ok (.lreturn, 1) := by decide +kernel
end
section
/-! ===== decode rows ===== -/
theorem dX9_init_0 : decode cX9_init 0 = .ok (.aload_n 0, 1) := by decide +kernel
theorem dX9_init_1 : decode cX9_init 1 = .ok (.invokespecial 1, 3) := by decide +kernel
theorem dX9_init_4 : decode cX9_init 4 = .ok (.aload_n 0, 1) := by decide +kernel
theorem dX9_init_5 : decode cX9_init 5 = .ok (.iconst 0, 1) := by decide +kernel
theorem dX9_init_6 : decode cX9_init 6 = .ok (.putfield 7, 3) := by decide +kernel
theorem dX9_init_9 : decode cX9_init 9 = .ok (.aload_n 0, 1) := by decide +kernel
theorem dX9_init_10 : decode cX9_init 10 = .ok (.iconst 0, 1) := by decide +kernel
theorem dX9_init_11 : decode cX9_init 11 = .ok (.putfield 13, 3) := by decide +kernel
theorem dX9_init_14 : decode cX9_init 14 = .ok (.aload_n 0, 1) := by decide +kernel
theorem dX9_init_15 : decode cX9_init 15 = .ok (.iconst 0, 1) := by decide +kernel
theorem dX9_init_16 : decode cX9_init 16 = .ok (.putfield 16, 3) := by decide +kernel
theorem dX9_init_19 : decode cX9_init 19 = .ok (.aload_n 0, 1) := by decide +kernel
theorem dX9_init_20 : decode cX9_init 20 = .ok (.bipush (-5), 2) := by decide +kernel
theorem dX9_init_22 : decode cX9_init 22 = .ok (.putfield 19, 3) := by decide +kernel
theorem dX9_init_25 : decode cX9_init 25 = .ok (.aload_n 0, 1) := by decide +kernel
theorem dX9_init_26 : decode cX9_init 26 = .ok (.iconst 0, 1) := by decide +kernel
theorem dX9_init_27 : decode cX9_init 27 = .ok (.putfield 22, 3) := by decide +kernel
theorem dX9_init_30 : decode cX9_init 30 = .ok (.aload_n 0, 1) := by decide +kernel
theorem dX9_init_31 : decode cX9_init 31 = .ok (.bipush 6, 2) := by decide +kernel
theorem dX9_init_33 : decode cX9_init 33 = .ok (.newarray .int, 2) := by decide +kernel
theorem dX9_init_35 : decode cX9_init 35 = .ok (.putfield 25, 3) := by decide +kernel
theorem dX9_init_38 : decode cX9_init 38 = .ok (.aload_n 0, 1) := by decide +kernel
theorem dX9_init_39 : decode cX9_init 39 = .ok (.bipush 6, 2) := by decide +kernel
theorem dX9_init_41 : decode cX9_init 41 = .ok (.newarray .int, 2) := by decide +kernel
theorem dX9_init_43 : decode cX9_init 43 = .ok (.putfield 29, 3) := by decide +kernel
theorem dX9_init_46 : decode cX9_init 46 = .ok (.aload_n 0, 1) := by decide +kernel
theorem dX9_init_47 : decode cX9_init 47 = .ok (.bipush 6, 2) := by decide +kernel
theorem dX9_init_49 : decode cX9_init 49 = .ok (.newarray .int, 2) := by decide +kernel
theorem dX9_init_51 : decode cX9_init 51 = .ok (.putfield 32, 3) := by decide +kernel
theorem dX9_init_54 : decode cX9_init 54 = .ok (.aload_n 0, 1) := by decide +kernel
theorem dX9_init_55 : decode cX9_init 55 = .ok (.bipush 24, 2) := by decide +kernel
theorem dX9_init_57 : decode cX9_init 57 = .ok (.newarray .int, 2) := by decide +kernel
theorem dX9_init_59 : decode cX9_init 59 = .ok (.putfield 35, 3) := by decide +kernel
theorem dX9_init_62 : decode cX9_init 62 = .ok (.aload_n 0, 1) := by decide +kernel
theorem dX9_init_63 : decode cX9_init 63 = .ok (.iconst 4, 1) := by decide +kernel
theorem dX9_init_64 : decode cX9_init 64 = .ok (.newarray .int, 2) := by decide +kernel
theorem dX9_init_66 : decode cX9_init 66 = .ok (.putfield 38, 3) := by decide +kernel
theorem dX9_init_69 : decode cX9_init 69 = .ok (.aload_n 0, 1) := by decide +kernel
theorem dX9_init_70 : decode cX9_init 70 = .ok (.iconst 4, 1) := by decide +kernel
theorem dX9_init_71 : decode cX9_init 71 = .ok (.newarray .int, 2) := by decide +kernel
theorem dX9_init_73 : decode cX9_init 73 = .ok (.putfield 41, 3) := by decide +kernel
theorem dX9_init_76 : decode cX9_init 76 = .ok (.aload_n 0, 1) := by decide +kernel
theorem dX9_init_77 : decode cX9_init 77 = .ok (.iconst 4, 1) := by decide +kernel
theorem dX9_init_78 : decode cX9_init 78 = .ok (.newarray .int, 2) := by decide +kernel
theorem dX9_init_80 : decode cX9_init 80 = .ok (.putfield 44, 3) := by decide +kernel
theorem dX9_init_83 : decode cX9_init 83 = .ok (.aload_n 0, 1) := by decide +kernel
theorem dX9_init_84 : decode cX9_init 84 = .ok (.iconst 0, 1) := by decide +kernel
theorem dX9_init_85 : decode cX9_init 85 = .ok (.putfield 47, 3) := by decide +kernel
theorem dX9_init_88 : decode cX9_init 88 = .ok (.aload_n 0, 1) := by decide +kernel
theorem dX9_init_89 : decode cX9_init 89 = .ok (.iconst (-1), 1) := by decide +kernel
theorem dX9_init_90 : decode cX9_init 90 = .ok (.putfield 50, 3) := by decide +kernel
theorem dX9_init_93 : decode cX9_init 93 = .ok (.aload_n 0, 1) := by decide +kernel
theorem dX9_init_94 : decode cX9_init 94 = .ok (.iconst 0, 1) := by decide +kernel
theorem dX9_init_95 : decode cX9_init 95 = .ok (.putfield 53, 3) := by decide +kernel
theorem dX9_init_98 : decode cX9_init 98 = .ok (.aload_n 0, 1) := by decide +kernel
theorem dX9_init_99 : decode cX9_init 99 = .ok (.iconst 0, 1) := by decide +kernel
theorem dX9_init_100 : decode cX9_init 100 = .ok (.putfield 56, 3) := by decide +kernel
theorem dX9_init_103 : decode cX9_init 103 = .ok (.aload_n 0, 1) := by decide +kernel
theorem dX9_init_104 : decode cX9_init 104 = .ok (.iconst 0, 1) := by decide +kernel
theorem dX9_init_105 : decode cX9_init 105 = .ok (.putfield 59, 3) := by decide +kernel
theorem dX9_init_108 : decode cX9_init 108 = .ok (.aload_n 0, 1) := by decide +kernel
theorem dX9_init_109 : decode cX9_init 109 = .ok (.bipush 100, 2) := by decide +kernel
theorem dX9_init_111 : decode cX9_init 111 = .ok (.newarray .int, 2) := by decide +kernel
theorem dX9_init_113 : decode cX9_init 113 = .ok (.putfield 62, 3) := by decide +kernel
theorem dX9_init_116 : decode cX9_init 116 = .ok (.aload_n 0, 1) := by decide +kernel
theorem dX9_init_117 : decode cX9_init 117 = .ok (.bipush 6, 2) := by decide +kernel
theorem dX9_init_119 : decode cX9_init 119 = .ok (.newarray .int, 2) := by decide +kernel
theorem dX9_init_121 : decode cX9_init 121 = .ok (.putfield 65, 3) := by decide +kernel
theorem dX9_init_124 : decode cX9_init 124 = .ok (.aload_n 0, 1) := by decide +kernel
theorem dX9_init_125 : decode cX9_init 125 = .ok (.bipush 60, 2) := by decide +kernel
theorem dX9_init_127 : decode cX9_init 127 = .ok (.newarray .int, 2) := by decide +kernel
theorem dX9_init_129 : decode cX9_init 129 = .ok (.putfield 68, 3) := by decide +kernel
theorem dX9_init_132 : decode cX9_init 132 = .ok (.aload_n 0, 1) := by decide +kernel
theorem dX9_init_133 : decode cX9_init 133 = .ok (.bipush 60, 2) := by decide +kernel
theorem dX9_init_135 : decode cX9_init 135 = .ok (.newarray .int, 2) := by decide +kernel
theorem dX9_init_137 : decode cX9_init 137 = .ok (.putfield 71, 3) := by decide +kernel
theorem dX9_init_140 : decode cX9_init 140 = .ok (.aload_n 0, 1) := by decide +kernel
theorem dX9_init_141 : decode cX9_init 141 = .ok (.bipush 60, 2) := by decide +kernel
theorem dX9_init_143 : decode cX9_init 143 = .ok (.newarray .int, 2) := by decide +kernel
theorem dX9_init_145 : decode cX9_init 145 = .ok (.putfield 74, 3) := by decide +kernel
theorem dX9_init_148 : decode cX9_init 148 = .ok (.aload_n 0, 1) := by decide +kernel
theorem dX9_init_149 : decode cX9_init 149 = .ok (.bipush 60, 2) := by decide +kernel
theorem dX9_init_151 : decode cX9_init 151 = .ok (.newarray .int, 2) := by decide +kernel
theorem dX9_init_153 : decode cX9_init 153 = .ok (.putfield 77, 3) := by decide +kernel
theorem dX9_init_156 : decode cX9_init 156 = .ok (.aload_n 0, 1) := by decide +kernel
theorem dX9_init_157 : decode cX9_init 157 = .ok (.sipush 600, 3) := by decide +kernel
theorem dX9_init_160 : decode cX9_init 160 = .ok (.newarray .int, 2) := by decide +kernel
theorem dX9_init_162 : decode cX9_init 162 = .ok (.putfield 80, 3) := by decide +kernel
theorem dX9_init_165 : decode cX9_init 165 = .ok (.aload_n 0, 1) := by decide +kernel
theorem dX9_init_166 : decode cX9_init 166 = .ok (.bipush 101, 2) := by decide +kernel
theorem dX9_init_168 : decode cX9_init 168 = .ok (.newarray .int, 2) := by decide +kernel
theorem dX9_init_170 : decode cX9_init 170 = .ok (.putfield 83, 3) := by decide +kernel
theorem dX9_init_173 : decode cX9_init 173 = .ok (.aload_n 0, 1) := by decide +kernel
theorem dX9_init_174 : decode cX9_init 174 = .ok (.iconst 0, 1) := by decide +kernel
theorem dX9_init_175 : decode cX9_init 175 = .ok (.putfield 86, 3) := by decide +kernel
theorem dX9_init_178 : decode cX9_init 178 = .ok (.aload_n 0, 1) := by decide +kernel
theorem dX9_init_179 : decode cX9_init 179 = .ok (.iconst 0, 1) := by decide +kernel
theorem dX9_init_180 : decode cX9_init 180 = .ok (.putfield 89, 3) := by decide +kernel
theorem dX9_init_183 : decode cX9_init 183 = .ok (.aload_n 0, 1) := by decide +kernel
theorem dX9_init_184 : decode cX9_init 184 = .ok (.iconst 0, 1) := by decide +kernel
theorem dX9_init_185 : decode cX9_init 185 = .ok (.putfield 92, 3) := by decide +kernel
theorem dX9_init_188 : decode cX9_init 188 = .ok (.aload_n 0, 1) := by decide +kernel
theorem dX9_init_189 : decode cX9_init 189 = .ok (.bipush 13, 2) := by decide +kernel
theorem dX9_init_191 : decode cX9_init 191 = .ok (.newarray .int, 2) := by decide +kernel
theorem dX9_init_193 : decode cX9_init 193 = .ok (.dup, 1) := by decide +kernel
theorem dX9_init_194 : decode cX9_init 194 = .ok (.iconst 0, 1) := by decide +kernel
theorem dX9_init_195 : decode cX9_init 195 = .ok (.bipush 104, 2) := by decide +kernel
theorem dX9_init_197 : decode cX9_init 197 = .ok (.iastore, 1) := by decide +kernel
theorem dX9_init_198 : decode cX9_init 198 = .ok (.dup, 1) := by decide +kernel
theorem dX9_init_199 : decode cX9_init 199 = .ok (.iconst 1, 1) := by decide +kernel
theorem dX9_init_200 : decode cX9_init 200 = .ok (.bipush 101, 2) := by decide +kernel
theorem dX9_init_202 : decode cX9_init 202 = .ok (.iastore, 1) := by decide +kernel
theorem dX9_init_203 : decode cX9_init 203 = .ok (.dup, 1) := by decide +kernel
theorem dX9_init_204 : decode cX9_init 204 = .ok (.iconst 2, 1) := by decide +kernel
theorem dX9_init_205 : decode cX9_init 205 = .ok (.bipush 97, 2) := by decide +kernel
theorem dX9_init_207 : decode cX9_init 207 = .ok (.iastore, 1) := by decide +kernel
theorem dX9_init_208 : decode cX9_init 208 = .ok (.dup, 1) := by decide +kernel
theorem dX9_init_209 : decode cX9_init 209 = .ok (.iconst 3, 1) := by decide +kernel
theorem dX9_init_210 : decode cX9_init 210 = .ok (.bipush 116, 2) := by decide +kernel
theorem dX9_init_212 : decode cX9_init 212 = .ok (.iastore, 1) := by decide +kernel
theorem dX9_init_213 : decode cX9_init 213 = .ok (.dup, 1) := by decide +kernel
theorem dX9_init_214 : decode cX9_init 214 = .ok (.iconst 4, 1) := by decide +kernel
theorem dX9_init_215 : decode cX9_init 215 = .ok (.bipush 99, 2) := by decide +kernel
theorem dX9_init_217 : decode cX9_init 217 = .ok (.iastore, 1) := by decide +kernel
theorem dX9_init_218 : decode cX9_init 218 = .ok (.dup, 1) := by decide +kernel
theorem dX9_init_219 : decode cX9_init 219 = .ok (.iconst 5, 1) := by decide +kernel
theorem dX9_init_220 : decode cX9_init 220 = .ok (.bipush 97, 2) := by decide +kernel
theorem dX9_init_222 : decode cX9_init 222 = .ok (.iastore, 1) := by decide +kernel
theorem dX9_init_223 : decode cX9_init 223 = .ok (.dup, 1) := by decide +kernel
theorem dX9_init_224 : decode cX9_init 224 = .ok (.bipush 6, 2) := by decide +kernel
theorem dX9_init_226 : decode cX9_init 226 = .ok (.bipush 108, 2) := by decide +kernel
theorem dX9_init_228 : decode cX9_init 228 = .ok (.iastore, 1) := by decide +kernel
theorem dX9_init_229 : decode cX9_init 229 = .ok (.dup, 1) := by decide +kernel
theorem dX9_init_230 : decode cX9_init 230 = .ok (.bipush 7, 2) := by decide +kernel
theorem dX9_init_232 : decode cX9_init 232 = .ok (.bipush 109, 2) := by decide +kernel
theorem dX9_init_234 : decode cX9_init 234 = .ok (.iastore, 1) := by decide +kernel
theorem dX9_init_235 : decode cX9_init 235 = .ok (.dup, 1) := by decide +kernel
theorem dX9_init_236 : decode cX9_init 236 = .ok (.bipush 8, 2) := by decide +kernel
theorem dX9_init_238 : decode cX9_init 238 = .ok (.bipush 115, 2) := by decide +kernel
theorem dX9_init_240 : decode cX9_init 240 = .ok (.iastore, 1) := by decide +kernel
theorem dX9_init_241 : decode cX9_init 241 = .ok (.dup, 1) := by decide +kernel
theorem dX9_init_242 : decode cX9_init 242 = .ok (.bipush 9, 2) := by decide +kernel
theorem dX9_init_244 : decode cX9_init 244 = .ok (.bipush 112, 2) := by decide +kernel
theorem dX9_init_246 : decode cX9_init 246 = .ok (.iastore, 1) := by decide +kernel
theorem dX9_init_247 : decode cX9_init 247 = .ok (.dup, 1) := by decide +kernel
theorem dX9_init_248 : decode cX9_init 248 = .ok (.bipush 10, 2) := by decide +kernel
theorem dX9_init_250 : decode cX9_init 250 = .ok (.bipush 97, 2) := by decide +kernel
theorem dX9_init_252 : decode cX9_init 252 = .ok (.iastore, 1) := by decide +kernel
theorem dX9_init_253 : decode cX9_init 253 = .ok (.dup, 1) := by decide +kernel
theorem dX9_init_254 : decode cX9_init 254 = .ok (.bipush 11, 2) := by decide +kernel
theorem dX9_init_256 : decode cX9_init 256 = .ok (.bipush 114, 2) := by decide +kernel
theorem dX9_init_258 : decode cX9_init 258 = .ok (.iastore, 1) := by decide +kernel
theorem dX9_init_259 : decode cX9_init 259 = .ok (.dup, 1) := by decide +kernel
theorem dX9_init_260 : decode cX9_init 260 = .ok (.bipush 12, 2) := by decide +kernel
theorem dX9_init_262 : decode cX9_init 262 = .ok (.bipush 107, 2) := by decide +kernel
theorem dX9_init_264 : decode cX9_init 264 = .ok (.iastore, 1) := by decide +kernel
theorem dX9_init_265 : decode cX9_init 265 = .ok (.putfield 95, 3) := by decide +kernel
theorem dX9_init_268 : decode cX9_init 268 = .ok (.aload_n 0, 1) := by decide +kernel
theorem dX9_init_269 : decode cX9_init 269 = .ok (.bipush 100, 2) := by decide +kernel
theorem dX9_init_271 : decode cX9_init 271 = .ok (.newarray .boolean, 2) := by decide +kernel
theorem dX9_init_273 : decode cX9_init 273 = .ok (.putfield 98, 3) := by decide +kernel
theorem dX9_init_276 : decode cX9_init 276 = .ok (.aload_n 0, 1) := by decide +kernel
theorem dX9_init_277 : decode cX9_init 277 = .ok (.bipush 6, 2) := by decide +kernel
theorem dX9_init_279 : decode cX9_init 279 = .ok (.newarray .int, 2) := by decide +kernel
theorem dX9_init_281 : decode cX9_init 281 = .ok (.putfield 102, 3) := by decide +kernel
theorem dX9_init_284 : decode cX9_init 284 = .ok (.aload_n 0, 1) := by decide +kernel
theorem dX9_init_285 : decode cX9_init 285 = .ok (.iconst 0, 1) := by decide +kernel
theorem dX9_init_286 : decode cX9_init 286 = .ok (.putfield 105, 3) := by decide +kernel
theorem dX9_init_289 : decode cX9_init 289 = .ok (.aload_n 0, 1) := by decide +kernel
theorem dX9_init_290 : decode cX9_init 290 = .ok (.iconst 0, 1) := by decide +kernel
theorem dX9_init_291 : decode cX9_init 291 = .ok (.putfield 108, 3) := by decide +kernel
theorem dX9_init_294 : decode cX9_init 294 = .ok (.aload_n 0, 1) := by decide +kernel
theorem dX9_init_295 : decode cX9_init 295 = .ok (.iconst 0, 1) := by decide +kernel
theorem dX9_init_296 : decode cX9_init 296 = .ok (.putfield 111, 3) := by decide +kernel
theorem dX9_init_299 : decode cX9_init 299 = .ok (.aload_n 0, 1) := by decide +kernel
theorem dX9_init_300 : decode cX9_init 300 = .ok (.bipush 6, 2) := by decide +kernel
theorem dX9_init_302 : decode cX9_init 302 = .ok (.newarray .int, 2) := by decide +kernel
theorem dX9_init_304 : decode cX9_init 304 = .ok (.putfield 114, 3) := by decide +kernel
theorem dX9_init_307 : decode cX9_init 307 = .ok (.aload_n 0, 1) := by decide +kernel
theorem dX9_init_308 : decode cX9_init 308 = .ok (.iconst 4, 1) := by decide +kernel
theorem dX9_init_309 : decode cX9_init 309 = .ok (.newarray .int, 2) := by decide +kernel
theorem dX9_init_311 : decode cX9_init 311 = .ok (.putfield 117, 3) := by decide +kernel
theorem dX9_init_314 : decode cX9_init 314 = .ok (.aload_n 0, 1) := by decide +kernel
theorem dX9_init_315 : decode cX9_init 315 = .ok (.iconst 4, 1) := by decide +kernel
theorem dX9_init_316 : decode cX9_init 316 = .ok (.newarray .int, 2) := by decide +kernel
theorem dX9_init_318 : decode cX9_init 318 = .ok (.putfield 120, 3) := by decide +kernel
theorem dX9_init_321 : decode cX9_init 321 = .ok (.aload_n 0, 1) := by decide +kernel
theorem dX9_init_322 : decode cX9_init 322 = .ok (.iconst 4, 1) := by decide +kernel
theorem dX9_init_323 : decode cX9_init 323 = .ok (.newarray .int, 2) := by decide +kernel
theorem dX9_init_325 : decode cX9_init 325 = .ok (.putfield 123, 3) := by decide +kernel
theorem dX9_init_328 : decode cX9_init 328 = .ok (.aload_n 0, 1) := by decide +kernel
theorem dX9_init_329 : decode cX9_init 329 = .ok (.iconst 0, 1) := by decide +kernel
theorem dX9_init_330 : decode cX9_init 330 = .ok (.putfield 126, 3) := by decide +kernel
theorem dX9_init_333 : decode cX9_init 333 = .ok (.aload_n 0, 1) := by decide +kernel
theorem dX9_init_334 : decode cX9_init 334 = .ok (.iconst 5, 1) := by decide +kernel
theorem dX9_init_335 : decode cX9_init 335 = .ok (.newarray .int, 2) := by decide +kernel
theorem dX9_init_337 : decode cX9_init 337 = .ok (.putfield 129, 3) := by decide +kernel
theorem dX9_init_340 : decode cX9_init 340 = .ok (.aload_n 0, 1) := by decide +kernel
theorem dX9_init_341 : decode cX9_init 341 = .ok (.iconst 5, 1) := by decide +kernel
theorem dX9_init_342 : decode cX9_init 342 = .ok (.newarray .int, 2) := by decide +kernel
theorem dX9_init_344 : decode cX9_init 344 = .ok (.putfield 132, 3) := by decide +kernel
theorem dX9_init_347 : decode cX9_init 347 = .ok (.aload_n 0, 1) := by decide +kernel
theorem dX9_init_348 : decode cX9_init 348 = .ok (.iconst 5, 1) := by decide +kernel
theorem dX9_init_349 : decode cX9_init 349 = .ok (.newarray .boolean, 2) := by decide +kernel
theorem dX9_init_351 : decode cX9_init 351 = .ok (.putfield 135, 3) := by decide +kernel
theorem dX9_init_354 : decode cX9_init 354 = .ok (.aload_n 0, 1) := by decide +kernel
theorem dX9_init_355 : decode cX9_init 355 = .ok (.iconst 0, 1) := by decide +kernel
theorem dX9_init_356 : decode cX9_init 356 = .ok (.putfield 138, 3) := by decide +kernel
theorem dX9_init_359 : decode cX9_init 359 = .ok (.aload_n 0, 1) := by decide +kernel
theorem dX9_init_360 : decode cX9_init 360 = .ok (.iconst 0, 1) := by decide +kernel
theorem dX9_init_361 : decode cX9_init 361 = .ok (.putfield 141, 3) := by decide +kernel
theorem dX9_init_364 : decode cX9_init 364 = .ok (.aload_n 0, 1) := by decide +kernel
theorem dX9_init_365 : decode cX9_init 365 = .ok (.bipush 10, 2) := by decide +kernel
theorem dX9_init_367 : decode cX9_init 367 = .ok (.newarray .int, 2) := by decide +kernel
theorem dX9_init_369 : decode cX9_init 369 = .ok (.putfield 144, 3) := by decide +kernel
theorem dX9_init_372 : decode cX9_init 372 = .ok (.aload_n 0, 1) := by decide +kernel
theorem dX9_init_373 : decode cX9_init 373 = .ok (.bipush 10, 2) := by decide +kernel
theorem dX9_init_375 : decode cX9_init 375 = .ok (.newarray .int, 2) := by decide +kernel
theorem dX9_init_377 : decode cX9_init 377 = .ok (.putfield 147, 3) := by decide +kernel
theorem dX9_init_380 : decode cX9_init 380 = .ok (.aload_n 0, 1) := by decide +kernel
theorem dX9_init_381 : decode cX9_init 381 = .ok (.bipush 8, 2) := by decide +kernel
theorem dX9_init_383 : decode cX9_init 383 = .ok (.newarray .int, 2) := by decide +kernel
theorem dX9_init_385 : decode cX9_init 385 = .ok (.putfield 150, 3) := by decide +kernel
theorem dX9_init_388 : decode cX9_init 388 = .ok (.aload_n 0, 1) := by decide +kernel
theorem dX9_init_389 : decode cX9_init 389 = .ok (.bipush 8, 2) := by decide +kernel
theorem dX9_init_391 : decode cX9_init 391 = .ok (.newarray .int, 2) := by decide +kernel
theorem dX9_init_393 : decode cX9_init 393 = .ok (.putfield 153, 3) := by decide +kernel
theorem dX9_init_396 : decode cX9_init 396 = .ok (.aload_n 0, 1) := by decide +kernel
theorem dX9_init_397 : decode cX9_init 397 = .ok (.iconst 0, 1) := by decide +kernel
theorem dX9_init_398 : decode cX9_init 398 = .ok (.putfield 156, 3) := by decide +kernel
theorem dX9_init_401 : decode cX9_init 401 = .ok (.aload_n 0, 1) := by decide +kernel
theorem dX9_init_402 : decode cX9_init 402 = .ok (.iconst (-1), 1) := by decide +kernel
theorem dX9_init_403 : decode cX9_init 403 = .ok (.putfield 160, 3) := by decide +kernel
theorem dX9_init_406 : decode cX9_init 406 = .ok (.aload_n 0, 1) := by decide +kernel
theorem dX9_init_407 : decode cX9_init 407 = .ok (.iconst 0, 1) := by decide +kernel
theorem dX9_init_408 : decode cX9_init 408 = .ok (.putfield 163, 3) := by decide +kernel
theorem dX9_init_411 : decode cX9_init 411 = .ok (.aload_n 0, 1) := by decide +kernel
theorem dX9_init_412 : decode cX9_init 412 = .ok (.iconst 0, 1) := by decide +kernel
theorem dX9_init_413 : decode cX9_init 413 = .ok (.putfield 166, 3) := by decide +kernel
theorem dX9_init_416 : decode cX9_init 416 = .ok (.aload_n 0, 1) := by decide +kernel
theorem dX9_init_417 : decode cX9_init 417 = .ok (.iconst 0, 1) := by decide +kernel
theorem dX9_init_418 : decode cX9_init 418 = .ok (.putfield 169, 3) := by decide +kernel
theorem dX9_init_421 : decode cX9_init 421 = .ok (.aload_n 0, 1) := by decide +kernel
theorem dX9_init_422 : decode cX9_init 422 = .ok (.iconst 0, 1) := by decide +kernel
theorem dX9_init_423 : decode cX9_init 423 = .ok (.putfield 172, 3) := by decide +kernel
theorem dX9_init_426 : decode cX9_init 426 = .ok (.aload_n 0, 1) := by decide +kernel
theorem dX9_init_427 : decode cX9_init 427 = .ok (.iconst 0, 1) := by decide +kernel
theorem dX9_init_428 : decode cX9_init 428 = .ok (.putfield 175, 3) := by decide +kernel
theorem dX9_init_431 : decode cX9_init 431 = .ok (.aload_n 0, 1) := by decide +kernel
theorem dX9_init_432 : decode cX9_init 432 = .ok (.iconst 0, 1) := by decide +kernel
theorem dX9_init_433 : decode cX9_init 433 = .ok (.putfield 178, 3) := by decide +kernel
theorem dX9_init_436 : decode cX9_init 436 = .ok (.aload_n 0, 1) := by decide +kernel
theorem dX9_init_437 : decode cX9_init 437 = .ok (.iconst 0, 1) := by decide +kernel
theorem dX9_init_438 : decode cX9_init 438 = .ok (.putfield 181, 3) := by decide +kernel
theorem dX9_init_441 : decode cX9_init 441 = .ok (.aload_n 0, 1) := by decide +kernel
theorem dX9_init_442 : decode cX9_init 442 = .ok (.iconst 0, 1) := by decide +kernel
theorem dX9_init_443 : decode cX9_init 443 = .ok (.putfield 184, 3) := by decide +kernel
theorem dX9_init_446 : decode cX9_init 446 = .ok (.aload_n 0, 1) := by decide +kernel
theorem dX9_init_447 : decode cX9_init 447 = .ok (.bipush 6, 2) := by decide +kernel
theorem dX9_init_449 : decode cX9_init 449 = .ok (.newarray .int, 2) := by decide +kernel
theorem dX9_init_451 : decode cX9_init 451 = .ok (.putfield 187, 3) := by decide +kernel
theorem dX9_init_454 : decode cX9_init 454 = .ok (.aload_n 0, 1) := by decide +kernel
theorem dX9_init_455 : decode cX9_init 455 = .ok (.bipush 6, 2) := by decide +kernel
theorem dX9_init_457 : decode cX9_init 457 = .ok (.newarray .int, 2) := by decide +kernel
theorem dX9_init_459 : decode cX9_init 459 = .ok (.putfield 190, 3) := by decide +kernel
theorem dX9_init_462 : decode cX9_init 462 = .ok (.aload_n 0, 1) := by decide +kernel
theorem dX9_init_463 : decode cX9_init 463 = .ok (.bipush 6, 2) := by decide +kernel
theorem dX9_init_465 : decode cX9_init 465 = .ok (.newarray .int, 2) := by decide +kernel
theorem dX9_init_467 : decode cX9_init 467 = .ok (.putfield 193, 3) := by decide +kernel
theorem dX9_init_470 : decode cX9_init 470 = .ok (.aload_n 0, 1) := by decide +kernel
theorem dX9_init_471 : decode cX9_init 471 = .ok (.bipush 24, 2) := by decide +kernel
theorem dX9_init_473 : decode cX9_init 473 = .ok (.newarray .int, 2) := by decide +kernel
theorem dX9_init_475 : decode cX9_init 475 = .ok (.putfield 196, 3) := by decide +kernel
theorem dX9_init_478 : decode cX9_init 478 = .ok (.aload_n 0, 1) := by decide +kernel
theorem dX9_init_479 : decode cX9_init 479 = .ok (.iconst 4, 1) := by decide +kernel
theorem dX9_init_480 : decode cX9_init 480 = .ok (.newarray .int, 2) := by decide +kernel
theorem dX9_init_482 : decode cX9_init 482 = .ok (.putfield 199, 3) := by decide +kernel
theorem dX9_init_485 : decode cX9_init 485 = .ok (.aload_n 0, 1) := by decide +kernel
theorem dX9_init_486 : decode cX9_init 486 = .ok (.iconst 4, 1) := by decide +kernel
theorem dX9_init_487 : decode cX9_init 487 = .ok (.newarray .int, 2) := by decide +kernel
theorem dX9_init_489 : decode cX9_init 489 = .ok (.putfield 202, 3) := by decide +kernel
theorem dX9_init_492 : decode cX9_init 492 = .ok (.aload_n 0, 1) := by decide +kernel
theorem dX9_init_493 : decode cX9_init 493 = .ok (.iconst 4, 1) := by decide +kernel
theorem dX9_init_494 : decode cX9_init 494 = .ok (.newarray .int, 2) := by decide +kernel
theorem dX9_init_496 : decode cX9_init 496 = .ok (.putfield 205, 3) := by decide +kernel
theorem dX9_init_499 : decode cX9_init 499 = .ok (.aload_n 0, 1) := by decide +kernel
theorem dX9_init_500 : decode cX9_init 500 = .ok (.iconst 5, 1) := by decide +kernel
theorem dX9_init_501 : decode cX9_init 501 = .ok (.newarray .int, 2) := by decide +kernel
theorem dX9_init_503 : decode cX9_init 503 = .ok (.putfield 208, 3) := by decide +kernel
theorem dX9_init_506 : decode cX9_init 506 = .ok (.aload_n 0, 1) := by decide +kernel
theorem dX9_init_507 : decode cX9_init 507 = .ok (.iconst 5, 1) := by decide +kernel
theorem dX9_init_508 : decode cX9_init 508 = .ok (.newarray .int, 2) := by decide +kernel
theorem dX9_init_510 : decode cX9_init 510 = .ok (.putfield 211, 3) := by decide +kernel
theorem dX9_init_513 : decode cX9_init 513 = .ok (.aload_n 0, 1) := by decide +kernel
theorem dX9_init_514 : decode cX9_init 514 = .ok (.bipush 10, 2) := by decide +kernel
theorem dX9_init_516 : decode cX9_init 516 = .ok (.newarray .int, 2) := by decide +kernel
theorem dX9_init_518 : decode cX9_init 518 = .ok (.putfield 214, 3) := by decide +kernel
theorem dX9_init_521 : decode cX9_init 521 = .ok (.aload_n 0, 1) := by decide +kernel
theorem dX9_init_522 : decode cX9_init 522 = .ok (.bipush 10, 2) := by decide +kernel
theorem dX9_init_524 : decode cX9_init 524 = .ok (.newarray .int, 2) := by decide +kernel
theorem dX9_init_526 : decode cX9_init 526 = .ok (.putfield 217, 3) := by decide +kernel
theorem dX9_init_529 : decode cX9_init 529 = .ok (.aload_n 0, 1) := by decide +kernel
theorem dX9_init_530 : decode cX9_init 530 = .ok (.bipush 8, 2) := by decide +kernel
theorem dX9_init_532 : decode cX9_init 532 = .ok (.newarray .int, 2) := by decide +kernel
theorem dX9_init_534 : decode cX9_init 534 = .ok (.putfield 220, 3) := by decide +kernel
theorem dX9_init_537 : decode cX9_init 537 = .ok (.aload_n 0, 1) := by decide +kernel
theorem dX9_init_538 : decode cX9_init 538 = .ok (.bipush 8, 2) := by decide +kernel
theorem dX9_init_540 : decode cX9_init 540 = .ok (.newarray .int, 2) := by decide +kernel
theorem dX9_init_542 : decode cX9_init 542 = .ok (.putfield 223, 3) := by decide +kernel
theorem dX9_init_545 : decode cX9_init 545 = .ok (.aload_n 0, 1) := by decide +kernel
theorem dX9_init_546 : decode cX9_init 546 = .ok (.iconst 5, 1) := by decide +kernel
theorem dX9_init_547 : decode cX9_init 547 = .ok (.newarray .boolean, 2) := by decide +kernel
theorem dX9_init_549 : decode cX9_init 549 = .ok (.putfield 226, 3) := by decide +kernel
theorem dX9_init_552 : decode cX9_init 552 = .ok (.aload_n 0, 1) := by decide +kernel
theorem dX9_init_553 : decode cX9_init 553 = .ok (.iconst 0, 1) := by decide +kernel
theorem dX9_init_554 : decode cX9_init 554 = .ok (.putfield 229, 3) := by decide +kernel
theorem dX9_init_557 : decode cX9_init 557 = .ok (.aload_n 0, 1) := by decide +kernel
theorem dX9_init_558 : decode cX9_init 558 = .ok (.bipush 20, 2) := by decide +kernel
theorem dX9_init_560 : decode cX9_init 560 = .ok (.newarray .int, 2) := by decide +kernel
theorem dX9_init_562 : decode cX9_init 562 = .ok (.putfield 232, 3) := by decide +kernel
theorem dX9_init_565 : decode cX9_init 565 = .ok (.aload_n 0, 1) := by decide +kernel
theorem dX9_init_566 : decode cX9_init 566 = .ok (.bipush 6, 2) := by decide +kernel
theorem dX9_init_568 : decode cX9_init 568 = .ok (.newarray .int, 2) := by decide +kernel
theorem dX9_init_570 : decode cX9_init 570 = .ok (.dup, 1) := by decide +kernel
theorem dX9_init_571 : decode cX9_init 571 = .ok (.iconst 0, 1) := by decide +kernel
theorem dX9_init_572 : decode cX9_init 572 = .ok (.iconst (-1), 1) := by decide +kernel
theorem dX9_init_573 : decode cX9_init 573 = .ok (.iastore, 1) := by decide +kernel
theorem dX9_init_574 : decode cX9_init 574 = .ok (.dup, 1) := by decide +kernel
theorem dX9_init_575 : decode cX9_init 575 = .ok (.iconst 1, 1) := by decide +kernel
theorem dX9_init_576 : decode cX9_init 576 = .ok (.iconst (-1), 1) := by decide +kernel
theorem dX9_init_577 : decode cX9_init 577 = .ok (.iastore, 1) := by decide +kernel
theorem dX9_init_578 : decode cX9_init 578 = .ok (.dup, 1) := by decide +kernel
theorem dX9_init_579 : decode cX9_init 579 = .ok (.iconst 2, 1) := by decide +kernel
theorem dX9_init_580 : decode cX9_init 580 = .ok (.iconst (-1), 1) := by decide +kernel
theorem dX9_init_581 : decode cX9_init 581 = .ok (.iastore, 1) := by decide +kernel
theorem dX9_init_582 : decode cX9_init 582 = .ok (.dup, 1) := by decide +kernel
theorem dX9_init_583 : decode cX9_init 583 = .ok (.iconst 3, 1) := by decide +kernel
theorem dX9_init_584 : decode cX9_init 584 = .ok (.iconst (-1), 1) := by decide +kernel
theorem dX9_init_585 : decode cX9_init 585 = .ok (.iastore, 1) := by decide +kernel
theorem dX9_init_586 : decode cX9_init 586 = .ok (.dup, 1) := by decide +kernel
theorem dX9_init_587 : decode cX9_init 587 = .ok (.iconst 4, 1) := by decide +kernel
theorem dX9_init_588 : decode cX9_init 588 = .ok (.iconst (-1), 1) := by decide +kernel
theorem dX9_init_589 : decode cX9_init 589 = .ok (.iastore, 1) := by decide +kernel
theorem dX9_init_590 : decode cX9_init 590 = .ok (.dup, 1) := by decide +kernel
theorem dX9_init_591 : decode cX9_init 591 = .ok (.iconst 5, 1) := by decide +kernel
theorem dX9_init_592 : decode cX9_init 592 = .ok (.iconst (-1), 1) := by decide +kernel
theorem dX9_init_593 : decode cX9_init 593 = .ok (.iastore, 1) := by decide +kernel
theorem dX9_init_594 : decode cX9_init 594 = .ok (.putfield 235, 3) := by decide +kernel
theorem dX9_init_597 : decode cX9_init 597 = .ok (.aload_n 0, 1) := by decide +kernel
theorem dX9_init_598 : decode cX9_init 598 = .ok (.bipush 6, 2) := by decide +kernel
theorem dX9_init_600 : decode cX9_init 600 = .ok (.newarray .int, 2) := by decide +kernel
theorem dX9_init_602 : decode cX9_init 602 = .ok (.putfield 238, 3) := by decide +kernel
theorem dX9_init_605 : decode cX9_init 605 = .ok (.aload_n 0, 1) := by decide +kernel
theorem dX9_init_606 : decode cX9_init 606 = .ok (.sipush 360, 3) := by decide +kernel
theorem dX9_init_609 : decode cX9_init 609 = .ok (.newarray .long, 2) := by decide +kernel
theorem dX9_init_611 : decode cX9_init 611 = .ok (.putfield 241, 3) := by decide +kernel
theorem dX9_init_614 : decode cX9_init 614 = .ok (.aload_n 0, 1) := by decide +kernel
theorem dX9_init_615 : decode cX9_init 615 = .ok (.bipush 60, 2) := by decide +kernel
theorem dX9_init_617 : decode cX9_init 617 = .ok (.newarray .long, 2) := by decide +kernel
theorem dX9_init_619 : decode cX9_init 619 = .ok (.putfield 245, 3) := by decide +kernel
theorem dX9_init_622 : decode cX9_init 622 = .ok (.return_, 1) := by decide +kernel
theorem dX9_in_0 : decode cX9_in 0 = .ok (.iload_n 1, 1) := by decide +kernel
theorem dX9_in_1 : decode cX9_in 1 = .ok (.iload_n 2, 1) := by decide +kernel
theorem dX9_in_2 : decode cX9_in 2 = .ok (.if_icmp .lt 12, 3) := by decide +kernel
theorem dX9_in_5 : decode cX9_in 5 = .ok (.iload_n 1, 1) := by decide +kernel
theorem dX9_in_6 : decode cX9_in 6 = .ok (.iload_n 3, 1) := by decide +kernel
theorem dX9_in_7 : decode cX9_in 7 = .ok (.if_icmp .gt 7, 3) := by decide +kernel
theorem dX9_in_10 : decode cX9_in 10 = .ok (.iconst 1, 1) := by decide +kernel
theorem dX9_in_11 : decode cX9_in 11 = .ok (.goto 4, 3) := by decide +kernel
theorem dX9_in_14 : decode cX9_in 14 = .ok (.iconst 0, 1) := by decide +kernel
theorem dX9_in_15 : decode cX9_in 15 = .ok (.ireturn, 1) := by decide +kernel
theorem dX9_has_0 : decode cX9_has 0 = .ok (.iload_n 1, 1) := by decide +kernel
theorem dX9_has_1 : decode cX9_has 1 = .ok (.iload_n 2, 1) := by decide +kernel
theorem dX9_has_2 : decode cX9_has 2 = .ok (.ishr, 1) := by decide +kernel
theorem dX9_has_3 : decode cX9_has 3 = .ok (.iconst 1, 1) := by decide +kernel
theorem dX9_has_4 : decode cX9_has 4 = .ok (.iand, 1) := by decide +kernel
theorem dX9_has_5 : decode cX9_has 5 = .ok (.iconst 1, 1) := by decide +kernel
theorem dX9_has_6 : decode cX9_has 6 = .ok (.if_icmp .ne 7, 3) := by decide +kernel
theorem dX9_has_9 : decode cX9_has 9 = .ok (.iconst 1, 1) := by decide +kernel
theorem dX9_has_10 : decode cX9_has 10 = .ok (.goto 4, 3) := by decide +kernel
theorem dX9_has_13 : decode cX9_has 13 = .ok (.iconst 0, 1) := by decide +kernel
theorem dX9_has_14 : decode cX9_has 14 = .ok (.ireturn, 1) := by decide +kernel
theorem dX9_least_0 : decode cX9_least 0 = .ok (.iload_n 1, 1) := by decide +kernel
theorem dX9_least_1 : decode cX9_least 1 = .ok (.iload_n 2, 1) := by decide +kernel
theorem dX9_least_2 : decode cX9_least 2 = .ok (.if_icmp .ge 7, 3) := by decide +kernel
theorem dX9_least_5 : decode cX9_least 5 = .ok (.iload_n 1, 1) := by decide +kernel
theorem dX9_least_6 : decode cX9_least 6 = .ok (.goto 4, 3) := by decide +kernel
theorem dX9_least_9 : decode cX9_least 9 = .ok (.iload_n 2, 1) := by decide +kernel
theorem dX9_least_10 : decode cX9_least 10 = .ok (.ireturn, 1) := by decide +kernel
theorem dX9_held_0 : decode cX9_held 0 = .ok (.iload_n 1, 1) := by decide +kernel
theorem dX9_held_1 : decode cX9_held 1 = .ok (.ifCond .ge 7, 3) := by decide +kernel
theorem dX9_held_4 : decode cX9_held 4 = .ok (.iconst 0, 1) := by decide +kernel
theorem dX9_held_5 : decode cX9_held 5 = .ok (.goto 10, 3) := by decide +kernel
theorem dX9_held_8 : decode cX9_held 8 = .ok (.aload_n 0, 1) := by decide +kernel
theorem dX9_held_9 : decode cX9_held 9 = .ok (.iload_n 1, 1) := by decide +kernel
theorem dX9_held_10 : decode cX9_held 10 = .ok (.bipush 99, 2) := by decide +kernel
theorem dX9_held_12 : decode cX9_held 12 = .ok (.invokevirtual 248, 3) := by decide +kernel
theorem dX9_held_15 : decode cX9_held 15 = .ok (.ireturn, 1) := by decide +kernel
theorem dX9_isOne_0 : decode cX9_isOne 0 = .ok (.aload_n 0, 1) := by decide +kernel
theorem dX9_isOne_1 : decode cX9_isOne 1 = .ok (.iload_n 1, 1) := by decide +kernel
theorem dX9_isOne_2 : decode cX9_isOne 2 = .ok (.iconst 0, 1) := by decide +kernel
theorem dX9_isOne_3 : decode cX9_isOne 3 = .ok (.aload_n 0, 1) := by decide +kernel
theorem dX9_isOne_4 : decode cX9_isOne 4 = .ok (.getfield 7, 3) := by decide +kernel
theorem dX9_isOne_7 : decode cX9_isOne 7 = .ok (.iconst 1, 1) := by decide +kernel
theorem dX9_isOne_8 : decode cX9_isOne 8 = .ok (.isub, 1) := by decide +kernel
theorem dX9_isOne_9 : decode cX9_isOne 9 = .ok (.invokevirtual 252, 3) := by decide +kernel
theorem dX9_isOne_12 : decode cX9_isOne 12 = .ok (.ireturn, 1) := by decide +kernel
theorem dX9_isWork_0 : decode cX9_isWork 0 = .ok (.aload_n 0, 1) := by decide +kernel
theorem dX9_isWork_1 : decode cX9_isWork 1 = .ok (.iload_n 1, 1) := by decide +kernel
theorem dX9_isWork_2 : decode cX9_isWork 2 = .ok (.iconst 0, 1) := by decide +kernel
theorem dX9_isWork_3 : decode cX9_isWork 3 = .ok (.aload_n 0, 1) := by decide +kernel
theorem dX9_isWork_4 : decode cX9_isWork 4 = .ok (.getfield 16, 3) := by decide +kernel
theorem dX9_isWork_7 : decode cX9_isWork 7 = .ok (.iconst 1, 1) := by decide +kernel
theorem dX9_isWork_8 : decode cX9_isWork 8 = .ok (.isub, 1) := by decide +kernel
theorem dX9_isWork_9 : decode cX9_isWork 9 = .ok (.invokevirtual 252, 3) := by decide +kernel
theorem dX9_isWork_12 : decode cX9_isWork 12 = .ok (.ireturn, 1) := by decide +kernel
theorem dX9_isHeat_0 : decode cX9_isHeat 0 = .ok (.aload_n 0, 1) := by decide +kernel
theorem dX9_isHeat_1 : decode cX9_isHeat 1 = .ok (.iload_n 1, 1) := by decide +kernel
theorem dX9_isHeat_2 : decode cX9_isHeat 2 = .ok (.iconst 0, 1) := by decide +kernel
theorem dX9_isHeat_3 : decode cX9_isHeat 3 = .ok (.bipush 99, 2) := by decide +kernel
theorem dX9_isHeat_5 : decode cX9_isHeat 5 = .ok (.invokevirtual 252, 3) := by decide +kernel
theorem dX9_isHeat_8 : decode cX9_isHeat 8 = .ok (.ireturn, 1) := by decide +kernel
theorem dX9_isMinutes_0 : decode cX9_isMinutes 0 = .ok (.aload_n 0, 1) := by decide +kernel
theorem dX9_isMinutes_1 : decode cX9_isMinutes 1 = .ok (.iload_n 1, 1) := by decide +kernel
theorem dX9_isMinutes_2 : decode cX9_isMinutes 2 = .ok (.iconst 0, 1) := by decide +kernel
theorem dX9_isMinutes_3 : decode cX9_isMinutes 3 = .ok (.bipush 60, 2) := by decide +kernel
theorem dX9_isMinutes_5 : decode cX9_isMinutes 5 = .ok (.invokevirtual 252, 3) := by decide +kernel
theorem dX9_isMinutes_8 : decode cX9_isMinutes 8 = .ok (.ireturn, 1) := by decide +kernel
theorem dX9_one_0 : decode cX9_one 0 = .ok (.aload_n 0, 1) := by decide +kernel
theorem dX9_one_1 : decode cX9_one 1 = .ok (.iload_n 1, 1) := by decide +kernel
theorem dX9_one_2 : decode cX9_one 2 = .ok (.iconst 0, 1) := by decide +kernel
theorem dX9_one_3 : decode cX9_one 3 = .ok (.bipush 6, 2) := by decide +kernel
theorem dX9_one_5 : decode cX9_one 5 = .ok (.invokevirtual 252, 3) := by decide +kernel
theorem dX9_one_8 : decode cX9_one 8 = .ok (.ifCond .ne 5, 3) := by decide +kernel
theorem dX9_one_11 : decode cX9_one 11 = .ok (.iconst (-1), 1) := by decide +kernel
theorem dX9_one_12 : decode cX9_one 12 = .ok (.ireturn, 1) := by decide +kernel
theorem dX9_one_13 : decode cX9_one 13 = .ok (.aload_n 0, 1) := by decide +kernel
theorem dX9_one_14 : decode cX9_one 14 = .ok (.iload_n 2, 1) := by decide +kernel
theorem dX9_one_15 : decode cX9_one 15 = .ok (.iconst 0, 1) := by decide +kernel
theorem dX9_one_16 : decode cX9_one 16 = .ok (.bipush 9, 2) := by decide +kernel
theorem dX9_one_18 : decode cX9_one 18 = .ok (.invokevirtual 252, 3) := by decide +kernel
theorem dX9_one_21 : decode cX9_one 21 = .ok (.ifCond .eq 11, 3) := by decide +kernel
theorem dX9_one_24 : decode cX9_one 24 = .ok (.aload_n 0, 1) := by decide +kernel
theorem dX9_one_25 : decode cX9_one 25 = .ok (.iload_n 3, 1) := by decide +kernel
theorem dX9_one_26 : decode cX9_one 26 = .ok (.invokevirtual 256, 3) := by decide +kernel
theorem dX9_one_29 : decode cX9_one 29 = .ok (.ifCond .ne 6, 3) := by decide +kernel
theorem dX9_one_32 : decode cX9_one 32 = .ok (.bipush (-2), 2) := by decide +kernel
theorem dX9_one_34 : decode cX9_one 34 = .ok (.ireturn, 1) := by decide +kernel
theorem dX9_one_35 : decode cX9_one 35 = .ok (.aload_n 0, 1) := by decide +kernel
theorem dX9_one_36 : decode cX9_one 36 = .ok (.getfield 7, 3) := by decide +kernel
theorem dX9_one_39 : decode cX9_one 39 = .ok (.bipush 6, 2) := by decide +kernel
theorem dX9_one_41 : decode cX9_one 41 = .ok (.if_icmp .ne 6, 3) := by decide +kernel
theorem dX9_one_44 : decode cX9_one 44 = .ok (.bipush (-4), 2) := by decide +kernel
theorem dX9_one_46 : decode cX9_one 46 = .ok (.ireturn, 1) := by decide +kernel
theorem dX9_one_47 : decode cX9_one 47 = .ok (.aload_n 0, 1) := by decide +kernel
theorem dX9_one_48 : decode cX9_one 48 = .ok (.getfield 25, 3) := by decide +kernel
theorem dX9_one_51 : decode cX9_one 51 = .ok (.aload_n 0, 1) := by decide +kernel
theorem dX9_one_52 : decode cX9_one 52 = .ok (.getfield 7, 3) := by decide +kernel
theorem dX9_one_55 : decode cX9_one 55 = .ok (.iload_n 1, 1) := by decide +kernel
theorem dX9_one_56 : decode cX9_one 56 = .ok (.iastore, 1) := by decide +kernel
theorem dX9_one_57 : decode cX9_one 57 = .ok (.aload_n 0, 1) := by decide +kernel
theorem dX9_one_58 : decode cX9_one 58 = .ok (.getfield 29, 3) := by decide +kernel
theorem dX9_one_61 : decode cX9_one 61 = .ok (.aload_n 0, 1) := by decide +kernel
theorem dX9_one_62 : decode cX9_one 62 = .ok (.getfield 7, 3) := by decide +kernel
theorem dX9_one_65 : decode cX9_one 65 = .ok (.iload_n 2, 1) := by decide +kernel
theorem dX9_one_66 : decode cX9_one 66 = .ok (.iastore, 1) := by decide +kernel
theorem dX9_one_67 : decode cX9_one 67 = .ok (.aload_n 0, 1) := by decide +kernel
theorem dX9_one_68 : decode cX9_one 68 = .ok (.getfield 32, 3) := by decide +kernel
theorem dX9_one_71 : decode cX9_one 71 = .ok (.aload_n 0, 1) := by decide +kernel
theorem dX9_one_72 : decode cX9_one 72 = .ok (.getfield 7, 3) := by decide +kernel
theorem dX9_one_75 : decode cX9_one 75 = .ok (.iload_n 3, 1) := by decide +kernel
theorem dX9_one_76 : decode cX9_one 76 = .ok (.iastore, 1) := by decide +kernel
theorem dX9_one_77 : decode cX9_one 77 = .ok (.aload_n 0, 1) := by decide +kernel
theorem dX9_one_78 : decode cX9_one 78 = .ok (.dup, 1) := by decide +kernel
theorem dX9_one_79 : decode cX9_one 79 = .ok (.getfield 13, 3) := by decide +kernel
theorem dX9_one_82 : decode cX9_one 82 = .ok (.iconst 1, 1) := by decide +kernel
theorem dX9_one_83 : decode cX9_one 83 = .ok (.aload_n 0, 1) := by decide +kernel
theorem dX9_one_84 : decode cX9_one 84 = .ok (.getfield 7, 3) := by decide +kernel
theorem dX9_one_87 : decode cX9_one 87 = .ok (.ishl, 1) := by decide +kernel
theorem dX9_one_88 : decode cX9_one 88 = .ok (.iconst (-1), 1) := by decide +kernel
theorem dX9_one_89 : decode cX9_one 89 = .ok (.ixor, 1) := by decide +kernel
theorem dX9_one_90 : decode cX9_one 90 = .ok (.iand, 1) := by decide +kernel
theorem dX9_one_91 : decode cX9_one 91 = .ok (.putfield 13, 3) := by decide +kernel
theorem dX9_one_94 : decode cX9_one 94 = .ok (.iconst 0, 1) := by decide +kernel
theorem dX9_one_95 : decode cX9_one 95 = .ok (.istore 4, 2) := by decide +kernel
theorem dX9_one_97 : decode cX9_one 97 = .ok (.iload 4, 2) := by decide +kernel
theorem dX9_one_99 : decode cX9_one 99 = .ok (.iconst 4, 1) := by decide +kernel
theorem dX9_one_100 : decode cX9_one 100 = .ok (.if_icmp .ge 24, 3) := by decide +kernel
theorem dX9_one_103 : decode cX9_one 103 = .ok (.aload_n 0, 1) := by decide +kernel
theorem dX9_one_104 : decode cX9_one 104 = .ok (.getfield 35, 3) := by decide +kernel
theorem dX9_one_107 : decode cX9_one 107 = .ok (.iconst 4, 1) := by decide +kernel
theorem dX9_one_108 : decode cX9_one 108 = .ok (.aload_n 0, 1) := by decide +kernel
theorem dX9_one_109 : decode cX9_one 109 = .ok (.getfield 7, 3) := by decide +kernel
theorem dX9_one_112 : decode cX9_one 112 = .ok (.imul, 1) := by decide +kernel
theorem dX9_one_113 : decode cX9_one 113 = .ok (.iload 4, 2) := by decide +kernel
theorem dX9_one_115 : decode cX9_one 115 = .ok (.iadd, 1) := by decide +kernel
theorem dX9_one_116 : decode cX9_one 116 = .ok (.iconst 0, 1) := by decide +kernel
theorem dX9_one_117 : decode cX9_one 117 = .ok (.iastore, 1) := by decide +kernel
theorem dX9_one_118 : decode cX9_one 118 = .ok (.iinc 4 1, 3) := by decide +kernel
theorem dX9_one_121 : decode cX9_one 121 = .ok (.goto (-24), 3) := by decide +kernel
theorem dX9_one_124 : decode cX9_one 124 = .ok (.aload_n 0, 1) := by decide +kernel
theorem dX9_one_125 : decode cX9_one 125 = .ok (.dup, 1) := by decide +kernel
theorem dX9_one_126 : decode cX9_one 126 = .ok (.getfield 7, 3) := by decide +kernel
theorem dX9_one_129 : decode cX9_one 129 = .ok (.iconst 1, 1) := by decide +kernel
theorem dX9_one_130 : decode cX9_one 130 = .ok (.iadd, 1) := by decide +kernel
theorem dX9_one_131 : decode cX9_one 131 = .ok (.putfield 7, 3) := by decide +kernel
theorem dX9_one_134 : decode cX9_one 134 = .ok (.aload_n 0, 1) := by decide +kernel
theorem dX9_one_135 : decode cX9_one 135 = .ok (.getfield 7, 3) := by decide +kernel
theorem dX9_one_138 : decode cX9_one 138 = .ok (.iconst 1, 1) := by decide +kernel
theorem dX9_one_139 : decode cX9_one 139 = .ok (.isub, 1) := by decide +kernel
theorem dX9_one_140 : decode cX9_one 140 = .ok (.ireturn, 1) := by decide +kernel
theorem dX9_heat_0 : decode cX9_heat 0 = .ok (.aload_n 0, 1) := by decide +kernel
theorem dX9_heat_1 : decode cX9_heat 1 = .ok (.iload_n 1, 1) := by decide +kernel
theorem dX9_heat_2 : decode cX9_heat 2 = .ok (.invokevirtual 260, 3) := by decide +kernel
theorem dX9_heat_5 : decode cX9_heat 5 = .ok (.ifCond .ne 5, 3) := by decide +kernel
theorem dX9_heat_8 : decode cX9_heat 8 = .ok (.iconst (-1), 1) := by decide +kernel
theorem dX9_heat_9 : decode cX9_heat 9 = .ok (.ireturn, 1) := by decide +kernel
theorem dX9_heat_10 : decode cX9_heat 10 = .ok (.aload_n 0, 1) := by decide +kernel
theorem dX9_heat_11 : decode cX9_heat 11 = .ok (.iload_n 2, 1) := by decide +kernel
theorem dX9_heat_12 : decode cX9_heat 12 = .ok (.invokevirtual 256, 3) := by decide +kernel
theorem dX9_heat_15 : decode cX9_heat 15 = .ok (.ifCond .ne 6, 3) := by decide +kernel
theorem dX9_heat_18 : decode cX9_heat 18 = .ok (.bipush (-2), 2) := by decide +kernel
theorem dX9_heat_20 : decode cX9_heat 20 = .ok (.ireturn, 1) := by decide +kernel
theorem dX9_heat_21 : decode cX9_heat 21 = .ok (.aload_n 0, 1) := by decide +kernel
theorem dX9_heat_22 : decode cX9_heat 22 = .ok (.getfield 32, 3) := by decide +kernel
theorem dX9_heat_25 : decode cX9_heat 25 = .ok (.iload_n 1, 1) := by decide +kernel
theorem dX9_heat_26 : decode cX9_heat 26 = .ok (.iaload, 1) := by decide +kernel
theorem dX9_heat_27 : decode cX9_heat 27 = .ok (.istore_n 3, 1) := by decide +kernel
theorem dX9_heat_28 : decode cX9_heat 28 = .ok (.aload_n 0, 1) := by decide +kernel
theorem dX9_heat_29 : decode cX9_heat 29 = .ok (.getfield 32, 3) := by decide +kernel
theorem dX9_heat_32 : decode cX9_heat 32 = .ok (.iload_n 1, 1) := by decide +kernel
theorem dX9_heat_33 : decode cX9_heat 33 = .ok (.iload_n 2, 1) := by decide +kernel
theorem dX9_heat_34 : decode cX9_heat 34 = .ok (.iastore, 1) := by decide +kernel
theorem dX9_heat_35 : decode cX9_heat 35 = .ok (.iload_n 3, 1) := by decide +kernel
theorem dX9_heat_36 : decode cX9_heat 36 = .ok (.ireturn, 1) := by decide +kernel
theorem dX9_goes_0 : decode cX9_goes 0 = .ok (.aload_n 0, 1) := by decide +kernel
theorem dX9_goes_1 : decode cX9_goes 1 = .ok (.iload_n 2, 1) := by decide +kernel
theorem dX9_goes_2 : decode cX9_goes 2 = .ok (.ifCond .eq 14, 3) := by decide +kernel
theorem dX9_goes_5 : decode cX9_goes 5 = .ok (.aload_n 0, 1) := by decide +kernel
theorem dX9_goes_6 : decode cX9_goes 6 = .ok (.getfield 13, 3) := by decide +kernel
theorem dX9_goes_9 : decode cX9_goes 9 = .ok (.iconst 1, 1) := by decide +kernel
theorem dX9_goes_10 : decode cX9_goes 10 = .ok (.iload_n 1, 1) := by decide +kernel
theorem dX9_goes_11 : decode cX9_goes 11 = .ok (.ishl, 1) := by decide +kernel
theorem dX9_goes_12 : decode cX9_goes 12 = .ok (.ior, 1) := by decide +kernel
theorem dX9_goes_13 : decode cX9_goes 13 = .ok (.goto 13, 3) := by decide +kernel
theorem dX9_goes_16 : decode cX9_goes 16 = .ok (.aload_n 0, 1) := by decide +kernel
theorem dX9_goes_17 : decode cX9_goes 17 = .ok (.getfield 13, 3) := by decide +kernel
theorem dX9_goes_20 : decode cX9_goes 20 = .ok (.iconst 1, 1) := by decide +kernel
theorem dX9_goes_21 : decode cX9_goes 21 = .ok (.iload_n 1, 1) := by decide +kernel
theorem dX9_goes_22 : decode cX9_goes 22 = .ok (.ishl, 1) := by decide +kernel
theorem dX9_goes_23 : decode cX9_goes 23 = .ok (.iconst (-1), 1) := by decide +kernel
theorem dX9_goes_24 : decode cX9_goes 24 = .ok (.ixor, 1) := by decide +kernel
theorem dX9_goes_25 : decode cX9_goes 25 = .ok (.iand, 1) := by decide +kernel
theorem dX9_goes_26 : decode cX9_goes 26 = .ok (.putfield 13, 3) := by decide +kernel
theorem dX9_goes_29 : decode cX9_goes 29 = .ok (.return_, 1) := by decide +kernel
theorem dX9_away_0 : decode cX9_away 0 = .ok (.aload_n 0, 1) := by decide +kernel
theorem dX9_away_1 : decode cX9_away 1 = .ok (.iload_n 1, 1) := by decide +kernel
theorem dX9_away_2 : decode cX9_away 2 = .ok (.invokevirtual 260, 3) := by decide +kernel
theorem dX9_away_5 : decode cX9_away 5 = .ok (.ifCond .ne 5, 3) := by decide +kernel
theorem dX9_away_8 : decode cX9_away 8 = .ok (.iconst (-1), 1) := by decide +kernel
theorem dX9_away_9 : decode cX9_away 9 = .ok (.ireturn, 1) := by decide +kernel
theorem dX9_away_10 : decode cX9_away 10 = .ok (.aload_n 0, 1) := by decide +kernel
theorem dX9_away_11 : decode cX9_away 11 = .ok (.aload_n 0, 1) := by decide +kernel
theorem dX9_away_12 : decode cX9_away 12 = .ok (.getfield 13, 3) := by decide +kernel
theorem dX9_away_15 : decode cX9_away 15 = .ok (.iload_n 1, 1) := by decide +kernel
theorem dX9_away_16 : decode cX9_away 16 = .ok (.invokevirtual 263, 3) := by decide +kernel
theorem dX9_away_19 : decode cX9_away 19 = .ok (.ifCond .eq 7, 3) := by decide +kernel
theorem dX9_away_22 : decode cX9_away 22 = .ok (.iconst 1, 1) := by decide +kernel
theorem dX9_away_23 : decode cX9_away 23 = .ok (.goto 4, 3) := by decide +kernel
theorem dX9_away_26 : decode cX9_away 26 = .ok (.iconst 0, 1) := by decide +kernel
theorem dX9_away_27 : decode cX9_away 27 = .ok (.istore_n 3, 1) := by decide +kernel
theorem dX9_away_28 : decode cX9_away 28 = .ok (.aload_n 0, 1) := by decide +kernel
theorem dX9_away_29 : decode cX9_away 29 = .ok (.iload_n 1, 1) := by decide +kernel
theorem dX9_away_30 : decode cX9_away 30 = .ok (.iload_n 2, 1) := by decide +kernel
theorem dX9_away_31 : decode cX9_away 31 = .ok (.invokevirtual 267, 3) := by decide +kernel
theorem dX9_away_34 : decode cX9_away 34 = .ok (.iload_n 3, 1) := by decide +kernel
theorem dX9_away_35 : decode cX9_away 35 = .ok (.ireturn, 1) := by decide +kernel
theorem dX9_work_0 : decode cX9_work 0 = .ok (.aload_n 0, 1) := by decide +kernel
theorem dX9_work_1 : decode cX9_work 1 = .ok (.iload_n 1, 1) := by decide +kernel
theorem dX9_work_2 : decode cX9_work 2 = .ok (.iconst 1, 1) := by decide +kernel
theorem dX9_work_3 : decode cX9_work 3 = .ok (.sipush 999, 3) := by decide +kernel
theorem dX9_work_6 : decode cX9_work 6 = .ok (.invokevirtual 252, 3) := by decide +kernel
theorem dX9_work_9 : decode cX9_work 9 = .ok (.ifCond .eq 14, 3) := by decide +kernel
theorem dX9_work_12 : decode cX9_work 12 = .ok (.aload_n 0, 1) := by decide +kernel
theorem dX9_work_13 : decode cX9_work 13 = .ok (.iload_n 2, 1) := by decide +kernel
theorem dX9_work_14 : decode cX9_work 14 = .ok (.iconst 0, 1) := by decide +kernel
theorem dX9_work_15 : decode cX9_work 15 = .ok (.bipush 60, 2) := by decide +kernel
theorem dX9_work_17 : decode cX9_work 17 = .ok (.invokevirtual 252, 3) := by decide +kernel
theorem dX9_work_20 : decode cX9_work 20 = .ok (.ifCond .ne 6, 3) := by decide +kernel
theorem dX9_work_23 : decode cX9_work 23 = .ok (.bipush (-2), 2) := by decide +kernel
theorem dX9_work_25 : decode cX9_work 25 = .ok (.ireturn, 1) := by decide +kernel
theorem dX9_work_26 : decode cX9_work 26 = .ok (.aload_n 0, 1) := by decide +kernel
theorem dX9_work_27 : decode cX9_work 27 = .ok (.getfield 16, 3) := by decide +kernel
theorem dX9_work_30 : decode cX9_work 30 = .ok (.iconst 4, 1) := by decide +kernel
theorem dX9_work_31 : decode cX9_work 31 = .ok (.if_icmp .ne 6, 3) := by decide +kernel
theorem dX9_work_34 : decode cX9_work 34 = .ok (.bipush (-4), 2) := by decide +kernel
theorem dX9_work_36 : decode cX9_work 36 = .ok (.ireturn, 1) := by decide +kernel
theorem dX9_work_37 : decode cX9_work 37 = .ok (.aload_n 0, 1) := by decide +kernel
theorem dX9_work_38 : decode cX9_work 38 = .ok (.getfield 38, 3) := by decide +kernel
theorem dX9_work_41 : decode cX9_work 41 = .ok (.aload_n 0, 1) := by decide +kernel
theorem dX9_work_42 : decode cX9_work 42 = .ok (.getfield 16, 3) := by decide +kernel
theorem dX9_work_45 : decode cX9_work 45 = .ok (.iload_n 1, 1) := by decide +kernel
theorem dX9_work_46 : decode cX9_work 46 = .ok (.iastore, 1) := by decide +kernel
theorem dX9_work_47 : decode cX9_work 47 = .ok (.aload_n 0, 1) := by decide +kernel
theorem dX9_work_48 : decode cX9_work 48 = .ok (.getfield 41, 3) := by decide +kernel
theorem dX9_work_51 : decode cX9_work 51 = .ok (.aload_n 0, 1) := by decide +kernel
theorem dX9_work_52 : decode cX9_work 52 = .ok (.getfield 16, 3) := by decide +kernel
theorem dX9_work_55 : decode cX9_work 55 = .ok (.iload_n 2, 1) := by decide +kernel
theorem dX9_work_56 : decode cX9_work 56 = .ok (.iastore, 1) := by decide +kernel
theorem dX9_work_57 : decode cX9_work 57 = .ok (.aload_n 0, 1) := by decide +kernel
theorem dX9_work_58 : decode cX9_work 58 = .ok (.getfield 44, 3) := by decide +kernel
theorem dX9_work_61 : decode cX9_work 61 = .ok (.aload_n 0, 1) := by decide +kernel
theorem dX9_work_62 : decode cX9_work 62 = .ok (.getfield 16, 3) := by decide +kernel
theorem dX9_work_65 : decode cX9_work 65 = .ok (.iconst 0, 1) := by decide +kernel
theorem dX9_work_66 : decode cX9_work 66 = .ok (.iastore, 1) := by decide +kernel
theorem dX9_work_67 : decode cX9_work 67 = .ok (.aload_n 0, 1) := by decide +kernel
theorem dX9_work_68 : decode cX9_work 68 = .ok (.dup, 1) := by decide +kernel
theorem dX9_work_69 : decode cX9_work 69 = .ok (.getfield 16, 3) := by decide +kernel
theorem dX9_work_72 : decode cX9_work 72 = .ok (.iconst 1, 1) := by decide +kernel
theorem dX9_work_73 : decode cX9_work 73 = .ok (.iadd, 1) := by decide +kernel
theorem dX9_work_74 : decode cX9_work 74 = .ok (.putfield 16, 3) := by decide +kernel
theorem dX9_work_77 : decode cX9_work 77 = .ok (.aload_n 0, 1) := by decide +kernel
theorem dX9_work_78 : decode cX9_work 78 = .ok (.getfield 16, 3) := by decide +kernel
theorem dX9_work_81 : decode cX9_work 81 = .ok (.iconst 1, 1) := by decide +kernel
theorem dX9_work_82 : decode cX9_work 82 = .ok (.isub, 1) := by decide +kernel
theorem dX9_work_83 : decode cX9_work 83 = .ok (.ireturn, 1) := by decide +kernel
theorem dX9_anvil_0 : decode cX9_anvil 0 = .ok (.iload_n 1, 1) := by decide +kernel
theorem dX9_anvil_1 : decode cX9_anvil 1 = .ok (.iconst (-1), 1) := by decide +kernel
theorem dX9_anvil_2 : decode cX9_anvil 2 = .ok (.if_icmp .eq 13, 3) := by decide +kernel
theorem dX9_anvil_5 : decode cX9_anvil 5 = .ok (.aload_n 0, 1) := by decide +kernel
theorem dX9_anvil_6 : decode cX9_anvil 6 = .ok (.iload_n 1, 1) := by decide +kernel
theorem dX9_anvil_7 : decode cX9_anvil 7 = .ok (.invokevirtual 271, 3) := by decide +kernel
theorem dX9_anvil_10 : decode cX9_anvil 10 = .ok (.ifCond .ne 5, 3) := by decide +kernel
theorem dX9_anvil_13 : decode cX9_anvil 13 = .ok (.iconst (-1), 1) := by decide +kernel
theorem dX9_anvil_14 : decode cX9_anvil 14 = .ok (.ireturn, 1) := by decide +kernel
theorem dX9_anvil_15 : decode cX9_anvil 15 = .ok (.aload_n 0, 1) := by decide +kernel
theorem dX9_anvil_16 : decode cX9_anvil 16 = .ok (.getfield 19, 3) := by decide +kernel
theorem dX9_anvil_19 : decode cX9_anvil 19 = .ok (.istore_n 2, 1) := by decide +kernel
theorem dX9_anvil_20 : decode cX9_anvil 20 = .ok (.aload_n 0, 1) := by decide +kernel
theorem dX9_anvil_21 : decode cX9_anvil 21 = .ok (.iload_n 1, 1) := by decide +kernel
theorem dX9_anvil_22 : decode cX9_anvil 22 = .ok (.ifCond .ge 8, 3) := by decide +kernel
theorem dX9_anvil_25 : decode cX9_anvil 25 = .ok (.bipush (-5), 2) := by decide +kernel
theorem dX9_anvil_27 : decode cX9_anvil 27 = .ok (.goto 4, 3) := by decide +kernel
theorem dX9_anvil_30 : decode cX9_anvil 30 = .ok (.iload_n 1, 1) := by decide +kernel
theorem dX9_anvil_31 : decode cX9_anvil 31 = .ok (.putfield 19, 3) := by decide +kernel
theorem dX9_anvil_34 : decode cX9_anvil 34 = .ok (.iload_n 2, 1) := by decide +kernel
theorem dX9_anvil_35 : decode cX9_anvil 35 = .ok (.ireturn, 1) := by decide +kernel
theorem dX9_row_0 : decode cX9_row 0 = .ok (.aload_n 0, 1) := by decide +kernel
theorem dX9_row_1 : decode cX9_row 1 = .ok (.iload_n 1, 1) := by decide +kernel
theorem dX9_row_2 : decode cX9_row 2 = .ok (.invokevirtual 260, 3) := by decide +kernel
theorem dX9_row_5 : decode cX9_row 5 = .ok (.ifCond .eq 13, 3) := by decide +kernel
theorem dX9_row_8 : decode cX9_row 8 = .ok (.aload_n 0, 1) := by decide +kernel
theorem dX9_row_9 : decode cX9_row 9 = .ok (.iload_n 2, 1) := by decide +kernel
theorem dX9_row_10 : decode cX9_row 10 = .ok (.iconst 0, 1) := by decide +kernel
theorem dX9_row_11 : decode cX9_row 11 = .ok (.iconst 3, 1) := by decide +kernel
theorem dX9_row_12 : decode cX9_row 12 = .ok (.invokevirtual 252, 3) := by decide +kernel
theorem dX9_row_15 : decode cX9_row 15 = .ok (.ifCond .ne 5, 3) := by decide +kernel
theorem dX9_row_18 : decode cX9_row 18 = .ok (.iconst (-1), 1) := by decide +kernel
theorem dX9_row_19 : decode cX9_row 19 = .ok (.ireturn, 1) := by decide +kernel
theorem dX9_row_20 : decode cX9_row 20 = .ok (.aload_n 0, 1) := by decide +kernel
theorem dX9_row_21 : decode cX9_row 21 = .ok (.iload_n 3, 1) := by decide +kernel
theorem dX9_row_22 : decode cX9_row 22 = .ok (.iconst 0, 1) := by decide +kernel
theorem dX9_row_23 : decode cX9_row 23 = .ok (.bipush 9, 2) := by decide +kernel
theorem dX9_row_25 : decode cX9_row 25 = .ok (.invokevirtual 252, 3) := by decide +kernel
theorem dX9_row_28 : decode cX9_row 28 = .ok (.ifCond .ne 6, 3) := by decide +kernel
theorem dX9_row_31 : decode cX9_row 31 = .ok (.bipush (-2), 2) := by decide +kernel
theorem dX9_row_33 : decode cX9_row 33 = .ok (.ireturn, 1) := by decide +kernel
theorem dX9_row_34 : decode cX9_row 34 = .ok (.aload_n 0, 1) := by decide +kernel
theorem dX9_row_35 : decode cX9_row 35 = .ok (.getfield 25, 3) := by decide +kernel
theorem dX9_row_38 : decode cX9_row 38 = .ok (.iload_n 1, 1) := by decide +kernel
theorem dX9_row_39 : decode cX9_row 39 = .ok (.iaload, 1) := by decide +kernel
theorem dX9_row_40 : decode cX9_row 40 = .ok (.bipush 6, 2) := by decide +kernel
theorem dX9_row_42 : decode cX9_row 42 = .ok (.if_icmp .eq 6, 3) := by decide +kernel
theorem dX9_row_45 : decode cX9_row 45 = .ok (.bipush (-3), 2) := by decide +kernel
theorem dX9_row_47 : decode cX9_row 47 = .ok (.ireturn, 1) := by decide +kernel
theorem dX9_row_48 : decode cX9_row 48 = .ok (.aload_n 0, 1) := by decide +kernel
theorem dX9_row_49 : decode cX9_row 49 = .ok (.getfield 35, 3) := by decide +kernel
theorem dX9_row_52 : decode cX9_row 52 = .ok (.iconst 4, 1) := by decide +kernel
theorem dX9_row_53 : decode cX9_row 53 = .ok (.iload_n 1, 1) := by decide +kernel
theorem dX9_row_54 : decode cX9_row 54 = .ok (.imul, 1) := by decide +kernel
theorem dX9_row_55 : decode cX9_row 55 = .ok (.iload_n 2, 1) := by decide +kernel
theorem dX9_row_56 : decode cX9_row 56 = .ok (.iadd, 1) := by decide +kernel
theorem dX9_row_57 : decode cX9_row 57 = .ok (.iaload, 1) := by decide +kernel
theorem dX9_row_58 : decode cX9_row 58 = .ok (.istore 4, 2) := by decide +kernel
theorem dX9_row_60 : decode cX9_row 60 = .ok (.aload_n 0, 1) := by decide +kernel
theorem dX9_row_61 : decode cX9_row 61 = .ok (.getfield 35, 3) := by decide +kernel
theorem dX9_row_64 : decode cX9_row 64 = .ok (.iconst 4, 1) := by decide +kernel
theorem dX9_row_65 : decode cX9_row 65 = .ok (.iload_n 1, 1) := by decide +kernel
theorem dX9_row_66 : decode cX9_row 66 = .ok (.imul, 1) := by decide +kernel
theorem dX9_row_67 : decode cX9_row 67 = .ok (.iload_n 2, 1) := by decide +kernel
theorem dX9_row_68 : decode cX9_row 68 = .ok (.iadd, 1) := by decide +kernel
theorem dX9_row_69 : decode cX9_row 69 = .ok (.iload_n 3, 1) := by decide +kernel
theorem dX9_row_70 : decode cX9_row 70 = .ok (.iastore, 1) := by decide +kernel
theorem dX9_row_71 : decode cX9_row 71 = .ok (.iload 4, 2) := by decide +kernel
theorem dX9_row_73 : decode cX9_row 73 = .ok (.ireturn, 1) := by decide +kernel
theorem dX9_feed_0 : decode cX9_feed 0 = .ok (.aload_n 0, 1) := by decide +kernel
theorem dX9_feed_1 : decode cX9_feed 1 = .ok (.iload_n 1, 1) := by decide +kernel
theorem dX9_feed_2 : decode cX9_feed 2 = .ok (.iconst 0, 1) := by decide +kernel
theorem dX9_feed_3 : decode cX9_feed 3 = .ok (.bipush 127, 2) := by decide +kernel
theorem dX9_feed_5 : decode cX9_feed 5 = .ok (.invokevirtual 252, 3) := by decide +kernel
theorem dX9_feed_8 : decode cX9_feed 8 = .ok (.ifCond .ne 6, 3) := by decide +kernel
theorem dX9_feed_11 : decode cX9_feed 11 = .ok (.bipush (-2), 2) := by decide +kernel
theorem dX9_feed_13 : decode cX9_feed 13 = .ok (.ireturn, 1) := by decide +kernel
theorem dX9_feed_14 : decode cX9_feed 14 = .ok (.aload_n 0, 1) := by decide +kernel
theorem dX9_feed_15 : decode cX9_feed 15 = .ok (.getfield 53, 3) := by decide +kernel
theorem dX9_feed_18 : decode cX9_feed 18 = .ok (.bipush 100, 2) := by decide +kernel
theorem dX9_feed_20 : decode cX9_feed 20 = .ok (.if_icmp .ne 6, 3) := by decide +kernel
theorem dX9_feed_23 : decode cX9_feed 23 = .ok (.bipush (-4), 2) := by decide +kernel
theorem dX9_feed_25 : decode cX9_feed 25 = .ok (.ireturn, 1) := by decide +kernel
theorem dX9_feed_26 : decode cX9_feed 26 = .ok (.aload_n 0, 1) := by decide +kernel
theorem dX9_feed_27 : decode cX9_feed 27 = .ok (.getfield 62, 3) := by decide +kernel
theorem dX9_feed_30 : decode cX9_feed 30 = .ok (.aload_n 0, 1) := by decide +kernel
theorem dX9_feed_31 : decode cX9_feed 31 = .ok (.getfield 53, 3) := by decide +kernel
theorem dX9_feed_34 : decode cX9_feed 34 = .ok (.iload_n 1, 1) := by decide +kernel
theorem dX9_feed_35 : decode cX9_feed 35 = .ok (.iastore, 1) := by decide +kernel
theorem dX9_feed_36 : decode cX9_feed 36 = .ok (.aload_n 0, 1) := by decide +kernel
theorem dX9_feed_37 : decode cX9_feed 37 = .ok (.dup, 1) := by decide +kernel
theorem dX9_feed_38 : decode cX9_feed 38 = .ok (.getfield 53, 3) := by decide +kernel
theorem dX9_feed_41 : decode cX9_feed 41 = .ok (.iconst 1, 1) := by decide +kernel
theorem dX9_feed_42 : decode cX9_feed 42 = .ok (.iadd, 1) := by decide +kernel
theorem dX9_feed_43 : decode cX9_feed 43 = .ok (.putfield 53, 3) := by decide +kernel
theorem dX9_feed_46 : decode cX9_feed 46 = .ok (.aload_n 0, 1) := by decide +kernel
theorem dX9_feed_47 : decode cX9_feed 47 = .ok (.getfield 53, 3) := by decide +kernel
theorem dX9_feed_50 : decode cX9_feed 50 = .ok (.ireturn, 1) := by decide +kernel
theorem dX9_next_0 : decode cX9_next 0 = .ok (.aload_n 0, 1) := by decide +kernel
theorem dX9_next_1 : decode cX9_next 1 = .ok (.getfield 56, 3) := by decide +kernel
theorem dX9_next_4 : decode cX9_next 4 = .ok (.aload_n 0, 1) := by decide +kernel
theorem dX9_next_5 : decode cX9_next 5 = .ok (.getfield 53, 3) := by decide +kernel
theorem dX9_next_8 : decode cX9_next 8 = .ok (.if_icmp .ge 15, 3) := by decide +kernel
theorem dX9_next_11 : decode cX9_next 11 = .ok (.aload_n 0, 1) := by decide +kernel
theorem dX9_next_12 : decode cX9_next 12 = .ok (.getfield 62, 3) := by decide +kernel
theorem dX9_next_15 : decode cX9_next 15 = .ok (.aload_n 0, 1) := by decide +kernel
theorem dX9_next_16 : decode cX9_next 16 = .ok (.getfield 56, 3) := by decide +kernel
theorem dX9_next_19 : decode cX9_next 19 = .ok (.iaload, 1) := by decide +kernel
theorem dX9_next_20 : decode cX9_next 20 = .ok (.goto 4, 3) := by decide +kernel
theorem dX9_next_23 : decode cX9_next 23 = .ok (.iconst (-1), 1) := by decide +kernel
theorem dX9_next_24 : decode cX9_next 24 = .ok (.ireturn, 1) := by decide +kernel
theorem dX9_takes_0 : decode cX9_takes 0 = .ok (.aload_n 0, 1) := by decide +kernel
theorem dX9_takes_1 : decode cX9_takes 1 = .ok (.invokevirtual 274, 3) := by decide +kernel
theorem dX9_takes_4 : decode cX9_takes 4 = .ok (.iload_n 1, 1) := by decide +kernel
theorem dX9_takes_5 : decode cX9_takes 5 = .ok (.if_icmp .eq 5, 3) := by decide +kernel
theorem dX9_takes_8 : decode cX9_takes 8 = .ok (.iconst 0, 1) := by decide +kernel
theorem dX9_takes_9 : decode cX9_takes 9 = .ok (.ireturn, 1) := by decide +kernel
theorem dX9_takes_10 : decode cX9_takes 10 = .ok (.aload_n 0, 1) := by decide +kernel
theorem dX9_takes_11 : decode cX9_takes 11 = .ok (.dup, 1) := by decide +kernel
theorem dX9_takes_12 : decode cX9_takes 12 = .ok (.getfield 56, 3) := by decide +kernel
theorem dX9_takes_15 : decode cX9_takes 15 = .ok (.iconst 1, 1) := by decide +kernel
theorem dX9_takes_16 : decode cX9_takes 16 = .ok (.iadd, 1) := by decide +kernel
theorem dX9_takes_17 : decode cX9_takes 17 = .ok (.putfield 56, 3) := by decide +kernel
theorem dX9_takes_20 : decode cX9_takes 20 = .ok (.iconst 1, 1) := by decide +kernel
theorem dX9_takes_21 : decode cX9_takes 21 = .ok (.ireturn, 1) := by decide +kernel
theorem dX9_takesWord_0 : decode cX9_takesWord 0 = .ok (.iconst 0, 1) := by decide +kernel
theorem dX9_takesWord_1 : decode cX9_takesWord 1 = .ok (.istore_n 3, 1) := by decide +kernel
theorem dX9_takesWord_2 : decode cX9_takesWord 2 = .ok (.iload_n 3, 1) := by decide +kernel
theorem dX9_takesWord_3 : decode cX9_takesWord 3 = .ok (.iload_n 2, 1) := by decide +kernel
theorem dX9_takesWord_4 : decode cX9_takesWord 4 = .ok (.if_icmp .ge 26, 3) := by decide +kernel
theorem dX9_takesWord_7 : decode cX9_takesWord 7 = .ok (.aload_n 0, 1) := by decide +kernel
theorem dX9_takesWord_8 : decode cX9_takesWord 8 = .ok (.aload_n 0, 1) := by decide +kernel
theorem dX9_takesWord_9 : decode cX9_takesWord 9 = .ok (.getfield 95, 3) := by decide +kernel
theorem dX9_takesWord_12 : decode cX9_takesWord 12 = .ok (.iload_n 1, 1) := by decide +kernel
theorem dX9_takesWord_13 : decode cX9_takesWord 13 = .ok (.iload_n 3, 1) := by decide +kernel
theorem dX9_takesWord_14 : decode cX9_takesWord 14 = .ok (.iadd, 1) := by decide +kernel
theorem dX9_takesWord_15 : decode cX9_takesWord 15 = .ok (.iaload, 1) := by decide +kernel
theorem dX9_takesWord_16 : decode cX9_takesWord 16 = .ok (.invokevirtual 278, 3) := by decide +kernel
theorem dX9_takesWord_19 : decode cX9_takesWord 19 = .ok (.ifCond .ne 5, 3) := by decide +kernel
theorem dX9_takesWord_22 : decode cX9_takesWord 22 = .ok (.iconst 0, 1) := by decide +kernel
theorem dX9_takesWord_23 : decode cX9_takesWord 23 = .ok (.ireturn, 1) := by decide +kernel
theorem dX9_takesWord_24 : decode cX9_takesWord 24 = .ok (.iinc 3 1, 3) := by decide +kernel
theorem dX9_takesWord_27 : decode cX9_takesWord 27 = .ok (.goto (-25), 3) := by decide +kernel
theorem dX9_takesWord_30 : decode cX9_takesWord 30 = .ok (.aload_n 0, 1) := by decide +kernel
theorem dX9_takesWord_31 : decode cX9_takesWord 31 = .ok (.bipush 32, 2) := by decide +kernel
theorem dX9_takesWord_33 : decode cX9_takesWord 33 = .ok (.invokevirtual 278, 3) := by decide +kernel
theorem dX9_takesWord_36 : decode cX9_takesWord 36 = .ok (.ireturn, 1) := by decide +kernel
theorem dX9_isDigit_0 : decode cX9_isDigit 0 = .ok (.aload_n 0, 1) := by decide +kernel
theorem dX9_isDigit_1 : decode cX9_isDigit 1 = .ok (.aload_n 0, 1) := by decide +kernel
theorem dX9_isDigit_2 : decode cX9_isDigit 2 = .ok (.invokevirtual 274, 3) := by decide +kernel
theorem dX9_isDigit_5 : decode cX9_isDigit 5 = .ok (.bipush 48, 2) := by decide +kernel
theorem dX9_isDigit_7 : decode cX9_isDigit 7 = .ok (.bipush 57, 2) := by decide +kernel
theorem dX9_isDigit_9 : decode cX9_isDigit 9 = .ok (.invokevirtual 252, 3) := by decide +kernel
theorem dX9_isDigit_12 : decode cX9_isDigit 12 = .ok (.ireturn, 1) := by decide +kernel
theorem dX9_takesNumber_0 : decode cX9_takesNumber 0 = .ok (.aload_n 0, 1) := by decide +kernel
theorem dX9_takesNumber_1 : decode cX9_takesNumber 1 = .ok (.invokevirtual 281, 3) := by decide +kernel
theorem dX9_takesNumber_4 : decode cX9_takesNumber 4 = .ok (.ifCond .ne 5, 3) := by decide +kernel
theorem dX9_takesNumber_7 : decode cX9_takesNumber 7 = .ok (.iconst 0, 1) := by decide +kernel
theorem dX9_takesNumber_8 : decode cX9_takesNumber 8 = .ok (.ireturn, 1) := by decide +kernel
theorem dX9_takesNumber_9 : decode cX9_takesNumber 9 = .ok (.aload_n 0, 1) := by decide +kernel
theorem dX9_takesNumber_10 : decode cX9_takesNumber 10 = .ok (.iconst 0, 1) := by decide +kernel
theorem dX9_takesNumber_11 : decode cX9_takesNumber 11 = .ok (.putfield 59, 3) := by decide +kernel
theorem dX9_takesNumber_14 : decode cX9_takesNumber 14 = .ok (.iconst 0, 1) := by decide +kernel
theorem dX9_takesNumber_15 : decode cX9_takesNumber 15 = .ok (.istore_n 1, 1) := by decide +kernel
theorem dX9_takesNumber_16 : decode cX9_takesNumber 16 = .ok (.iload_n 1, 1) := by decide +kernel
theorem dX9_takesNumber_17 : decode cX9_takesNumber 17 = .ok (.iconst 2, 1) := by decide +kernel
theorem dX9_takesNumber_18 : decode cX9_takesNumber 18 = .ok (.if_icmp .ge 45, 3) := by decide +kernel
theorem dX9_takesNumber_21 : decode cX9_takesNumber 21 = .ok (.aload_n 0, 1) := by decide +kernel
theorem dX9_takesNumber_22 : decode cX9_takesNumber 22 = .ok (.invokevirtual 281, 3) := by decide +kernel
theorem dX9_takesNumber_25 : decode cX9_takesNumber 25 = .ok (.ifCond .eq 38, 3) := by decide +kernel
theorem dX9_takesNumber_28 : decode cX9_takesNumber 28 = .ok (.aload_n 0, 1) := by decide +kernel
theorem dX9_takesNumber_29 : decode cX9_takesNumber 29 = .ok (.bipush 10, 2) := by decide +kernel
theorem dX9_takesNumber_31 : decode cX9_takesNumber 31 = .ok (.aload_n 0, 1) := by decide +kernel
theorem dX9_takesNumber_32 : decode cX9_takesNumber 32 = .ok (.getfield 59, 3) := by decide +kernel
theorem dX9_takesNumber_35 : decode cX9_takesNumber 35 = .ok (.imul, 1) := by decide +kernel
theorem dX9_takesNumber_36 : decode cX9_takesNumber 36 = .ok (.aload_n 0, 1) := by decide +kernel
theorem dX9_takesNumber_37 : decode cX9_takesNumber 37 = .ok (.invokevirtual 274, 3) := by decide +kernel
theorem dX9_takesNumber_40 : decode cX9_takesNumber 40 = .ok (.iadd, 1) := by decide +kernel
theorem dX9_takesNumber_41 : decode cX9_takesNumber 41 = .ok (.bipush 48, 2) := by decide +kernel
theorem dX9_takesNumber_43 : decode cX9_takesNumber 43 = .ok (.isub, 1) := by decide +kernel
theorem dX9_takesNumber_44 : decode cX9_takesNumber 44 = .ok (.putfield 59, 3) := by decide +kernel
theorem dX9_takesNumber_47 : decode cX9_takesNumber 47 = .ok (.aload_n 0, 1) := by decide +kernel
theorem dX9_takesNumber_48 : decode cX9_takesNumber 48 = .ok (.dup, 1) := by decide +kernel
theorem dX9_takesNumber_49 : decode cX9_takesNumber 49 = .ok (.getfield 56, 3) := by decide +kernel
theorem dX9_takesNumber_52 : decode cX9_takesNumber 52 = .ok (.iconst 1, 1) := by decide +kernel
theorem dX9_takesNumber_53 : decode cX9_takesNumber 53 = .ok (.iadd, 1) := by decide +kernel
theorem dX9_takesNumber_54 : decode cX9_takesNumber 54 = .ok (.putfield 56, 3) := by decide +kernel
theorem dX9_takesNumber_57 : decode cX9_takesNumber 57 = .ok (.iinc 1 1, 3) := by decide +kernel
theorem dX9_takesNumber_60 : decode cX9_takesNumber 60 = .ok (.goto (-44), 3) := by decide +kernel
theorem dX9_takesNumber_63 : decode cX9_takesNumber 63 = .ok (.iconst 1, 1) := by decide +kernel
theorem dX9_takesNumber_64 : decode cX9_takesNumber 64 = .ok (.ireturn, 1) := by decide +kernel
theorem dX9_emits_0 : decode cX9_emits 0 = .ok (.aload_n 0, 1) := by decide +kernel
theorem dX9_emits_1 : decode cX9_emits 1 = .ok (.getfield 80, 3) := by decide +kernel
theorem dX9_emits_4 : decode cX9_emits 4 = .ok (.aload_n 0, 1) := by decide +kernel
theorem dX9_emits_5 : decode cX9_emits 5 = .ok (.getfield 86, 3) := by decide +kernel
theorem dX9_emits_8 : decode cX9_emits 8 = .ok (.iload_n 1, 1) := by decide +kernel
theorem dX9_emits_9 : decode cX9_emits 9 = .ok (.iastore, 1) := by decide +kernel
theorem dX9_emits_10 : decode cX9_emits 10 = .ok (.aload_n 0, 1) := by decide +kernel
theorem dX9_emits_11 : decode cX9_emits 11 = .ok (.dup, 1) := by decide +kernel
theorem dX9_emits_12 : decode cX9_emits 12 = .ok (.getfield 86, 3) := by decide +kernel
theorem dX9_emits_15 : decode cX9_emits 15 = .ok (.iconst 1, 1) := by decide +kernel
theorem dX9_emits_16 : decode cX9_emits 16 = .ok (.iadd, 1) := by decide +kernel
theorem dX9_emits_17 : decode cX9_emits 17 = .ok (.putfield 86, 3) := by decide +kernel
theorem dX9_emits_20 : decode cX9_emits 20 = .ok (.return_, 1) := by decide +kernel
theorem dX9_whole_0 : decode cX9_whole 0 = .ok (.aload_n 0, 1) := by decide +kernel
theorem dX9_whole_1 : decode cX9_whole 1 = .ok (.getfield 89, 3) := by decide +kernel
theorem dX9_whole_4 : decode cX9_whole 4 = .ok (.ifCond .le 48, 3) := by decide +kernel
theorem dX9_whole_7 : decode cX9_whole 7 = .ok (.aload_n 0, 1) := by decide +kernel
theorem dX9_whole_8 : decode cX9_whole 8 = .ok (.getfield 83, 3) := by decide +kernel
theorem dX9_whole_11 : decode cX9_whole 11 = .ok (.aload_n 0, 1) := by decide +kernel
theorem dX9_whole_12 : decode cX9_whole 12 = .ok (.getfield 89, 3) := by decide +kernel
theorem dX9_whole_15 : decode cX9_whole 15 = .ok (.iconst 1, 1) := by decide +kernel
theorem dX9_whole_16 : decode cX9_whole 16 = .ok (.isub, 1) := by decide +kernel
theorem dX9_whole_17 : decode cX9_whole 17 = .ok (.iaload, 1) := by decide +kernel
theorem dX9_whole_18 : decode cX9_whole 18 = .ok (.bipush 33, 2) := by decide +kernel
theorem dX9_whole_20 : decode cX9_whole 20 = .ok (.if_icmp .ne 32, 3) := by decide +kernel
theorem dX9_whole_23 : decode cX9_whole 23 = .ok (.aload_n 0, 1) := by decide +kernel
theorem dX9_whole_24 : decode cX9_whole 24 = .ok (.bipush (-33), 2) := by decide +kernel
theorem dX9_whole_26 : decode cX9_whole 26 = .ok (.invokevirtual 285, 3) := by decide +kernel
theorem dX9_whole_29 : decode cX9_whole 29 = .ok (.aload_n 0, 1) := by decide +kernel
theorem dX9_whole_30 : decode cX9_whole 30 = .ok (.dup, 1) := by decide +kernel
theorem dX9_whole_31 : decode cX9_whole 31 = .ok (.getfield 89, 3) := by decide +kernel
theorem dX9_whole_34 : decode cX9_whole 34 = .ok (.iconst 1, 1) := by decide +kernel
theorem dX9_whole_35 : decode cX9_whole 35 = .ok (.isub, 1) := by decide +kernel
theorem dX9_whole_36 : decode cX9_whole 36 = .ok (.putfield 89, 3) := by decide +kernel
theorem dX9_whole_39 : decode cX9_whole 39 = .ok (.aload_n 0, 1) := by decide +kernel
theorem dX9_whole_40 : decode cX9_whole 40 = .ok (.dup, 1) := by decide +kernel
theorem dX9_whole_41 : decode cX9_whole 41 = .ok (.getfield 92, 3) := by decide +kernel
theorem dX9_whole_44 : decode cX9_whole 44 = .ok (.iconst 1, 1) := by decide +kernel
theorem dX9_whole_45 : decode cX9_whole 45 = .ok (.isub, 1) := by decide +kernel
theorem dX9_whole_46 : decode cX9_whole 46 = .ok (.putfield 92, 3) := by decide +kernel
theorem dX9_whole_49 : decode cX9_whole 49 = .ok (.goto (-49), 3) := by decide +kernel
theorem dX9_whole_52 : decode cX9_whole 52 = .ok (.return_, 1) := by decide +kernel
theorem dX9_settle_0 : decode cX9_settle 0 = .ok (.aload_n 0, 1) := by decide +kernel
theorem dX9_settle_1 : decode cX9_settle 1 = .ok (.getfield 89, 3) := by decide +kernel
theorem dX9_settle_4 : decode cX9_settle 4 = .ok (.ifCond .le 68, 3) := by decide +kernel
theorem dX9_settle_7 : decode cX9_settle 7 = .ok (.aload_n 0, 1) := by decide +kernel
theorem dX9_settle_8 : decode cX9_settle 8 = .ok (.getfield 83, 3) := by decide +kernel
theorem dX9_settle_11 : decode cX9_settle 11 = .ok (.aload_n 0, 1) := by decide +kernel
theorem dX9_settle_12 : decode cX9_settle 12 = .ok (.getfield 89, 3) := by decide +kernel
theorem dX9_settle_15 : decode cX9_settle 15 = .ok (.iconst 1, 1) := by decide +kernel
theorem dX9_settle_16 : decode cX9_settle 16 = .ok (.isub, 1) := by decide +kernel
theorem dX9_settle_17 : decode cX9_settle 17 = .ok (.iaload, 1) := by decide +kernel
theorem dX9_settle_18 : decode cX9_settle 18 = .ok (.bipush 38, 2) := by decide +kernel
theorem dX9_settle_20 : decode cX9_settle 20 = .ok (.if_icmp .eq 25, 3) := by decide +kernel
theorem dX9_settle_23 : decode cX9_settle 23 = .ok (.aload_n 0, 1) := by decide +kernel
theorem dX9_settle_24 : decode cX9_settle 24 = .ok (.getfield 83, 3) := by decide +kernel
theorem dX9_settle_27 : decode cX9_settle 27 = .ok (.aload_n 0, 1) := by decide +kernel
theorem dX9_settle_28 : decode cX9_settle 28 = .ok (.getfield 89, 3) := by decide +kernel
theorem dX9_settle_31 : decode cX9_settle 31 = .ok (.iconst 1, 1) := by decide +kernel
theorem dX9_settle_32 : decode cX9_settle 32 = .ok (.isub, 1) := by decide +kernel
theorem dX9_settle_33 : decode cX9_settle 33 = .ok (.iaload, 1) := by decide +kernel
theorem dX9_settle_34 : decode cX9_settle 34 = .ok (.bipush 124, 2) := by decide +kernel
theorem dX9_settle_36 : decode cX9_settle 36 = .ok (.if_icmp .ne 36, 3) := by decide +kernel
theorem dX9_settle_39 : decode cX9_settle 39 = .ok (.iload_n 1, 1) := by decide +kernel
theorem dX9_settle_40 : decode cX9_settle 40 = .ok (.bipush 38, 2) := by decide +kernel
theorem dX9_settle_42 : decode cX9_settle 42 = .ok (.if_icmp .eq 30, 3) := by decide +kernel
theorem dX9_settle_45 : decode cX9_settle 45 = .ok (.aload_n 0, 1) := by decide +kernel
theorem dX9_settle_46 : decode cX9_settle 46 = .ok (.dup, 1) := by decide +kernel
theorem dX9_settle_47 : decode cX9_settle 47 = .ok (.getfield 89, 3) := by decide +kernel
theorem dX9_settle_50 : decode cX9_settle 50 = .ok (.iconst 1, 1) := by decide +kernel
theorem dX9_settle_51 : decode cX9_settle 51 = .ok (.isub, 1) := by decide +kernel
theorem dX9_settle_52 : decode cX9_settle 52 = .ok (.putfield 89, 3) := by decide +kernel
theorem dX9_settle_55 : decode cX9_settle 55 = .ok (.aload_n 0, 1) := by decide +kernel
theorem dX9_settle_56 : decode cX9_settle 56 = .ok (.aload_n 0, 1) := by decide +kernel
theorem dX9_settle_57 : decode cX9_settle 57 = .ok (.getfield 83, 3) := by decide +kernel
theorem dX9_settle_60 : decode cX9_settle 60 = .ok (.aload_n 0, 1) := by decide +kernel
theorem dX9_settle_61 : decode cX9_settle 61 = .ok (.getfield 89, 3) := by decide +kernel
theorem dX9_settle_64 : decode cX9_settle 64 = .ok (.iaload, 1) := by decide +kernel
theorem dX9_settle_65 : decode cX9_settle 65 = .ok (.ineg, 1) := by decide +kernel
theorem dX9_settle_66 : decode cX9_settle 66 = .ok (.invokevirtual 285, 3) := by decide +kernel
theorem dX9_settle_69 : decode cX9_settle 69 = .ok (.goto (-69), 3) := by decide +kernel
theorem dX9_settle_72 : decode cX9_settle 72 = .ok (.return_, 1) := by decide +kernel
theorem dX9_place_0 : decode cX9_place 0 = .ok (.iload_n 1, 1) := by decide +kernel
theorem dX9_place_1 : decode cX9_place 1 = .ok (.tableswitch 87 104 118 #[81, 87, 87, 77, 87, 85, 83, 87, 75, 87, 87, 87, 87, 87, 79], 75) := by decide +kernel
theorem dX9_place_76 : decode cX9_place 76 = .ok (.iconst 0, 1) := by decide +kernel
theorem dX9_place_77 : decode cX9_place 77 = .ok (.ireturn, 1) := by decide +kernel
theorem dX9_place_78 : decode cX9_place 78 = .ok (.iconst 1, 1) := by decide +kernel
theorem dX9_place_79 : decode cX9_place 79 = .ok (.ireturn, 1) := by decide +kernel
theorem dX9_place_80 : decode cX9_place 80 = .ok (.iconst 2, 1) := by decide +kernel
theorem dX9_place_81 : decode cX9_place 81 = .ok (.ireturn, 1) := by decide +kernel
theorem dX9_place_82 : decode cX9_place 82 = .ok (.iconst 3, 1) := by decide +kernel
theorem dX9_place_83 : decode cX9_place 83 = .ok (.ireturn, 1) := by decide +kernel
theorem dX9_place_84 : decode cX9_place 84 = .ok (.iconst 4, 1) := by decide +kernel
theorem dX9_place_85 : decode cX9_place 85 = .ok (.ireturn, 1) := by decide +kernel
theorem dX9_place_86 : decode cX9_place 86 = .ok (.iconst 5, 1) := by decide +kernel
theorem dX9_place_87 : decode cX9_place 87 = .ok (.ireturn, 1) := by decide +kernel
theorem dX9_place_88 : decode cX9_place 88 = .ok (.iconst (-1), 1) := by decide +kernel
theorem dX9_place_89 : decode cX9_place 89 = .ok (.ireturn, 1) := by decide +kernel
theorem dX9_takesTest_0 : decode cX9_takesTest 0 = .ok (.aload_n 0, 1) := by decide +kernel
theorem dX9_takesTest_1 : decode cX9_takesTest 1 = .ok (.aload_n 0, 1) := by decide +kernel
theorem dX9_takesTest_2 : decode cX9_takesTest 2 = .ok (.invokevirtual 274, 3) := by decide +kernel
theorem dX9_takesTest_5 : decode cX9_takesTest 5 = .ok (.invokevirtual 289, 3) := by decide +kernel
theorem dX9_takesTest_8 : decode cX9_takesTest 8 = .ok (.istore_n 1, 1) := by decide +kernel
theorem dX9_takesTest_9 : decode cX9_takesTest 9 = .ok (.iload_n 1, 1) := by decide +kernel
theorem dX9_takesTest_10 : decode cX9_takesTest 10 = .ok (.ifCond .ge 5, 3) := by decide +kernel
theorem dX9_takesTest_13 : decode cX9_takesTest 13 = .ok (.iconst 0, 1) := by decide +kernel
theorem dX9_takesTest_14 : decode cX9_takesTest 14 = .ok (.ireturn, 1) := by decide +kernel
theorem dX9_takesTest_15 : decode cX9_takesTest 15 = .ok (.aload_n 0, 1) := by decide +kernel
theorem dX9_takesTest_16 : decode cX9_takesTest 16 = .ok (.dup, 1) := by decide +kernel
theorem dX9_takesTest_17 : decode cX9_takesTest 17 = .ok (.getfield 56, 3) := by decide +kernel
theorem dX9_takesTest_20 : decode cX9_takesTest 20 = .ok (.iconst 1, 1) := by decide +kernel
theorem dX9_takesTest_21 : decode cX9_takesTest 21 = .ok (.iadd, 1) := by decide +kernel
theorem dX9_takesTest_22 : decode cX9_takesTest 22 = .ok (.putfield 56, 3) := by decide +kernel
theorem dX9_takesTest_25 : decode cX9_takesTest 25 = .ok (.aload_n 0, 1) := by decide +kernel
theorem dX9_takesTest_26 : decode cX9_takesTest 26 = .ok (.invokevirtual 274, 3) := by decide +kernel
theorem dX9_takesTest_29 : decode cX9_takesTest 29 = .ok (.istore_n 2, 1) := by decide +kernel
theorem dX9_takesTest_30 : decode cX9_takesTest 30 = .ok (.aload_n 0, 1) := by decide +kernel
theorem dX9_takesTest_31 : decode cX9_takesTest 31 = .ok (.iload_n 2, 1) := by decide +kernel
theorem dX9_takesTest_32 : decode cX9_takesTest 32 = .ok (.bipush 60, 2) := by decide +kernel
theorem dX9_takesTest_34 : decode cX9_takesTest 34 = .ok (.bipush 62, 2) := by decide +kernel
theorem dX9_takesTest_36 : decode cX9_takesTest 36 = .ok (.invokevirtual 252, 3) := by decide +kernel
theorem dX9_takesTest_39 : decode cX9_takesTest 39 = .ok (.ifCond .ne 5, 3) := by decide +kernel
theorem dX9_takesTest_42 : decode cX9_takesTest 42 = .ok (.iconst 0, 1) := by decide +kernel
theorem dX9_takesTest_43 : decode cX9_takesTest 43 = .ok (.ireturn, 1) := by decide +kernel
theorem dX9_takesTest_44 : decode cX9_takesTest 44 = .ok (.aload_n 0, 1) := by decide +kernel
theorem dX9_takesTest_45 : decode cX9_takesTest 45 = .ok (.dup, 1) := by decide +kernel
theorem dX9_takesTest_46 : decode cX9_takesTest 46 = .ok (.getfield 56, 3) := by decide +kernel
theorem dX9_takesTest_49 : decode cX9_takesTest 49 = .ok (.iconst 1, 1) := by decide +kernel
theorem dX9_takesTest_50 : decode cX9_takesTest 50 = .ok (.iadd, 1) := by decide +kernel
theorem dX9_takesTest_51 : decode cX9_takesTest 51 = .ok (.putfield 56, 3) := by decide +kernel
theorem dX9_takesTest_54 : decode cX9_takesTest 54 = .ok (.aload_n 0, 1) := by decide +kernel
theorem dX9_takesTest_55 : decode cX9_takesTest 55 = .ok (.invokevirtual 293, 3) := by decide +kernel
theorem dX9_takesTest_58 : decode cX9_takesTest 58 = .ok (.ifCond .ne 5, 3) := by decide +kernel
theorem dX9_takesTest_61 : decode cX9_takesTest 61 = .ok (.iconst 0, 1) := by decide +kernel
theorem dX9_takesTest_62 : decode cX9_takesTest 62 = .ok (.ireturn, 1) := by decide +kernel
theorem dX9_takesTest_63 : decode cX9_takesTest 63 = .ok (.aload_n 0, 1) := by decide +kernel
theorem dX9_takesTest_64 : decode cX9_takesTest 64 = .ok (.sipush 1000, 3) := by decide +kernel
theorem dX9_takesTest_67 : decode cX9_takesTest 67 = .ok (.iload_n 1, 1) := by decide +kernel
theorem dX9_takesTest_68 : decode cX9_takesTest 68 = .ok (.imul, 1) := by decide +kernel
theorem dX9_takesTest_69 : decode cX9_takesTest 69 = .ok (.bipush 100, 2) := by decide +kernel
theorem dX9_takesTest_71 : decode cX9_takesTest 71 = .ok (.iload_n 2, 1) := by decide +kernel
theorem dX9_takesTest_72 : decode cX9_takesTest 72 = .ok (.bipush 60, 2) := by decide +kernel
theorem dX9_takesTest_74 : decode cX9_takesTest 74 = .ok (.isub, 1) := by decide +kernel
theorem dX9_takesTest_75 : decode cX9_takesTest 75 = .ok (.imul, 1) := by decide +kernel
theorem dX9_takesTest_76 : decode cX9_takesTest 76 = .ok (.iadd, 1) := by decide +kernel
theorem dX9_takesTest_77 : decode cX9_takesTest 77 = .ok (.aload_n 0, 1) := by decide +kernel
theorem dX9_takesTest_78 : decode cX9_takesTest 78 = .ok (.getfield 59, 3) := by decide +kernel
theorem dX9_takesTest_81 : decode cX9_takesTest 81 = .ok (.iadd, 1) := by decide +kernel
theorem dX9_takesTest_82 : decode cX9_takesTest 82 = .ok (.invokevirtual 285, 3) := by decide +kernel
theorem dX9_takesTest_85 : decode cX9_takesTest 85 = .ok (.aload_n 0, 1) := by decide +kernel
theorem dX9_takesTest_86 : decode cX9_takesTest 86 = .ok (.invokevirtual 296, 3) := by decide +kernel
theorem dX9_takesTest_89 : decode cX9_takesTest 89 = .ok (.iconst 1, 1) := by decide +kernel
theorem dX9_takesTest_90 : decode cX9_takesTest 90 = .ok (.ireturn, 1) := by decide +kernel
theorem dX9_takesE_0 : decode cX9_takesE 0 = .ok (.aload_n 0, 1) := by decide +kernel
theorem dX9_takesE_1 : decode cX9_takesE 1 = .ok (.iconst 0, 1) := by decide +kernel
theorem dX9_takesE_2 : decode cX9_takesE 2 = .ok (.putfield 89, 3) := by decide +kernel
theorem dX9_takesE_5 : decode cX9_takesE 5 = .ok (.aload_n 0, 1) := by decide +kernel
theorem dX9_takesE_6 : decode cX9_takesE 6 = .ok (.iconst 0, 1) := by decide +kernel
theorem dX9_takesE_7 : decode cX9_takesE 7 = .ok (.putfield 92, 3) := by decide +kernel
theorem dX9_takesE_10 : decode cX9_takesE 10 = .ok (.aload_n 0, 1) := by decide +kernel
theorem dX9_takesE_11 : decode cX9_takesE 11 = .ok (.getfield 74, 3) := by decide +kernel
theorem dX9_takesE_14 : decode cX9_takesE 14 = .ok (.iload_n 1, 1) := by decide +kernel
theorem dX9_takesE_15 : decode cX9_takesE 15 = .ok (.aload_n 0, 1) := by decide +kernel
theorem dX9_takesE_16 : decode cX9_takesE 16 = .ok (.getfield 86, 3) := by decide +kernel
theorem dX9_takesE_19 : decode cX9_takesE 19 = .ok (.iastore, 1) := by decide +kernel
theorem dX9_takesE_20 : decode cX9_takesE 20 = .ok (.iconst 1, 1) := by decide +kernel
theorem dX9_takesE_21 : decode cX9_takesE 21 = .ok (.istore_n 2, 1) := by decide +kernel
theorem dX9_takesE_22 : decode cX9_takesE 22 = .ok (.aload_n 0, 1) := by decide +kernel
theorem dX9_takesE_23 : decode cX9_takesE 23 = .ok (.invokevirtual 274, 3) := by decide +kernel
theorem dX9_takesE_26 : decode cX9_takesE 26 = .ok (.istore_n 3, 1) := by decide +kernel
theorem dX9_takesE_27 : decode cX9_takesE 27 = .ok (.iload_n 2, 1) := by decide +kernel
theorem dX9_takesE_28 : decode cX9_takesE 28 = .ok (.ifCond .eq 82, 3) := by decide +kernel
theorem dX9_takesE_31 : decode cX9_takesE 31 = .ok (.iload_n 3, 1) := by decide +kernel
theorem dX9_takesE_32 : decode cX9_takesE 32 = .ok (.bipush 33, 2) := by decide +kernel
theorem dX9_takesE_34 : decode cX9_takesE 34 = .ok (.if_icmp .eq 9, 3) := by decide +kernel
theorem dX9_takesE_37 : decode cX9_takesE 37 = .ok (.iload_n 3, 1) := by decide +kernel
theorem dX9_takesE_38 : decode cX9_takesE 38 = .ok (.bipush 40, 2) := by decide +kernel
theorem dX9_takesE_40 : decode cX9_takesE 40 = .ok (.if_icmp .ne 56, 3) := by decide +kernel
theorem dX9_takesE_43 : decode cX9_takesE 43 = .ok (.aload_n 0, 1) := by decide +kernel
theorem dX9_takesE_44 : decode cX9_takesE 44 = .ok (.getfield 92, 3) := by decide +kernel
theorem dX9_takesE_47 : decode cX9_takesE 47 = .ok (.iconst 4, 1) := by decide +kernel
theorem dX9_takesE_48 : decode cX9_takesE 48 = .ok (.if_icmp .ne 5, 3) := by decide +kernel
theorem dX9_takesE_51 : decode cX9_takesE 51 = .ok (.iconst 0, 1) := by decide +kernel
theorem dX9_takesE_52 : decode cX9_takesE 52 = .ok (.ireturn, 1) := by decide +kernel
theorem dX9_takesE_53 : decode cX9_takesE 53 = .ok (.aload_n 0, 1) := by decide +kernel
theorem dX9_takesE_54 : decode cX9_takesE 54 = .ok (.dup, 1) := by decide +kernel
theorem dX9_takesE_55 : decode cX9_takesE 55 = .ok (.getfield 92, 3) := by decide +kernel
theorem dX9_takesE_58 : decode cX9_takesE 58 = .ok (.iconst 1, 1) := by decide +kernel
theorem dX9_takesE_59 : decode cX9_takesE 59 = .ok (.iadd, 1) := by decide +kernel
theorem dX9_takesE_60 : decode cX9_takesE 60 = .ok (.putfield 92, 3) := by decide +kernel
theorem dX9_takesE_63 : decode cX9_takesE 63 = .ok (.aload_n 0, 1) := by decide +kernel
theorem dX9_takesE_64 : decode cX9_takesE 64 = .ok (.getfield 83, 3) := by decide +kernel
theorem dX9_takesE_67 : decode cX9_takesE 67 = .ok (.aload_n 0, 1) := by decide +kernel
theorem dX9_takesE_68 : decode cX9_takesE 68 = .ok (.getfield 89, 3) := by decide +kernel
theorem dX9_takesE_71 : decode cX9_takesE 71 = .ok (.iload_n 3, 1) := by decide +kernel
theorem dX9_takesE_72 : decode cX9_takesE 72 = .ok (.iastore, 1) := by decide +kernel
theorem dX9_takesE_73 : decode cX9_takesE 73 = .ok (.aload_n 0, 1) := by decide +kernel
theorem dX9_takesE_74 : decode cX9_takesE 74 = .ok (.dup, 1) := by decide +kernel
theorem dX9_takesE_75 : decode cX9_takesE 75 = .ok (.getfield 89, 3) := by decide +kernel
theorem dX9_takesE_78 : decode cX9_takesE 78 = .ok (.iconst 1, 1) := by decide +kernel
theorem dX9_takesE_79 : decode cX9_takesE 79 = .ok (.iadd, 1) := by decide +kernel
theorem dX9_takesE_80 : decode cX9_takesE 80 = .ok (.putfield 89, 3) := by decide +kernel
theorem dX9_takesE_83 : decode cX9_takesE 83 = .ok (.aload_n 0, 1) := by decide +kernel
theorem dX9_takesE_84 : decode cX9_takesE 84 = .ok (.dup, 1) := by decide +kernel
theorem dX9_takesE_85 : decode cX9_takesE 85 = .ok (.getfield 56, 3) := by decide +kernel
theorem dX9_takesE_88 : decode cX9_takesE 88 = .ok (.iconst 1, 1) := by decide +kernel
theorem dX9_takesE_89 : decode cX9_takesE 89 = .ok (.iadd, 1) := by decide +kernel
theorem dX9_takesE_90 : decode cX9_takesE 90 = .ok (.putfield 56, 3) := by decide +kernel
theorem dX9_takesE_93 : decode cX9_takesE 93 = .ok (.goto (-71), 3) := by decide +kernel
theorem dX9_takesE_96 : decode cX9_takesE 96 = .ok (.aload_n 0, 1) := by decide +kernel
theorem dX9_takesE_97 : decode cX9_takesE 97 = .ok (.invokevirtual 299, 3) := by decide +kernel
theorem dX9_takesE_100 : decode cX9_takesE 100 = .ok (.ifCond .eq 8, 3) := by decide +kernel
theorem dX9_takesE_103 : decode cX9_takesE 103 = .ok (.iconst 0, 1) := by decide +kernel
theorem dX9_takesE_104 : decode cX9_takesE 104 = .ok (.istore_n 2, 1) := by decide +kernel
theorem dX9_takesE_105 : decode cX9_takesE 105 = .ok (.goto (-83), 3) := by decide +kernel
theorem dX9_takesE_108 : decode cX9_takesE 108 = .ok (.iconst 0, 1) := by decide +kernel
theorem dX9_takesE_109 : decode cX9_takesE 109 = .ok (.ireturn, 1) := by decide +kernel
theorem dX9_takesE_110 : decode cX9_takesE 110 = .ok (.iload_n 3, 1) := by decide +kernel
theorem dX9_takesE_111 : decode cX9_takesE 111 = .ok (.bipush 38, 2) := by decide +kernel
theorem dX9_takesE_113 : decode cX9_takesE 113 = .ok (.if_icmp .eq 9, 3) := by decide +kernel
theorem dX9_takesE_116 : decode cX9_takesE 116 = .ok (.iload_n 3, 1) := by decide +kernel
theorem dX9_takesE_117 : decode cX9_takesE 117 = .ok (.bipush 124, 2) := by decide +kernel
theorem dX9_takesE_119 : decode cX9_takesE 119 = .ok (.if_icmp .ne 43, 3) := by decide +kernel
theorem dX9_takesE_122 : decode cX9_takesE 122 = .ok (.aload_n 0, 1) := by decide +kernel
theorem dX9_takesE_123 : decode cX9_takesE 123 = .ok (.iload_n 3, 1) := by decide +kernel
theorem dX9_takesE_124 : decode cX9_takesE 124 = .ok (.invokevirtual 302, 3) := by decide +kernel
theorem dX9_takesE_127 : decode cX9_takesE 127 = .ok (.aload_n 0, 1) := by decide +kernel
theorem dX9_takesE_128 : decode cX9_takesE 128 = .ok (.getfield 83, 3) := by decide +kernel
theorem dX9_takesE_131 : decode cX9_takesE 131 = .ok (.aload_n 0, 1) := by decide +kernel
theorem dX9_takesE_132 : decode cX9_takesE 132 = .ok (.getfield 89, 3) := by decide +kernel
theorem dX9_takesE_135 : decode cX9_takesE 135 = .ok (.iload_n 3, 1) := by decide +kernel
theorem dX9_takesE_136 : decode cX9_takesE 136 = .ok (.iastore, 1) := by decide +kernel
theorem dX9_takesE_137 : decode cX9_takesE 137 = .ok (.aload_n 0, 1) := by decide +kernel
theorem dX9_takesE_138 : decode cX9_takesE 138 = .ok (.dup, 1) := by decide +kernel
theorem dX9_takesE_139 : decode cX9_takesE 139 = .ok (.getfield 89, 3) := by decide +kernel
theorem dX9_takesE_142 : decode cX9_takesE 142 = .ok (.iconst 1, 1) := by decide +kernel
theorem dX9_takesE_143 : decode cX9_takesE 143 = .ok (.iadd, 1) := by decide +kernel
theorem dX9_takesE_144 : decode cX9_takesE 144 = .ok (.putfield 89, 3) := by decide +kernel
theorem dX9_takesE_147 : decode cX9_takesE 147 = .ok (.iconst 1, 1) := by decide +kernel
theorem dX9_takesE_148 : decode cX9_takesE 148 = .ok (.istore_n 2, 1) := by decide +kernel
theorem dX9_takesE_149 : decode cX9_takesE 149 = .ok (.aload_n 0, 1) := by decide +kernel
theorem dX9_takesE_150 : decode cX9_takesE 150 = .ok (.dup, 1) := by decide +kernel
theorem dX9_takesE_151 : decode cX9_takesE 151 = .ok (.getfield 56, 3) := by decide +kernel
theorem dX9_takesE_154 : decode cX9_takesE 154 = .ok (.iconst 1, 1) := by decide +kernel
theorem dX9_takesE_155 : decode cX9_takesE 155 = .ok (.iadd, 1) := by decide +kernel
theorem dX9_takesE_156 : decode cX9_takesE 156 = .ok (.putfield 56, 3) := by decide +kernel
theorem dX9_takesE_159 : decode cX9_takesE 159 = .ok (.goto (-137), 3) := by decide +kernel
theorem dX9_takesE_162 : decode cX9_takesE 162 = .ok (.aload_n 0, 1) := by decide +kernel
theorem dX9_takesE_163 : decode cX9_takesE 163 = .ok (.bipush 124, 2) := by decide +kernel
theorem dX9_takesE_165 : decode cX9_takesE 165 = .ok (.invokevirtual 302, 3) := by decide +kernel
theorem dX9_takesE_168 : decode cX9_takesE 168 = .ok (.aload_n 0, 1) := by decide +kernel
theorem dX9_takesE_169 : decode cX9_takesE 169 = .ok (.getfield 77, 3) := by decide +kernel
theorem dX9_takesE_172 : decode cX9_takesE 172 = .ok (.iload_n 1, 1) := by decide +kernel
theorem dX9_takesE_173 : decode cX9_takesE 173 = .ok (.aload_n 0, 1) := by decide +kernel
theorem dX9_takesE_174 : decode cX9_takesE 174 = .ok (.getfield 86, 3) := by decide +kernel
theorem dX9_takesE_177 : decode cX9_takesE 177 = .ok (.iastore, 1) := by decide +kernel
theorem dX9_takesE_178 : decode cX9_takesE 178 = .ok (.aload_n 0, 1) := by decide +kernel
theorem dX9_takesE_179 : decode cX9_takesE 179 = .ok (.getfield 89, 3) := by decide +kernel
theorem dX9_takesE_182 : decode cX9_takesE 182 = .ok (.ifCond .ne 5, 3) := by decide +kernel
theorem dX9_takesE_185 : decode cX9_takesE 185 = .ok (.iconst 1, 1) := by decide +kernel
theorem dX9_takesE_186 : decode cX9_takesE 186 = .ok (.ireturn, 1) := by decide +kernel
theorem dX9_takesE_187 : decode cX9_takesE 187 = .ok (.iload_n 3, 1) := by decide +kernel
theorem dX9_takesE_188 : decode cX9_takesE 188 = .ok (.bipush 41, 2) := by decide +kernel
theorem dX9_takesE_190 : decode cX9_takesE 190 = .ok (.if_icmp .eq 5, 3) := by decide +kernel
theorem dX9_takesE_193 : decode cX9_takesE 193 = .ok (.iconst 0, 1) := by decide +kernel
theorem dX9_takesE_194 : decode cX9_takesE 194 = .ok (.ireturn, 1) := by decide +kernel
theorem dX9_takesE_195 : decode cX9_takesE 195 = .ok (.aload_n 0, 1) := by decide +kernel
theorem dX9_takesE_196 : decode cX9_takesE 196 = .ok (.dup, 1) := by decide +kernel
theorem dX9_takesE_197 : decode cX9_takesE 197 = .ok (.getfield 89, 3) := by decide +kernel
theorem dX9_takesE_200 : decode cX9_takesE 200 = .ok (.iconst 1, 1) := by decide +kernel
theorem dX9_takesE_201 : decode cX9_takesE 201 = .ok (.isub, 1) := by decide +kernel
theorem dX9_takesE_202 : decode cX9_takesE 202 = .ok (.putfield 89, 3) := by decide +kernel
theorem dX9_takesE_205 : decode cX9_takesE 205 = .ok (.aload_n 0, 1) := by decide +kernel
theorem dX9_takesE_206 : decode cX9_takesE 206 = .ok (.dup, 1) := by decide +kernel
theorem dX9_takesE_207 : decode cX9_takesE 207 = .ok (.getfield 92, 3) := by decide +kernel
theorem dX9_takesE_210 : decode cX9_takesE 210 = .ok (.iconst 1, 1) := by decide +kernel
theorem dX9_takesE_211 : decode cX9_takesE 211 = .ok (.isub, 1) := by decide +kernel
theorem dX9_takesE_212 : decode cX9_takesE 212 = .ok (.putfield 92, 3) := by decide +kernel
theorem dX9_takesE_215 : decode cX9_takesE 215 = .ok (.aload_n 0, 1) := by decide +kernel
theorem dX9_takesE_216 : decode cX9_takesE 216 = .ok (.dup, 1) := by decide +kernel
theorem dX9_takesE_217 : decode cX9_takesE 217 = .ok (.getfield 56, 3) := by decide +kernel
theorem dX9_takesE_220 : decode cX9_takesE 220 = .ok (.iconst 1, 1) := by decide +kernel
theorem dX9_takesE_221 : decode cX9_takesE 221 = .ok (.iadd, 1) := by decide +kernel
theorem dX9_takesE_222 : decode cX9_takesE 222 = .ok (.putfield 56, 3) := by decide +kernel
theorem dX9_takesE_225 : decode cX9_takesE 225 = .ok (.aload_n 0, 1) := by decide +kernel
theorem dX9_takesE_226 : decode cX9_takesE 226 = .ok (.invokevirtual 296, 3) := by decide +kernel
theorem dX9_takesE_229 : decode cX9_takesE 229 = .ok (.goto (-207), 3) := by decide +kernel
theorem dX9_takesHead_0 : decode cX9_takesHead 0 = .ok (.aload_n 0, 1) := by decide +kernel
theorem dX9_takesHead_1 : decode cX9_takesHead 1 = .ok (.invokevirtual 274, 3) := by decide +kernel
theorem dX9_takesHead_4 : decode cX9_takesHead 4 = .ok (.lookupswitch 56 #[(99, 42), (104, 28)], 28) := by decide +kernel
theorem dX9_takesHead_32 : decode cX9_takesHead 32 = .ok (.aload_n 0, 1) := by decide +kernel
theorem dX9_takesHead_33 : decode cX9_takesHead 33 = .ok (.getfield 68, 3) := by decide +kernel
theorem dX9_takesHead_36 : decode cX9_takesHead 36 = .ok (.iload_n 1, 1) := by decide +kernel
theorem dX9_takesHead_37 : decode cX9_takesHead 37 = .ok (.iconst 0, 1) := by decide +kernel
theorem dX9_takesHead_38 : decode cX9_takesHead 38 = .ok (.iastore, 1) := by decide +kernel
theorem dX9_takesHead_39 : decode cX9_takesHead 39 = .ok (.aload_n 0, 1) := by decide +kernel
theorem dX9_takesHead_40 : decode cX9_takesHead 40 = .ok (.iconst 0, 1) := by decide +kernel
theorem dX9_takesHead_41 : decode cX9_takesHead 41 = .ok (.iconst 4, 1) := by decide +kernel
theorem dX9_takesHead_42 : decode cX9_takesHead 42 = .ok (.invokevirtual 305, 3) := by decide +kernel
theorem dX9_takesHead_45 : decode cX9_takesHead 45 = .ok (.ireturn, 1) := by decide +kernel
theorem dX9_takesHead_46 : decode cX9_takesHead 46 = .ok (.aload_n 0, 1) := by decide +kernel
theorem dX9_takesHead_47 : decode cX9_takesHead 47 = .ok (.getfield 68, 3) := by decide +kernel
theorem dX9_takesHead_50 : decode cX9_takesHead 50 = .ok (.iload_n 1, 1) := by decide +kernel
theorem dX9_takesHead_51 : decode cX9_takesHead 51 = .ok (.iconst 1, 1) := by decide +kernel
theorem dX9_takesHead_52 : decode cX9_takesHead 52 = .ok (.iastore, 1) := by decide +kernel
theorem dX9_takesHead_53 : decode cX9_takesHead 53 = .ok (.aload_n 0, 1) := by decide +kernel
theorem dX9_takesHead_54 : decode cX9_takesHead 54 = .ok (.iconst 4, 1) := by decide +kernel
theorem dX9_takesHead_55 : decode cX9_takesHead 55 = .ok (.iconst 4, 1) := by decide +kernel
theorem dX9_takesHead_56 : decode cX9_takesHead 56 = .ok (.invokevirtual 305, 3) := by decide +kernel
theorem dX9_takesHead_59 : decode cX9_takesHead 59 = .ok (.ireturn, 1) := by decide +kernel
theorem dX9_takesHead_60 : decode cX9_takesHead 60 = .ok (.aload_n 0, 1) := by decide +kernel
theorem dX9_takesHead_61 : decode cX9_takesHead 61 = .ok (.getfield 68, 3) := by decide +kernel
theorem dX9_takesHead_64 : decode cX9_takesHead 64 = .ok (.iload_n 1, 1) := by decide +kernel
theorem dX9_takesHead_65 : decode cX9_takesHead 65 = .ok (.iconst 2, 1) := by decide +kernel
theorem dX9_takesHead_66 : decode cX9_takesHead 66 = .ok (.iastore, 1) := by decide +kernel
theorem dX9_takesHead_67 : decode cX9_takesHead 67 = .ok (.aload_n 0, 1) := by decide +kernel
theorem dX9_takesHead_68 : decode cX9_takesHead 68 = .ok (.bipush 8, 2) := by decide +kernel
theorem dX9_takesHead_70 : decode cX9_takesHead 70 = .ok (.iconst 5, 1) := by decide +kernel
theorem dX9_takesHead_71 : decode cX9_takesHead 71 = .ok (.invokevirtual 305, 3) := by decide +kernel
theorem dX9_takesHead_74 : decode cX9_takesHead 74 = .ok (.ireturn, 1) := by decide +kernel
theorem dX9_takesClause_0 : decode cX9_takesClause 0 = .ok (.aload_n 0, 1) := by decide +kernel
theorem dX9_takesClause_1 : decode cX9_takesClause 1 = .ok (.iload_n 1, 1) := by decide +kernel
theorem dX9_takesClause_2 : decode cX9_takesClause 2 = .ok (.invokevirtual 308, 3) := by decide +kernel
theorem dX9_takesClause_5 : decode cX9_takesClause 5 = .ok (.ifCond .eq 10, 3) := by decide +kernel
theorem dX9_takesClause_8 : decode cX9_takesClause 8 = .ok (.aload_n 0, 1) := by decide +kernel
theorem dX9_takesClause_9 : decode cX9_takesClause 9 = .ok (.invokevirtual 293, 3) := by decide +kernel
theorem dX9_takesClause_12 : decode cX9_takesClause 12 = .ok (.ifCond .ne 5, 3) := by decide +kernel
theorem dX9_takesClause_15 : decode cX9_takesClause 15 = .ok (.iconst 0, 1) := by decide +kernel
theorem dX9_takesClause_16 : decode cX9_takesClause 16 = .ok (.ireturn, 1) := by decide +kernel
theorem dX9_takesClause_17 : decode cX9_takesClause 17 = .ok (.aload_n 0, 1) := by decide +kernel
theorem dX9_takesClause_18 : decode cX9_takesClause 18 = .ok (.getfield 71, 3) := by decide +kernel
theorem dX9_takesClause_21 : decode cX9_takesClause 21 = .ok (.iload_n 1, 1) := by decide +kernel
theorem dX9_takesClause_22 : decode cX9_takesClause 22 = .ok (.aload_n 0, 1) := by decide +kernel
theorem dX9_takesClause_23 : decode cX9_takesClause 23 = .ok (.getfield 59, 3) := by decide +kernel
theorem dX9_takesClause_26 : decode cX9_takesClause 26 = .ok (.iastore, 1) := by decide +kernel
theorem dX9_takesClause_27 : decode cX9_takesClause 27 = .ok (.aload_n 0, 1) := by decide +kernel
theorem dX9_takesClause_28 : decode cX9_takesClause 28 = .ok (.getfield 68, 3) := by decide +kernel
theorem dX9_takesClause_31 : decode cX9_takesClause 31 = .ok (.iload_n 1, 1) := by decide +kernel
theorem dX9_takesClause_32 : decode cX9_takesClause 32 = .ok (.iaload, 1) := by decide +kernel
theorem dX9_takesClause_33 : decode cX9_takesClause 33 = .ok (.iconst 2, 1) := by decide +kernel
theorem dX9_takesClause_34 : decode cX9_takesClause 34 = .ok (.if_icmp .eq 20, 3) := by decide +kernel
theorem dX9_takesClause_37 : decode cX9_takesClause 37 = .ok (.aload_n 0, 1) := by decide +kernel
theorem dX9_takesClause_38 : decode cX9_takesClause 38 = .ok (.bipush 32, 2) := by decide +kernel
theorem dX9_takesClause_40 : decode cX9_takesClause 40 = .ok (.invokevirtual 278, 3) := by decide +kernel
theorem dX9_takesClause_43 : decode cX9_takesClause 43 = .ok (.ifCond .eq 15, 3) := by decide +kernel
theorem dX9_takesClause_46 : decode cX9_takesClause 46 = .ok (.aload_n 0, 1) := by decide +kernel
theorem dX9_takesClause_47 : decode cX9_takesClause 47 = .ok (.iload_n 1, 1) := by decide +kernel
theorem dX9_takesClause_48 : decode cX9_takesClause 48 = .ok (.invokevirtual 311, 3) := by decide +kernel
theorem dX9_takesClause_51 : decode cX9_takesClause 51 = .ok (.ifCond .eq 7, 3) := by decide +kernel
theorem dX9_takesClause_54 : decode cX9_takesClause 54 = .ok (.iconst 1, 1) := by decide +kernel
theorem dX9_takesClause_55 : decode cX9_takesClause 55 = .ok (.goto 4, 3) := by decide +kernel
theorem dX9_takesClause_58 : decode cX9_takesClause 58 = .ok (.iconst 0, 1) := by decide +kernel
theorem dX9_takesClause_59 : decode cX9_takesClause 59 = .ok (.ireturn, 1) := by decide +kernel
theorem dX9_goesText_0 : decode cX9_goesText 0 = .ok (.aload_n 0, 1) := by decide +kernel
theorem dX9_goesText_1 : decode cX9_goesText 1 = .ok (.iconst 0, 1) := by decide +kernel
theorem dX9_goesText_2 : decode cX9_goesText 2 = .ok (.putfield 56, 3) := by decide +kernel
theorem dX9_goesText_5 : decode cX9_goesText 5 = .ok (.aload_n 0, 1) := by decide +kernel
theorem dX9_goesText_6 : decode cX9_goesText 6 = .ok (.bipush 100, 2) := by decide +kernel
theorem dX9_goesText_8 : decode cX9_goesText 8 = .ok (.iload_n 1, 1) := by decide +kernel
theorem dX9_goesText_9 : decode cX9_goesText 9 = .ok (.imul, 1) := by decide +kernel
theorem dX9_goesText_10 : decode cX9_goesText 10 = .ok (.putfield 86, 3) := by decide +kernel
theorem dX9_goesText_13 : decode cX9_goesText 13 = .ok (.iconst 0, 1) := by decide +kernel
theorem dX9_goesText_14 : decode cX9_goesText 14 = .ok (.istore_n 2, 1) := by decide +kernel
theorem dX9_goesText_15 : decode cX9_goesText 15 = .ok (.aload_n 0, 1) := by decide +kernel
theorem dX9_goesText_16 : decode cX9_goesText 16 = .ok (.bipush 10, 2) := by decide +kernel
theorem dX9_goesText_18 : decode cX9_goesText 18 = .ok (.iload_n 1, 1) := by decide +kernel
theorem dX9_goesText_19 : decode cX9_goesText 19 = .ok (.imul, 1) := by decide +kernel
theorem dX9_goesText_20 : decode cX9_goesText 20 = .ok (.iload_n 2, 1) := by decide +kernel
theorem dX9_goesText_21 : decode cX9_goesText 21 = .ok (.iadd, 1) := by decide +kernel
theorem dX9_goesText_22 : decode cX9_goesText 22 = .ok (.invokevirtual 314, 3) := by decide +kernel
theorem dX9_goesText_25 : decode cX9_goesText 25 = .ok (.ifCond .ne 5, 3) := by decide +kernel
theorem dX9_goesText_28 : decode cX9_goesText 28 = .ok (.iconst 0, 1) := by decide +kernel
theorem dX9_goesText_29 : decode cX9_goesText 29 = .ok (.ireturn, 1) := by decide +kernel
theorem dX9_goesText_30 : decode cX9_goesText 30 = .ok (.iinc 2 1, 3) := by decide +kernel
theorem dX9_goesText_33 : decode cX9_goesText 33 = .ok (.aload_n 0, 1) := by decide +kernel
theorem dX9_goesText_34 : decode cX9_goesText 34 = .ok (.getfield 65, 3) := by decide +kernel
theorem dX9_goesText_37 : decode cX9_goesText 37 = .ok (.iload_n 1, 1) := by decide +kernel
theorem dX9_goesText_38 : decode cX9_goesText 38 = .ok (.iload_n 2, 1) := by decide +kernel
theorem dX9_goesText_39 : decode cX9_goesText 39 = .ok (.iastore, 1) := by decide +kernel
theorem dX9_goesText_40 : decode cX9_goesText 40 = .ok (.aload_n 0, 1) := by decide +kernel
theorem dX9_goesText_41 : decode cX9_goesText 41 = .ok (.getfield 56, 3) := by decide +kernel
theorem dX9_goesText_44 : decode cX9_goesText 44 = .ok (.aload_n 0, 1) := by decide +kernel
theorem dX9_goesText_45 : decode cX9_goesText 45 = .ok (.getfield 53, 3) := by decide +kernel
theorem dX9_goesText_48 : decode cX9_goesText 48 = .ok (.if_icmp .ne 5, 3) := by decide +kernel
theorem dX9_goesText_51 : decode cX9_goesText 51 = .ok (.iconst 1, 1) := by decide +kernel
theorem dX9_goesText_52 : decode cX9_goesText 52 = .ok (.ireturn, 1) := by decide +kernel
theorem dX9_goesText_53 : decode cX9_goesText 53 = .ok (.iload_n 2, 1) := by decide +kernel
theorem dX9_goesText_54 : decode cX9_goesText 54 = .ok (.bipush 10, 2) := by decide +kernel
theorem dX9_goesText_56 : decode cX9_goesText 56 = .ok (.if_icmp .eq 12, 3) := by decide +kernel
theorem dX9_goesText_59 : decode cX9_goesText 59 = .ok (.aload_n 0, 1) := by decide +kernel
theorem dX9_goesText_60 : decode cX9_goesText 60 = .ok (.bipush 59, 2) := by decide +kernel
theorem dX9_goesText_62 : decode cX9_goesText 62 = .ok (.invokevirtual 278, 3) := by decide +kernel
theorem dX9_goesText_65 : decode cX9_goesText 65 = .ok (.ifCond .ne (-50), 3) := by decide +kernel
theorem dX9_goesText_68 : decode cX9_goesText 68 = .ok (.iconst 0, 1) := by decide +kernel
theorem dX9_goesText_69 : decode cX9_goesText 69 = .ok (.ireturn, 1) := by decide +kernel
theorem dX9_square_0 : decode cX9_square 0 = .ok (.aload_n 0, 1) := by decide +kernel
theorem dX9_square_1 : decode cX9_square 1 = .ok (.getfield 47, 3) := by decide +kernel
theorem dX9_square_4 : decode cX9_square 4 = .ok (.bipush 6, 2) := by decide +kernel
theorem dX9_square_6 : decode cX9_square 6 = .ok (.if_icmp .ne 6, 3) := by decide +kernel
theorem dX9_square_9 : decode cX9_square 9 = .ok (.bipush (-4), 2) := by decide +kernel
theorem dX9_square_11 : decode cX9_square 11 = .ok (.ireturn, 1) := by decide +kernel
theorem dX9_square_12 : decode cX9_square 12 = .ok (.aload_n 0, 1) := by decide +kernel
theorem dX9_square_13 : decode cX9_square 13 = .ok (.aload_n 0, 1) := by decide +kernel
theorem dX9_square_14 : decode cX9_square 14 = .ok (.getfield 47, 3) := by decide +kernel
theorem dX9_square_17 : decode cX9_square 17 = .ok (.invokevirtual 317, 3) := by decide +kernel
theorem dX9_square_20 : decode cX9_square 20 = .ok (.istore_n 1, 1) := by decide +kernel
theorem dX9_square_21 : decode cX9_square 21 = .ok (.aload_n 0, 1) := by decide +kernel
theorem dX9_square_22 : decode cX9_square 22 = .ok (.iconst 0, 1) := by decide +kernel
theorem dX9_square_23 : decode cX9_square 23 = .ok (.putfield 53, 3) := by decide +kernel
theorem dX9_square_26 : decode cX9_square 26 = .ok (.iload_n 1, 1) := by decide +kernel
theorem dX9_square_27 : decode cX9_square 27 = .ok (.ifCond .ne 11, 3) := by decide +kernel
theorem dX9_square_30 : decode cX9_square 30 = .ok (.bipush (-10), 2) := by decide +kernel
theorem dX9_square_32 : decode cX9_square 32 = .ok (.aload_n 0, 1) := by decide +kernel
theorem dX9_square_33 : decode cX9_square 33 = .ok (.getfield 56, 3) := by decide +kernel
theorem dX9_square_36 : decode cX9_square 36 = .ok (.isub, 1) := by decide +kernel
theorem dX9_square_37 : decode cX9_square 37 = .ok (.ireturn, 1) := by decide +kernel
theorem dX9_square_38 : decode cX9_square 38 = .ok (.aload_n 0, 1) := by decide +kernel
theorem dX9_square_39 : decode cX9_square 39 = .ok (.aload_n 0, 1) := by decide +kernel
theorem dX9_square_40 : decode cX9_square 40 = .ok (.getfield 47, 3) := by decide +kernel
theorem dX9_square_43 : decode cX9_square 43 = .ok (.putfield 50, 3) := by decide +kernel
theorem dX9_square_46 : decode cX9_square 46 = .ok (.aload_n 0, 1) := by decide +kernel
theorem dX9_square_47 : decode cX9_square 47 = .ok (.dup, 1) := by decide +kernel
theorem dX9_square_48 : decode cX9_square 48 = .ok (.getfield 47, 3) := by decide +kernel
theorem dX9_square_51 : decode cX9_square 51 = .ok (.iconst 1, 1) := by decide +kernel
theorem dX9_square_52 : decode cX9_square 52 = .ok (.iadd, 1) := by decide +kernel
theorem dX9_square_53 : decode cX9_square 53 = .ok (.putfield 47, 3) := by decide +kernel
theorem dX9_square_56 : decode cX9_square 56 = .ok (.aload_n 0, 1) := by decide +kernel
theorem dX9_square_57 : decode cX9_square 57 = .ok (.getfield 50, 3) := by decide +kernel
theorem dX9_square_60 : decode cX9_square 60 = .ok (.ireturn, 1) := by decide +kernel
theorem dX9_begin_0 : decode cX9_begin 0 = .ok (.aload_n 0, 1) := by decide +kernel
theorem dX9_begin_1 : decode cX9_begin 1 = .ok (.getfield 50, 3) := by decide +kernel
theorem dX9_begin_4 : decode cX9_begin 4 = .ok (.ifCond .ge 7, 3) := by decide +kernel
theorem dX9_begin_7 : decode cX9_begin 7 = .ok (.iconst 0, 1) := by decide +kernel
theorem dX9_begin_8 : decode cX9_begin 8 = .ok (.goto 10, 3) := by decide +kernel
theorem dX9_begin_11 : decode cX9_begin 11 = .ok (.bipush 10, 2) := by decide +kernel
theorem dX9_begin_13 : decode cX9_begin 13 = .ok (.aload_n 0, 1) := by decide +kernel
theorem dX9_begin_14 : decode cX9_begin 14 = .ok (.getfield 50, 3) := by decide +kernel
theorem dX9_begin_17 : decode cX9_begin 17 = .ok (.imul, 1) := by decide +kernel
theorem dX9_begin_18 : decode cX9_begin 18 = .ok (.ireturn, 1) := by decide +kernel
theorem dX9_behind_0 : decode cX9_behind 0 = .ok (.aload_n 0, 1) := by decide +kernel
theorem dX9_behind_1 : decode cX9_behind 1 = .ok (.getfield 50, 3) := by decide +kernel
theorem dX9_behind_4 : decode cX9_behind 4 = .ok (.ifCond .ge 7, 3) := by decide +kernel
theorem dX9_behind_7 : decode cX9_behind 7 = .ok (.iconst 0, 1) := by decide +kernel
theorem dX9_behind_8 : decode cX9_behind 8 = .ok (.goto 20, 3) := by decide +kernel
theorem dX9_behind_11 : decode cX9_behind 11 = .ok (.bipush 10, 2) := by decide +kernel
theorem dX9_behind_13 : decode cX9_behind 13 = .ok (.aload_n 0, 1) := by decide +kernel
theorem dX9_behind_14 : decode cX9_behind 14 = .ok (.getfield 50, 3) := by decide +kernel
theorem dX9_behind_17 : decode cX9_behind 17 = .ok (.imul, 1) := by decide +kernel
theorem dX9_behind_18 : decode cX9_behind 18 = .ok (.aload_n 0, 1) := by decide +kernel
theorem dX9_behind_19 : decode cX9_behind 19 = .ok (.getfield 65, 3) := by decide +kernel
theorem dX9_behind_22 : decode cX9_behind 22 = .ok (.aload_n 0, 1) := by decide +kernel
theorem dX9_behind_23 : decode cX9_behind 23 = .ok (.getfield 50, 3) := by decide +kernel
theorem dX9_behind_26 : decode cX9_behind 26 = .ok (.iaload, 1) := by decide +kernel
theorem dX9_behind_27 : decode cX9_behind 27 = .ok (.iadd, 1) := by decide +kernel
theorem dX9_behind_28 : decode cX9_behind 28 = .ok (.ireturn, 1) := by decide +kernel
theorem dX9_spark_0 : decode cX9_spark 0 = .ok (.bipush 80, 2) := by decide +kernel
theorem dX9_spark_2 : decode cX9_spark 2 = .ok (.istore_n 1, 1) := by decide +kernel
theorem dX9_spark_3 : decode cX9_spark 3 = .ok (.aload_n 0, 1) := by decide +kernel
theorem dX9_spark_4 : decode cX9_spark 4 = .ok (.invokevirtual 320, 3) := by decide +kernel
theorem dX9_spark_7 : decode cX9_spark 7 = .ok (.istore_n 2, 1) := by decide +kernel
theorem dX9_spark_8 : decode cX9_spark 8 = .ok (.iload_n 2, 1) := by decide +kernel
theorem dX9_spark_9 : decode cX9_spark 9 = .ok (.aload_n 0, 1) := by decide +kernel
theorem dX9_spark_10 : decode cX9_spark 10 = .ok (.invokevirtual 323, 3) := by decide +kernel
theorem dX9_spark_13 : decode cX9_spark 13 = .ok (.if_icmp .ge 30, 3) := by decide +kernel
theorem dX9_spark_16 : decode cX9_spark 16 = .ok (.aload_n 0, 1) := by decide +kernel
theorem dX9_spark_17 : decode cX9_spark 17 = .ok (.getfield 68, 3) := by decide +kernel
theorem dX9_spark_20 : decode cX9_spark 20 = .ok (.iload_n 2, 1) := by decide +kernel
theorem dX9_spark_21 : decode cX9_spark 21 = .ok (.iaload, 1) := by decide +kernel
theorem dX9_spark_22 : decode cX9_spark 22 = .ok (.iconst 2, 1) := by decide +kernel
theorem dX9_spark_23 : decode cX9_spark 23 = .ok (.if_icmp .ne 12, 3) := by decide +kernel
theorem dX9_spark_26 : decode cX9_spark 26 = .ok (.aload_n 0, 1) := by decide +kernel
theorem dX9_spark_27 : decode cX9_spark 27 = .ok (.getfield 71, 3) := by decide +kernel
theorem dX9_spark_30 : decode cX9_spark 30 = .ok (.iload_n 2, 1) := by decide +kernel
theorem dX9_spark_31 : decode cX9_spark 31 = .ok (.iaload, 1) := by decide +kernel
theorem dX9_spark_32 : decode cX9_spark 32 = .ok (.goto 4, 3) := by decide +kernel
theorem dX9_spark_35 : decode cX9_spark 35 = .ok (.iload_n 1, 1) := by decide +kernel
theorem dX9_spark_36 : decode cX9_spark 36 = .ok (.istore_n 1, 1) := by decide +kernel
theorem dX9_spark_37 : decode cX9_spark 37 = .ok (.iinc 2 1, 3) := by decide +kernel
theorem dX9_spark_40 : decode cX9_spark 40 = .ok (.goto (-32), 3) := by decide +kernel
theorem dX9_spark_43 : decode cX9_spark 43 = .ok (.iload_n 1, 1) := by decide +kernel
theorem dX9_spark_44 : decode cX9_spark 44 = .ok (.ireturn, 1) := by decide +kernel
theorem dX9_beside_0 : decode cX9_beside 0 = .ok (.iconst 0, 1) := by decide +kernel
theorem dX9_beside_1 : decode cX9_beside 1 = .ok (.istore_n 3, 1) := by decide +kernel
theorem dX9_beside_2 : decode cX9_beside 2 = .ok (.iload_n 1, 1) := by decide +kernel
theorem dX9_beside_3 : decode cX9_beside 3 = .ok (.ifCond .le 32, 3) := by decide +kernel
theorem dX9_beside_6 : decode cX9_beside 6 = .ok (.aload_n 0, 1) := by decide +kernel
theorem dX9_beside_7 : decode cX9_beside 7 = .ok (.aload_n 0, 1) := by decide +kernel
theorem dX9_beside_8 : decode cX9_beside 8 = .ok (.getfield 13, 3) := by decide +kernel
theorem dX9_beside_11 : decode cX9_beside 11 = .ok (.iload_n 1, 1) := by decide +kernel
theorem dX9_beside_12 : decode cX9_beside 12 = .ok (.iconst 1, 1) := by decide +kernel
theorem dX9_beside_13 : decode cX9_beside 13 = .ok (.isub, 1) := by decide +kernel
theorem dX9_beside_14 : decode cX9_beside 14 = .ok (.invokevirtual 263, 3) := by decide +kernel
theorem dX9_beside_17 : decode cX9_beside 17 = .ok (.ifCond .ne 18, 3) := by decide +kernel
theorem dX9_beside_20 : decode cX9_beside 20 = .ok (.aload_n 0, 1) := by decide +kernel
theorem dX9_beside_21 : decode cX9_beside 21 = .ok (.getfield 32, 3) := by decide +kernel
theorem dX9_beside_24 : decode cX9_beside 24 = .ok (.iload_n 1, 1) := by decide +kernel
theorem dX9_beside_25 : decode cX9_beside 25 = .ok (.iconst 1, 1) := by decide +kernel
theorem dX9_beside_26 : decode cX9_beside 26 = .ok (.isub, 1) := by decide +kernel
theorem dX9_beside_27 : decode cX9_beside 27 = .ok (.iaload, 1) := by decide +kernel
theorem dX9_beside_28 : decode cX9_beside 28 = .ok (.iload_n 2, 1) := by decide +kernel
theorem dX9_beside_29 : decode cX9_beside 29 = .ok (.if_icmp .lt 6, 3) := by decide +kernel
theorem dX9_beside_32 : decode cX9_beside 32 = .ok (.iinc 3 1, 3) := by decide +kernel
theorem dX9_beside_35 : decode cX9_beside 35 = .ok (.iload_n 1, 1) := by decide +kernel
theorem dX9_beside_36 : decode cX9_beside 36 = .ok (.aload_n 0, 1) := by decide +kernel
theorem dX9_beside_37 : decode cX9_beside 37 = .ok (.getfield 7, 3) := by decide +kernel
theorem dX9_beside_40 : decode cX9_beside 40 = .ok (.iconst 1, 1) := by decide +kernel
theorem dX9_beside_41 : decode cX9_beside 41 = .ok (.isub, 1) := by decide +kernel
theorem dX9_beside_42 : decode cX9_beside 42 = .ok (.if_icmp .ge 32, 3) := by decide +kernel
theorem dX9_beside_45 : decode cX9_beside 45 = .ok (.aload_n 0, 1) := by decide +kernel
theorem dX9_beside_46 : decode cX9_beside 46 = .ok (.aload_n 0, 1) := by decide +kernel
theorem dX9_beside_47 : decode cX9_beside 47 = .ok (.getfield 13, 3) := by decide +kernel
theorem dX9_beside_50 : decode cX9_beside 50 = .ok (.iload_n 1, 1) := by decide +kernel
theorem dX9_beside_51 : decode cX9_beside 51 = .ok (.iconst 1, 1) := by decide +kernel
theorem dX9_beside_52 : decode cX9_beside 52 = .ok (.iadd, 1) := by decide +kernel
theorem dX9_beside_53 : decode cX9_beside 53 = .ok (.invokevirtual 263, 3) := by decide +kernel
theorem dX9_beside_56 : decode cX9_beside 56 = .ok (.ifCond .ne 18, 3) := by decide +kernel
theorem dX9_beside_59 : decode cX9_beside 59 = .ok (.aload_n 0, 1) := by decide +kernel
theorem dX9_beside_60 : decode cX9_beside 60 = .ok (.getfield 32, 3) := by decide +kernel
theorem dX9_beside_63 : decode cX9_beside 63 = .ok (.iload_n 1, 1) := by decide +kernel
theorem dX9_beside_64 : decode cX9_beside 64 = .ok (.iconst 1, 1) := by decide +kernel
theorem dX9_beside_65 : decode cX9_beside 65 = .ok (.iadd, 1) := by decide +kernel
theorem dX9_beside_66 : decode cX9_beside 66 = .ok (.iaload, 1) := by decide +kernel
theorem dX9_beside_67 : decode cX9_beside 67 = .ok (.iload_n 2, 1) := by decide +kernel
theorem dX9_beside_68 : decode cX9_beside 68 = .ok (.if_icmp .lt 6, 3) := by decide +kernel
theorem dX9_beside_71 : decode cX9_beside 71 = .ok (.iinc 3 1, 3) := by decide +kernel
theorem dX9_beside_74 : decode cX9_beside 74 = .ok (.iload_n 3, 1) := by decide +kernel
theorem dX9_beside_75 : decode cX9_beside 75 = .ok (.ireturn, 1) := by decide +kernel
theorem dX9_factOf_0 : decode cX9_factOf 0 = .ok (.iload_n 1, 1) := by decide +kernel
theorem dX9_factOf_1 : decode cX9_factOf 1 = .ok (.tableswitch 69 0 4 #[35, 37, 44, 51, 61], 35) := by decide +kernel
theorem dX9_factOf_36 : decode cX9_factOf 36 = .ok (.iload_n 2, 1) := by decide +kernel
theorem dX9_factOf_37 : decode cX9_factOf 37 = .ok (.ireturn, 1) := by decide +kernel
theorem dX9_factOf_38 : decode cX9_factOf 38 = .ok (.aload_n 0, 1) := by decide +kernel
theorem dX9_factOf_39 : decode cX9_factOf 39 = .ok (.getfield 25, 3) := by decide +kernel
theorem dX9_factOf_42 : decode cX9_factOf 42 = .ok (.iload_n 2, 1) := by decide +kernel
theorem dX9_factOf_43 : decode cX9_factOf 43 = .ok (.iaload, 1) := by decide +kernel
theorem dX9_factOf_44 : decode cX9_factOf 44 = .ok (.ireturn, 1) := by decide +kernel
theorem dX9_factOf_45 : decode cX9_factOf 45 = .ok (.aload_n 0, 1) := by decide +kernel
theorem dX9_factOf_46 : decode cX9_factOf 46 = .ok (.getfield 29, 3) := by decide +kernel
theorem dX9_factOf_49 : decode cX9_factOf 49 = .ok (.iload_n 2, 1) := by decide +kernel
theorem dX9_factOf_50 : decode cX9_factOf 50 = .ok (.iaload, 1) := by decide +kernel
theorem dX9_factOf_51 : decode cX9_factOf 51 = .ok (.ireturn, 1) := by decide +kernel
theorem dX9_factOf_52 : decode cX9_factOf 52 = .ok (.aload_n 0, 1) := by decide +kernel
theorem dX9_factOf_53 : decode cX9_factOf 53 = .ok (.getfield 32, 3) := by decide +kernel
theorem dX9_factOf_56 : decode cX9_factOf 56 = .ok (.iload_n 2, 1) := by decide +kernel
theorem dX9_factOf_57 : decode cX9_factOf 57 = .ok (.iaload, 1) := by decide +kernel
theorem dX9_factOf_58 : decode cX9_factOf 58 = .ok (.bipush 10, 2) := by decide +kernel
theorem dX9_factOf_60 : decode cX9_factOf 60 = .ok (.idiv, 1) := by decide +kernel
theorem dX9_factOf_61 : decode cX9_factOf 61 = .ok (.ireturn, 1) := by decide +kernel
theorem dX9_factOf_62 : decode cX9_factOf 62 = .ok (.aload_n 0, 1) := by decide +kernel
theorem dX9_factOf_63 : decode cX9_factOf 63 = .ok (.iload_n 2, 1) := by decide +kernel
theorem dX9_factOf_64 : decode cX9_factOf 64 = .ok (.bipush 50, 2) := by decide +kernel
theorem dX9_factOf_66 : decode cX9_factOf 66 = .ok (.invokevirtual 326, 3) := by decide +kernel
theorem dX9_factOf_69 : decode cX9_factOf 69 = .ok (.ireturn, 1) := by decide +kernel
theorem dX9_factOf_70 : decode cX9_factOf 70 = .ok (.aload_n 0, 1) := by decide +kernel
theorem dX9_factOf_71 : decode cX9_factOf 71 = .ok (.getfield 22, 3) := by decide +kernel
theorem dX9_factOf_74 : decode cX9_factOf 74 = .ok (.bipush 10, 2) := by decide +kernel
theorem dX9_factOf_76 : decode cX9_factOf 76 = .ok (.irem, 1) := by decide +kernel
theorem dX9_factOf_77 : decode cX9_factOf 77 = .ok (.ireturn, 1) := by decide +kernel
theorem dX9_holds_0 : decode cX9_holds 0 = .ok (.iconst 0, 1) := by decide +kernel
theorem dX9_holds_1 : decode cX9_holds 1 = .ok (.istore_n 3, 1) := by decide +kernel
theorem dX9_holds_2 : decode cX9_holds 2 = .ok (.aload_n 0, 1) := by decide +kernel
theorem dX9_holds_3 : decode cX9_holds 3 = .ok (.getfield 74, 3) := by decide +kernel
theorem dX9_holds_6 : decode cX9_holds 6 = .ok (.iload_n 1, 1) := by decide +kernel
theorem dX9_holds_7 : decode cX9_holds 7 = .ok (.iaload, 1) := by decide +kernel
theorem dX9_holds_8 : decode cX9_holds 8 = .ok (.istore 4, 2) := by decide +kernel
theorem dX9_holds_10 : decode cX9_holds 10 = .ok (.iload 4, 2) := by decide +kernel
theorem dX9_holds_12 : decode cX9_holds 12 = .ok (.aload_n 0, 1) := by decide +kernel
theorem dX9_holds_13 : decode cX9_holds 13 = .ok (.getfield 77, 3) := by decide +kernel
theorem dX9_holds_16 : decode cX9_holds 16 = .ok (.iload_n 1, 1) := by decide +kernel
theorem dX9_holds_17 : decode cX9_holds 17 = .ok (.iaload, 1) := by decide +kernel
theorem dX9_holds_18 : decode cX9_holds 18 = .ok (.if_icmp .ge 225, 3) := by decide +kernel
theorem dX9_holds_21 : decode cX9_holds 21 = .ok (.aload_n 0, 1) := by decide +kernel
theorem dX9_holds_22 : decode cX9_holds 22 = .ok (.getfield 80, 3) := by decide +kernel
theorem dX9_holds_25 : decode cX9_holds 25 = .ok (.iload 4, 2) := by decide +kernel
theorem dX9_holds_27 : decode cX9_holds 27 = .ok (.iaload, 1) := by decide +kernel
theorem dX9_holds_28 : decode cX9_holds 28 = .ok (.istore 5, 2) := by decide +kernel
theorem dX9_holds_30 : decode cX9_holds 30 = .ok (.iload 5, 2) := by decide +kernel
theorem dX9_holds_32 : decode cX9_holds 32 = .ok (.bipush (-33), 2) := by decide +kernel
theorem dX9_holds_34 : decode cX9_holds 34 = .ok (.if_icmp .ne 30, 3) := by decide +kernel
theorem dX9_holds_37 : decode cX9_holds 37 = .ok (.aload_n 0, 1) := by decide +kernel
theorem dX9_holds_38 : decode cX9_holds 38 = .ok (.getfield 98, 3) := by decide +kernel
theorem dX9_holds_41 : decode cX9_holds 41 = .ok (.iload_n 3, 1) := by decide +kernel
theorem dX9_holds_42 : decode cX9_holds 42 = .ok (.iconst 1, 1) := by decide +kernel
theorem dX9_holds_43 : decode cX9_holds 43 = .ok (.isub, 1) := by decide +kernel
theorem dX9_holds_44 : decode cX9_holds 44 = .ok (.aload_n 0, 1) := by decide +kernel
theorem dX9_holds_45 : decode cX9_holds 45 = .ok (.getfield 98, 3) := by decide +kernel
theorem dX9_holds_48 : decode cX9_holds 48 = .ok (.iload_n 3, 1) := by decide +kernel
theorem dX9_holds_49 : decode cX9_holds 49 = .ok (.iconst 1, 1) := by decide +kernel
theorem dX9_holds_50 : decode cX9_holds 50 = .ok (.isub, 1) := by decide +kernel
theorem dX9_holds_51 : decode cX9_holds 51 = .ok (.baload, 1) := by decide +kernel
theorem dX9_holds_52 : decode cX9_holds 52 = .ok (.ifCond .ne 7, 3) := by decide +kernel
theorem dX9_holds_55 : decode cX9_holds 55 = .ok (.iconst 1, 1) := by decide +kernel
theorem dX9_holds_56 : decode cX9_holds 56 = .ok (.goto 4, 3) := by decide +kernel
theorem dX9_holds_59 : decode cX9_holds 59 = .ok (.iconst 0, 1) := by decide +kernel
theorem dX9_holds_60 : decode cX9_holds 60 = .ok (.bastore, 1) := by decide +kernel
theorem dX9_holds_61 : decode cX9_holds 61 = .ok (.goto 176, 3) := by decide +kernel
theorem dX9_holds_64 : decode cX9_holds 64 = .ok (.iload 5, 2) := by decide +kernel
theorem dX9_holds_66 : decode cX9_holds 66 = .ok (.ifCond .ge 77, 3) := by decide +kernel
theorem dX9_holds_69 : decode cX9_holds 69 = .ok (.iinc 3 (-1), 3) := by decide +kernel
theorem dX9_holds_72 : decode cX9_holds 72 = .ok (.aload_n 0, 1) := by decide +kernel
theorem dX9_holds_73 : decode cX9_holds 73 = .ok (.getfield 98, 3) := by decide +kernel
theorem dX9_holds_76 : decode cX9_holds 76 = .ok (.iload_n 3, 1) := by decide +kernel
theorem dX9_holds_77 : decode cX9_holds 77 = .ok (.iconst 1, 1) := by decide +kernel
theorem dX9_holds_78 : decode cX9_holds 78 = .ok (.isub, 1) := by decide +kernel
theorem dX9_holds_79 : decode cX9_holds 79 = .ok (.iload 5, 2) := by decide +kernel
theorem dX9_holds_81 : decode cX9_holds 81 = .ok (.bipush (-38), 2) := by decide +kernel
theorem dX9_holds_83 : decode cX9_holds 83 = .ok (.if_icmp .ne 31, 3) := by decide +kernel
theorem dX9_holds_86 : decode cX9_holds 86 = .ok (.aload_n 0, 1) := by decide +kernel
theorem dX9_holds_87 : decode cX9_holds 87 = .ok (.getfield 98, 3) := by decide +kernel
theorem dX9_holds_90 : decode cX9_holds 90 = .ok (.iload_n 3, 1) := by decide +kernel
theorem dX9_holds_91 : decode cX9_holds 91 = .ok (.iconst 1, 1) := by decide +kernel
theorem dX9_holds_92 : decode cX9_holds 92 = .ok (.isub, 1) := by decide +kernel
theorem dX9_holds_93 : decode cX9_holds 93 = .ok (.baload, 1) := by decide +kernel
theorem dX9_holds_94 : decode cX9_holds 94 = .ok (.ifCond .eq 16, 3) := by decide +kernel
theorem dX9_holds_97 : decode cX9_holds 97 = .ok (.aload_n 0, 1) := by decide +kernel
theorem dX9_holds_98 : decode cX9_holds 98 = .ok (.getfield 98, 3) := by decide +kernel
theorem dX9_holds_101 : decode cX9_holds 101 = .ok (.iload_n 3, 1) := by decide +kernel
theorem dX9_holds_102 : decode cX9_holds 102 = .ok (.baload, 1) := by decide +kernel
theorem dX9_holds_103 : decode cX9_holds 103 = .ok (.ifCond .eq 7, 3) := by decide +kernel
theorem dX9_holds_106 : decode cX9_holds 106 = .ok (.iconst 1, 1) := by decide +kernel
theorem dX9_holds_107 : decode cX9_holds 107 = .ok (.goto 32, 3) := by decide +kernel
theorem dX9_holds_110 : decode cX9_holds 110 = .ok (.iconst 0, 1) := by decide +kernel
theorem dX9_holds_111 : decode cX9_holds 111 = .ok (.goto 28, 3) := by decide +kernel
theorem dX9_holds_114 : decode cX9_holds 114 = .ok (.aload_n 0, 1) := by decide +kernel
theorem dX9_holds_115 : decode cX9_holds 115 = .ok (.getfield 98, 3) := by decide +kernel
theorem dX9_holds_118 : decode cX9_holds 118 = .ok (.iload_n 3, 1) := by decide +kernel
theorem dX9_holds_119 : decode cX9_holds 119 = .ok (.iconst 1, 1) := by decide +kernel
theorem dX9_holds_120 : decode cX9_holds 120 = .ok (.isub, 1) := by decide +kernel
theorem dX9_holds_121 : decode cX9_holds 121 = .ok (.baload, 1) := by decide +kernel
theorem dX9_holds_122 : decode cX9_holds 122 = .ok (.ifCond .ne 12, 3) := by decide +kernel
theorem dX9_holds_125 : decode cX9_holds 125 = .ok (.aload_n 0, 1) := by decide +kernel
theorem dX9_holds_126 : decode cX9_holds 126 = .ok (.getfield 98, 3) := by decide +kernel
theorem dX9_holds_129 : decode cX9_holds 129 = .ok (.iload_n 3, 1) := by decide +kernel
theorem dX9_holds_130 : decode cX9_holds 130 = .ok (.baload, 1) := by decide +kernel
theorem dX9_holds_131 : decode cX9_holds 131 = .ok (.ifCond .eq 7, 3) := by decide +kernel
theorem dX9_holds_134 : decode cX9_holds 134 = .ok (.iconst 1, 1) := by decide +kernel
theorem dX9_holds_135 : decode cX9_holds 135 = .ok (.goto 4, 3) := by decide +kernel
theorem dX9_holds_138 : decode cX9_holds 138 = .ok (.iconst 0, 1) := by decide +kernel
theorem dX9_holds_139 : decode cX9_holds 139 = .ok (.bastore, 1) := by decide +kernel
theorem dX9_holds_140 : decode cX9_holds 140 = .ok (.goto 97, 3) := by decide +kernel
theorem dX9_holds_143 : decode cX9_holds 143 = .ok (.aload_n 0, 1) := by decide +kernel
theorem dX9_holds_144 : decode cX9_holds 144 = .ok (.iload 5, 2) := by decide +kernel
theorem dX9_holds_146 : decode cX9_holds 146 = .ok (.sipush 1000, 3) := by decide +kernel
theorem dX9_holds_149 : decode cX9_holds 149 = .ok (.idiv, 1) := by decide +kernel
theorem dX9_holds_150 : decode cX9_holds 150 = .ok (.iload_n 2, 1) := by decide +kernel
theorem dX9_holds_151 : decode cX9_holds 151 = .ok (.invokevirtual 329, 3) := by decide +kernel
theorem dX9_holds_154 : decode cX9_holds 154 = .ok (.istore 6, 2) := by decide +kernel
theorem dX9_holds_156 : decode cX9_holds 156 = .ok (.iload 5, 2) := by decide +kernel
theorem dX9_holds_158 : decode cX9_holds 158 = .ok (.bipush 100, 2) := by decide +kernel
theorem dX9_holds_160 : decode cX9_holds 160 = .ok (.idiv, 1) := by decide +kernel
theorem dX9_holds_161 : decode cX9_holds 161 = .ok (.bipush 10, 2) := by decide +kernel
theorem dX9_holds_163 : decode cX9_holds 163 = .ok (.irem, 1) := by decide +kernel
theorem dX9_holds_164 : decode cX9_holds 164 = .ok (.istore 7, 2) := by decide +kernel
theorem dX9_holds_166 : decode cX9_holds 166 = .ok (.aload_n 0, 1) := by decide +kernel
theorem dX9_holds_167 : decode cX9_holds 167 = .ok (.getfield 98, 3) := by decide +kernel
theorem dX9_holds_170 : decode cX9_holds 170 = .ok (.iload_n 3, 1) := by decide +kernel
theorem dX9_holds_171 : decode cX9_holds 171 = .ok (.iload 7, 2) := by decide +kernel
theorem dX9_holds_173 : decode cX9_holds 173 = .ok (.ifCond .ne 21, 3) := by decide +kernel
theorem dX9_holds_176 : decode cX9_holds 176 = .ok (.iload 6, 2) := by decide +kernel
theorem dX9_holds_178 : decode cX9_holds 178 = .ok (.iload 5, 2) := by decide +kernel
theorem dX9_holds_180 : decode cX9_holds 180 = .ok (.bipush 100, 2) := by decide +kernel
theorem dX9_holds_182 : decode cX9_holds 182 = .ok (.irem, 1) := by decide +kernel
theorem dX9_holds_183 : decode cX9_holds 183 = .ok (.if_icmp .ge 7, 3) := by decide +kernel
theorem dX9_holds_186 : decode cX9_holds 186 = .ok (.iconst 1, 1) := by decide +kernel
theorem dX9_holds_187 : decode cX9_holds 187 = .ok (.goto 46, 3) := by decide +kernel
theorem dX9_holds_190 : decode cX9_holds 190 = .ok (.iconst 0, 1) := by decide +kernel
theorem dX9_holds_191 : decode cX9_holds 191 = .ok (.goto 42, 3) := by decide +kernel
theorem dX9_holds_194 : decode cX9_holds 194 = .ok (.iload 7, 2) := by decide +kernel
theorem dX9_holds_196 : decode cX9_holds 196 = .ok (.iconst 1, 1) := by decide +kernel
theorem dX9_holds_197 : decode cX9_holds 197 = .ok (.if_icmp .ne 21, 3) := by decide +kernel
theorem dX9_holds_200 : decode cX9_holds 200 = .ok (.iload 6, 2) := by decide +kernel
theorem dX9_holds_202 : decode cX9_holds 202 = .ok (.iload 5, 2) := by decide +kernel
theorem dX9_holds_204 : decode cX9_holds 204 = .ok (.bipush 100, 2) := by decide +kernel
theorem dX9_holds_206 : decode cX9_holds 206 = .ok (.irem, 1) := by decide +kernel
theorem dX9_holds_207 : decode cX9_holds 207 = .ok (.if_icmp .ne 7, 3) := by decide +kernel
theorem dX9_holds_210 : decode cX9_holds 210 = .ok (.iconst 1, 1) := by decide +kernel
theorem dX9_holds_211 : decode cX9_holds 211 = .ok (.goto 22, 3) := by decide +kernel
theorem dX9_holds_214 : decode cX9_holds 214 = .ok (.iconst 0, 1) := by decide +kernel
theorem dX9_holds_215 : decode cX9_holds 215 = .ok (.goto 18, 3) := by decide +kernel
theorem dX9_holds_218 : decode cX9_holds 218 = .ok (.iload 6, 2) := by decide +kernel
theorem dX9_holds_220 : decode cX9_holds 220 = .ok (.iload 5, 2) := by decide +kernel
theorem dX9_holds_222 : decode cX9_holds 222 = .ok (.bipush 100, 2) := by decide +kernel
theorem dX9_holds_224 : decode cX9_holds 224 = .ok (.irem, 1) := by decide +kernel
theorem dX9_holds_225 : decode cX9_holds 225 = .ok (.if_icmp .le 7, 3) := by decide +kernel
theorem dX9_holds_228 : decode cX9_holds 228 = .ok (.iconst 1, 1) := by decide +kernel
theorem dX9_holds_229 : decode cX9_holds 229 = .ok (.goto 4, 3) := by decide +kernel
theorem dX9_holds_232 : decode cX9_holds 232 = .ok (.iconst 0, 1) := by decide +kernel
theorem dX9_holds_233 : decode cX9_holds 233 = .ok (.bastore, 1) := by decide +kernel
theorem dX9_holds_234 : decode cX9_holds 234 = .ok (.iinc 3 1, 3) := by decide +kernel
theorem dX9_holds_237 : decode cX9_holds 237 = .ok (.iinc 4 1, 3) := by decide +kernel
theorem dX9_holds_240 : decode cX9_holds 240 = .ok (.goto (-230), 3) := by decide +kernel
theorem dX9_holds_243 : decode cX9_holds 243 = .ok (.aload_n 0, 1) := by decide +kernel
theorem dX9_holds_244 : decode cX9_holds 244 = .ok (.getfield 98, 3) := by decide +kernel
theorem dX9_holds_247 : decode cX9_holds 247 = .ok (.iconst 0, 1) := by decide +kernel
theorem dX9_holds_248 : decode cX9_holds 248 = .ok (.baload, 1) := by decide +kernel
theorem dX9_holds_249 : decode cX9_holds 249 = .ok (.ireturn, 1) := by decide +kernel
theorem dX9_sum_0 : decode cX9_sum 0 = .ok (.iconst 0, 1) := by decide +kernel
theorem dX9_sum_1 : decode cX9_sum 1 = .ok (.istore_n 2, 1) := by decide +kernel
theorem dX9_sum_2 : decode cX9_sum 2 = .ok (.aload_n 0, 1) := by decide +kernel
theorem dX9_sum_3 : decode cX9_sum 3 = .ok (.invokevirtual 320, 3) := by decide +kernel
theorem dX9_sum_6 : decode cX9_sum 6 = .ok (.istore_n 3, 1) := by decide +kernel
theorem dX9_sum_7 : decode cX9_sum 7 = .ok (.iload_n 3, 1) := by decide +kernel
theorem dX9_sum_8 : decode cX9_sum 8 = .ok (.aload_n 0, 1) := by decide +kernel
theorem dX9_sum_9 : decode cX9_sum 9 = .ok (.invokevirtual 323, 3) := by decide +kernel
theorem dX9_sum_12 : decode cX9_sum 12 = .ok (.if_icmp .ge 59, 3) := by decide +kernel
theorem dX9_sum_15 : decode cX9_sum 15 = .ok (.aload_n 0, 1) := by decide +kernel
theorem dX9_sum_16 : decode cX9_sum 16 = .ok (.getfield 68, 3) := by decide +kernel
theorem dX9_sum_19 : decode cX9_sum 19 = .ok (.iload_n 3, 1) := by decide +kernel
theorem dX9_sum_20 : decode cX9_sum 20 = .ok (.iaload, 1) := by decide +kernel
theorem dX9_sum_21 : decode cX9_sum 21 = .ok (.iconst 1, 1) := by decide +kernel
theorem dX9_sum_22 : decode cX9_sum 22 = .ok (.if_icmp .gt 43, 3) := by decide +kernel
theorem dX9_sum_25 : decode cX9_sum 25 = .ok (.aload_n 0, 1) := by decide +kernel
theorem dX9_sum_26 : decode cX9_sum 26 = .ok (.iload_n 3, 1) := by decide +kernel
theorem dX9_sum_27 : decode cX9_sum 27 = .ok (.iload_n 1, 1) := by decide +kernel
theorem dX9_sum_28 : decode cX9_sum 28 = .ok (.invokevirtual 332, 3) := by decide +kernel
theorem dX9_sum_31 : decode cX9_sum 31 = .ok (.ifCond .ne 6, 3) := by decide +kernel
theorem dX9_sum_34 : decode cX9_sum 34 = .ok (.goto 31, 3) := by decide +kernel
theorem dX9_sum_37 : decode cX9_sum 37 = .ok (.iload_n 2, 1) := by decide +kernel
theorem dX9_sum_38 : decode cX9_sum 38 = .ok (.aload_n 0, 1) := by decide +kernel
theorem dX9_sum_39 : decode cX9_sum 39 = .ok (.getfield 68, 3) := by decide +kernel
theorem dX9_sum_42 : decode cX9_sum 42 = .ok (.iload_n 3, 1) := by decide +kernel
theorem dX9_sum_43 : decode cX9_sum 43 = .ok (.iaload, 1) := by decide +kernel
theorem dX9_sum_44 : decode cX9_sum 44 = .ok (.ifCond .ne 12, 3) := by decide +kernel
theorem dX9_sum_47 : decode cX9_sum 47 = .ok (.aload_n 0, 1) := by decide +kernel
theorem dX9_sum_48 : decode cX9_sum 48 = .ok (.getfield 71, 3) := by decide +kernel
theorem dX9_sum_51 : decode cX9_sum 51 = .ok (.iload_n 3, 1) := by decide +kernel
theorem dX9_sum_52 : decode cX9_sum 52 = .ok (.iaload, 1) := by decide +kernel
theorem dX9_sum_53 : decode cX9_sum 53 = .ok (.goto 10, 3) := by decide +kernel
theorem dX9_sum_56 : decode cX9_sum 56 = .ok (.aload_n 0, 1) := by decide +kernel
theorem dX9_sum_57 : decode cX9_sum 57 = .ok (.getfield 71, 3) := by decide +kernel
theorem dX9_sum_60 : decode cX9_sum 60 = .ok (.iload_n 3, 1) := by decide +kernel
theorem dX9_sum_61 : decode cX9_sum 61 = .ok (.iaload, 1) := by decide +kernel
theorem dX9_sum_62 : decode cX9_sum 62 = .ok (.ineg, 1) := by decide +kernel
theorem dX9_sum_63 : decode cX9_sum 63 = .ok (.iadd, 1) := by decide +kernel
theorem dX9_sum_64 : decode cX9_sum 64 = .ok (.istore_n 2, 1) := by decide +kernel
theorem dX9_sum_65 : decode cX9_sum 65 = .ok (.iinc 3 1, 3) := by decide +kernel
theorem dX9_sum_68 : decode cX9_sum 68 = .ok (.goto (-61), 3) := by decide +kernel
theorem dX9_sum_71 : decode cX9_sum 71 = .ok (.iload_n 2, 1) := by decide +kernel
theorem dX9_sum_72 : decode cX9_sum 72 = .ok (.ireturn, 1) := by decide +kernel
theorem dX9_rise_0 : decode cX9_rise 0 = .ok (.aload_n 0, 1) := by decide +kernel
theorem dX9_rise_1 : decode cX9_rise 1 = .ok (.iload_n 1, 1) := by decide +kernel
theorem dX9_rise_2 : decode cX9_rise 2 = .ok (.invokevirtual 335, 3) := by decide +kernel
theorem dX9_rise_5 : decode cX9_rise 5 = .ok (.istore_n 2, 1) := by decide +kernel
theorem dX9_rise_6 : decode cX9_rise 6 = .ok (.aload_n 0, 1) := by decide +kernel
theorem dX9_rise_7 : decode cX9_rise 7 = .ok (.getfield 32, 3) := by decide +kernel
theorem dX9_rise_10 : decode cX9_rise 10 = .ok (.iload_n 1, 1) := by decide +kernel
theorem dX9_rise_11 : decode cX9_rise 11 = .ok (.iaload, 1) := by decide +kernel
theorem dX9_rise_12 : decode cX9_rise 12 = .ok (.bipush 50, 2) := by decide +kernel
theorem dX9_rise_14 : decode cX9_rise 14 = .ok (.if_icmp .lt 9, 3) := by decide +kernel
theorem dX9_rise_17 : decode cX9_rise 17 = .ok (.iload_n 2, 1) := by decide +kernel
theorem dX9_rise_18 : decode cX9_rise 18 = .ok (.iconst 3, 1) := by decide +kernel
theorem dX9_rise_19 : decode cX9_rise 19 = .ok (.isub, 1) := by decide +kernel
theorem dX9_rise_20 : decode cX9_rise 20 = .ok (.goto 4, 3) := by decide +kernel
theorem dX9_rise_23 : decode cX9_rise 23 = .ok (.iload_n 2, 1) := by decide +kernel
theorem dX9_rise_24 : decode cX9_rise 24 = .ok (.istore_n 3, 1) := by decide +kernel
theorem dX9_rise_25 : decode cX9_rise 25 = .ok (.aload_n 0, 1) := by decide +kernel
theorem dX9_rise_26 : decode cX9_rise 26 = .ok (.getfield 22, 3) := by decide +kernel
theorem dX9_rise_29 : decode cX9_rise 29 = .ok (.iconst 3, 1) := by decide +kernel
theorem dX9_rise_30 : decode cX9_rise 30 = .ok (.irem, 1) := by decide +kernel
theorem dX9_rise_31 : decode cX9_rise 31 = .ok (.ifCond .ne 9, 3) := by decide +kernel
theorem dX9_rise_34 : decode cX9_rise 34 = .ok (.iload_n 2, 1) := by decide +kernel
theorem dX9_rise_35 : decode cX9_rise 35 = .ok (.iconst 5, 1) := by decide +kernel
theorem dX9_rise_36 : decode cX9_rise 36 = .ok (.iadd, 1) := by decide +kernel
theorem dX9_rise_37 : decode cX9_rise 37 = .ok (.goto 4, 3) := by decide +kernel
theorem dX9_rise_40 : decode cX9_rise 40 = .ok (.iload_n 2, 1) := by decide +kernel
theorem dX9_rise_41 : decode cX9_rise 41 = .ok (.istore 4, 2) := by decide +kernel
theorem dX9_rise_43 : decode cX9_rise 43 = .ok (.aload_n 0, 1) := by decide +kernel
theorem dX9_rise_44 : decode cX9_rise 44 = .ok (.getfield 25, 3) := by decide +kernel
theorem dX9_rise_47 : decode cX9_rise 47 = .ok (.iload_n 1, 1) := by decide +kernel
theorem dX9_rise_48 : decode cX9_rise 48 = .ok (.iaload, 1) := by decide +kernel
theorem dX9_rise_49 : decode cX9_rise 49 = .ok (.tableswitch 90 1 6 #[39, 41, 44, 48, 57, 70], 39) := by decide +kernel
theorem dX9_rise_88 : decode cX9_rise 88 = .ok (.iload_n 3, 1) := by decide +kernel
theorem dX9_rise_89 : decode cX9_rise 89 = .ok (.ireturn, 1) := by decide +kernel
theorem dX9_rise_90 : decode cX9_rise 90 = .ok (.iload 4, 2) := by decide +kernel
theorem dX9_rise_92 : decode cX9_rise 92 = .ok (.ireturn, 1) := by decide +kernel
theorem dX9_rise_93 : decode cX9_rise 93 = .ok (.iload_n 2, 1) := by decide +kernel
theorem dX9_rise_94 : decode cX9_rise 94 = .ok (.iconst 2, 1) := by decide +kernel
theorem dX9_rise_95 : decode cX9_rise 95 = .ok (.idiv, 1) := by decide +kernel
theorem dX9_rise_96 : decode cX9_rise 96 = .ok (.ireturn, 1) := by decide +kernel
theorem dX9_rise_97 : decode cX9_rise 97 = .ok (.iload_n 3, 1) := by decide +kernel
theorem dX9_rise_98 : decode cX9_rise 98 = .ok (.aload_n 0, 1) := by decide +kernel
theorem dX9_rise_99 : decode cX9_rise 99 = .ok (.getfield 29, 3) := by decide +kernel
theorem dX9_rise_102 : decode cX9_rise 102 = .ok (.iload_n 1, 1) := by decide +kernel
theorem dX9_rise_103 : decode cX9_rise 103 = .ok (.iaload, 1) := by decide +kernel
theorem dX9_rise_104 : decode cX9_rise 104 = .ok (.iadd, 1) := by decide +kernel
theorem dX9_rise_105 : decode cX9_rise 105 = .ok (.ireturn, 1) := by decide +kernel
theorem dX9_rise_106 : decode cX9_rise 106 = .ok (.iload 4, 2) := by decide +kernel
theorem dX9_rise_108 : decode cX9_rise 108 = .ok (.iconst 2, 1) := by decide +kernel
theorem dX9_rise_109 : decode cX9_rise 109 = .ok (.aload_n 0, 1) := by decide +kernel
theorem dX9_rise_110 : decode cX9_rise 110 = .ok (.iload_n 1, 1) := by decide +kernel
theorem dX9_rise_111 : decode cX9_rise 111 = .ok (.bipush 50, 2) := by decide +kernel
theorem dX9_rise_113 : decode cX9_rise 113 = .ok (.invokevirtual 326, 3) := by decide +kernel
theorem dX9_rise_116 : decode cX9_rise 116 = .ok (.imul, 1) := by decide +kernel
theorem dX9_rise_117 : decode cX9_rise 117 = .ok (.iadd, 1) := by decide +kernel
theorem dX9_rise_118 : decode cX9_rise 118 = .ok (.ireturn, 1) := by decide +kernel
theorem dX9_rise_119 : decode cX9_rise 119 = .ok (.iload_n 2, 1) := by decide +kernel
theorem dX9_rise_120 : decode cX9_rise 120 = .ok (.iconst 2, 1) := by decide +kernel
theorem dX9_rise_121 : decode cX9_rise 121 = .ok (.idiv, 1) := by decide +kernel
theorem dX9_rise_122 : decode cX9_rise 122 = .ok (.aload_n 0, 1) := by decide +kernel
theorem dX9_rise_123 : decode cX9_rise 123 = .ok (.getfield 35, 3) := by decide +kernel
theorem dX9_rise_126 : decode cX9_rise 126 = .ok (.iconst 4, 1) := by decide +kernel
theorem dX9_rise_127 : decode cX9_rise 127 = .ok (.iload_n 1, 1) := by decide +kernel
theorem dX9_rise_128 : decode cX9_rise 128 = .ok (.imul, 1) := by decide +kernel
theorem dX9_rise_129 : decode cX9_rise 129 = .ok (.aload_n 0, 1) := by decide +kernel
theorem dX9_rise_130 : decode cX9_rise 130 = .ok (.getfield 22, 3) := by decide +kernel
theorem dX9_rise_133 : decode cX9_rise 133 = .ok (.iconst 4, 1) := by decide +kernel
theorem dX9_rise_134 : decode cX9_rise 134 = .ok (.irem, 1) := by decide +kernel
theorem dX9_rise_135 : decode cX9_rise 135 = .ok (.iadd, 1) := by decide +kernel
theorem dX9_rise_136 : decode cX9_rise 136 = .ok (.iaload, 1) := by decide +kernel
theorem dX9_rise_137 : decode cX9_rise 137 = .ok (.iadd, 1) := by decide +kernel
theorem dX9_rise_138 : decode cX9_rise 138 = .ok (.ireturn, 1) := by decide +kernel
theorem dX9_rise_139 : decode cX9_rise 139 = .ok (.iload_n 2, 1) := by decide +kernel
theorem dX9_rise_140 : decode cX9_rise 140 = .ok (.ireturn, 1) := by decide +kernel
theorem dX9_of_0 : decode cX9_of 0 = .ok (.aload_n 0, 1) := by decide +kernel
theorem dX9_of_1 : decode cX9_of 1 = .ok (.iload_n 1, 1) := by decide +kernel
theorem dX9_of_2 : decode cX9_of 2 = .ok (.invokevirtual 260, 3) := by decide +kernel
theorem dX9_of_5 : decode cX9_of 5 = .ok (.ifCond .ne 7, 3) := by decide +kernel
theorem dX9_of_8 : decode cX9_of 8 = .ok (.sipush (-10001), 3) := by decide +kernel
theorem dX9_of_11 : decode cX9_of 11 = .ok (.ireturn, 1) := by decide +kernel
theorem dX9_of_12 : decode cX9_of 12 = .ok (.iload_n 2, 1) := by decide +kernel
theorem dX9_of_13 : decode cX9_of 13 = .ok (.tableswitch 92 0 5 #[39, 46, 53, 60, 78, 84], 39) := by decide +kernel
theorem dX9_of_52 : decode cX9_of 52 = .ok (.aload_n 0, 1) := by decide +kernel
theorem dX9_of_53 : decode cX9_of 53 = .ok (.getfield 25, 3) := by decide +kernel
theorem dX9_of_56 : decode cX9_of 56 = .ok (.iload_n 1, 1) := by decide +kernel
theorem dX9_of_57 : decode cX9_of 57 = .ok (.iaload, 1) := by decide +kernel
theorem dX9_of_58 : decode cX9_of 58 = .ok (.ireturn, 1) := by decide +kernel
theorem dX9_of_59 : decode cX9_of 59 = .ok (.aload_n 0, 1) := by decide +kernel
theorem dX9_of_60 : decode cX9_of 60 = .ok (.getfield 29, 3) := by decide +kernel
theorem dX9_of_63 : decode cX9_of 63 = .ok (.iload_n 1, 1) := by decide +kernel
theorem dX9_of_64 : decode cX9_of 64 = .ok (.iaload, 1) := by decide +kernel
theorem dX9_of_65 : decode cX9_of 65 = .ok (.ireturn, 1) := by decide +kernel
theorem dX9_of_66 : decode cX9_of 66 = .ok (.aload_n 0, 1) := by decide +kernel
theorem dX9_of_67 : decode cX9_of 67 = .ok (.getfield 32, 3) := by decide +kernel
theorem dX9_of_70 : decode cX9_of 70 = .ok (.iload_n 1, 1) := by decide +kernel
theorem dX9_of_71 : decode cX9_of 71 = .ok (.iaload, 1) := by decide +kernel
theorem dX9_of_72 : decode cX9_of 72 = .ok (.ireturn, 1) := by decide +kernel
theorem dX9_of_73 : decode cX9_of 73 = .ok (.aload_n 0, 1) := by decide +kernel
theorem dX9_of_74 : decode cX9_of 74 = .ok (.aload_n 0, 1) := by decide +kernel
theorem dX9_of_75 : decode cX9_of 75 = .ok (.getfield 13, 3) := by decide +kernel
theorem dX9_of_78 : decode cX9_of 78 = .ok (.iload_n 1, 1) := by decide +kernel
theorem dX9_of_79 : decode cX9_of 79 = .ok (.invokevirtual 263, 3) := by decide +kernel
theorem dX9_of_82 : decode cX9_of 82 = .ok (.ifCond .eq 7, 3) := by decide +kernel
theorem dX9_of_85 : decode cX9_of 85 = .ok (.iconst 1, 1) := by decide +kernel
theorem dX9_of_86 : decode cX9_of 86 = .ok (.goto 4, 3) := by decide +kernel
theorem dX9_of_89 : decode cX9_of 89 = .ok (.iconst 0, 1) := by decide +kernel
theorem dX9_of_90 : decode cX9_of 90 = .ok (.ireturn, 1) := by decide +kernel
theorem dX9_of_91 : decode cX9_of 91 = .ok (.aload_n 0, 1) := by decide +kernel
theorem dX9_of_92 : decode cX9_of 92 = .ok (.iload_n 1, 1) := by decide +kernel
theorem dX9_of_93 : decode cX9_of 93 = .ok (.invokevirtual 338, 3) := by decide +kernel
theorem dX9_of_96 : decode cX9_of 96 = .ok (.ireturn, 1) := by decide +kernel
theorem dX9_of_97 : decode cX9_of 97 = .ok (.aload_n 0, 1) := by decide +kernel
theorem dX9_of_98 : decode cX9_of 98 = .ok (.iload_n 1, 1) := by decide +kernel
theorem dX9_of_99 : decode cX9_of 99 = .ok (.bipush 50, 2) := by decide +kernel
theorem dX9_of_101 : decode cX9_of 101 = .ok (.invokevirtual 326, 3) := by decide +kernel
theorem dX9_of_104 : decode cX9_of 104 = .ok (.ireturn, 1) := by decide +kernel
theorem dX9_of_105 : decode cX9_of 105 = .ok (.sipush (-10001), 3) := by decide +kernel
theorem dX9_of_108 : decode cX9_of 108 = .ok (.ireturn, 1) := by decide +kernel
theorem dX9_hottest_0 : decode cX9_hottest 0 = .ok (.bipush (-5), 2) := by decide +kernel
theorem dX9_hottest_2 : decode cX9_hottest 2 = .ok (.istore_n 1, 1) := by decide +kernel
theorem dX9_hottest_3 : decode cX9_hottest 3 = .ok (.iconst 0, 1) := by decide +kernel
theorem dX9_hottest_4 : decode cX9_hottest 4 = .ok (.istore_n 2, 1) := by decide +kernel
theorem dX9_hottest_5 : decode cX9_hottest 5 = .ok (.iload_n 2, 1) := by decide +kernel
theorem dX9_hottest_6 : decode cX9_hottest 6 = .ok (.aload_n 0, 1) := by decide +kernel
theorem dX9_hottest_7 : decode cX9_hottest 7 = .ok (.getfield 7, 3) := by decide +kernel
theorem dX9_hottest_10 : decode cX9_hottest 10 = .ok (.if_icmp .ge 42, 3) := by decide +kernel
theorem dX9_hottest_13 : decode cX9_hottest 13 = .ok (.aload_n 0, 1) := by decide +kernel
theorem dX9_hottest_14 : decode cX9_hottest 14 = .ok (.aload_n 0, 1) := by decide +kernel
theorem dX9_hottest_15 : decode cX9_hottest 15 = .ok (.getfield 13, 3) := by decide +kernel
theorem dX9_hottest_18 : decode cX9_hottest 18 = .ok (.iload_n 2, 1) := by decide +kernel
theorem dX9_hottest_19 : decode cX9_hottest 19 = .ok (.invokevirtual 263, 3) := by decide +kernel
theorem dX9_hottest_22 : decode cX9_hottest 22 = .ok (.ifCond .ne 24, 3) := by decide +kernel
theorem dX9_hottest_25 : decode cX9_hottest 25 = .ok (.iload_n 1, 1) := by decide +kernel
theorem dX9_hottest_26 : decode cX9_hottest 26 = .ok (.ifCond .lt 18, 3) := by decide +kernel
theorem dX9_hottest_29 : decode cX9_hottest 29 = .ok (.aload_n 0, 1) := by decide +kernel
theorem dX9_hottest_30 : decode cX9_hottest 30 = .ok (.getfield 32, 3) := by decide +kernel
theorem dX9_hottest_33 : decode cX9_hottest 33 = .ok (.iload_n 2, 1) := by decide +kernel
theorem dX9_hottest_34 : decode cX9_hottest 34 = .ok (.iaload, 1) := by decide +kernel
theorem dX9_hottest_35 : decode cX9_hottest 35 = .ok (.aload_n 0, 1) := by decide +kernel
theorem dX9_hottest_36 : decode cX9_hottest 36 = .ok (.getfield 32, 3) := by decide +kernel
theorem dX9_hottest_39 : decode cX9_hottest 39 = .ok (.iload_n 1, 1) := by decide +kernel
theorem dX9_hottest_40 : decode cX9_hottest 40 = .ok (.iaload, 1) := by decide +kernel
theorem dX9_hottest_41 : decode cX9_hottest 41 = .ok (.if_icmp .le 5, 3) := by decide +kernel
theorem dX9_hottest_44 : decode cX9_hottest 44 = .ok (.iload_n 2, 1) := by decide +kernel
theorem dX9_hottest_45 : decode cX9_hottest 45 = .ok (.istore_n 1, 1) := by decide +kernel
theorem dX9_hottest_46 : decode cX9_hottest 46 = .ok (.iinc 2 1, 3) := by decide +kernel
theorem dX9_hottest_49 : decode cX9_hottest 49 = .ok (.goto (-44), 3) := by decide +kernel
theorem dX9_hottest_52 : decode cX9_hottest 52 = .ok (.iload_n 1, 1) := by decide +kernel
theorem dX9_hottest_53 : decode cX9_hottest 53 = .ok (.ireturn, 1) := by decide +kernel
theorem dX9_isDone_0 : decode cX9_isDone 0 = .ok (.aload_n 0, 1) := by decide +kernel
theorem dX9_isDone_1 : decode cX9_isDone 1 = .ok (.getfield 44, 3) := by decide +kernel
theorem dX9_isDone_4 : decode cX9_isDone 4 = .ok (.iload_n 1, 1) := by decide +kernel
theorem dX9_isDone_5 : decode cX9_isDone 5 = .ok (.iaload, 1) := by decide +kernel
theorem dX9_isDone_6 : decode cX9_isDone 6 = .ok (.aload_n 0, 1) := by decide +kernel
theorem dX9_isDone_7 : decode cX9_isDone 7 = .ok (.getfield 38, 3) := by decide +kernel
theorem dX9_isDone_10 : decode cX9_isDone 10 = .ok (.iload_n 1, 1) := by decide +kernel
theorem dX9_isDone_11 : decode cX9_isDone 11 = .ok (.iaload, 1) := by decide +kernel
theorem dX9_isDone_12 : decode cX9_isDone 12 = .ok (.if_icmp .lt 7, 3) := by decide +kernel
theorem dX9_isDone_15 : decode cX9_isDone 15 = .ok (.iconst 1, 1) := by decide +kernel
theorem dX9_isDone_16 : decode cX9_isDone 16 = .ok (.goto 4, 3) := by decide +kernel
theorem dX9_isDone_19 : decode cX9_isDone 19 = .ok (.iconst 0, 1) := by decide +kernel
theorem dX9_isDone_20 : decode cX9_isDone 20 = .ok (.ireturn, 1) := by decide +kernel
theorem dX9_doneSet_0 : decode cX9_doneSet 0 = .ok (.iconst 0, 1) := by decide +kernel
theorem dX9_doneSet_1 : decode cX9_doneSet 1 = .ok (.istore_n 1, 1) := by decide +kernel
theorem dX9_doneSet_2 : decode cX9_doneSet 2 = .ok (.iconst 0, 1) := by decide +kernel
theorem dX9_doneSet_3 : decode cX9_doneSet 3 = .ok (.istore_n 2, 1) := by decide +kernel
theorem dX9_doneSet_4 : decode cX9_doneSet 4 = .ok (.iload_n 2, 1) := by decide +kernel
theorem dX9_doneSet_5 : decode cX9_doneSet 5 = .ok (.aload_n 0, 1) := by decide +kernel
theorem dX9_doneSet_6 : decode cX9_doneSet 6 = .ok (.getfield 16, 3) := by decide +kernel
theorem dX9_doneSet_9 : decode cX9_doneSet 9 = .ok (.if_icmp .ge 27, 3) := by decide +kernel
theorem dX9_doneSet_12 : decode cX9_doneSet 12 = .ok (.iload_n 1, 1) := by decide +kernel
theorem dX9_doneSet_13 : decode cX9_doneSet 13 = .ok (.aload_n 0, 1) := by decide +kernel
theorem dX9_doneSet_14 : decode cX9_doneSet 14 = .ok (.iload_n 2, 1) := by decide +kernel
theorem dX9_doneSet_15 : decode cX9_doneSet 15 = .ok (.invokevirtual 341, 3) := by decide +kernel
theorem dX9_doneSet_18 : decode cX9_doneSet 18 = .ok (.ifCond .eq 9, 3) := by decide +kernel
theorem dX9_doneSet_21 : decode cX9_doneSet 21 = .ok (.iconst 1, 1) := by decide +kernel
theorem dX9_doneSet_22 : decode cX9_doneSet 22 = .ok (.iload_n 2, 1) := by decide +kernel
theorem dX9_doneSet_23 : decode cX9_doneSet 23 = .ok (.ishl, 1) := by decide +kernel
theorem dX9_doneSet_24 : decode cX9_doneSet 24 = .ok (.goto 4, 3) := by decide +kernel
theorem dX9_doneSet_27 : decode cX9_doneSet 27 = .ok (.iconst 0, 1) := by decide +kernel
theorem dX9_doneSet_28 : decode cX9_doneSet 28 = .ok (.ior, 1) := by decide +kernel
theorem dX9_doneSet_29 : decode cX9_doneSet 29 = .ok (.istore_n 1, 1) := by decide +kernel
theorem dX9_doneSet_30 : decode cX9_doneSet 30 = .ok (.iinc 2 1, 3) := by decide +kernel
theorem dX9_doneSet_33 : decode cX9_doneSet 33 = .ok (.goto (-29), 3) := by decide +kernel
theorem dX9_doneSet_36 : decode cX9_doneSet 36 = .ok (.iload_n 1, 1) := by decide +kernel
theorem dX9_doneSet_37 : decode cX9_doneSet 37 = .ok (.ireturn, 1) := by decide +kernel
theorem dX9_allHeat_0 : decode cX9_allHeat 0 = .ok (.iconst 0, 1) := by decide +kernel
theorem dX9_allHeat_1 : decode cX9_allHeat 1 = .ok (.istore_n 1, 1) := by decide +kernel
theorem dX9_allHeat_2 : decode cX9_allHeat 2 = .ok (.iconst 0, 1) := by decide +kernel
theorem dX9_allHeat_3 : decode cX9_allHeat 3 = .ok (.istore_n 2, 1) := by decide +kernel
theorem dX9_allHeat_4 : decode cX9_allHeat 4 = .ok (.iload_n 2, 1) := by decide +kernel
theorem dX9_allHeat_5 : decode cX9_allHeat 5 = .ok (.aload_n 0, 1) := by decide +kernel
theorem dX9_allHeat_6 : decode cX9_allHeat 6 = .ok (.getfield 7, 3) := by decide +kernel
theorem dX9_allHeat_9 : decode cX9_allHeat 9 = .ok (.if_icmp .ge 18, 3) := by decide +kernel
theorem dX9_allHeat_12 : decode cX9_allHeat 12 = .ok (.iload_n 1, 1) := by decide +kernel
theorem dX9_allHeat_13 : decode cX9_allHeat 13 = .ok (.aload_n 0, 1) := by decide +kernel
theorem dX9_allHeat_14 : decode cX9_allHeat 14 = .ok (.getfield 32, 3) := by decide +kernel
theorem dX9_allHeat_17 : decode cX9_allHeat 17 = .ok (.iload_n 2, 1) := by decide +kernel
theorem dX9_allHeat_18 : decode cX9_allHeat 18 = .ok (.iaload, 1) := by decide +kernel
theorem dX9_allHeat_19 : decode cX9_allHeat 19 = .ok (.iadd, 1) := by decide +kernel
theorem dX9_allHeat_20 : decode cX9_allHeat 20 = .ok (.istore_n 1, 1) := by decide +kernel
theorem dX9_allHeat_21 : decode cX9_allHeat 21 = .ok (.iinc 2 1, 3) := by decide +kernel
theorem dX9_allHeat_24 : decode cX9_allHeat 24 = .ok (.goto (-20), 3) := by decide +kernel
theorem dX9_allHeat_27 : decode cX9_allHeat 27 = .ok (.iload_n 1, 1) := by decide +kernel
theorem dX9_allHeat_28 : decode cX9_allHeat 28 = .ok (.ireturn, 1) := by decide +kernel
theorem dX9_told_0 : decode cX9_told 0 = .ok (.iload_n 1, 1) := by decide +kernel
theorem dX9_told_1 : decode cX9_told 1 = .ok (.tableswitch 69 0 5 #[39, 44, 49, 54, 59, 64], 39) := by decide +kernel
theorem dX9_told_40 : decode cX9_told 40 = .ok (.aload_n 0, 1) := by decide +kernel
theorem dX9_told_41 : decode cX9_told 41 = .ok (.getfield 22, 3) := by decide +kernel
theorem dX9_told_44 : decode cX9_told 44 = .ok (.ireturn, 1) := by decide +kernel
theorem dX9_told_45 : decode cX9_told 45 = .ok (.aload_n 0, 1) := by decide +kernel
theorem dX9_told_46 : decode cX9_told 46 = .ok (.invokevirtual 344, 3) := by decide +kernel
theorem dX9_told_49 : decode cX9_told 49 = .ok (.ireturn, 1) := by decide +kernel
theorem dX9_told_50 : decode cX9_told 50 = .ok (.aload_n 0, 1) := by decide +kernel
theorem dX9_told_51 : decode cX9_told 51 = .ok (.getfield 19, 3) := by decide +kernel
theorem dX9_told_54 : decode cX9_told 54 = .ok (.ireturn, 1) := by decide +kernel
theorem dX9_told_55 : decode cX9_told 55 = .ok (.aload_n 0, 1) := by decide +kernel
theorem dX9_told_56 : decode cX9_told 56 = .ok (.invokevirtual 347, 3) := by decide +kernel
theorem dX9_told_59 : decode cX9_told 59 = .ok (.ireturn, 1) := by decide +kernel
theorem dX9_told_60 : decode cX9_told 60 = .ok (.aload_n 0, 1) := by decide +kernel
theorem dX9_told_61 : decode cX9_told 61 = .ok (.invokevirtual 350, 3) := by decide +kernel
theorem dX9_told_64 : decode cX9_told 64 = .ok (.ireturn, 1) := by decide +kernel
theorem dX9_told_65 : decode cX9_told 65 = .ok (.aload_n 0, 1) := by decide +kernel
theorem dX9_told_66 : decode cX9_told 66 = .ok (.invokevirtual 353, 3) := by decide +kernel
theorem dX9_told_69 : decode cX9_told 69 = .ok (.ireturn, 1) := by decide +kernel
theorem dX9_told_70 : decode cX9_told 70 = .ok (.iconst (-1), 1) := by decide +kernel
theorem dX9_told_71 : decode cX9_told 71 = .ok (.ireturn, 1) := by decide +kernel
theorem dX9_goMinute_0 : decode cX9_goMinute 0 = .ok (.aload_n 0, 1) := by decide +kernel
theorem dX9_goMinute_1 : decode cX9_goMinute 1 = .ok (.getfield 19, 3) := by decide +kernel
theorem dX9_goMinute_4 : decode cX9_goMinute 4 = .ok (.ifCond .lt 21, 3) := by decide +kernel
theorem dX9_goMinute_7 : decode cX9_goMinute 7 = .ok (.aload_n 0, 1) := by decide +kernel
theorem dX9_goMinute_8 : decode cX9_goMinute 8 = .ok (.aload_n 0, 1) := by decide +kernel
theorem dX9_goMinute_9 : decode cX9_goMinute 9 = .ok (.getfield 19, 3) := by decide +kernel
theorem dX9_goMinute_12 : decode cX9_goMinute 12 = .ok (.invokevirtual 341, 3) := by decide +kernel
theorem dX9_goMinute_15 : decode cX9_goMinute 15 = .ok (.ifCond .ne 10, 3) := by decide +kernel
theorem dX9_goMinute_18 : decode cX9_goMinute 18 = .ok (.aload_n 0, 1) := by decide +kernel
theorem dX9_goMinute_19 : decode cX9_goMinute 19 = .ok (.invokevirtual 350, 3) := by decide +kernel
theorem dX9_goMinute_22 : decode cX9_goMinute 22 = .ok (.goto 5, 3) := by decide +kernel
theorem dX9_goMinute_25 : decode cX9_goMinute 25 = .ok (.bipush (-5), 2) := by decide +kernel
theorem dX9_goMinute_27 : decode cX9_goMinute 27 = .ok (.istore_n 1, 1) := by decide +kernel
theorem dX9_goMinute_28 : decode cX9_goMinute 28 = .ok (.aload_n 0, 1) := by decide +kernel
theorem dX9_goMinute_29 : decode cX9_goMinute 29 = .ok (.invokevirtual 344, 3) := by decide +kernel
theorem dX9_goMinute_32 : decode cX9_goMinute 32 = .ok (.istore_n 2, 1) := by decide +kernel
theorem dX9_goMinute_33 : decode cX9_goMinute 33 = .ok (.iconst 0, 1) := by decide +kernel
theorem dX9_goMinute_34 : decode cX9_goMinute 34 = .ok (.istore_n 3, 1) := by decide +kernel
theorem dX9_goMinute_35 : decode cX9_goMinute 35 = .ok (.iload_n 3, 1) := by decide +kernel
theorem dX9_goMinute_36 : decode cX9_goMinute 36 = .ok (.aload_n 0, 1) := by decide +kernel
theorem dX9_goMinute_37 : decode cX9_goMinute 37 = .ok (.getfield 7, 3) := by decide +kernel
theorem dX9_goMinute_40 : decode cX9_goMinute 40 = .ok (.if_icmp .ge 62, 3) := by decide +kernel
theorem dX9_goMinute_43 : decode cX9_goMinute 43 = .ok (.aload_n 0, 1) := by decide +kernel
theorem dX9_goMinute_44 : decode cX9_goMinute 44 = .ok (.getfield 102, 3) := by decide +kernel
theorem dX9_goMinute_47 : decode cX9_goMinute 47 = .ok (.iload_n 3, 1) := by decide +kernel
theorem dX9_goMinute_48 : decode cX9_goMinute 48 = .ok (.aload_n 0, 1) := by decide +kernel
theorem dX9_goMinute_49 : decode cX9_goMinute 49 = .ok (.aload_n 0, 1) := by decide +kernel
theorem dX9_goMinute_50 : decode cX9_goMinute 50 = .ok (.getfield 13, 3) := by decide +kernel
theorem dX9_goMinute_53 : decode cX9_goMinute 53 = .ok (.iload_n 3, 1) := by decide +kernel
theorem dX9_goMinute_54 : decode cX9_goMinute 54 = .ok (.invokevirtual 263, 3) := by decide +kernel
theorem dX9_goMinute_57 : decode cX9_goMinute 57 = .ok (.ifCond .eq 12, 3) := by decide +kernel
theorem dX9_goMinute_60 : decode cX9_goMinute 60 = .ok (.aload_n 0, 1) := by decide +kernel
theorem dX9_goMinute_61 : decode cX9_goMinute 61 = .ok (.getfield 32, 3) := by decide +kernel
theorem dX9_goMinute_64 : decode cX9_goMinute 64 = .ok (.iload_n 3, 1) := by decide +kernel
theorem dX9_goMinute_65 : decode cX9_goMinute 65 = .ok (.iaload, 1) := by decide +kernel
theorem dX9_goMinute_66 : decode cX9_goMinute 66 = .ok (.goto 29, 3) := by decide +kernel
theorem dX9_goMinute_69 : decode cX9_goMinute 69 = .ok (.aload_n 0, 1) := by decide +kernel
theorem dX9_goMinute_70 : decode cX9_goMinute 70 = .ok (.aload_n 0, 1) := by decide +kernel
theorem dX9_goMinute_71 : decode cX9_goMinute 71 = .ok (.getfield 32, 3) := by decide +kernel
theorem dX9_goMinute_74 : decode cX9_goMinute 74 = .ok (.iload_n 3, 1) := by decide +kernel
theorem dX9_goMinute_75 : decode cX9_goMinute 75 = .ok (.iaload, 1) := by decide +kernel
theorem dX9_goMinute_76 : decode cX9_goMinute 76 = .ok (.aload_n 0, 1) := by decide +kernel
theorem dX9_goMinute_77 : decode cX9_goMinute 77 = .ok (.iload_n 3, 1) := by decide +kernel
theorem dX9_goMinute_78 : decode cX9_goMinute 78 = .ok (.invokevirtual 338, 3) := by decide +kernel
theorem dX9_goMinute_81 : decode cX9_goMinute 81 = .ok (.iadd, 1) := by decide +kernel
theorem dX9_goMinute_82 : decode cX9_goMinute 82 = .ok (.bipush 10, 2) := by decide +kernel
theorem dX9_goMinute_84 : decode cX9_goMinute 84 = .ok (.aload_n 0, 1) := by decide +kernel
theorem dX9_goMinute_85 : decode cX9_goMinute 85 = .ok (.iload_n 3, 1) := by decide +kernel
theorem dX9_goMinute_86 : decode cX9_goMinute 86 = .ok (.iload_n 2, 1) := by decide +kernel
theorem dX9_goMinute_87 : decode cX9_goMinute 87 = .ok (.invokevirtual 326, 3) := by decide +kernel
theorem dX9_goMinute_90 : decode cX9_goMinute 90 = .ok (.imul, 1) := by decide +kernel
theorem dX9_goMinute_91 : decode cX9_goMinute 91 = .ok (.iadd, 1) := by decide +kernel
theorem dX9_goMinute_92 : decode cX9_goMinute 92 = .ok (.invokevirtual 356, 3) := by decide +kernel
theorem dX9_goMinute_95 : decode cX9_goMinute 95 = .ok (.iastore, 1) := by decide +kernel
theorem dX9_goMinute_96 : decode cX9_goMinute 96 = .ok (.iinc 3 1, 3) := by decide +kernel
theorem dX9_goMinute_99 : decode cX9_goMinute 99 = .ok (.goto (-64), 3) := by decide +kernel
theorem dX9_goMinute_102 : decode cX9_goMinute 102 = .ok (.iload_n 1, 1) := by decide +kernel
theorem dX9_goMinute_103 : decode cX9_goMinute 103 = .ok (.ifCond .lt 42, 3) := by decide +kernel
theorem dX9_goMinute_106 : decode cX9_goMinute 106 = .ok (.aload_n 0, 1) := by decide +kernel
theorem dX9_goMinute_107 : decode cX9_goMinute 107 = .ok (.getfield 44, 3) := by decide +kernel
theorem dX9_goMinute_110 : decode cX9_goMinute 110 = .ok (.aload_n 0, 1) := by decide +kernel
theorem dX9_goMinute_111 : decode cX9_goMinute 111 = .ok (.getfield 19, 3) := by decide +kernel
theorem dX9_goMinute_114 : decode cX9_goMinute 114 = .ok (.aload_n 0, 1) := by decide +kernel
theorem dX9_goMinute_115 : decode cX9_goMinute 115 = .ok (.aload_n 0, 1) := by decide +kernel
theorem dX9_goMinute_116 : decode cX9_goMinute 116 = .ok (.getfield 44, 3) := by decide +kernel
theorem dX9_goMinute_119 : decode cX9_goMinute 119 = .ok (.aload_n 0, 1) := by decide +kernel
theorem dX9_goMinute_120 : decode cX9_goMinute 120 = .ok (.getfield 19, 3) := by decide +kernel
theorem dX9_goMinute_123 : decode cX9_goMinute 123 = .ok (.iaload, 1) := by decide +kernel
theorem dX9_goMinute_124 : decode cX9_goMinute 124 = .ok (.aload_n 0, 1) := by decide +kernel
theorem dX9_goMinute_125 : decode cX9_goMinute 125 = .ok (.getfield 32, 3) := by decide +kernel
theorem dX9_goMinute_128 : decode cX9_goMinute 128 = .ok (.iload_n 1, 1) := by decide +kernel
theorem dX9_goMinute_129 : decode cX9_goMinute 129 = .ok (.iaload, 1) := by decide +kernel
theorem dX9_goMinute_130 : decode cX9_goMinute 130 = .ok (.iadd, 1) := by decide +kernel
theorem dX9_goMinute_131 : decode cX9_goMinute 131 = .ok (.sipush 9999, 3) := by decide +kernel
theorem dX9_goMinute_134 : decode cX9_goMinute 134 = .ok (.invokevirtual 248, 3) := by decide +kernel
theorem dX9_goMinute_137 : decode cX9_goMinute 137 = .ok (.iastore, 1) := by decide +kernel
theorem dX9_goMinute_138 : decode cX9_goMinute 138 = .ok (.aload_n 0, 1) := by decide +kernel
theorem dX9_goMinute_139 : decode cX9_goMinute 139 = .ok (.getfield 102, 3) := by decide +kernel
theorem dX9_goMinute_142 : decode cX9_goMinute 142 = .ok (.iload_n 1, 1) := by decide +kernel
theorem dX9_goMinute_143 : decode cX9_goMinute 143 = .ok (.iconst 0, 1) := by decide +kernel
theorem dX9_goMinute_144 : decode cX9_goMinute 144 = .ok (.iastore, 1) := by decide +kernel
theorem dX9_goMinute_145 : decode cX9_goMinute 145 = .ok (.iconst 0, 1) := by decide +kernel
theorem dX9_goMinute_146 : decode cX9_goMinute 146 = .ok (.istore_n 3, 1) := by decide +kernel
theorem dX9_goMinute_147 : decode cX9_goMinute 147 = .ok (.iload_n 3, 1) := by decide +kernel
theorem dX9_goMinute_148 : decode cX9_goMinute 148 = .ok (.aload_n 0, 1) := by decide +kernel
theorem dX9_goMinute_149 : decode cX9_goMinute 149 = .ok (.getfield 7, 3) := by decide +kernel
theorem dX9_goMinute_152 : decode cX9_goMinute 152 = .ok (.if_icmp .ge 21, 3) := by decide +kernel
theorem dX9_goMinute_155 : decode cX9_goMinute 155 = .ok (.aload_n 0, 1) := by decide +kernel
theorem dX9_goMinute_156 : decode cX9_goMinute 156 = .ok (.getfield 32, 3) := by decide +kernel
theorem dX9_goMinute_159 : decode cX9_goMinute 159 = .ok (.iload_n 3, 1) := by decide +kernel
theorem dX9_goMinute_160 : decode cX9_goMinute 160 = .ok (.aload_n 0, 1) := by decide +kernel
theorem dX9_goMinute_161 : decode cX9_goMinute 161 = .ok (.getfield 102, 3) := by decide +kernel
theorem dX9_goMinute_164 : decode cX9_goMinute 164 = .ok (.iload_n 3, 1) := by decide +kernel
theorem dX9_goMinute_165 : decode cX9_goMinute 165 = .ok (.iaload, 1) := by decide +kernel
theorem dX9_goMinute_166 : decode cX9_goMinute 166 = .ok (.iastore, 1) := by decide +kernel
theorem dX9_goMinute_167 : decode cX9_goMinute 167 = .ok (.iinc 3 1, 3) := by decide +kernel
theorem dX9_goMinute_170 : decode cX9_goMinute 170 = .ok (.goto (-23), 3) := by decide +kernel
theorem dX9_goMinute_173 : decode cX9_goMinute 173 = .ok (.aload_n 0, 1) := by decide +kernel
theorem dX9_goMinute_174 : decode cX9_goMinute 174 = .ok (.dup, 1) := by decide +kernel
theorem dX9_goMinute_175 : decode cX9_goMinute 175 = .ok (.getfield 22, 3) := by decide +kernel
theorem dX9_goMinute_178 : decode cX9_goMinute 178 = .ok (.iconst 1, 1) := by decide +kernel
theorem dX9_goMinute_179 : decode cX9_goMinute 179 = .ok (.iadd, 1) := by decide +kernel
theorem dX9_goMinute_180 : decode cX9_goMinute 180 = .ok (.putfield 22, 3) := by decide +kernel
theorem dX9_goMinute_183 : decode cX9_goMinute 183 = .ok (.return_, 1) := by decide +kernel
theorem dX9_goMinutes_0 : decode cX9_goMinutes 0 = .ok (.iconst 0, 1) := by decide +kernel
theorem dX9_goMinutes_1 : decode cX9_goMinutes 1 = .ok (.istore_n 2, 1) := by decide +kernel
theorem dX9_goMinutes_2 : decode cX9_goMinutes 2 = .ok (.iload_n 2, 1) := by decide +kernel
theorem dX9_goMinutes_3 : decode cX9_goMinutes 3 = .ok (.iload_n 1, 1) := by decide +kernel
theorem dX9_goMinutes_4 : decode cX9_goMinutes 4 = .ok (.if_icmp .ge 13, 3) := by decide +kernel
theorem dX9_goMinutes_7 : decode cX9_goMinutes 7 = .ok (.aload_n 0, 1) := by decide +kernel
theorem dX9_goMinutes_8 : decode cX9_goMinutes 8 = .ok (.invokevirtual 359, 3) := by decide +kernel
theorem dX9_goMinutes_11 : decode cX9_goMinutes 11 = .ok (.iinc 2 1, 3) := by decide +kernel
theorem dX9_goMinutes_14 : decode cX9_goMinutes 14 = .ok (.goto (-12), 3) := by decide +kernel
theorem dX9_goMinutes_17 : decode cX9_goMinutes 17 = .ok (.return_, 1) := by decide +kernel
theorem dX9_pass_0 : decode cX9_pass 0 = .ok (.aload_n 0, 1) := by decide +kernel
theorem dX9_pass_1 : decode cX9_pass 1 = .ok (.iload_n 1, 1) := by decide +kernel
theorem dX9_pass_2 : decode cX9_pass 2 = .ok (.invokevirtual 362, 3) := by decide +kernel
theorem dX9_pass_5 : decode cX9_pass 5 = .ok (.ifCond .ne 6, 3) := by decide +kernel
theorem dX9_pass_8 : decode cX9_pass 8 = .ok (.bipush (-2), 2) := by decide +kernel
theorem dX9_pass_10 : decode cX9_pass 10 = .ok (.ireturn, 1) := by decide +kernel
theorem dX9_pass_11 : decode cX9_pass 11 = .ok (.aload_n 0, 1) := by decide +kernel
theorem dX9_pass_12 : decode cX9_pass 12 = .ok (.getfield 22, 3) := by decide +kernel
theorem dX9_pass_15 : decode cX9_pass 15 = .ok (.iload_n 1, 1) := by decide +kernel
theorem dX9_pass_16 : decode cX9_pass 16 = .ok (.iadd, 1) := by decide +kernel
theorem dX9_pass_17 : decode cX9_pass 17 = .ok (.sipush 9999, 3) := by decide +kernel
theorem dX9_pass_20 : decode cX9_pass 20 = .ok (.if_icmp .le 6, 3) := by decide +kernel
theorem dX9_pass_23 : decode cX9_pass 23 = .ok (.bipush (-3), 2) := by decide +kernel
theorem dX9_pass_25 : decode cX9_pass 25 = .ok (.ireturn, 1) := by decide +kernel
theorem dX9_pass_26 : decode cX9_pass 26 = .ok (.aload_n 0, 1) := by decide +kernel
theorem dX9_pass_27 : decode cX9_pass 27 = .ok (.iload_n 1, 1) := by decide +kernel
theorem dX9_pass_28 : decode cX9_pass 28 = .ok (.invokevirtual 365, 3) := by decide +kernel
theorem dX9_pass_31 : decode cX9_pass 31 = .ok (.aload_n 0, 1) := by decide +kernel
theorem dX9_pass_32 : decode cX9_pass 32 = .ok (.getfield 22, 3) := by decide +kernel
theorem dX9_pass_35 : decode cX9_pass 35 = .ok (.ireturn, 1) := by decide +kernel
theorem dX9_save_0 : decode cX9_save 0 = .ok (.aload_n 0, 1) := by decide +kernel
theorem dX9_save_1 : decode cX9_save 1 = .ok (.aload_n 0, 1) := by decide +kernel
theorem dX9_save_2 : decode cX9_save 2 = .ok (.getfield 13, 3) := by decide +kernel
theorem dX9_save_5 : decode cX9_save 5 = .ok (.putfield 105, 3) := by decide +kernel
theorem dX9_save_8 : decode cX9_save 8 = .ok (.aload_n 0, 1) := by decide +kernel
theorem dX9_save_9 : decode cX9_save 9 = .ok (.aload_n 0, 1) := by decide +kernel
theorem dX9_save_10 : decode cX9_save 10 = .ok (.getfield 19, 3) := by decide +kernel
theorem dX9_save_13 : decode cX9_save 13 = .ok (.putfield 108, 3) := by decide +kernel
theorem dX9_save_16 : decode cX9_save 16 = .ok (.aload_n 0, 1) := by decide +kernel
theorem dX9_save_17 : decode cX9_save 17 = .ok (.aload_n 0, 1) := by decide +kernel
theorem dX9_save_18 : decode cX9_save 18 = .ok (.getfield 22, 3) := by decide +kernel
theorem dX9_save_21 : decode cX9_save 21 = .ok (.putfield 111, 3) := by decide +kernel
theorem dX9_save_24 : decode cX9_save 24 = .ok (.iconst 0, 1) := by decide +kernel
theorem dX9_save_25 : decode cX9_save 25 = .ok (.istore_n 1, 1) := by decide +kernel
theorem dX9_save_26 : decode cX9_save 26 = .ok (.iload_n 1, 1) := by decide +kernel
theorem dX9_save_27 : decode cX9_save 27 = .ok (.bipush 6, 2) := by decide +kernel
theorem dX9_save_29 : decode cX9_save 29 = .ok (.if_icmp .ge 21, 3) := by decide +kernel
theorem dX9_save_32 : decode cX9_save 32 = .ok (.aload_n 0, 1) := by decide +kernel
theorem dX9_save_33 : decode cX9_save 33 = .ok (.getfield 114, 3) := by decide +kernel
theorem dX9_save_36 : decode cX9_save 36 = .ok (.iload_n 1, 1) := by decide +kernel
theorem dX9_save_37 : decode cX9_save 37 = .ok (.aload_n 0, 1) := by decide +kernel
theorem dX9_save_38 : decode cX9_save 38 = .ok (.getfield 32, 3) := by decide +kernel
theorem dX9_save_41 : decode cX9_save 41 = .ok (.iload_n 1, 1) := by decide +kernel
theorem dX9_save_42 : decode cX9_save 42 = .ok (.iaload, 1) := by decide +kernel
theorem dX9_save_43 : decode cX9_save 43 = .ok (.iastore, 1) := by decide +kernel
theorem dX9_save_44 : decode cX9_save 44 = .ok (.iinc 1 1, 3) := by decide +kernel
theorem dX9_save_47 : decode cX9_save 47 = .ok (.goto (-21), 3) := by decide +kernel
theorem dX9_save_50 : decode cX9_save 50 = .ok (.iconst 0, 1) := by decide +kernel
theorem dX9_save_51 : decode cX9_save 51 = .ok (.istore_n 1, 1) := by decide +kernel
theorem dX9_save_52 : decode cX9_save 52 = .ok (.iload_n 1, 1) := by decide +kernel
theorem dX9_save_53 : decode cX9_save 53 = .ok (.iconst 4, 1) := by decide +kernel
theorem dX9_save_54 : decode cX9_save 54 = .ok (.if_icmp .ge 21, 3) := by decide +kernel
theorem dX9_save_57 : decode cX9_save 57 = .ok (.aload_n 0, 1) := by decide +kernel
theorem dX9_save_58 : decode cX9_save 58 = .ok (.getfield 117, 3) := by decide +kernel
theorem dX9_save_61 : decode cX9_save 61 = .ok (.iload_n 1, 1) := by decide +kernel
theorem dX9_save_62 : decode cX9_save 62 = .ok (.aload_n 0, 1) := by decide +kernel
theorem dX9_save_63 : decode cX9_save 63 = .ok (.getfield 44, 3) := by decide +kernel
theorem dX9_save_66 : decode cX9_save 66 = .ok (.iload_n 1, 1) := by decide +kernel
theorem dX9_save_67 : decode cX9_save 67 = .ok (.iaload, 1) := by decide +kernel
theorem dX9_save_68 : decode cX9_save 68 = .ok (.iastore, 1) := by decide +kernel
theorem dX9_save_69 : decode cX9_save 69 = .ok (.iinc 1 1, 3) := by decide +kernel
theorem dX9_save_72 : decode cX9_save 72 = .ok (.goto (-20), 3) := by decide +kernel
theorem dX9_save_75 : decode cX9_save 75 = .ok (.return_, 1) := by decide +kernel
theorem dX9_putBack_0 : decode cX9_putBack 0 = .ok (.aload_n 0, 1) := by decide +kernel
theorem dX9_putBack_1 : decode cX9_putBack 1 = .ok (.aload_n 0, 1) := by decide +kernel
theorem dX9_putBack_2 : decode cX9_putBack 2 = .ok (.getfield 105, 3) := by decide +kernel
theorem dX9_putBack_5 : decode cX9_putBack 5 = .ok (.putfield 13, 3) := by decide +kernel
theorem dX9_putBack_8 : decode cX9_putBack 8 = .ok (.aload_n 0, 1) := by decide +kernel
theorem dX9_putBack_9 : decode cX9_putBack 9 = .ok (.aload_n 0, 1) := by decide +kernel
theorem dX9_putBack_10 : decode cX9_putBack 10 = .ok (.getfield 108, 3) := by decide +kernel
theorem dX9_putBack_13 : decode cX9_putBack 13 = .ok (.putfield 19, 3) := by decide +kernel
theorem dX9_putBack_16 : decode cX9_putBack 16 = .ok (.aload_n 0, 1) := by decide +kernel
theorem dX9_putBack_17 : decode cX9_putBack 17 = .ok (.aload_n 0, 1) := by decide +kernel
theorem dX9_putBack_18 : decode cX9_putBack 18 = .ok (.getfield 111, 3) := by decide +kernel
theorem dX9_putBack_21 : decode cX9_putBack 21 = .ok (.putfield 22, 3) := by decide +kernel
theorem dX9_putBack_24 : decode cX9_putBack 24 = .ok (.iconst 0, 1) := by decide +kernel
theorem dX9_putBack_25 : decode cX9_putBack 25 = .ok (.istore_n 1, 1) := by decide +kernel
theorem dX9_putBack_26 : decode cX9_putBack 26 = .ok (.iload_n 1, 1) := by decide +kernel
theorem dX9_putBack_27 : decode cX9_putBack 27 = .ok (.bipush 6, 2) := by decide +kernel
theorem dX9_putBack_29 : decode cX9_putBack 29 = .ok (.if_icmp .ge 21, 3) := by decide +kernel
theorem dX9_putBack_32 : decode cX9_putBack 32 = .ok (.aload_n 0, 1) := by decide +kernel
theorem dX9_putBack_33 : decode cX9_putBack 33 = .ok (.getfield 32, 3) := by decide +kernel
theorem dX9_putBack_36 : decode cX9_putBack 36 = .ok (.iload_n 1, 1) := by decide +kernel
theorem dX9_putBack_37 : decode cX9_putBack 37 = .ok (.aload_n 0, 1) := by decide +kernel
theorem dX9_putBack_38 : decode cX9_putBack 38 = .ok (.getfield 114, 3) := by decide +kernel
theorem dX9_putBack_41 : decode cX9_putBack 41 = .ok (.iload_n 1, 1) := by decide +kernel
theorem dX9_putBack_42 : decode cX9_putBack 42 = .ok (.iaload, 1) := by decide +kernel
theorem dX9_putBack_43 : decode cX9_putBack 43 = .ok (.iastore, 1) := by decide +kernel
theorem dX9_putBack_44 : decode cX9_putBack 44 = .ok (.iinc 1 1, 3) := by decide +kernel
theorem dX9_putBack_47 : decode cX9_putBack 47 = .ok (.goto (-21), 3) := by decide +kernel
theorem dX9_putBack_50 : decode cX9_putBack 50 = .ok (.iconst 0, 1) := by decide +kernel
theorem dX9_putBack_51 : decode cX9_putBack 51 = .ok (.istore_n 1, 1) := by decide +kernel
theorem dX9_putBack_52 : decode cX9_putBack 52 = .ok (.iload_n 1, 1) := by decide +kernel
theorem dX9_putBack_53 : decode cX9_putBack 53 = .ok (.iconst 4, 1) := by decide +kernel
theorem dX9_putBack_54 : decode cX9_putBack 54 = .ok (.if_icmp .ge 21, 3) := by decide +kernel
theorem dX9_putBack_57 : decode cX9_putBack 57 = .ok (.aload_n 0, 1) := by decide +kernel
theorem dX9_putBack_58 : decode cX9_putBack 58 = .ok (.getfield 44, 3) := by decide +kernel
theorem dX9_putBack_61 : decode cX9_putBack 61 = .ok (.iload_n 1, 1) := by decide +kernel
theorem dX9_putBack_62 : decode cX9_putBack 62 = .ok (.aload_n 0, 1) := by decide +kernel
theorem dX9_putBack_63 : decode cX9_putBack 63 = .ok (.getfield 117, 3) := by decide +kernel
theorem dX9_putBack_66 : decode cX9_putBack 66 = .ok (.iload_n 1, 1) := by decide +kernel
theorem dX9_putBack_67 : decode cX9_putBack 67 = .ok (.iaload, 1) := by decide +kernel
theorem dX9_putBack_68 : decode cX9_putBack 68 = .ok (.iastore, 1) := by decide +kernel
theorem dX9_putBack_69 : decode cX9_putBack 69 = .ok (.iinc 1 1, 3) := by decide +kernel
theorem dX9_putBack_72 : decode cX9_putBack 72 = .ok (.goto (-20), 3) := by decide +kernel
theorem dX9_putBack_75 : decode cX9_putBack 75 = .ok (.return_, 1) := by decide +kernel
theorem dX9_ready_0 : decode cX9_ready 0 = .ok (.aload_n 0, 1) := by decide +kernel
theorem dX9_ready_1 : decode cX9_ready 1 = .ok (.invokevirtual 368, 3) := by decide +kernel
theorem dX9_ready_4 : decode cX9_ready 4 = .ok (.aload_n 0, 1) := by decide +kernel
theorem dX9_ready_5 : decode cX9_ready 5 = .ok (.iload_n 1, 1) := by decide +kernel
theorem dX9_ready_6 : decode cX9_ready 6 = .ok (.putfield 19, 3) := by decide +kernel
theorem dX9_ready_9 : decode cX9_ready 9 = .ok (.iconst 0, 1) := by decide +kernel
theorem dX9_ready_10 : decode cX9_ready 10 = .ok (.istore_n 2, 1) := by decide +kernel
theorem dX9_ready_11 : decode cX9_ready 11 = .ok (.iload_n 2, 1) := by decide +kernel
theorem dX9_ready_12 : decode cX9_ready 12 = .ok (.bipush 61, 2) := by decide +kernel
theorem dX9_ready_14 : decode cX9_ready 14 = .ok (.if_icmp .ge 21, 3) := by decide +kernel
theorem dX9_ready_17 : decode cX9_ready 17 = .ok (.aload_n 0, 1) := by decide +kernel
theorem dX9_ready_18 : decode cX9_ready 18 = .ok (.iload_n 1, 1) := by decide +kernel
theorem dX9_ready_19 : decode cX9_ready 19 = .ok (.invokevirtual 341, 3) := by decide +kernel
theorem dX9_ready_22 : decode cX9_ready 22 = .ok (.ifCond .ne 13, 3) := by decide +kernel
theorem dX9_ready_25 : decode cX9_ready 25 = .ok (.aload_n 0, 1) := by decide +kernel
theorem dX9_ready_26 : decode cX9_ready 26 = .ok (.invokevirtual 359, 3) := by decide +kernel
theorem dX9_ready_29 : decode cX9_ready 29 = .ok (.iinc 2 1, 3) := by decide +kernel
end
section
/-! ===== decode rows ===== -/
theorem dX9_ready_32 : decode cX9_ready 32 = .ok (.goto (-21), 3) := by decide +kernel
theorem dX9_ready_35 : decode cX9_ready 35 = .ok (.aload_n 0, 1) := by decide +kernel
theorem dX9_ready_36 : decode cX9_ready 36 = .ok (.invokevirtual 371, 3) := by decide +kernel
theorem dX9_ready_39 : decode cX9_ready 39 = .ok (.iload_n 2, 1) := by decide +kernel
theorem dX9_ready_40 : decode cX9_ready 40 = .ok (.bipush 61, 2) := by decide +kernel
theorem dX9_ready_42 : decode cX9_ready 42 = .ok (.if_icmp .ge 7, 3) := by decide +kernel
theorem dX9_ready_45 : decode cX9_ready 45 = .ok (.iload_n 2, 1) := by decide +kernel
theorem dX9_ready_46 : decode cX9_ready 46 = .ok (.goto 5, 3) := by decide +kernel
theorem dX9_ready_49 : decode cX9_ready 49 = .ok (.bipush (-5), 2) := by decide +kernel
theorem dX9_ready_51 : decode cX9_ready 51 = .ok (.ireturn, 1) := by decide +kernel
theorem dX9_piece_0 : decode cX9_piece 0 = .ok (.aload_n 0, 1) := by decide +kernel
theorem dX9_piece_1 : decode cX9_piece 1 = .ok (.iload_n 1, 1) := by decide +kernel
theorem dX9_piece_2 : decode cX9_piece 2 = .ok (.invokevirtual 271, 3) := by decide +kernel
theorem dX9_piece_5 : decode cX9_piece 5 = .ok (.ifCond .ne 5, 3) := by decide +kernel
theorem dX9_piece_8 : decode cX9_piece 8 = .ok (.iconst (-1), 1) := by decide +kernel
theorem dX9_piece_9 : decode cX9_piece 9 = .ok (.ireturn, 1) := by decide +kernel
theorem dX9_piece_10 : decode cX9_piece 10 = .ok (.iload_n 2, 1) := by decide +kernel
theorem dX9_piece_11 : decode cX9_piece 11 = .ok (.tableswitch 74 0 4 #[33, 40, 47, 54, 68], 33) := by decide +kernel
theorem dX9_piece_44 : decode cX9_piece 44 = .ok (.aload_n 0, 1) := by decide +kernel
theorem dX9_piece_45 : decode cX9_piece 45 = .ok (.getfield 38, 3) := by decide +kernel
theorem dX9_piece_48 : decode cX9_piece 48 = .ok (.iload_n 1, 1) := by decide +kernel
theorem dX9_piece_49 : decode cX9_piece 49 = .ok (.iaload, 1) := by decide +kernel
theorem dX9_piece_50 : decode cX9_piece 50 = .ok (.ireturn, 1) := by decide +kernel
theorem dX9_piece_51 : decode cX9_piece 51 = .ok (.aload_n 0, 1) := by decide +kernel
theorem dX9_piece_52 : decode cX9_piece 52 = .ok (.getfield 41, 3) := by decide +kernel
theorem dX9_piece_55 : decode cX9_piece 55 = .ok (.iload_n 1, 1) := by decide +kernel
theorem dX9_piece_56 : decode cX9_piece 56 = .ok (.iaload, 1) := by decide +kernel
theorem dX9_piece_57 : decode cX9_piece 57 = .ok (.ireturn, 1) := by decide +kernel
theorem dX9_piece_58 : decode cX9_piece 58 = .ok (.aload_n 0, 1) := by decide +kernel
theorem dX9_piece_59 : decode cX9_piece 59 = .ok (.getfield 44, 3) := by decide +kernel
theorem dX9_piece_62 : decode cX9_piece 62 = .ok (.iload_n 1, 1) := by decide +kernel
theorem dX9_piece_63 : decode cX9_piece 63 = .ok (.iaload, 1) := by decide +kernel
theorem dX9_piece_64 : decode cX9_piece 64 = .ok (.ireturn, 1) := by decide +kernel
theorem dX9_piece_65 : decode cX9_piece 65 = .ok (.aload_n 0, 1) := by decide +kernel
theorem dX9_piece_66 : decode cX9_piece 66 = .ok (.iload_n 1, 1) := by decide +kernel
theorem dX9_piece_67 : decode cX9_piece 67 = .ok (.invokevirtual 341, 3) := by decide +kernel
theorem dX9_piece_70 : decode cX9_piece 70 = .ok (.ifCond .eq 7, 3) := by decide +kernel
theorem dX9_piece_73 : decode cX9_piece 73 = .ok (.iconst 1, 1) := by decide +kernel
theorem dX9_piece_74 : decode cX9_piece 74 = .ok (.goto 4, 3) := by decide +kernel
theorem dX9_piece_77 : decode cX9_piece 77 = .ok (.iconst 0, 1) := by decide +kernel
theorem dX9_piece_78 : decode cX9_piece 78 = .ok (.ireturn, 1) := by decide +kernel
theorem dX9_piece_79 : decode cX9_piece 79 = .ok (.aload_n 0, 1) := by decide +kernel
theorem dX9_piece_80 : decode cX9_piece 80 = .ok (.iload_n 1, 1) := by decide +kernel
theorem dX9_piece_81 : decode cX9_piece 81 = .ok (.invokevirtual 374, 3) := by decide +kernel
theorem dX9_piece_84 : decode cX9_piece 84 = .ok (.ireturn, 1) := by decide +kernel
theorem dX9_piece_85 : decode cX9_piece 85 = .ok (.iconst (-1), 1) := by decide +kernel
theorem dX9_piece_86 : decode cX9_piece 86 = .ok (.ireturn, 1) := by decide +kernel
theorem dX9_on_0 : decode cX9_on 0 = .ok (.iload_n 2, 1) := by decide +kernel
theorem dX9_on_1 : decode cX9_on 1 = .ok (.ifCond .eq 39, 3) := by decide +kernel
theorem dX9_on_4 : decode cX9_on 4 = .ok (.aload_n 0, 1) := by decide +kernel
theorem dX9_on_5 : decode cX9_on 5 = .ok (.iload_n 2, 1) := by decide +kernel
theorem dX9_on_6 : decode cX9_on 6 = .ok (.bipush 10, 2) := by decide +kernel
theorem dX9_on_8 : decode cX9_on 8 = .ok (.bipush 9, 2) := by decide +kernel
theorem dX9_on_10 : decode cX9_on 10 = .ok (.aload_n 0, 1) := by decide +kernel
theorem dX9_on_11 : decode cX9_on 11 = .ok (.getfield 7, 3) := by decide +kernel
theorem dX9_on_14 : decode cX9_on 14 = .ok (.iadd, 1) := by decide +kernel
theorem dX9_on_15 : decode cX9_on 15 = .ok (.invokevirtual 252, 3) := by decide +kernel
theorem dX9_on_18 : decode cX9_on 18 = .ok (.ifCond .ne 22, 3) := by decide +kernel
theorem dX9_on_21 : decode cX9_on 21 = .ok (.aload_n 0, 1) := by decide +kernel
theorem dX9_on_22 : decode cX9_on 22 = .ok (.iload_n 2, 1) := by decide +kernel
theorem dX9_on_23 : decode cX9_on 23 = .ok (.bipush 20, 2) := by decide +kernel
theorem dX9_on_25 : decode cX9_on 25 = .ok (.bipush 19, 2) := by decide +kernel
theorem dX9_on_27 : decode cX9_on 27 = .ok (.aload_n 0, 1) := by decide +kernel
theorem dX9_on_28 : decode cX9_on 28 = .ok (.getfield 16, 3) := by decide +kernel
theorem dX9_on_31 : decode cX9_on 31 = .ok (.iadd, 1) := by decide +kernel
theorem dX9_on_32 : decode cX9_on 32 = .ok (.invokevirtual 252, 3) := by decide +kernel
theorem dX9_on_35 : decode cX9_on 35 = .ok (.ifCond .ne 5, 3) := by decide +kernel
theorem dX9_on_38 : decode cX9_on 38 = .ok (.iconst (-1), 1) := by decide +kernel
theorem dX9_on_39 : decode cX9_on 39 = .ok (.ireturn, 1) := by decide +kernel
theorem dX9_on_40 : decode cX9_on 40 = .ok (.aload_n 0, 1) := by decide +kernel
theorem dX9_on_41 : decode cX9_on 41 = .ok (.iload_n 1, 1) := by decide +kernel
theorem dX9_on_42 : decode cX9_on 42 = .ok (.invokevirtual 362, 3) := by decide +kernel
theorem dX9_on_45 : decode cX9_on 45 = .ok (.ifCond .ne 6, 3) := by decide +kernel
theorem dX9_on_48 : decode cX9_on 48 = .ok (.bipush (-2), 2) := by decide +kernel
theorem dX9_on_50 : decode cX9_on 50 = .ok (.ireturn, 1) := by decide +kernel
theorem dX9_on_51 : decode cX9_on 51 = .ok (.aload_n 0, 1) := by decide +kernel
theorem dX9_on_52 : decode cX9_on 52 = .ok (.invokevirtual 368, 3) := by decide +kernel
theorem dX9_on_55 : decode cX9_on 55 = .ok (.aload_n 0, 1) := by decide +kernel
theorem dX9_on_56 : decode cX9_on 56 = .ok (.iload_n 1, 1) := by decide +kernel
theorem dX9_on_57 : decode cX9_on 57 = .ok (.invokevirtual 365, 3) := by decide +kernel
theorem dX9_on_60 : decode cX9_on 60 = .ok (.iload_n 2, 1) := by decide +kernel
theorem dX9_on_61 : decode cX9_on 61 = .ok (.ifCond .ne 10, 3) := by decide +kernel
theorem dX9_on_64 : decode cX9_on 64 = .ok (.aload_n 0, 1) := by decide +kernel
theorem dX9_on_65 : decode cX9_on 65 = .ok (.invokevirtual 347, 3) := by decide +kernel
theorem dX9_on_68 : decode cX9_on 68 = .ok (.goto 30, 3) := by decide +kernel
theorem dX9_on_71 : decode cX9_on 71 = .ok (.iload_n 2, 1) := by decide +kernel
theorem dX9_on_72 : decode cX9_on 72 = .ok (.bipush 20, 2) := by decide +kernel
theorem dX9_on_74 : decode cX9_on 74 = .ok (.if_icmp .ge 15, 3) := by decide +kernel
theorem dX9_on_77 : decode cX9_on 77 = .ok (.aload_n 0, 1) := by decide +kernel
theorem dX9_on_78 : decode cX9_on 78 = .ok (.getfield 32, 3) := by decide +kernel
theorem dX9_on_81 : decode cX9_on 81 = .ok (.iload_n 2, 1) := by decide +kernel
theorem dX9_on_82 : decode cX9_on 82 = .ok (.bipush 10, 2) := by decide +kernel
theorem dX9_on_84 : decode cX9_on 84 = .ok (.isub, 1) := by decide +kernel
theorem dX9_on_85 : decode cX9_on 85 = .ok (.iaload, 1) := by decide +kernel
theorem dX9_on_86 : decode cX9_on 86 = .ok (.goto 12, 3) := by decide +kernel
theorem dX9_on_89 : decode cX9_on 89 = .ok (.aload_n 0, 1) := by decide +kernel
theorem dX9_on_90 : decode cX9_on 90 = .ok (.getfield 44, 3) := by decide +kernel
theorem dX9_on_93 : decode cX9_on 93 = .ok (.iload_n 2, 1) := by decide +kernel
theorem dX9_on_94 : decode cX9_on 94 = .ok (.bipush 20, 2) := by decide +kernel
theorem dX9_on_96 : decode cX9_on 96 = .ok (.isub, 1) := by decide +kernel
theorem dX9_on_97 : decode cX9_on 97 = .ok (.iaload, 1) := by decide +kernel
theorem dX9_on_98 : decode cX9_on 98 = .ok (.istore_n 3, 1) := by decide +kernel
theorem dX9_on_99 : decode cX9_on 99 = .ok (.aload_n 0, 1) := by decide +kernel
theorem dX9_on_100 : decode cX9_on 100 = .ok (.invokevirtual 371, 3) := by decide +kernel
theorem dX9_on_103 : decode cX9_on 103 = .ok (.iload_n 3, 1) := by decide +kernel
theorem dX9_on_104 : decode cX9_on 104 = .ok (.ireturn, 1) := by decide +kernel
theorem dX9_layLine_0 : decode cX9_layLine 0 = .ok (.iload_n 1, 1) := by decide +kernel
theorem dX9_layLine_1 : decode cX9_layLine 1 = .ok (.istore_n 2, 1) := by decide +kernel
theorem dX9_layLine_2 : decode cX9_layLine 2 = .ok (.iconst 0, 1) := by decide +kernel
theorem dX9_layLine_3 : decode cX9_layLine 3 = .ok (.istore_n 3, 1) := by decide +kernel
theorem dX9_layLine_4 : decode cX9_layLine 4 = .ok (.aload_n 0, 1) := by decide +kernel
theorem dX9_layLine_5 : decode cX9_layLine 5 = .ok (.getfield 16, 3) := by decide +kernel
theorem dX9_layLine_8 : decode cX9_layLine 8 = .ok (.iconst 1, 1) := by decide +kernel
theorem dX9_layLine_9 : decode cX9_layLine 9 = .ok (.isub, 1) := by decide +kernel
theorem dX9_layLine_10 : decode cX9_layLine 10 = .ok (.istore 4, 2) := by decide +kernel
theorem dX9_layLine_12 : decode cX9_layLine 12 = .ok (.iload 4, 2) := by decide +kernel
theorem dX9_layLine_14 : decode cX9_layLine 14 = .ok (.ifCond .lt 58, 3) := by decide +kernel
theorem dX9_layLine_17 : decode cX9_layLine 17 = .ok (.aload_n 0, 1) := by decide +kernel
theorem dX9_layLine_18 : decode cX9_layLine 18 = .ok (.getfield 120, 3) := by decide +kernel
theorem dX9_layLine_21 : decode cX9_layLine 21 = .ok (.iload 4, 2) := by decide +kernel
theorem dX9_layLine_23 : decode cX9_layLine 23 = .ok (.iload_n 2, 1) := by decide +kernel
theorem dX9_layLine_24 : decode cX9_layLine 24 = .ok (.aload_n 0, 1) := by decide +kernel
theorem dX9_layLine_25 : decode cX9_layLine 25 = .ok (.getfield 16, 3) := by decide +kernel
theorem dX9_layLine_28 : decode cX9_layLine 28 = .ok (.irem, 1) := by decide +kernel
theorem dX9_layLine_29 : decode cX9_layLine 29 = .ok (.iastore, 1) := by decide +kernel
theorem dX9_layLine_30 : decode cX9_layLine 30 = .ok (.iload_n 2, 1) := by decide +kernel
theorem dX9_layLine_31 : decode cX9_layLine 31 = .ok (.aload_n 0, 1) := by decide +kernel
theorem dX9_layLine_32 : decode cX9_layLine 32 = .ok (.getfield 16, 3) := by decide +kernel
theorem dX9_layLine_35 : decode cX9_layLine 35 = .ok (.idiv, 1) := by decide +kernel
theorem dX9_layLine_36 : decode cX9_layLine 36 = .ok (.istore_n 2, 1) := by decide +kernel
theorem dX9_layLine_37 : decode cX9_layLine 37 = .ok (.aload_n 0, 1) := by decide +kernel
theorem dX9_layLine_38 : decode cX9_layLine 38 = .ok (.iload_n 3, 1) := by decide +kernel
theorem dX9_layLine_39 : decode cX9_layLine 39 = .ok (.aload_n 0, 1) := by decide +kernel
theorem dX9_layLine_40 : decode cX9_layLine 40 = .ok (.getfield 120, 3) := by decide +kernel
theorem dX9_layLine_43 : decode cX9_layLine 43 = .ok (.iload 4, 2) := by decide +kernel
theorem dX9_layLine_45 : decode cX9_layLine 45 = .ok (.iaload, 1) := by decide +kernel
theorem dX9_layLine_46 : decode cX9_layLine 46 = .ok (.invokevirtual 263, 3) := by decide +kernel
theorem dX9_layLine_49 : decode cX9_layLine 49 = .ok (.ifCond .eq 5, 3) := by decide +kernel
theorem dX9_layLine_52 : decode cX9_layLine 52 = .ok (.iconst 0, 1) := by decide +kernel
theorem dX9_layLine_53 : decode cX9_layLine 53 = .ok (.ireturn, 1) := by decide +kernel
theorem dX9_layLine_54 : decode cX9_layLine 54 = .ok (.iload_n 3, 1) := by decide +kernel
theorem dX9_layLine_55 : decode cX9_layLine 55 = .ok (.iconst 1, 1) := by decide +kernel
theorem dX9_layLine_56 : decode cX9_layLine 56 = .ok (.aload_n 0, 1) := by decide +kernel
theorem dX9_layLine_57 : decode cX9_layLine 57 = .ok (.getfield 120, 3) := by decide +kernel
theorem dX9_layLine_60 : decode cX9_layLine 60 = .ok (.iload 4, 2) := by decide +kernel
theorem dX9_layLine_62 : decode cX9_layLine 62 = .ok (.iaload, 1) := by decide +kernel
theorem dX9_layLine_63 : decode cX9_layLine 63 = .ok (.ishl, 1) := by decide +kernel
theorem dX9_layLine_64 : decode cX9_layLine 64 = .ok (.ior, 1) := by decide +kernel
theorem dX9_layLine_65 : decode cX9_layLine 65 = .ok (.istore_n 3, 1) := by decide +kernel
theorem dX9_layLine_66 : decode cX9_layLine 66 = .ok (.iinc 4 (-1), 3) := by decide +kernel
theorem dX9_layLine_69 : decode cX9_layLine 69 = .ok (.goto (-57), 3) := by decide +kernel
theorem dX9_layLine_72 : decode cX9_layLine 72 = .ok (.iconst 1, 1) := by decide +kernel
theorem dX9_layLine_73 : decode cX9_layLine 73 = .ok (.ireturn, 1) := by decide +kernel
theorem dX9_firstOfLine_0 : decode cX9_firstOfLine 0 = .ok (.iconst 0, 1) := by decide +kernel
theorem dX9_firstOfLine_1 : decode cX9_firstOfLine 1 = .ok (.istore_n 1, 1) := by decide +kernel
theorem dX9_firstOfLine_2 : decode cX9_firstOfLine 2 = .ok (.iload_n 1, 1) := by decide +kernel
theorem dX9_firstOfLine_3 : decode cX9_firstOfLine 3 = .ok (.aload_n 0, 1) := by decide +kernel
theorem dX9_firstOfLine_4 : decode cX9_firstOfLine 4 = .ok (.getfield 16, 3) := by decide +kernel
theorem dX9_firstOfLine_7 : decode cX9_firstOfLine 7 = .ok (.if_icmp .ge 29, 3) := by decide +kernel
theorem dX9_firstOfLine_10 : decode cX9_firstOfLine 10 = .ok (.aload_n 0, 1) := by decide +kernel
theorem dX9_firstOfLine_11 : decode cX9_firstOfLine 11 = .ok (.aload_n 0, 1) := by decide +kernel
theorem dX9_firstOfLine_12 : decode cX9_firstOfLine 12 = .ok (.getfield 120, 3) := by decide +kernel
theorem dX9_firstOfLine_15 : decode cX9_firstOfLine 15 = .ok (.iload_n 1, 1) := by decide +kernel
theorem dX9_firstOfLine_16 : decode cX9_firstOfLine 16 = .ok (.iaload, 1) := by decide +kernel
theorem dX9_firstOfLine_17 : decode cX9_firstOfLine 17 = .ok (.invokevirtual 341, 3) := by decide +kernel
theorem dX9_firstOfLine_20 : decode cX9_firstOfLine 20 = .ok (.ifCond .ne 10, 3) := by decide +kernel
theorem dX9_firstOfLine_23 : decode cX9_firstOfLine 23 = .ok (.aload_n 0, 1) := by decide +kernel
theorem dX9_firstOfLine_24 : decode cX9_firstOfLine 24 = .ok (.getfield 120, 3) := by decide +kernel
theorem dX9_firstOfLine_27 : decode cX9_firstOfLine 27 = .ok (.iload_n 1, 1) := by decide +kernel
theorem dX9_firstOfLine_28 : decode cX9_firstOfLine 28 = .ok (.iaload, 1) := by decide +kernel
theorem dX9_firstOfLine_29 : decode cX9_firstOfLine 29 = .ok (.ireturn, 1) := by decide +kernel
theorem dX9_firstOfLine_30 : decode cX9_firstOfLine 30 = .ok (.iinc 1 1, 3) := by decide +kernel
theorem dX9_firstOfLine_33 : decode cX9_firstOfLine 33 = .ok (.goto (-31), 3) := by decide +kernel
theorem dX9_firstOfLine_36 : decode cX9_firstOfLine 36 = .ok (.bipush (-5), 2) := by decide +kernel
theorem dX9_firstOfLine_38 : decode cX9_firstOfLine 38 = .ok (.ireturn, 1) := by decide +kernel
theorem dX9_doneInTime_0 : decode cX9_doneInTime 0 = .ok (.aload_n 0, 1) := by decide +kernel
theorem dX9_doneInTime_1 : decode cX9_doneInTime 1 = .ok (.invokevirtual 368, 3) := by decide +kernel
theorem dX9_doneInTime_4 : decode cX9_doneInTime 4 = .ok (.aload_n 0, 1) := by decide +kernel
theorem dX9_doneInTime_5 : decode cX9_doneInTime 5 = .ok (.invokevirtual 347, 3) := by decide +kernel
theorem dX9_doneInTime_8 : decode cX9_doneInTime 8 = .ok (.istore_n 2, 1) := by decide +kernel
theorem dX9_doneInTime_9 : decode cX9_doneInTime 9 = .ok (.iconst 1, 1) := by decide +kernel
theorem dX9_doneInTime_10 : decode cX9_doneInTime 10 = .ok (.istore_n 3, 1) := by decide +kernel
theorem dX9_doneInTime_11 : decode cX9_doneInTime 11 = .ok (.iload_n 3, 1) := by decide +kernel
theorem dX9_doneInTime_12 : decode cX9_doneInTime 12 = .ok (.iload_n 1, 1) := by decide +kernel
theorem dX9_doneInTime_13 : decode cX9_doneInTime 13 = .ok (.if_icmp .gt 87, 3) := by decide +kernel
theorem dX9_doneInTime_16 : decode cX9_doneInTime 16 = .ok (.aload_n 0, 1) := by decide +kernel
theorem dX9_doneInTime_17 : decode cX9_doneInTime 17 = .ok (.invokevirtual 347, 3) := by decide +kernel
theorem dX9_doneInTime_20 : decode cX9_doneInTime 20 = .ok (.istore 4, 2) := by decide +kernel
theorem dX9_doneInTime_22 : decode cX9_doneInTime 22 = .ok (.aload_n 0, 1) := by decide +kernel
theorem dX9_doneInTime_23 : decode cX9_doneInTime 23 = .ok (.aload_n 0, 1) := by decide +kernel
theorem dX9_doneInTime_24 : decode cX9_doneInTime 24 = .ok (.invokevirtual 377, 3) := by decide +kernel
theorem dX9_doneInTime_27 : decode cX9_doneInTime 27 = .ok (.putfield 19, 3) := by decide +kernel
theorem dX9_doneInTime_30 : decode cX9_doneInTime 30 = .ok (.aload_n 0, 1) := by decide +kernel
theorem dX9_doneInTime_31 : decode cX9_doneInTime 31 = .ok (.invokevirtual 359, 3) := by decide +kernel
theorem dX9_doneInTime_34 : decode cX9_doneInTime 34 = .ok (.iconst 0, 1) := by decide +kernel
theorem dX9_doneInTime_35 : decode cX9_doneInTime 35 = .ok (.istore 5, 2) := by decide +kernel
theorem dX9_doneInTime_37 : decode cX9_doneInTime 37 = .ok (.iload 5, 2) := by decide +kernel
theorem dX9_doneInTime_39 : decode cX9_doneInTime 39 = .ok (.aload_n 0, 1) := by decide +kernel
theorem dX9_doneInTime_40 : decode cX9_doneInTime 40 = .ok (.getfield 16, 3) := by decide +kernel
theorem dX9_doneInTime_43 : decode cX9_doneInTime 43 = .ok (.if_icmp .ge 51, 3) := by decide +kernel
theorem dX9_doneInTime_46 : decode cX9_doneInTime 46 = .ok (.iload_n 2, 1) := by decide +kernel
theorem dX9_doneInTime_47 : decode cX9_doneInTime 47 = .ok (.aload_n 0, 1) := by decide +kernel
theorem dX9_doneInTime_48 : decode cX9_doneInTime 48 = .ok (.iload 5, 2) := by decide +kernel
theorem dX9_doneInTime_50 : decode cX9_doneInTime 50 = .ok (.invokevirtual 341, 3) := by decide +kernel
theorem dX9_doneInTime_53 : decode cX9_doneInTime 53 = .ok (.ifCond .eq 32, 3) := by decide +kernel
theorem dX9_doneInTime_56 : decode cX9_doneInTime 56 = .ok (.aload_n 0, 1) := by decide +kernel
theorem dX9_doneInTime_57 : decode cX9_doneInTime 57 = .ok (.iload 4, 2) := by decide +kernel
theorem dX9_doneInTime_59 : decode cX9_doneInTime 59 = .ok (.iload 5, 2) := by decide +kernel
theorem dX9_doneInTime_61 : decode cX9_doneInTime 61 = .ok (.invokevirtual 263, 3) := by decide +kernel
theorem dX9_doneInTime_64 : decode cX9_doneInTime 64 = .ok (.ifCond .ne 21, 3) := by decide +kernel
theorem dX9_doneInTime_67 : decode cX9_doneInTime 67 = .ok (.iload_n 3, 1) := by decide +kernel
theorem dX9_doneInTime_68 : decode cX9_doneInTime 68 = .ok (.aload_n 0, 1) := by decide +kernel
theorem dX9_doneInTime_69 : decode cX9_doneInTime 69 = .ok (.getfield 41, 3) := by decide +kernel
theorem dX9_doneInTime_72 : decode cX9_doneInTime 72 = .ok (.iload 5, 2) := by decide +kernel
theorem dX9_doneInTime_74 : decode cX9_doneInTime 74 = .ok (.iaload, 1) := by decide +kernel
theorem dX9_doneInTime_75 : decode cX9_doneInTime 75 = .ok (.if_icmp .gt 10, 3) := by decide +kernel
theorem dX9_doneInTime_78 : decode cX9_doneInTime 78 = .ok (.iconst 1, 1) := by decide +kernel
theorem dX9_doneInTime_79 : decode cX9_doneInTime 79 = .ok (.iload 5, 2) := by decide +kernel
theorem dX9_doneInTime_81 : decode cX9_doneInTime 81 = .ok (.ishl, 1) := by decide +kernel
theorem dX9_doneInTime_82 : decode cX9_doneInTime 82 = .ok (.goto 4, 3) := by decide +kernel
theorem dX9_doneInTime_85 : decode cX9_doneInTime 85 = .ok (.iconst 0, 1) := by decide +kernel
theorem dX9_doneInTime_86 : decode cX9_doneInTime 86 = .ok (.ior, 1) := by decide +kernel
theorem dX9_doneInTime_87 : decode cX9_doneInTime 87 = .ok (.istore_n 2, 1) := by decide +kernel
theorem dX9_doneInTime_88 : decode cX9_doneInTime 88 = .ok (.iinc 5 1, 3) := by decide +kernel
theorem dX9_doneInTime_91 : decode cX9_doneInTime 91 = .ok (.goto (-54), 3) := by decide +kernel
theorem dX9_doneInTime_94 : decode cX9_doneInTime 94 = .ok (.iinc 3 1, 3) := by decide +kernel
theorem dX9_doneInTime_97 : decode cX9_doneInTime 97 = .ok (.goto (-86), 3) := by decide +kernel
theorem dX9_doneInTime_100 : decode cX9_doneInTime 100 = .ok (.aload_n 0, 1) := by decide +kernel
theorem dX9_doneInTime_101 : decode cX9_doneInTime 101 = .ok (.invokevirtual 371, 3) := by decide +kernel
theorem dX9_doneInTime_104 : decode cX9_doneInTime 104 = .ok (.iconst 0, 1) := by decide +kernel
theorem dX9_doneInTime_105 : decode cX9_doneInTime 105 = .ok (.istore_n 3, 1) := by decide +kernel
theorem dX9_doneInTime_106 : decode cX9_doneInTime 106 = .ok (.iconst 0, 1) := by decide +kernel
theorem dX9_doneInTime_107 : decode cX9_doneInTime 107 = .ok (.istore 4, 2) := by decide +kernel
theorem dX9_doneInTime_109 : decode cX9_doneInTime 109 = .ok (.iload 4, 2) := by decide +kernel
theorem dX9_doneInTime_111 : decode cX9_doneInTime 111 = .ok (.aload_n 0, 1) := by decide +kernel
theorem dX9_doneInTime_112 : decode cX9_doneInTime 112 = .ok (.getfield 16, 3) := by decide +kernel
theorem dX9_doneInTime_115 : decode cX9_doneInTime 115 = .ok (.if_icmp .ge 27, 3) := by decide +kernel
theorem dX9_doneInTime_118 : decode cX9_doneInTime 118 = .ok (.iload_n 3, 1) := by decide +kernel
theorem dX9_doneInTime_119 : decode cX9_doneInTime 119 = .ok (.aload_n 0, 1) := by decide +kernel
theorem dX9_doneInTime_120 : decode cX9_doneInTime 120 = .ok (.iload_n 2, 1) := by decide +kernel
theorem dX9_doneInTime_121 : decode cX9_doneInTime 121 = .ok (.iload 4, 2) := by decide +kernel
theorem dX9_doneInTime_123 : decode cX9_doneInTime 123 = .ok (.invokevirtual 263, 3) := by decide +kernel
theorem dX9_doneInTime_126 : decode cX9_doneInTime 126 = .ok (.ifCond .eq 7, 3) := by decide +kernel
theorem dX9_doneInTime_129 : decode cX9_doneInTime 129 = .ok (.iconst 1, 1) := by decide +kernel
theorem dX9_doneInTime_130 : decode cX9_doneInTime 130 = .ok (.goto 4, 3) := by decide +kernel
theorem dX9_doneInTime_133 : decode cX9_doneInTime 133 = .ok (.iconst 0, 1) := by decide +kernel
theorem dX9_doneInTime_134 : decode cX9_doneInTime 134 = .ok (.iadd, 1) := by decide +kernel
theorem dX9_doneInTime_135 : decode cX9_doneInTime 135 = .ok (.istore_n 3, 1) := by decide +kernel
theorem dX9_doneInTime_136 : decode cX9_doneInTime 136 = .ok (.iinc 4 1, 3) := by decide +kernel
theorem dX9_doneInTime_139 : decode cX9_doneInTime 139 = .ok (.goto (-30), 3) := by decide +kernel
theorem dX9_doneInTime_142 : decode cX9_doneInTime 142 = .ok (.iload_n 3, 1) := by decide +kernel
theorem dX9_doneInTime_143 : decode cX9_doneInTime 143 = .ok (.ireturn, 1) := by decide +kernel
theorem dX9_best_0 : decode cX9_best 0 = .ok (.aload_n 0, 1) := by decide +kernel
theorem dX9_best_1 : decode cX9_best 1 = .ok (.iload_n 2, 1) := by decide +kernel
theorem dX9_best_2 : decode cX9_best 2 = .ok (.iconst (-1), 1) := by decide +kernel
theorem dX9_best_3 : decode cX9_best 3 = .ok (.iconst 3, 1) := by decide +kernel
theorem dX9_best_4 : decode cX9_best 4 = .ok (.invokevirtual 252, 3) := by decide +kernel
theorem dX9_best_7 : decode cX9_best 7 = .ok (.ifCond .ne 5, 3) := by decide +kernel
theorem dX9_best_10 : decode cX9_best 10 = .ok (.iconst (-1), 1) := by decide +kernel
theorem dX9_best_11 : decode cX9_best 11 = .ok (.ireturn, 1) := by decide +kernel
theorem dX9_best_12 : decode cX9_best 12 = .ok (.aload_n 0, 1) := by decide +kernel
theorem dX9_best_13 : decode cX9_best 13 = .ok (.iload_n 1, 1) := by decide +kernel
theorem dX9_best_14 : decode cX9_best 14 = .ok (.iconst 0, 1) := by decide +kernel
theorem dX9_best_15 : decode cX9_best 15 = .ok (.bipush 40, 2) := by decide +kernel
theorem dX9_best_17 : decode cX9_best 17 = .ok (.invokevirtual 252, 3) := by decide +kernel
theorem dX9_best_20 : decode cX9_best 20 = .ok (.ifCond .ne 6, 3) := by decide +kernel
theorem dX9_best_23 : decode cX9_best 23 = .ok (.bipush (-2), 2) := by decide +kernel
theorem dX9_best_25 : decode cX9_best 25 = .ok (.ireturn, 1) := by decide +kernel
theorem dX9_best_26 : decode cX9_best 26 = .ok (.iconst 1, 1) := by decide +kernel
theorem dX9_best_27 : decode cX9_best 27 = .ok (.istore_n 3, 1) := by decide +kernel
theorem dX9_best_28 : decode cX9_best 28 = .ok (.iconst 0, 1) := by decide +kernel
theorem dX9_best_29 : decode cX9_best 29 = .ok (.istore 4, 2) := by decide +kernel
theorem dX9_best_31 : decode cX9_best 31 = .ok (.iload 4, 2) := by decide +kernel
theorem dX9_best_33 : decode cX9_best 33 = .ok (.aload_n 0, 1) := by decide +kernel
theorem dX9_best_34 : decode cX9_best 34 = .ok (.getfield 16, 3) := by decide +kernel
theorem dX9_best_37 : decode cX9_best 37 = .ok (.if_icmp .ge 16, 3) := by decide +kernel
theorem dX9_best_40 : decode cX9_best 40 = .ok (.iload_n 3, 1) := by decide +kernel
theorem dX9_best_41 : decode cX9_best 41 = .ok (.aload_n 0, 1) := by decide +kernel
theorem dX9_best_42 : decode cX9_best 42 = .ok (.getfield 16, 3) := by decide +kernel
theorem dX9_best_45 : decode cX9_best 45 = .ok (.imul, 1) := by decide +kernel
theorem dX9_best_46 : decode cX9_best 46 = .ok (.istore_n 3, 1) := by decide +kernel
theorem dX9_best_47 : decode cX9_best 47 = .ok (.iinc 4 1, 3) := by decide +kernel
theorem dX9_best_50 : decode cX9_best 50 = .ok (.goto (-19), 3) := by decide +kernel
theorem dX9_best_53 : decode cX9_best 53 = .ok (.iconst (-1), 1) := by decide +kernel
theorem dX9_best_54 : decode cX9_best 54 = .ok (.istore 4, 2) := by decide +kernel
theorem dX9_best_56 : decode cX9_best 56 = .ok (.iconst 0, 1) := by decide +kernel
theorem dX9_best_57 : decode cX9_best 57 = .ok (.istore 5, 2) := by decide +kernel
theorem dX9_best_59 : decode cX9_best 59 = .ok (.iload 5, 2) := by decide +kernel
theorem dX9_best_61 : decode cX9_best 61 = .ok (.iload_n 3, 1) := by decide +kernel
theorem dX9_best_62 : decode cX9_best 62 = .ok (.if_icmp .ge 71, 3) := by decide +kernel
theorem dX9_best_65 : decode cX9_best 65 = .ok (.aload_n 0, 1) := by decide +kernel
theorem dX9_best_66 : decode cX9_best 66 = .ok (.iload 5, 2) := by decide +kernel
theorem dX9_best_68 : decode cX9_best 68 = .ok (.invokevirtual 380, 3) := by decide +kernel
theorem dX9_best_71 : decode cX9_best 71 = .ok (.ifCond .ne 6, 3) := by decide +kernel
theorem dX9_best_74 : decode cX9_best 74 = .ok (.goto 53, 3) := by decide +kernel
theorem dX9_best_77 : decode cX9_best 77 = .ok (.aload_n 0, 1) := by decide +kernel
theorem dX9_best_78 : decode cX9_best 78 = .ok (.iload_n 1, 1) := by decide +kernel
theorem dX9_best_79 : decode cX9_best 79 = .ok (.invokevirtual 383, 3) := by decide +kernel
theorem dX9_best_82 : decode cX9_best 82 = .ok (.istore 6, 2) := by decide +kernel
theorem dX9_best_84 : decode cX9_best 84 = .ok (.iload 6, 2) := by decide +kernel
theorem dX9_best_86 : decode cX9_best 86 = .ok (.iload 4, 2) := by decide +kernel
theorem dX9_best_88 : decode cX9_best 88 = .ok (.if_icmp .gt 6, 3) := by decide +kernel
theorem dX9_best_91 : decode cX9_best 91 = .ok (.goto 36, 3) := by decide +kernel
theorem dX9_best_94 : decode cX9_best 94 = .ok (.iload 6, 2) := by decide +kernel
theorem dX9_best_96 : decode cX9_best 96 = .ok (.istore 4, 2) := by decide +kernel
theorem dX9_best_98 : decode cX9_best 98 = .ok (.iconst 0, 1) := by decide +kernel
theorem dX9_best_99 : decode cX9_best 99 = .ok (.istore 7, 2) := by decide +kernel
theorem dX9_best_101 : decode cX9_best 101 = .ok (.iload 7, 2) := by decide +kernel
theorem dX9_best_103 : decode cX9_best 103 = .ok (.iconst 4, 1) := by decide +kernel
theorem dX9_best_104 : decode cX9_best 104 = .ok (.if_icmp .ge 23, 3) := by decide +kernel
theorem dX9_best_107 : decode cX9_best 107 = .ok (.aload_n 0, 1) := by decide +kernel
theorem dX9_best_108 : decode cX9_best 108 = .ok (.getfield 123, 3) := by decide +kernel
theorem dX9_best_111 : decode cX9_best 111 = .ok (.iload 7, 2) := by decide +kernel
theorem dX9_best_113 : decode cX9_best 113 = .ok (.aload_n 0, 1) := by decide +kernel
theorem dX9_best_114 : decode cX9_best 114 = .ok (.getfield 120, 3) := by decide +kernel
theorem dX9_best_117 : decode cX9_best 117 = .ok (.iload 7, 2) := by decide +kernel
theorem dX9_best_119 : decode cX9_best 119 = .ok (.iaload, 1) := by decide +kernel
theorem dX9_best_120 : decode cX9_best 120 = .ok (.iastore, 1) := by decide +kernel
theorem dX9_best_121 : decode cX9_best 121 = .ok (.iinc 7 1, 3) := by decide +kernel
theorem dX9_best_124 : decode cX9_best 124 = .ok (.goto (-23), 3) := by decide +kernel
theorem dX9_best_127 : decode cX9_best 127 = .ok (.iinc 5 1, 3) := by decide +kernel
theorem dX9_best_130 : decode cX9_best 130 = .ok (.goto (-71), 3) := by decide +kernel
theorem dX9_best_133 : decode cX9_best 133 = .ok (.iload_n 2, 1) := by decide +kernel
theorem dX9_best_134 : decode cX9_best 134 = .ok (.ifCond .ge 6, 3) := by decide +kernel
theorem dX9_best_137 : decode cX9_best 137 = .ok (.iload 4, 2) := by decide +kernel
theorem dX9_best_139 : decode cX9_best 139 = .ok (.ireturn, 1) := by decide +kernel
theorem dX9_best_140 : decode cX9_best 140 = .ok (.iload_n 2, 1) := by decide +kernel
theorem dX9_best_141 : decode cX9_best 141 = .ok (.aload_n 0, 1) := by decide +kernel
theorem dX9_best_142 : decode cX9_best 142 = .ok (.getfield 16, 3) := by decide +kernel
theorem dX9_best_145 : decode cX9_best 145 = .ok (.if_icmp .ge 12, 3) := by decide +kernel
theorem dX9_best_148 : decode cX9_best 148 = .ok (.aload_n 0, 1) := by decide +kernel
theorem dX9_best_149 : decode cX9_best 149 = .ok (.getfield 123, 3) := by decide +kernel
theorem dX9_best_152 : decode cX9_best 152 = .ok (.iload_n 2, 1) := by decide +kernel
theorem dX9_best_153 : decode cX9_best 153 = .ok (.iaload, 1) := by decide +kernel
theorem dX9_best_154 : decode cX9_best 154 = .ok (.goto 5, 3) := by decide +kernel
theorem dX9_best_157 : decode cX9_best 157 = .ok (.bipush (-5), 2) := by decide +kernel
theorem dX9_best_159 : decode cX9_best 159 = .ok (.ireturn, 1) := by decide +kernel
theorem dX9_hottestIf_0 : decode cX9_hottestIf 0 = .ok (.aload_n 0, 1) := by decide +kernel
theorem dX9_hottestIf_1 : decode cX9_hottestIf 1 = .ok (.invokevirtual 368, 3) := by decide +kernel
theorem dX9_hottestIf_4 : decode cX9_hottestIf 4 = .ok (.aload_n 0, 1) := by decide +kernel
theorem dX9_hottestIf_5 : decode cX9_hottestIf 5 = .ok (.bipush (-5), 2) := by decide +kernel
theorem dX9_hottestIf_7 : decode cX9_hottestIf 7 = .ok (.putfield 19, 3) := by decide +kernel
theorem dX9_hottestIf_10 : decode cX9_hottestIf 10 = .ok (.aload_n 0, 1) := by decide +kernel
theorem dX9_hottestIf_11 : decode cX9_hottestIf 11 = .ok (.getfield 32, 3) := by decide +kernel
theorem dX9_hottestIf_14 : decode cX9_hottestIf 14 = .ok (.iload_n 1, 1) := by decide +kernel
theorem dX9_hottestIf_15 : decode cX9_hottestIf 15 = .ok (.aload_n 0, 1) := by decide +kernel
theorem dX9_hottestIf_16 : decode cX9_hottestIf 16 = .ok (.aload_n 0, 1) := by decide +kernel
theorem dX9_hottestIf_17 : decode cX9_hottestIf 17 = .ok (.getfield 32, 3) := by decide +kernel
theorem dX9_hottestIf_20 : decode cX9_hottestIf 20 = .ok (.iload_n 1, 1) := by decide +kernel
theorem dX9_hottestIf_21 : decode cX9_hottestIf 21 = .ok (.iaload, 1) := by decide +kernel
theorem dX9_hottestIf_22 : decode cX9_hottestIf 22 = .ok (.iload_n 2, 1) := by decide +kernel
theorem dX9_hottestIf_23 : decode cX9_hottestIf 23 = .ok (.iadd, 1) := by decide +kernel
theorem dX9_hottestIf_24 : decode cX9_hottestIf 24 = .ok (.bipush 99, 2) := by decide +kernel
theorem dX9_hottestIf_26 : decode cX9_hottestIf 26 = .ok (.invokevirtual 248, 3) := by decide +kernel
theorem dX9_hottestIf_29 : decode cX9_hottestIf 29 = .ok (.iastore, 1) := by decide +kernel
theorem dX9_hottestIf_30 : decode cX9_hottestIf 30 = .ok (.aload_n 0, 1) := by decide +kernel
theorem dX9_hottestIf_31 : decode cX9_hottestIf 31 = .ok (.iconst 3, 1) := by decide +kernel
theorem dX9_hottestIf_32 : decode cX9_hottestIf 32 = .ok (.invokevirtual 365, 3) := by decide +kernel
theorem dX9_hottestIf_35 : decode cX9_hottestIf 35 = .ok (.aload_n 0, 1) := by decide +kernel
theorem dX9_hottestIf_36 : decode cX9_hottestIf 36 = .ok (.getfield 32, 3) := by decide +kernel
theorem dX9_hottestIf_39 : decode cX9_hottestIf 39 = .ok (.aload_n 0, 1) := by decide +kernel
theorem dX9_hottestIf_40 : decode cX9_hottestIf 40 = .ok (.invokevirtual 350, 3) := by decide +kernel
theorem dX9_hottestIf_43 : decode cX9_hottestIf 43 = .ok (.iaload, 1) := by decide +kernel
theorem dX9_hottestIf_44 : decode cX9_hottestIf 44 = .ok (.istore_n 3, 1) := by decide +kernel
theorem dX9_hottestIf_45 : decode cX9_hottestIf 45 = .ok (.aload_n 0, 1) := by decide +kernel
theorem dX9_hottestIf_46 : decode cX9_hottestIf 46 = .ok (.invokevirtual 371, 3) := by decide +kernel
theorem dX9_hottestIf_49 : decode cX9_hottestIf 49 = .ok (.iload_n 3, 1) := by decide +kernel
theorem dX9_hottestIf_50 : decode cX9_hottestIf 50 = .ok (.ireturn, 1) := by decide +kernel
theorem dX9_talk_0 : decode cX9_talk 0 = .ok (.aload_n 0, 1) := by decide +kernel
theorem dX9_talk_1 : decode cX9_talk 1 = .ok (.iload_n 2, 1) := by decide +kernel
theorem dX9_talk_2 : decode cX9_talk 2 = .ok (.iconst 0, 1) := by decide +kernel
theorem dX9_talk_3 : decode cX9_talk 3 = .ok (.iconst 1, 1) := by decide +kernel
theorem dX9_talk_4 : decode cX9_talk 4 = .ok (.invokevirtual 252, 3) := by decide +kernel
theorem dX9_talk_7 : decode cX9_talk 7 = .ok (.ifCond .ne 5, 3) := by decide +kernel
theorem dX9_talk_10 : decode cX9_talk 10 = .ok (.iconst (-1), 1) := by decide +kernel
theorem dX9_talk_11 : decode cX9_talk 11 = .ok (.ireturn, 1) := by decide +kernel
theorem dX9_talk_12 : decode cX9_talk 12 = .ok (.aload_n 0, 1) := by decide +kernel
theorem dX9_talk_13 : decode cX9_talk 13 = .ok (.iload_n 1, 1) := by decide +kernel
theorem dX9_talk_14 : decode cX9_talk 14 = .ok (.invokevirtual 256, 3) := by decide +kernel
theorem dX9_talk_17 : decode cX9_talk 17 = .ok (.ifCond .ne 6, 3) := by decide +kernel
theorem dX9_talk_20 : decode cX9_talk 20 = .ok (.bipush (-2), 2) := by decide +kernel
theorem dX9_talk_22 : decode cX9_talk 22 = .ok (.ireturn, 1) := by decide +kernel
theorem dX9_talk_23 : decode cX9_talk 23 = .ok (.bipush (-5), 2) := by decide +kernel
theorem dX9_talk_25 : decode cX9_talk 25 = .ok (.istore_n 3, 1) := by decide +kernel
theorem dX9_talk_26 : decode cX9_talk 26 = .ok (.bipush (-5), 2) := by decide +kernel
theorem dX9_talk_28 : decode cX9_talk 28 = .ok (.istore 4, 2) := by decide +kernel
theorem dX9_talk_30 : decode cX9_talk 30 = .ok (.iconst 0, 1) := by decide +kernel
theorem dX9_talk_31 : decode cX9_talk 31 = .ok (.istore 5, 2) := by decide +kernel
theorem dX9_talk_33 : decode cX9_talk 33 = .ok (.iload 5, 2) := by decide +kernel
theorem dX9_talk_35 : decode cX9_talk 35 = .ok (.aload_n 0, 1) := by decide +kernel
theorem dX9_talk_36 : decode cX9_talk 36 = .ok (.getfield 7, 3) := by decide +kernel
theorem dX9_talk_39 : decode cX9_talk 39 = .ok (.if_icmp .ge 51, 3) := by decide +kernel
theorem dX9_talk_42 : decode cX9_talk 42 = .ok (.aload_n 0, 1) := by decide +kernel
theorem dX9_talk_43 : decode cX9_talk 43 = .ok (.aload_n 0, 1) := by decide +kernel
theorem dX9_talk_44 : decode cX9_talk 44 = .ok (.getfield 13, 3) := by decide +kernel
theorem dX9_talk_47 : decode cX9_talk 47 = .ok (.iload 5, 2) := by decide +kernel
theorem dX9_talk_49 : decode cX9_talk 49 = .ok (.invokevirtual 263, 3) := by decide +kernel
theorem dX9_talk_52 : decode cX9_talk 52 = .ok (.ifCond .eq 6, 3) := by decide +kernel
theorem dX9_talk_55 : decode cX9_talk 55 = .ok (.goto 29, 3) := by decide +kernel
theorem dX9_talk_58 : decode cX9_talk 58 = .ok (.aload_n 0, 1) := by decide +kernel
theorem dX9_talk_59 : decode cX9_talk 59 = .ok (.iload 5, 2) := by decide +kernel
theorem dX9_talk_61 : decode cX9_talk 61 = .ok (.iload_n 1, 1) := by decide +kernel
theorem dX9_talk_62 : decode cX9_talk 62 = .ok (.invokevirtual 386, 3) := by decide +kernel
theorem dX9_talk_65 : decode cX9_talk 65 = .ok (.istore 6, 2) := by decide +kernel
theorem dX9_talk_67 : decode cX9_talk 67 = .ok (.iload 6, 2) := by decide +kernel
theorem dX9_talk_69 : decode cX9_talk 69 = .ok (.iload 4, 2) := by decide +kernel
theorem dX9_talk_71 : decode cX9_talk 71 = .ok (.if_icmp .gt 6, 3) := by decide +kernel
theorem dX9_talk_74 : decode cX9_talk 74 = .ok (.goto 10, 3) := by decide +kernel
theorem dX9_talk_77 : decode cX9_talk 77 = .ok (.iload 5, 2) := by decide +kernel
theorem dX9_talk_79 : decode cX9_talk 79 = .ok (.istore_n 3, 1) := by decide +kernel
theorem dX9_talk_80 : decode cX9_talk 80 = .ok (.iload 6, 2) := by decide +kernel
theorem dX9_talk_82 : decode cX9_talk 82 = .ok (.istore 4, 2) := by decide +kernel
theorem dX9_talk_84 : decode cX9_talk 84 = .ok (.iinc 5 1, 3) := by decide +kernel
theorem dX9_talk_87 : decode cX9_talk 87 = .ok (.goto (-54), 3) := by decide +kernel
theorem dX9_talk_90 : decode cX9_talk 90 = .ok (.iload_n 2, 1) := by decide +kernel
theorem dX9_talk_91 : decode cX9_talk 91 = .ok (.ifCond .ne 7, 3) := by decide +kernel
theorem dX9_talk_94 : decode cX9_talk 94 = .ok (.iload_n 3, 1) := by decide +kernel
theorem dX9_talk_95 : decode cX9_talk 95 = .ok (.goto 5, 3) := by decide +kernel
theorem dX9_talk_98 : decode cX9_talk 98 = .ok (.iload 4, 2) := by decide +kernel
theorem dX9_talk_100 : decode cX9_talk 100 = .ok (.ireturn, 1) := by decide +kernel
theorem dX9_see_0 : decode cX9_see 0 = .ok (.iload_n 1, 1) := by decide +kernel
theorem dX9_see_1 : decode cX9_see 1 = .ok (.iconst (-1), 1) := by decide +kernel
theorem dX9_see_2 : decode cX9_see 2 = .ok (.if_icmp .ne 10, 3) := by decide +kernel
theorem dX9_see_5 : decode cX9_see 5 = .ok (.aload_n 0, 1) := by decide +kernel
theorem dX9_see_6 : decode cX9_see 6 = .ok (.iconst 0, 1) := by decide +kernel
theorem dX9_see_7 : decode cX9_see 7 = .ok (.putfield 126, 3) := by decide +kernel
theorem dX9_see_10 : decode cX9_see 10 = .ok (.iconst 0, 1) := by decide +kernel
theorem dX9_see_11 : decode cX9_see 11 = .ok (.ireturn, 1) := by decide +kernel
theorem dX9_see_12 : decode cX9_see 12 = .ok (.aload_n 0, 1) := by decide +kernel
theorem dX9_see_13 : decode cX9_see 13 = .ok (.iload_n 1, 1) := by decide +kernel
theorem dX9_see_14 : decode cX9_see 14 = .ok (.invokevirtual 260, 3) := by decide +kernel
theorem dX9_see_17 : decode cX9_see 17 = .ok (.ifCond .ne 5, 3) := by decide +kernel
theorem dX9_see_20 : decode cX9_see 20 = .ok (.iconst (-1), 1) := by decide +kernel
theorem dX9_see_21 : decode cX9_see 21 = .ok (.ireturn, 1) := by decide +kernel
theorem dX9_see_22 : decode cX9_see 22 = .ok (.aload_n 0, 1) := by decide +kernel
theorem dX9_see_23 : decode cX9_see 23 = .ok (.iload_n 2, 1) := by decide +kernel
theorem dX9_see_24 : decode cX9_see 24 = .ok (.iconst 0, 1) := by decide +kernel
theorem dX9_see_25 : decode cX9_see 25 = .ok (.bipush 12, 2) := by decide +kernel
theorem dX9_see_27 : decode cX9_see 27 = .ok (.invokevirtual 252, 3) := by decide +kernel
theorem dX9_see_30 : decode cX9_see 30 = .ok (.ifCond .ne 6, 3) := by decide +kernel
theorem dX9_see_33 : decode cX9_see 33 = .ok (.bipush (-2), 2) := by decide +kernel
theorem dX9_see_35 : decode cX9_see 35 = .ok (.ireturn, 1) := by decide +kernel
theorem dX9_see_36 : decode cX9_see 36 = .ok (.aload_n 0, 1) := by decide +kernel
theorem dX9_see_37 : decode cX9_see 37 = .ok (.getfield 126, 3) := by decide +kernel
theorem dX9_see_40 : decode cX9_see 40 = .ok (.iconst 5, 1) := by decide +kernel
theorem dX9_see_41 : decode cX9_see 41 = .ok (.if_icmp .ne 6, 3) := by decide +kernel
theorem dX9_see_44 : decode cX9_see 44 = .ok (.bipush (-4), 2) := by decide +kernel
theorem dX9_see_46 : decode cX9_see 46 = .ok (.ireturn, 1) := by decide +kernel
theorem dX9_see_47 : decode cX9_see 47 = .ok (.aload_n 0, 1) := by decide +kernel
theorem dX9_see_48 : decode cX9_see 48 = .ok (.getfield 129, 3) := by decide +kernel
theorem dX9_see_51 : decode cX9_see 51 = .ok (.aload_n 0, 1) := by decide +kernel
theorem dX9_see_52 : decode cX9_see 52 = .ok (.getfield 126, 3) := by decide +kernel
theorem dX9_see_55 : decode cX9_see 55 = .ok (.iload_n 1, 1) := by decide +kernel
theorem dX9_see_56 : decode cX9_see 56 = .ok (.iastore, 1) := by decide +kernel
theorem dX9_see_57 : decode cX9_see 57 = .ok (.aload_n 0, 1) := by decide +kernel
theorem dX9_see_58 : decode cX9_see 58 = .ok (.getfield 132, 3) := by decide +kernel
theorem dX9_see_61 : decode cX9_see 61 = .ok (.aload_n 0, 1) := by decide +kernel
theorem dX9_see_62 : decode cX9_see 62 = .ok (.getfield 126, 3) := by decide +kernel
theorem dX9_see_65 : decode cX9_see 65 = .ok (.iload_n 2, 1) := by decide +kernel
theorem dX9_see_66 : decode cX9_see 66 = .ok (.iastore, 1) := by decide +kernel
theorem dX9_see_67 : decode cX9_see 67 = .ok (.aload_n 0, 1) := by decide +kernel
theorem dX9_see_68 : decode cX9_see 68 = .ok (.getfield 135, 3) := by decide +kernel
theorem dX9_see_71 : decode cX9_see 71 = .ok (.aload_n 0, 1) := by decide +kernel
theorem dX9_see_72 : decode cX9_see 72 = .ok (.getfield 126, 3) := by decide +kernel
theorem dX9_see_75 : decode cX9_see 75 = .ok (.iload_n 3, 1) := by decide +kernel
theorem dX9_see_76 : decode cX9_see 76 = .ok (.bastore, 1) := by decide +kernel
theorem dX9_see_77 : decode cX9_see 77 = .ok (.aload_n 0, 1) := by decide +kernel
theorem dX9_see_78 : decode cX9_see 78 = .ok (.dup, 1) := by decide +kernel
theorem dX9_see_79 : decode cX9_see 79 = .ok (.getfield 126, 3) := by decide +kernel
theorem dX9_see_82 : decode cX9_see 82 = .ok (.iconst 1, 1) := by decide +kernel
theorem dX9_see_83 : decode cX9_see 83 = .ok (.iadd, 1) := by decide +kernel
theorem dX9_see_84 : decode cX9_see 84 = .ok (.putfield 126, 3) := by decide +kernel
theorem dX9_see_87 : decode cX9_see 87 = .ok (.aload_n 0, 1) := by decide +kernel
theorem dX9_see_88 : decode cX9_see 88 = .ok (.getfield 126, 3) := by decide +kernel
theorem dX9_see_91 : decode cX9_see 91 = .ok (.ireturn, 1) := by decide +kernel
theorem dX9_isSeen_0 : decode cX9_isSeen 0 = .ok (.iconst 1, 1) := by decide +kernel
theorem dX9_isSeen_1 : decode cX9_isSeen 1 = .ok (.istore_n 1, 1) := by decide +kernel
theorem dX9_isSeen_2 : decode cX9_isSeen 2 = .ok (.iconst 0, 1) := by decide +kernel
theorem dX9_isSeen_3 : decode cX9_isSeen 3 = .ok (.istore_n 2, 1) := by decide +kernel
theorem dX9_isSeen_4 : decode cX9_isSeen 4 = .ok (.iload_n 2, 1) := by decide +kernel
theorem dX9_isSeen_5 : decode cX9_isSeen 5 = .ok (.aload_n 0, 1) := by decide +kernel
theorem dX9_isSeen_6 : decode cX9_isSeen 6 = .ok (.getfield 126, 3) := by decide +kernel
theorem dX9_isSeen_9 : decode cX9_isSeen 9 = .ok (.if_icmp .ge 73, 3) := by decide +kernel
theorem dX9_isSeen_12 : decode cX9_isSeen 12 = .ok (.iload_n 1, 1) := by decide +kernel
theorem dX9_isSeen_13 : decode cX9_isSeen 13 = .ok (.ifCond .eq 69, 3) := by decide +kernel
theorem dX9_isSeen_16 : decode cX9_isSeen 16 = .ok (.aload_n 0, 1) := by decide +kernel
theorem dX9_isSeen_17 : decode cX9_isSeen 17 = .ok (.invokevirtual 368, 3) := by decide +kernel
theorem dX9_isSeen_20 : decode cX9_isSeen 20 = .ok (.aload_n 0, 1) := by decide +kernel
theorem dX9_isSeen_21 : decode cX9_isSeen 21 = .ok (.bipush (-5), 2) := by decide +kernel
theorem dX9_isSeen_23 : decode cX9_isSeen 23 = .ok (.putfield 19, 3) := by decide +kernel
theorem dX9_isSeen_26 : decode cX9_isSeen 26 = .ok (.aload_n 0, 1) := by decide +kernel
theorem dX9_isSeen_27 : decode cX9_isSeen 27 = .ok (.aload_n 0, 1) := by decide +kernel
theorem dX9_isSeen_28 : decode cX9_isSeen 28 = .ok (.getfield 132, 3) := by decide +kernel
theorem dX9_isSeen_31 : decode cX9_isSeen 31 = .ok (.iload_n 2, 1) := by decide +kernel
theorem dX9_isSeen_32 : decode cX9_isSeen 32 = .ok (.iaload, 1) := by decide +kernel
theorem dX9_isSeen_33 : decode cX9_isSeen 33 = .ok (.invokevirtual 365, 3) := by decide +kernel
theorem dX9_isSeen_36 : decode cX9_isSeen 36 = .ok (.aload_n 0, 1) := by decide +kernel
theorem dX9_isSeen_37 : decode cX9_isSeen 37 = .ok (.getfield 32, 3) := by decide +kernel
theorem dX9_isSeen_40 : decode cX9_isSeen 40 = .ok (.aload_n 0, 1) := by decide +kernel
theorem dX9_isSeen_41 : decode cX9_isSeen 41 = .ok (.getfield 129, 3) := by decide +kernel
theorem dX9_isSeen_44 : decode cX9_isSeen 44 = .ok (.iload_n 2, 1) := by decide +kernel
theorem dX9_isSeen_45 : decode cX9_isSeen 45 = .ok (.iaload, 1) := by decide +kernel
theorem dX9_isSeen_46 : decode cX9_isSeen 46 = .ok (.iaload, 1) := by decide +kernel
theorem dX9_isSeen_47 : decode cX9_isSeen 47 = .ok (.bipush 50, 2) := by decide +kernel
theorem dX9_isSeen_49 : decode cX9_isSeen 49 = .ok (.if_icmp .lt 7, 3) := by decide +kernel
theorem dX9_isSeen_52 : decode cX9_isSeen 52 = .ok (.iconst 1, 1) := by decide +kernel
theorem dX9_isSeen_53 : decode cX9_isSeen 53 = .ok (.goto 4, 3) := by decide +kernel
theorem dX9_isSeen_56 : decode cX9_isSeen 56 = .ok (.iconst 0, 1) := by decide +kernel
theorem dX9_isSeen_57 : decode cX9_isSeen 57 = .ok (.aload_n 0, 1) := by decide +kernel
theorem dX9_isSeen_58 : decode cX9_isSeen 58 = .ok (.getfield 135, 3) := by decide +kernel
theorem dX9_isSeen_61 : decode cX9_isSeen 61 = .ok (.iload_n 2, 1) := by decide +kernel
theorem dX9_isSeen_62 : decode cX9_isSeen 62 = .ok (.baload, 1) := by decide +kernel
theorem dX9_isSeen_63 : decode cX9_isSeen 63 = .ok (.if_icmp .ne 7, 3) := by decide +kernel
theorem dX9_isSeen_66 : decode cX9_isSeen 66 = .ok (.iconst 1, 1) := by decide +kernel
theorem dX9_isSeen_67 : decode cX9_isSeen 67 = .ok (.goto 4, 3) := by decide +kernel
theorem dX9_isSeen_70 : decode cX9_isSeen 70 = .ok (.iconst 0, 1) := by decide +kernel
theorem dX9_isSeen_71 : decode cX9_isSeen 71 = .ok (.istore_n 1, 1) := by decide +kernel
theorem dX9_isSeen_72 : decode cX9_isSeen 72 = .ok (.aload_n 0, 1) := by decide +kernel
theorem dX9_isSeen_73 : decode cX9_isSeen 73 = .ok (.invokevirtual 371, 3) := by decide +kernel
theorem dX9_isSeen_76 : decode cX9_isSeen 76 = .ok (.iinc 2 1, 3) := by decide +kernel
theorem dX9_isSeen_79 : decode cX9_isSeen 79 = .ok (.goto (-75), 3) := by decide +kernel
theorem dX9_isSeen_82 : decode cX9_isSeen 82 = .ok (.iload_n 1, 1) := by decide +kernel
theorem dX9_isSeen_83 : decode cX9_isSeen 83 = .ok (.ireturn, 1) := by decide +kernel
theorem dX9_heats_0 : decode cX9_heats 0 = .ok (.aload_n 0, 1) := by decide +kernel
theorem dX9_heats_1 : decode cX9_heats 1 = .ok (.getfield 32, 3) := by decide +kernel
theorem dX9_heats_4 : decode cX9_heats 4 = .ok (.iload_n 1, 1) := by decide +kernel
theorem dX9_heats_5 : decode cX9_heats 5 = .ok (.iaload, 1) := by decide +kernel
theorem dX9_heats_6 : decode cX9_heats 6 = .ok (.istore_n 3, 1) := by decide +kernel
theorem dX9_heats_7 : decode cX9_heats 7 = .ok (.iconst 0, 1) := by decide +kernel
theorem dX9_heats_8 : decode cX9_heats 8 = .ok (.istore 4, 2) := by decide +kernel
theorem dX9_heats_10 : decode cX9_heats 10 = .ok (.bipush (-5), 2) := by decide +kernel
theorem dX9_heats_12 : decode cX9_heats 12 = .ok (.istore 5, 2) := by decide +kernel
theorem dX9_heats_14 : decode cX9_heats 14 = .ok (.bipush 99, 2) := by decide +kernel
theorem dX9_heats_16 : decode cX9_heats 16 = .ok (.istore 6, 2) := by decide +kernel
theorem dX9_heats_18 : decode cX9_heats 18 = .ok (.iload 6, 2) := by decide +kernel
theorem dX9_heats_20 : decode cX9_heats 20 = .ok (.ifCond .lt 34, 3) := by decide +kernel
theorem dX9_heats_23 : decode cX9_heats 23 = .ok (.aload_n 0, 1) := by decide +kernel
theorem dX9_heats_24 : decode cX9_heats 24 = .ok (.getfield 32, 3) := by decide +kernel
theorem dX9_heats_27 : decode cX9_heats 27 = .ok (.iload_n 1, 1) := by decide +kernel
theorem dX9_heats_28 : decode cX9_heats 28 = .ok (.iload 6, 2) := by decide +kernel
theorem dX9_heats_30 : decode cX9_heats 30 = .ok (.iastore, 1) := by decide +kernel
theorem dX9_heats_31 : decode cX9_heats 31 = .ok (.aload_n 0, 1) := by decide +kernel
theorem dX9_heats_32 : decode cX9_heats 32 = .ok (.invokevirtual 389, 3) := by decide +kernel
theorem dX9_heats_35 : decode cX9_heats 35 = .ok (.ifCond .ne 6, 3) := by decide +kernel
theorem dX9_heats_38 : decode cX9_heats 38 = .ok (.goto 10, 3) := by decide +kernel
theorem dX9_heats_41 : decode cX9_heats 41 = .ok (.iinc 4 1, 3) := by decide +kernel
theorem dX9_heats_44 : decode cX9_heats 44 = .ok (.iload 6, 2) := by decide +kernel
theorem dX9_heats_46 : decode cX9_heats 46 = .ok (.istore 5, 2) := by decide +kernel
theorem dX9_heats_48 : decode cX9_heats 48 = .ok (.iinc 6 (-1), 3) := by decide +kernel
theorem dX9_heats_51 : decode cX9_heats 51 = .ok (.goto (-33), 3) := by decide +kernel
theorem dX9_heats_54 : decode cX9_heats 54 = .ok (.aload_n 0, 1) := by decide +kernel
theorem dX9_heats_55 : decode cX9_heats 55 = .ok (.getfield 32, 3) := by decide +kernel
theorem dX9_heats_58 : decode cX9_heats 58 = .ok (.iload_n 1, 1) := by decide +kernel
theorem dX9_heats_59 : decode cX9_heats 59 = .ok (.iload_n 3, 1) := by decide +kernel
theorem dX9_heats_60 : decode cX9_heats 60 = .ok (.iastore, 1) := by decide +kernel
theorem dX9_heats_61 : decode cX9_heats 61 = .ok (.iload_n 2, 1) := by decide +kernel
theorem dX9_heats_62 : decode cX9_heats 62 = .ok (.ifCond .ne 8, 3) := by decide +kernel
theorem dX9_heats_65 : decode cX9_heats 65 = .ok (.iload 4, 2) := by decide +kernel
theorem dX9_heats_67 : decode cX9_heats 67 = .ok (.goto 5, 3) := by decide +kernel
theorem dX9_heats_70 : decode cX9_heats 70 = .ok (.iload 5, 2) := by decide +kernel
theorem dX9_heats_72 : decode cX9_heats 72 = .ok (.ireturn, 1) := by decide +kernel
theorem dX9_canBe_0 : decode cX9_canBe 0 = .ok (.aload_n 0, 1) := by decide +kernel
theorem dX9_canBe_1 : decode cX9_canBe 1 = .ok (.getfield 29, 3) := by decide +kernel
theorem dX9_canBe_4 : decode cX9_canBe 4 = .ok (.iload_n 1, 1) := by decide +kernel
theorem dX9_canBe_5 : decode cX9_canBe 5 = .ok (.iaload, 1) := by decide +kernel
theorem dX9_canBe_6 : decode cX9_canBe 6 = .ok (.istore_n 3, 1) := by decide +kernel
theorem dX9_canBe_7 : decode cX9_canBe 7 = .ok (.iconst 0, 1) := by decide +kernel
theorem dX9_canBe_8 : decode cX9_canBe 8 = .ok (.istore 4, 2) := by decide +kernel
theorem dX9_canBe_10 : decode cX9_canBe 10 = .ok (.bipush (-5), 2) := by decide +kernel
theorem dX9_canBe_12 : decode cX9_canBe 12 = .ok (.istore 5, 2) := by decide +kernel
theorem dX9_canBe_14 : decode cX9_canBe 14 = .ok (.bipush 9, 2) := by decide +kernel
theorem dX9_canBe_16 : decode cX9_canBe 16 = .ok (.istore 6, 2) := by decide +kernel
theorem dX9_canBe_18 : decode cX9_canBe 18 = .ok (.iload 6, 2) := by decide +kernel
theorem dX9_canBe_20 : decode cX9_canBe 20 = .ok (.ifCond .lt 34, 3) := by decide +kernel
theorem dX9_canBe_23 : decode cX9_canBe 23 = .ok (.aload_n 0, 1) := by decide +kernel
theorem dX9_canBe_24 : decode cX9_canBe 24 = .ok (.getfield 29, 3) := by decide +kernel
theorem dX9_canBe_27 : decode cX9_canBe 27 = .ok (.iload_n 1, 1) := by decide +kernel
theorem dX9_canBe_28 : decode cX9_canBe 28 = .ok (.iload 6, 2) := by decide +kernel
theorem dX9_canBe_30 : decode cX9_canBe 30 = .ok (.iastore, 1) := by decide +kernel
theorem dX9_canBe_31 : decode cX9_canBe 31 = .ok (.aload_n 0, 1) := by decide +kernel
theorem dX9_canBe_32 : decode cX9_canBe 32 = .ok (.invokevirtual 389, 3) := by decide +kernel
theorem dX9_canBe_35 : decode cX9_canBe 35 = .ok (.ifCond .ne 6, 3) := by decide +kernel
theorem dX9_canBe_38 : decode cX9_canBe 38 = .ok (.goto 10, 3) := by decide +kernel
theorem dX9_canBe_41 : decode cX9_canBe 41 = .ok (.iinc 4 1, 3) := by decide +kernel
theorem dX9_canBe_44 : decode cX9_canBe 44 = .ok (.iload 6, 2) := by decide +kernel
theorem dX9_canBe_46 : decode cX9_canBe 46 = .ok (.istore 5, 2) := by decide +kernel
theorem dX9_canBe_48 : decode cX9_canBe 48 = .ok (.iinc 6 (-1), 3) := by decide +kernel
theorem dX9_canBe_51 : decode cX9_canBe 51 = .ok (.goto (-33), 3) := by decide +kernel
theorem dX9_canBe_54 : decode cX9_canBe 54 = .ok (.aload_n 0, 1) := by decide +kernel
theorem dX9_canBe_55 : decode cX9_canBe 55 = .ok (.getfield 29, 3) := by decide +kernel
theorem dX9_canBe_58 : decode cX9_canBe 58 = .ok (.iload_n 1, 1) := by decide +kernel
theorem dX9_canBe_59 : decode cX9_canBe 59 = .ok (.iload_n 3, 1) := by decide +kernel
theorem dX9_canBe_60 : decode cX9_canBe 60 = .ok (.iastore, 1) := by decide +kernel
theorem dX9_canBe_61 : decode cX9_canBe 61 = .ok (.iload_n 2, 1) := by decide +kernel
theorem dX9_canBe_62 : decode cX9_canBe 62 = .ok (.ifCond .ne 8, 3) := by decide +kernel
theorem dX9_canBe_65 : decode cX9_canBe 65 = .ok (.iload 4, 2) := by decide +kernel
theorem dX9_canBe_67 : decode cX9_canBe 67 = .ok (.goto 5, 3) := by decide +kernel
theorem dX9_canBe_70 : decode cX9_canBe 70 = .ok (.iload 5, 2) := by decide +kernel
theorem dX9_canBe_72 : decode cX9_canBe 72 = .ok (.ireturn, 1) := by decide +kernel
theorem dX9_can_0 : decode cX9_can 0 = .ok (.aload_n 0, 1) := by decide +kernel
theorem dX9_can_1 : decode cX9_can 1 = .ok (.iload_n 1, 1) := by decide +kernel
theorem dX9_can_2 : decode cX9_can 2 = .ok (.invokevirtual 260, 3) := by decide +kernel
theorem dX9_can_5 : decode cX9_can 5 = .ok (.ifCond .eq 23, 3) := by decide +kernel
theorem dX9_can_8 : decode cX9_can 8 = .ok (.aload_n 0, 1) := by decide +kernel
theorem dX9_can_9 : decode cX9_can 9 = .ok (.iload_n 2, 1) := by decide +kernel
theorem dX9_can_10 : decode cX9_can 10 = .ok (.iconst 0, 1) := by decide +kernel
theorem dX9_can_11 : decode cX9_can 11 = .ok (.iconst 1, 1) := by decide +kernel
theorem dX9_can_12 : decode cX9_can 12 = .ok (.invokevirtual 252, 3) := by decide +kernel
theorem dX9_can_15 : decode cX9_can 15 = .ok (.ifCond .eq 13, 3) := by decide +kernel
theorem dX9_can_18 : decode cX9_can 18 = .ok (.aload_n 0, 1) := by decide +kernel
theorem dX9_can_19 : decode cX9_can 19 = .ok (.iload_n 3, 1) := by decide +kernel
theorem dX9_can_20 : decode cX9_can 20 = .ok (.iconst 0, 1) := by decide +kernel
theorem dX9_can_21 : decode cX9_can 21 = .ok (.iconst 1, 1) := by decide +kernel
theorem dX9_can_22 : decode cX9_can 22 = .ok (.invokevirtual 252, 3) := by decide +kernel
theorem dX9_can_25 : decode cX9_can 25 = .ok (.ifCond .ne 5, 3) := by decide +kernel
theorem dX9_can_28 : decode cX9_can 28 = .ok (.iconst (-1), 1) := by decide +kernel
theorem dX9_can_29 : decode cX9_can 29 = .ok (.ireturn, 1) := by decide +kernel
theorem dX9_can_30 : decode cX9_can 30 = .ok (.iload_n 2, 1) := by decide +kernel
theorem dX9_can_31 : decode cX9_can 31 = .ok (.ifCond .ne 12, 3) := by decide +kernel
theorem dX9_can_34 : decode cX9_can 34 = .ok (.aload_n 0, 1) := by decide +kernel
theorem dX9_can_35 : decode cX9_can 35 = .ok (.iload_n 1, 1) := by decide +kernel
theorem dX9_can_36 : decode cX9_can 36 = .ok (.iload_n 3, 1) := by decide +kernel
theorem dX9_can_37 : decode cX9_can 37 = .ok (.invokevirtual 392, 3) := by decide +kernel
theorem dX9_can_40 : decode cX9_can 40 = .ok (.goto 9, 3) := by decide +kernel
theorem dX9_can_43 : decode cX9_can 43 = .ok (.aload_n 0, 1) := by decide +kernel
theorem dX9_can_44 : decode cX9_can 44 = .ok (.iload_n 1, 1) := by decide +kernel
theorem dX9_can_45 : decode cX9_can 45 = .ok (.iload_n 3, 1) := by decide +kernel
theorem dX9_can_46 : decode cX9_can 46 = .ok (.invokevirtual 395, 3) := by decide +kernel
theorem dX9_can_49 : decode cX9_can 49 = .ok (.ireturn, 1) := by decide +kernel
theorem dX9_divisor_0 : decode cX9_divisor 0 = .ok (.iload_n 1, 1) := by decide +kernel
theorem dX9_divisor_1 : decode cX9_divisor 1 = .ok (.istore_n 3, 1) := by decide +kernel
theorem dX9_divisor_2 : decode cX9_divisor 2 = .ok (.iload_n 2, 1) := by decide +kernel
theorem dX9_divisor_3 : decode cX9_divisor 3 = .ok (.istore 4, 2) := by decide +kernel
theorem dX9_divisor_5 : decode cX9_divisor 5 = .ok (.iload 4, 2) := by decide +kernel
theorem dX9_divisor_7 : decode cX9_divisor 7 = .ok (.ifCond .eq 19, 3) := by decide +kernel
theorem dX9_divisor_10 : decode cX9_divisor 10 = .ok (.iload_n 3, 1) := by decide +kernel
theorem dX9_divisor_11 : decode cX9_divisor 11 = .ok (.iload 4, 2) := by decide +kernel
theorem dX9_divisor_13 : decode cX9_divisor 13 = .ok (.irem, 1) := by decide +kernel
theorem dX9_divisor_14 : decode cX9_divisor 14 = .ok (.istore 5, 2) := by decide +kernel
theorem dX9_divisor_16 : decode cX9_divisor 16 = .ok (.iload 4, 2) := by decide +kernel
theorem dX9_divisor_18 : decode cX9_divisor 18 = .ok (.istore_n 3, 1) := by decide +kernel
theorem dX9_divisor_19 : decode cX9_divisor 19 = .ok (.iload 5, 2) := by decide +kernel
theorem dX9_divisor_21 : decode cX9_divisor 21 = .ok (.istore 4, 2) := by decide +kernel
theorem dX9_divisor_23 : decode cX9_divisor 23 = .ok (.goto (-18), 3) := by decide +kernel
theorem dX9_divisor_26 : decode cX9_divisor 26 = .ok (.iload_n 3, 1) := by decide +kernel
theorem dX9_divisor_27 : decode cX9_divisor 27 = .ok (.ireturn, 1) := by decide +kernel
theorem dX9_lowest_0 : decode cX9_lowest 0 = .ok (.aload_n 0, 1) := by decide +kernel
theorem dX9_lowest_1 : decode cX9_lowest 1 = .ok (.iload_n 1, 1) := by decide +kernel
theorem dX9_lowest_2 : decode cX9_lowest 2 = .ok (.iload_n 2, 1) := by decide +kernel
theorem dX9_lowest_3 : decode cX9_lowest 3 = .ok (.invokevirtual 398, 3) := by decide +kernel
theorem dX9_lowest_6 : decode cX9_lowest 6 = .ok (.istore 4, 2) := by decide +kernel
theorem dX9_lowest_8 : decode cX9_lowest 8 = .ok (.iload_n 3, 1) := by decide +kernel
theorem dX9_lowest_9 : decode cX9_lowest 9 = .ok (.ifCond .ne 11, 3) := by decide +kernel
theorem dX9_lowest_12 : decode cX9_lowest 12 = .ok (.iload_n 1, 1) := by decide +kernel
theorem dX9_lowest_13 : decode cX9_lowest 13 = .ok (.iload 4, 2) := by decide +kernel
theorem dX9_lowest_15 : decode cX9_lowest 15 = .ok (.idiv, 1) := by decide +kernel
theorem dX9_lowest_16 : decode cX9_lowest 16 = .ok (.i2l, 1) := by decide +kernel
theorem dX9_lowest_17 : decode cX9_lowest 17 = .ok (.goto 8, 3) := by decide +kernel
theorem dX9_lowest_20 : decode cX9_lowest 20 = .ok (.iload_n 2, 1) := by decide +kernel
theorem dX9_lowest_21 : decode cX9_lowest 21 = .ok (.iload 4, 2) := by decide +kernel
theorem dX9_lowest_23 : decode cX9_lowest 23 = .ok (.idiv, 1) := by decide +kernel
theorem dX9_lowest_24 : decode cX9_lowest 24 = .ok (.i2l, 1) := by decide +kernel
theorem dX9_lowest_25 : decode cX9_lowest 25 = .ok (.lreturn, 1) := by decide +kernel
theorem dX9_isHotIf_0 : decode cX9_isHotIf 0 = .ok (.aload_n 0, 1) := by decide +kernel
theorem dX9_isHotIf_1 : decode cX9_isHotIf 1 = .ok (.invokevirtual 368, 3) := by decide +kernel
theorem dX9_isHotIf_4 : decode cX9_isHotIf 4 = .ok (.aload_n 0, 1) := by decide +kernel
theorem dX9_isHotIf_5 : decode cX9_isHotIf 5 = .ok (.bipush (-5), 2) := by decide +kernel
theorem dX9_isHotIf_7 : decode cX9_isHotIf 7 = .ok (.putfield 19, 3) := by decide +kernel
theorem dX9_isHotIf_10 : decode cX9_isHotIf 10 = .ok (.aload_n 0, 1) := by decide +kernel
theorem dX9_isHotIf_11 : decode cX9_isHotIf 11 = .ok (.getfield 32, 3) := by decide +kernel
theorem dX9_isHotIf_14 : decode cX9_isHotIf 14 = .ok (.iload_n 2, 1) := by decide +kernel
theorem dX9_isHotIf_15 : decode cX9_isHotIf 15 = .ok (.aload_n 0, 1) := by decide +kernel
theorem dX9_isHotIf_16 : decode cX9_isHotIf 16 = .ok (.aload_n 0, 1) := by decide +kernel
theorem dX9_isHotIf_17 : decode cX9_isHotIf 17 = .ok (.getfield 32, 3) := by decide +kernel
theorem dX9_isHotIf_20 : decode cX9_isHotIf 20 = .ok (.iload_n 2, 1) := by decide +kernel
theorem dX9_isHotIf_21 : decode cX9_isHotIf 21 = .ok (.iaload, 1) := by decide +kernel
theorem dX9_isHotIf_22 : decode cX9_isHotIf 22 = .ok (.bipush 20, 2) := by decide +kernel
theorem dX9_isHotIf_24 : decode cX9_isHotIf 24 = .ok (.iadd, 1) := by decide +kernel
theorem dX9_isHotIf_25 : decode cX9_isHotIf 25 = .ok (.bipush 99, 2) := by decide +kernel
theorem dX9_isHotIf_27 : decode cX9_isHotIf 27 = .ok (.invokevirtual 248, 3) := by decide +kernel
theorem dX9_isHotIf_30 : decode cX9_isHotIf 30 = .ok (.iastore, 1) := by decide +kernel
theorem dX9_isHotIf_31 : decode cX9_isHotIf 31 = .ok (.aload_n 0, 1) := by decide +kernel
theorem dX9_isHotIf_32 : decode cX9_isHotIf 32 = .ok (.iload_n 3, 1) := by decide +kernel
theorem dX9_isHotIf_33 : decode cX9_isHotIf 33 = .ok (.invokevirtual 365, 3) := by decide +kernel
theorem dX9_isHotIf_36 : decode cX9_isHotIf 36 = .ok (.aload_n 0, 1) := by decide +kernel
theorem dX9_isHotIf_37 : decode cX9_isHotIf 37 = .ok (.getfield 32, 3) := by decide +kernel
theorem dX9_isHotIf_40 : decode cX9_isHotIf 40 = .ok (.iload_n 1, 1) := by decide +kernel
theorem dX9_isHotIf_41 : decode cX9_isHotIf 41 = .ok (.iaload, 1) := by decide +kernel
theorem dX9_isHotIf_42 : decode cX9_isHotIf 42 = .ok (.bipush 50, 2) := by decide +kernel
theorem dX9_isHotIf_44 : decode cX9_isHotIf 44 = .ok (.if_icmp .lt 7, 3) := by decide +kernel
theorem dX9_isHotIf_47 : decode cX9_isHotIf 47 = .ok (.iconst 1, 1) := by decide +kernel
theorem dX9_isHotIf_48 : decode cX9_isHotIf 48 = .ok (.goto 4, 3) := by decide +kernel
theorem dX9_isHotIf_51 : decode cX9_isHotIf 51 = .ok (.iconst 0, 1) := by decide +kernel
theorem dX9_isHotIf_52 : decode cX9_isHotIf 52 = .ok (.istore 4, 2) := by decide +kernel
theorem dX9_isHotIf_54 : decode cX9_isHotIf 54 = .ok (.aload_n 0, 1) := by decide +kernel
theorem dX9_isHotIf_55 : decode cX9_isHotIf 55 = .ok (.invokevirtual 371, 3) := by decide +kernel
theorem dX9_isHotIf_58 : decode cX9_isHotIf 58 = .ok (.iload 4, 2) := by decide +kernel
theorem dX9_isHotIf_60 : decode cX9_isHotIf 60 = .ok (.ireturn, 1) := by decide +kernel
theorem dX9_odds_0 : decode cX9_odds 0 = .ok (.aload_n 0, 1) := by decide +kernel
theorem dX9_odds_1 : decode cX9_odds 1 = .ok (.iload_n 1, 1) := by decide +kernel
theorem dX9_odds_2 : decode cX9_odds 2 = .ok (.invokevirtual 260, 3) := by decide +kernel
theorem dX9_odds_5 : decode cX9_odds 5 = .ok (.ifCond .eq 24, 3) := by decide +kernel
theorem dX9_odds_8 : decode cX9_odds 8 = .ok (.aload_n 0, 1) := by decide +kernel
theorem dX9_odds_9 : decode cX9_odds 9 = .ok (.iload_n 2, 1) := by decide +kernel
theorem dX9_odds_10 : decode cX9_odds 10 = .ok (.iconst 0, 1) := by decide +kernel
theorem dX9_odds_11 : decode cX9_odds 11 = .ok (.bipush 20, 2) := by decide +kernel
theorem dX9_odds_13 : decode cX9_odds 13 = .ok (.invokevirtual 252, 3) := by decide +kernel
theorem dX9_odds_16 : decode cX9_odds 16 = .ok (.ifCond .eq 13, 3) := by decide +kernel
theorem dX9_odds_19 : decode cX9_odds 19 = .ok (.aload_n 0, 1) := by decide +kernel
theorem dX9_odds_20 : decode cX9_odds 20 = .ok (.iload_n 3, 1) := by decide +kernel
theorem dX9_odds_21 : decode cX9_odds 21 = .ok (.iconst 0, 1) := by decide +kernel
theorem dX9_odds_22 : decode cX9_odds 22 = .ok (.iconst 1, 1) := by decide +kernel
theorem dX9_odds_23 : decode cX9_odds 23 = .ok (.invokevirtual 252, 3) := by decide +kernel
theorem dX9_odds_26 : decode cX9_odds 26 = .ok (.ifCond .ne 7, 3) := by decide +kernel
theorem dX9_odds_29 : decode cX9_odds 29 = .ok (.ldc2_w 401, 3) := by decide +kernel
theorem dX9_odds_32 : decode cX9_odds 32 = .ok (.lreturn, 1) := by decide +kernel
theorem dX9_odds_33 : decode cX9_odds 33 = .ok (.iconst 0, 1) := by decide +kernel
theorem dX9_odds_34 : decode cX9_odds 34 = .ok (.istore 4, 2) := by decide +kernel
theorem dX9_odds_36 : decode cX9_odds 36 = .ok (.iconst 0, 1) := by decide +kernel
theorem dX9_odds_37 : decode cX9_odds 37 = .ok (.istore 5, 2) := by decide +kernel
theorem dX9_odds_39 : decode cX9_odds 39 = .ok (.iconst 0, 1) := by decide +kernel
theorem dX9_odds_40 : decode cX9_odds 40 = .ok (.istore 6, 2) := by decide +kernel
theorem dX9_odds_42 : decode cX9_odds 42 = .ok (.iload 6, 2) := by decide +kernel
theorem dX9_odds_44 : decode cX9_odds 44 = .ok (.aload_n 0, 1) := by decide +kernel
theorem dX9_odds_45 : decode cX9_odds 45 = .ok (.getfield 7, 3) := by decide +kernel
theorem dX9_odds_48 : decode cX9_odds 48 = .ok (.if_icmp .ge 49, 3) := by decide +kernel
theorem dX9_odds_51 : decode cX9_odds 51 = .ok (.aload_n 0, 1) := by decide +kernel
theorem dX9_odds_52 : decode cX9_odds 52 = .ok (.aload_n 0, 1) := by decide +kernel
theorem dX9_odds_53 : decode cX9_odds 53 = .ok (.getfield 13, 3) := by decide +kernel
theorem dX9_odds_56 : decode cX9_odds 56 = .ok (.iload 6, 2) := by decide +kernel
theorem dX9_odds_58 : decode cX9_odds 58 = .ok (.invokevirtual 263, 3) := by decide +kernel
theorem dX9_odds_61 : decode cX9_odds 61 = .ok (.ifCond .eq 6, 3) := by decide +kernel
theorem dX9_odds_64 : decode cX9_odds 64 = .ok (.goto 27, 3) := by decide +kernel
theorem dX9_odds_67 : decode cX9_odds 67 = .ok (.iinc 5 1, 3) := by decide +kernel
theorem dX9_odds_70 : decode cX9_odds 70 = .ok (.iload 4, 2) := by decide +kernel
theorem dX9_odds_72 : decode cX9_odds 72 = .ok (.aload_n 0, 1) := by decide +kernel
theorem dX9_odds_73 : decode cX9_odds 73 = .ok (.iload_n 1, 1) := by decide +kernel
theorem dX9_odds_74 : decode cX9_odds 74 = .ok (.iload 6, 2) := by decide +kernel
theorem dX9_odds_76 : decode cX9_odds 76 = .ok (.iload_n 2, 1) := by decide +kernel
theorem dX9_odds_77 : decode cX9_odds 77 = .ok (.invokevirtual 403, 3) := by decide +kernel
theorem dX9_odds_80 : decode cX9_odds 80 = .ok (.ifCond .eq 7, 3) := by decide +kernel
theorem dX9_odds_83 : decode cX9_odds 83 = .ok (.iconst 1, 1) := by decide +kernel
theorem dX9_odds_84 : decode cX9_odds 84 = .ok (.goto 4, 3) := by decide +kernel
theorem dX9_odds_87 : decode cX9_odds 87 = .ok (.iconst 0, 1) := by decide +kernel
theorem dX9_odds_88 : decode cX9_odds 88 = .ok (.iadd, 1) := by decide +kernel
theorem dX9_odds_89 : decode cX9_odds 89 = .ok (.istore 4, 2) := by decide +kernel
theorem dX9_odds_91 : decode cX9_odds 91 = .ok (.iinc 6 1, 3) := by decide +kernel
theorem dX9_odds_94 : decode cX9_odds 94 = .ok (.goto (-52), 3) := by decide +kernel
theorem dX9_odds_97 : decode cX9_odds 97 = .ok (.iload 5, 2) := by decide +kernel
theorem dX9_odds_99 : decode cX9_odds 99 = .ok (.ifCond .ne 9, 3) := by decide +kernel
theorem dX9_odds_102 : decode cX9_odds 102 = .ok (.ldc2_w 401, 3) := by decide +kernel
theorem dX9_odds_105 : decode cX9_odds 105 = .ok (.goto 12, 3) := by decide +kernel
theorem dX9_odds_108 : decode cX9_odds 108 = .ok (.aload_n 0, 1) := by decide +kernel
theorem dX9_odds_109 : decode cX9_odds 109 = .ok (.iload 4, 2) := by decide +kernel
theorem dX9_odds_111 : decode cX9_odds 111 = .ok (.iload 5, 2) := by decide +kernel
theorem dX9_odds_113 : decode cX9_odds 113 = .ok (.iload_n 3, 1) := by decide +kernel
theorem dX9_odds_114 : decode cX9_odds 114 = .ok (.invokevirtual 406, 3) := by decide +kernel
theorem dX9_odds_117 : decode cX9_odds 117 = .ok (.lreturn, 1) := by decide +kernel
theorem dX9_mean_0 : decode cX9_mean 0 = .ok (.aload_n 0, 1) := by decide +kernel
theorem dX9_mean_1 : decode cX9_mean 1 = .ok (.iload_n 1, 1) := by decide +kernel
theorem dX9_mean_2 : decode cX9_mean 2 = .ok (.invokevirtual 362, 3) := by decide +kernel
theorem dX9_mean_5 : decode cX9_mean 5 = .ok (.ifCond .eq 20, 3) := by decide +kernel
theorem dX9_mean_8 : decode cX9_mean 8 = .ok (.aload_n 0, 1) := by decide +kernel
theorem dX9_mean_9 : decode cX9_mean 9 = .ok (.iload_n 2, 1) := by decide +kernel
theorem dX9_mean_10 : decode cX9_mean 10 = .ok (.iconst 0, 1) := by decide +kernel
theorem dX9_mean_11 : decode cX9_mean 11 = .ok (.iconst 1, 1) := by decide +kernel
theorem dX9_mean_12 : decode cX9_mean 12 = .ok (.invokevirtual 252, 3) := by decide +kernel
theorem dX9_mean_15 : decode cX9_mean 15 = .ok (.ifCond .eq 10, 3) := by decide +kernel
theorem dX9_mean_18 : decode cX9_mean 18 = .ok (.aload_n 0, 1) := by decide +kernel
theorem dX9_mean_19 : decode cX9_mean 19 = .ok (.getfield 7, 3) := by decide +kernel
theorem dX9_mean_22 : decode cX9_mean 22 = .ok (.ifCond .ne 7, 3) := by decide +kernel
theorem dX9_mean_25 : decode cX9_mean 25 = .ok (.ldc2_w 401, 3) := by decide +kernel
theorem dX9_mean_28 : decode cX9_mean 28 = .ok (.lreturn, 1) := by decide +kernel
theorem dX9_mean_29 : decode cX9_mean 29 = .ok (.aload_n 0, 1) := by decide +kernel
theorem dX9_mean_30 : decode cX9_mean 30 = .ok (.invokevirtual 368, 3) := by decide +kernel
theorem dX9_mean_33 : decode cX9_mean 33 = .ok (.aload_n 0, 1) := by decide +kernel
theorem dX9_mean_34 : decode cX9_mean 34 = .ok (.iload_n 1, 1) := by decide +kernel
theorem dX9_mean_35 : decode cX9_mean 35 = .ok (.invokevirtual 365, 3) := by decide +kernel
theorem dX9_mean_38 : decode cX9_mean 38 = .ok (.aload_n 0, 1) := by decide +kernel
theorem dX9_mean_39 : decode cX9_mean 39 = .ok (.invokevirtual 353, 3) := by decide +kernel
theorem dX9_mean_42 : decode cX9_mean 42 = .ok (.istore_n 3, 1) := by decide +kernel
theorem dX9_mean_43 : decode cX9_mean 43 = .ok (.aload_n 0, 1) := by decide +kernel
theorem dX9_mean_44 : decode cX9_mean 44 = .ok (.invokevirtual 371, 3) := by decide +kernel
theorem dX9_mean_47 : decode cX9_mean 47 = .ok (.aload_n 0, 1) := by decide +kernel
theorem dX9_mean_48 : decode cX9_mean 48 = .ok (.iload_n 3, 1) := by decide +kernel
theorem dX9_mean_49 : decode cX9_mean 49 = .ok (.aload_n 0, 1) := by decide +kernel
theorem dX9_mean_50 : decode cX9_mean 50 = .ok (.getfield 7, 3) := by decide +kernel
theorem dX9_mean_53 : decode cX9_mean 53 = .ok (.iload_n 2, 1) := by decide +kernel
theorem dX9_mean_54 : decode cX9_mean 54 = .ok (.invokevirtual 406, 3) := by decide +kernel
theorem dX9_mean_57 : decode cX9_mean 57 = .ok (.lreturn, 1) := by decide +kernel
theorem dX9_plan_0 : decode cX9_plan 0 = .ok (.iload_n 1, 1) := by decide +kernel
theorem dX9_plan_1 : decode cX9_plan 1 = .ok (.iconst (-1), 1) := by decide +kernel
theorem dX9_plan_2 : decode cX9_plan 2 = .ok (.if_icmp .ne 10, 3) := by decide +kernel
theorem dX9_plan_5 : decode cX9_plan 5 = .ok (.aload_n 0, 1) := by decide +kernel
theorem dX9_plan_6 : decode cX9_plan 6 = .ok (.iconst 0, 1) := by decide +kernel
theorem dX9_plan_7 : decode cX9_plan 7 = .ok (.putfield 138, 3) := by decide +kernel
theorem dX9_plan_10 : decode cX9_plan 10 = .ok (.iconst 0, 1) := by decide +kernel
theorem dX9_plan_11 : decode cX9_plan 11 = .ok (.ireturn, 1) := by decide +kernel
theorem dX9_plan_12 : decode cX9_plan 12 = .ok (.aload_n 0, 1) := by decide +kernel
theorem dX9_plan_13 : decode cX9_plan 13 = .ok (.iload_n 1, 1) := by decide +kernel
theorem dX9_plan_14 : decode cX9_plan 14 = .ok (.iconst 0, 1) := by decide +kernel
theorem dX9_plan_15 : decode cX9_plan 15 = .ok (.iconst 3, 1) := by decide +kernel
theorem dX9_plan_16 : decode cX9_plan 16 = .ok (.invokevirtual 252, 3) := by decide +kernel
theorem dX9_plan_19 : decode cX9_plan 19 = .ok (.ifCond .eq 34, 3) := by decide +kernel
theorem dX9_plan_22 : decode cX9_plan 22 = .ok (.aload_n 0, 1) := by decide +kernel
theorem dX9_plan_23 : decode cX9_plan 23 = .ok (.iload_n 1, 1) := by decide +kernel
theorem dX9_plan_24 : decode cX9_plan 24 = .ok (.iconst 1, 1) := by decide +kernel
theorem dX9_plan_25 : decode cX9_plan 25 = .ok (.iconst 2, 1) := by decide +kernel
theorem dX9_plan_26 : decode cX9_plan 26 = .ok (.invokevirtual 252, 3) := by decide +kernel
theorem dX9_plan_29 : decode cX9_plan 29 = .ok (.ifCond .eq 11, 3) := by decide +kernel
theorem dX9_plan_32 : decode cX9_plan 32 = .ok (.aload_n 0, 1) := by decide +kernel
theorem dX9_plan_33 : decode cX9_plan 33 = .ok (.iload_n 2, 1) := by decide +kernel
theorem dX9_plan_34 : decode cX9_plan 34 = .ok (.invokevirtual 260, 3) := by decide +kernel
theorem dX9_plan_37 : decode cX9_plan 37 = .ok (.ifCond .eq 16, 3) := by decide +kernel
theorem dX9_plan_40 : decode cX9_plan 40 = .ok (.iload_n 1, 1) := by decide +kernel
theorem dX9_plan_41 : decode cX9_plan 41 = .ok (.iconst 3, 1) := by decide +kernel
theorem dX9_plan_42 : decode cX9_plan 42 = .ok (.if_icmp .ne 13, 3) := by decide +kernel
theorem dX9_plan_45 : decode cX9_plan 45 = .ok (.aload_n 0, 1) := by decide +kernel
theorem dX9_plan_46 : decode cX9_plan 46 = .ok (.iload_n 2, 1) := by decide +kernel
theorem dX9_plan_47 : decode cX9_plan 47 = .ok (.invokevirtual 271, 3) := by decide +kernel
theorem dX9_plan_50 : decode cX9_plan 50 = .ok (.ifCond .ne 5, 3) := by decide +kernel
theorem dX9_plan_53 : decode cX9_plan 53 = .ok (.iconst (-1), 1) := by decide +kernel
theorem dX9_plan_54 : decode cX9_plan 54 = .ok (.ireturn, 1) := by decide +kernel
theorem dX9_plan_55 : decode cX9_plan 55 = .ok (.aload_n 0, 1) := by decide +kernel
theorem dX9_plan_56 : decode cX9_plan 56 = .ok (.getfield 138, 3) := by decide +kernel
theorem dX9_plan_59 : decode cX9_plan 59 = .ok (.bipush 10, 2) := by decide +kernel
theorem dX9_plan_61 : decode cX9_plan 61 = .ok (.if_icmp .ne 6, 3) := by decide +kernel
theorem dX9_plan_64 : decode cX9_plan 64 = .ok (.bipush (-4), 2) := by decide +kernel
theorem dX9_plan_66 : decode cX9_plan 66 = .ok (.ireturn, 1) := by decide +kernel
theorem dX9_plan_67 : decode cX9_plan 67 = .ok (.aload_n 0, 1) := by decide +kernel
theorem dX9_plan_68 : decode cX9_plan 68 = .ok (.getfield 144, 3) := by decide +kernel
theorem dX9_plan_71 : decode cX9_plan 71 = .ok (.aload_n 0, 1) := by decide +kernel
theorem dX9_plan_72 : decode cX9_plan 72 = .ok (.getfield 138, 3) := by decide +kernel
theorem dX9_plan_75 : decode cX9_plan 75 = .ok (.iload_n 1, 1) := by decide +kernel
theorem dX9_plan_76 : decode cX9_plan 76 = .ok (.iastore, 1) := by decide +kernel
theorem dX9_plan_77 : decode cX9_plan 77 = .ok (.aload_n 0, 1) := by decide +kernel
theorem dX9_plan_78 : decode cX9_plan 78 = .ok (.getfield 147, 3) := by decide +kernel
theorem dX9_plan_81 : decode cX9_plan 81 = .ok (.aload_n 0, 1) := by decide +kernel
theorem dX9_plan_82 : decode cX9_plan 82 = .ok (.getfield 138, 3) := by decide +kernel
theorem dX9_plan_85 : decode cX9_plan 85 = .ok (.iload_n 1, 1) := by decide +kernel
theorem dX9_plan_86 : decode cX9_plan 86 = .ok (.ifCond .le 7, 3) := by decide +kernel
theorem dX9_plan_89 : decode cX9_plan 89 = .ok (.iload_n 2, 1) := by decide +kernel
theorem dX9_plan_90 : decode cX9_plan 90 = .ok (.goto 4, 3) := by decide +kernel
theorem dX9_plan_93 : decode cX9_plan 93 = .ok (.iconst 0, 1) := by decide +kernel
theorem dX9_plan_94 : decode cX9_plan 94 = .ok (.iastore, 1) := by decide +kernel
theorem dX9_plan_95 : decode cX9_plan 95 = .ok (.aload_n 0, 1) := by decide +kernel
theorem dX9_plan_96 : decode cX9_plan 96 = .ok (.dup, 1) := by decide +kernel
theorem dX9_plan_97 : decode cX9_plan 97 = .ok (.getfield 138, 3) := by decide +kernel
theorem dX9_plan_100 : decode cX9_plan 100 = .ok (.iconst 1, 1) := by decide +kernel
theorem dX9_plan_101 : decode cX9_plan 101 = .ok (.iadd, 1) := by decide +kernel
theorem dX9_plan_102 : decode cX9_plan 102 = .ok (.putfield 138, 3) := by decide +kernel
theorem dX9_plan_105 : decode cX9_plan 105 = .ok (.aload_n 0, 1) := by decide +kernel
theorem dX9_plan_106 : decode cX9_plan 106 = .ok (.getfield 138, 3) := by decide +kernel
theorem dX9_plan_109 : decode cX9_plan 109 = .ok (.ireturn, 1) := by decide +kernel
theorem dX9_goPlan_0 : decode cX9_goPlan 0 = .ok (.iload_n 1, 1) := by decide +kernel
theorem dX9_goPlan_1 : decode cX9_goPlan 1 = .ok (.ifCond .ne 7, 3) := by decide +kernel
theorem dX9_goPlan_4 : decode cX9_goPlan 4 = .ok (.aload_n 0, 1) := by decide +kernel
theorem dX9_goPlan_5 : decode cX9_goPlan 5 = .ok (.invokevirtual 359, 3) := by decide +kernel
theorem dX9_goPlan_8 : decode cX9_goPlan 8 = .ok (.aload_n 0, 1) := by decide +kernel
theorem dX9_goPlan_9 : decode cX9_goPlan 9 = .ok (.iload_n 1, 1) := by decide +kernel
theorem dX9_goPlan_10 : decode cX9_goPlan 10 = .ok (.iconst 1, 1) := by decide +kernel
theorem dX9_goPlan_11 : decode cX9_goPlan 11 = .ok (.iconst 2, 1) := by decide +kernel
theorem dX9_goPlan_12 : decode cX9_goPlan 12 = .ok (.invokevirtual 252, 3) := by decide +kernel
theorem dX9_goPlan_15 : decode cX9_goPlan 15 = .ok (.ifCond .eq 18, 3) := by decide +kernel
theorem dX9_goPlan_18 : decode cX9_goPlan 18 = .ok (.aload_n 0, 1) := by decide +kernel
theorem dX9_goPlan_19 : decode cX9_goPlan 19 = .ok (.iload_n 2, 1) := by decide +kernel
theorem dX9_goPlan_20 : decode cX9_goPlan 20 = .ok (.iload_n 1, 1) := by decide +kernel
theorem dX9_goPlan_21 : decode cX9_goPlan 21 = .ok (.iconst 1, 1) := by decide +kernel
theorem dX9_goPlan_22 : decode cX9_goPlan 22 = .ok (.if_icmp .ne 7, 3) := by decide +kernel
theorem dX9_goPlan_25 : decode cX9_goPlan 25 = .ok (.iconst 1, 1) := by decide +kernel
theorem dX9_goPlan_26 : decode cX9_goPlan 26 = .ok (.goto 4, 3) := by decide +kernel
theorem dX9_goPlan_29 : decode cX9_goPlan 29 = .ok (.iconst 0, 1) := by decide +kernel
theorem dX9_goPlan_30 : decode cX9_goPlan 30 = .ok (.invokevirtual 267, 3) := by decide +kernel
theorem dX9_goPlan_33 : decode cX9_goPlan 33 = .ok (.iload_n 1, 1) := by decide +kernel
theorem dX9_goPlan_34 : decode cX9_goPlan 34 = .ok (.iconst 3, 1) := by decide +kernel
theorem dX9_goPlan_35 : decode cX9_goPlan 35 = .ok (.if_icmp .ne 8, 3) := by decide +kernel
theorem dX9_goPlan_38 : decode cX9_goPlan 38 = .ok (.aload_n 0, 1) := by decide +kernel
theorem dX9_goPlan_39 : decode cX9_goPlan 39 = .ok (.iload_n 2, 1) := by decide +kernel
theorem dX9_goPlan_40 : decode cX9_goPlan 40 = .ok (.putfield 19, 3) := by decide +kernel
theorem dX9_goPlan_43 : decode cX9_goPlan 43 = .ok (.return_, 1) := by decide +kernel
theorem dX9_ends_0 : decode cX9_ends 0 = .ok (.aload_n 0, 1) := by decide +kernel
theorem dX9_ends_1 : decode cX9_ends 1 = .ok (.iload_n 1, 1) := by decide +kernel
theorem dX9_ends_2 : decode cX9_ends 2 = .ok (.iconst 0, 1) := by decide +kernel
theorem dX9_ends_3 : decode cX9_ends 3 = .ok (.iconst 1, 1) := by decide +kernel
theorem dX9_ends_4 : decode cX9_ends 4 = .ok (.invokevirtual 252, 3) := by decide +kernel
theorem dX9_ends_7 : decode cX9_ends 7 = .ok (.ifCond .ne 5, 3) := by decide +kernel
theorem dX9_ends_10 : decode cX9_ends 10 = .ok (.iconst (-1), 1) := by decide +kernel
theorem dX9_ends_11 : decode cX9_ends 11 = .ok (.ireturn, 1) := by decide +kernel
theorem dX9_ends_12 : decode cX9_ends 12 = .ok (.aload_n 0, 1) := by decide +kernel
theorem dX9_ends_13 : decode cX9_ends 13 = .ok (.invokevirtual 368, 3) := by decide +kernel
theorem dX9_ends_16 : decode cX9_ends 16 = .ok (.iconst 0, 1) := by decide +kernel
theorem dX9_ends_17 : decode cX9_ends 17 = .ok (.istore_n 2, 1) := by decide +kernel
theorem dX9_ends_18 : decode cX9_ends 18 = .ok (.iload_n 2, 1) := by decide +kernel
theorem dX9_ends_19 : decode cX9_ends 19 = .ok (.aload_n 0, 1) := by decide +kernel
theorem dX9_ends_20 : decode cX9_ends 20 = .ok (.getfield 138, 3) := by decide +kernel
theorem dX9_ends_23 : decode cX9_ends 23 = .ok (.if_icmp .ge 25, 3) := by decide +kernel
theorem dX9_ends_26 : decode cX9_ends 26 = .ok (.aload_n 0, 1) := by decide +kernel
theorem dX9_ends_27 : decode cX9_ends 27 = .ok (.aload_n 0, 1) := by decide +kernel
theorem dX9_ends_28 : decode cX9_ends 28 = .ok (.getfield 144, 3) := by decide +kernel
theorem dX9_ends_31 : decode cX9_ends 31 = .ok (.iload_n 2, 1) := by decide +kernel
theorem dX9_ends_32 : decode cX9_ends 32 = .ok (.iaload, 1) := by decide +kernel
theorem dX9_ends_33 : decode cX9_ends 33 = .ok (.aload_n 0, 1) := by decide +kernel
theorem dX9_ends_34 : decode cX9_ends 34 = .ok (.getfield 147, 3) := by decide +kernel
theorem dX9_ends_37 : decode cX9_ends 37 = .ok (.iload_n 2, 1) := by decide +kernel
theorem dX9_ends_38 : decode cX9_ends 38 = .ok (.iaload, 1) := by decide +kernel
theorem dX9_ends_39 : decode cX9_ends 39 = .ok (.invokevirtual 410, 3) := by decide +kernel
theorem dX9_ends_42 : decode cX9_ends 42 = .ok (.iinc 2 1, 3) := by decide +kernel
theorem dX9_ends_45 : decode cX9_ends 45 = .ok (.goto (-27), 3) := by decide +kernel
theorem dX9_ends_48 : decode cX9_ends 48 = .ok (.iload_n 1, 1) := by decide +kernel
theorem dX9_ends_49 : decode cX9_ends 49 = .ok (.ifCond .ne 10, 3) := by decide +kernel
theorem dX9_ends_52 : decode cX9_ends 52 = .ok (.aload_n 0, 1) := by decide +kernel
theorem dX9_ends_53 : decode cX9_ends 53 = .ok (.invokevirtual 353, 3) := by decide +kernel
theorem dX9_ends_56 : decode cX9_ends 56 = .ok (.goto 7, 3) := by decide +kernel
theorem dX9_ends_59 : decode cX9_ends 59 = .ok (.aload_n 0, 1) := by decide +kernel
theorem dX9_ends_60 : decode cX9_ends 60 = .ok (.invokevirtual 347, 3) := by decide +kernel
theorem dX9_ends_63 : decode cX9_ends 63 = .ok (.istore_n 2, 1) := by decide +kernel
theorem dX9_ends_64 : decode cX9_ends 64 = .ok (.aload_n 0, 1) := by decide +kernel
theorem dX9_ends_65 : decode cX9_ends 65 = .ok (.invokevirtual 371, 3) := by decide +kernel
theorem dX9_ends_68 : decode cX9_ends 68 = .ok (.iload_n 2, 1) := by decide +kernel
theorem dX9_ends_69 : decode cX9_ends 69 = .ok (.ireturn, 1) := by decide +kernel
theorem dX9_book_0 : decode cX9_book 0 = .ok (.iload_n 1, 1) := by decide +kernel
theorem dX9_book_1 : decode cX9_book 1 = .ok (.iconst (-1), 1) := by decide +kernel
theorem dX9_book_2 : decode cX9_book 2 = .ok (.if_icmp .ne 10, 3) := by decide +kernel
theorem dX9_book_5 : decode cX9_book 5 = .ok (.aload_n 0, 1) := by decide +kernel
theorem dX9_book_6 : decode cX9_book 6 = .ok (.iconst 0, 1) := by decide +kernel
theorem dX9_book_7 : decode cX9_book 7 = .ok (.putfield 141, 3) := by decide +kernel
theorem dX9_book_10 : decode cX9_book 10 = .ok (.iconst 0, 1) := by decide +kernel
theorem dX9_book_11 : decode cX9_book 11 = .ok (.ireturn, 1) := by decide +kernel
theorem dX9_book_12 : decode cX9_book 12 = .ok (.aload_n 0, 1) := by decide +kernel
theorem dX9_book_13 : decode cX9_book 13 = .ok (.iload_n 1, 1) := by decide +kernel
theorem dX9_book_14 : decode cX9_book 14 = .ok (.invokevirtual 260, 3) := by decide +kernel
theorem dX9_book_17 : decode cX9_book 17 = .ok (.ifCond .ne 5, 3) := by decide +kernel
theorem dX9_book_20 : decode cX9_book 20 = .ok (.iconst (-1), 1) := by decide +kernel
theorem dX9_book_21 : decode cX9_book 21 = .ok (.ireturn, 1) := by decide +kernel
theorem dX9_book_22 : decode cX9_book 22 = .ok (.aload_n 0, 1) := by decide +kernel
theorem dX9_book_23 : decode cX9_book 23 = .ok (.iload_n 2, 1) := by decide +kernel
theorem dX9_book_24 : decode cX9_book 24 = .ok (.invokevirtual 256, 3) := by decide +kernel
theorem dX9_book_27 : decode cX9_book 27 = .ok (.ifCond .ne 6, 3) := by decide +kernel
theorem dX9_book_30 : decode cX9_book 30 = .ok (.bipush (-2), 2) := by decide +kernel
theorem dX9_book_32 : decode cX9_book 32 = .ok (.ireturn, 1) := by decide +kernel
theorem dX9_book_33 : decode cX9_book 33 = .ok (.aload_n 0, 1) := by decide +kernel
theorem dX9_book_34 : decode cX9_book 34 = .ok (.getfield 141, 3) := by decide +kernel
theorem dX9_book_37 : decode cX9_book 37 = .ok (.bipush 8, 2) := by decide +kernel
theorem dX9_book_39 : decode cX9_book 39 = .ok (.if_icmp .ne 6, 3) := by decide +kernel
theorem dX9_book_42 : decode cX9_book 42 = .ok (.bipush (-4), 2) := by decide +kernel
theorem dX9_book_44 : decode cX9_book 44 = .ok (.ireturn, 1) := by decide +kernel
theorem dX9_book_45 : decode cX9_book 45 = .ok (.aload_n 0, 1) := by decide +kernel
theorem dX9_book_46 : decode cX9_book 46 = .ok (.getfield 150, 3) := by decide +kernel
theorem dX9_book_49 : decode cX9_book 49 = .ok (.aload_n 0, 1) := by decide +kernel
theorem dX9_book_50 : decode cX9_book 50 = .ok (.getfield 141, 3) := by decide +kernel
theorem dX9_book_53 : decode cX9_book 53 = .ok (.iload_n 1, 1) := by decide +kernel
theorem dX9_book_54 : decode cX9_book 54 = .ok (.iastore, 1) := by decide +kernel
theorem dX9_book_55 : decode cX9_book 55 = .ok (.aload_n 0, 1) := by decide +kernel
theorem dX9_book_56 : decode cX9_book 56 = .ok (.getfield 153, 3) := by decide +kernel
theorem dX9_book_59 : decode cX9_book 59 = .ok (.aload_n 0, 1) := by decide +kernel
theorem dX9_book_60 : decode cX9_book 60 = .ok (.getfield 141, 3) := by decide +kernel
theorem dX9_book_63 : decode cX9_book 63 = .ok (.iload_n 2, 1) := by decide +kernel
theorem dX9_book_64 : decode cX9_book 64 = .ok (.iastore, 1) := by decide +kernel
theorem dX9_book_65 : decode cX9_book 65 = .ok (.aload_n 0, 1) := by decide +kernel
theorem dX9_book_66 : decode cX9_book 66 = .ok (.dup, 1) := by decide +kernel
theorem dX9_book_67 : decode cX9_book 67 = .ok (.getfield 141, 3) := by decide +kernel
theorem dX9_book_70 : decode cX9_book 70 = .ok (.iconst 1, 1) := by decide +kernel
theorem dX9_book_71 : decode cX9_book 71 = .ok (.iadd, 1) := by decide +kernel
theorem dX9_book_72 : decode cX9_book 72 = .ok (.putfield 141, 3) := by decide +kernel
theorem dX9_book_75 : decode cX9_book 75 = .ok (.aload_n 0, 1) := by decide +kernel
theorem dX9_book_76 : decode cX9_book 76 = .ok (.getfield 141, 3) := by decide +kernel
theorem dX9_book_79 : decode cX9_book 79 = .ok (.ireturn, 1) := by decide +kernel
theorem dX9_looked_0 : decode cX9_looked 0 = .ok (.iconst 0, 1) := by decide +kernel
theorem dX9_looked_1 : decode cX9_looked 1 = .ok (.istore_n 1, 1) := by decide +kernel
theorem dX9_looked_2 : decode cX9_looked 2 = .ok (.iload_n 1, 1) := by decide +kernel
theorem dX9_looked_3 : decode cX9_looked 3 = .ok (.aload_n 0, 1) := by decide +kernel
theorem dX9_looked_4 : decode cX9_looked 4 = .ok (.getfield 141, 3) := by decide +kernel
theorem dX9_looked_7 : decode cX9_looked 7 = .ok (.if_icmp .ge 31, 3) := by decide +kernel
theorem dX9_looked_10 : decode cX9_looked 10 = .ok (.aload_n 0, 1) := by decide +kernel
theorem dX9_looked_11 : decode cX9_looked 11 = .ok (.getfield 32, 3) := by decide +kernel
theorem dX9_looked_14 : decode cX9_looked 14 = .ok (.aload_n 0, 1) := by decide +kernel
theorem dX9_looked_15 : decode cX9_looked 15 = .ok (.getfield 150, 3) := by decide +kernel
theorem dX9_looked_18 : decode cX9_looked 18 = .ok (.iload_n 1, 1) := by decide +kernel
theorem dX9_looked_19 : decode cX9_looked 19 = .ok (.iaload, 1) := by decide +kernel
theorem dX9_looked_20 : decode cX9_looked 20 = .ok (.iaload, 1) := by decide +kernel
theorem dX9_looked_21 : decode cX9_looked 21 = .ok (.aload_n 0, 1) := by decide +kernel
theorem dX9_looked_22 : decode cX9_looked 22 = .ok (.getfield 153, 3) := by decide +kernel
theorem dX9_looked_25 : decode cX9_looked 25 = .ok (.iload_n 1, 1) := by decide +kernel
theorem dX9_looked_26 : decode cX9_looked 26 = .ok (.iaload, 1) := by decide +kernel
theorem dX9_looked_27 : decode cX9_looked 27 = .ok (.if_icmp .eq 5, 3) := by decide +kernel
theorem dX9_looked_30 : decode cX9_looked 30 = .ok (.iload_n 1, 1) := by decide +kernel
theorem dX9_looked_31 : decode cX9_looked 31 = .ok (.ireturn, 1) := by decide +kernel
theorem dX9_looked_32 : decode cX9_looked 32 = .ok (.iinc 1 1, 3) := by decide +kernel
theorem dX9_looked_35 : decode cX9_looked 35 = .ok (.goto (-33), 3) := by decide +kernel
theorem dX9_looked_38 : decode cX9_looked 38 = .ok (.bipush (-5), 2) := by decide +kernel
theorem dX9_looked_40 : decode cX9_looked 40 = .ok (.ireturn, 1) := by decide +kernel
theorem dX9_judge_0 : decode cX9_judge 0 = .ok (.aload_n 0, 1) := by decide +kernel
theorem dX9_judge_1 : decode cX9_judge 1 = .ok (.iload_n 1, 1) := by decide +kernel
theorem dX9_judge_2 : decode cX9_judge 2 = .ok (.invokevirtual 414, 3) := by decide +kernel
theorem dX9_judge_5 : decode cX9_judge 5 = .ok (.ifCond .ne 5, 3) := by decide +kernel
theorem dX9_judge_8 : decode cX9_judge 8 = .ok (.iconst (-1), 1) := by decide +kernel
theorem dX9_judge_9 : decode cX9_judge 9 = .ok (.ireturn, 1) := by decide +kernel
theorem dX9_judge_10 : decode cX9_judge 10 = .ok (.aload_n 0, 1) := by decide +kernel
theorem dX9_judge_11 : decode cX9_judge 11 = .ok (.getfield 235, 3) := by decide +kernel
theorem dX9_judge_14 : decode cX9_judge 14 = .ok (.iload_n 1, 1) := by decide +kernel
theorem dX9_judge_15 : decode cX9_judge 15 = .ok (.iaload, 1) := by decide +kernel
theorem dX9_judge_16 : decode cX9_judge 16 = .ok (.ifCond .le 6, 3) := by decide +kernel
theorem dX9_judge_19 : decode cX9_judge 19 = .ok (.bipush (-12), 2) := by decide +kernel
theorem dX9_judge_21 : decode cX9_judge 21 = .ok (.ireturn, 1) := by decide +kernel
theorem dX9_judge_22 : decode cX9_judge 22 = .ok (.iconst 0, 1) := by decide +kernel
theorem dX9_judge_23 : decode cX9_judge 23 = .ok (.istore_n 3, 1) := by decide +kernel
theorem dX9_judge_24 : decode cX9_judge 24 = .ok (.iload_n 3, 1) := by decide +kernel
theorem dX9_judge_25 : decode cX9_judge 25 = .ok (.aload_n 0, 1) := by decide +kernel
theorem dX9_judge_26 : decode cX9_judge 26 = .ok (.getfield 7, 3) := by decide +kernel
theorem dX9_judge_29 : decode cX9_judge 29 = .ok (.if_icmp .ge 67, 3) := by decide +kernel
theorem dX9_judge_32 : decode cX9_judge 32 = .ok (.aload_n 0, 1) := by decide +kernel
theorem dX9_judge_33 : decode cX9_judge 33 = .ok (.getfield 235, 3) := by decide +kernel
theorem dX9_judge_36 : decode cX9_judge 36 = .ok (.iload_n 1, 1) := by decide +kernel
theorem dX9_judge_37 : decode cX9_judge 37 = .ok (.iaload, 1) := by decide +kernel
theorem dX9_judge_38 : decode cX9_judge 38 = .ok (.ifCond .lt 21, 3) := by decide +kernel
theorem dX9_judge_41 : decode cX9_judge 41 = .ok (.iload_n 2, 1) := by decide +kernel
theorem dX9_judge_42 : decode cX9_judge 42 = .ok (.ifCond .lt 17, 3) := by decide +kernel
theorem dX9_judge_45 : decode cX9_judge 45 = .ok (.iload_n 2, 1) := by decide +kernel
theorem dX9_judge_46 : decode cX9_judge 46 = .ok (.aload_n 0, 1) := by decide +kernel
theorem dX9_judge_47 : decode cX9_judge 47 = .ok (.getfield 238, 3) := by decide +kernel
theorem dX9_judge_50 : decode cX9_judge 50 = .ok (.iload_n 1, 1) := by decide +kernel
theorem dX9_judge_51 : decode cX9_judge 51 = .ok (.iaload, 1) := by decide +kernel
theorem dX9_judge_52 : decode cX9_judge 52 = .ok (.iload_n 3, 1) := by decide +kernel
theorem dX9_judge_53 : decode cX9_judge 53 = .ok (.isub, 1) := by decide +kernel
theorem dX9_judge_54 : decode cX9_judge 54 = .ok (.iconst 1, 1) := by decide +kernel
theorem dX9_judge_55 : decode cX9_judge 55 = .ok (.isub, 1) := by decide +kernel
theorem dX9_judge_56 : decode cX9_judge 56 = .ok (.if_icmp .le 8, 3) := by decide +kernel
theorem dX9_judge_59 : decode cX9_judge 59 = .ok (.bipush 100, 2) := by decide +kernel
theorem dX9_judge_61 : decode cX9_judge 61 = .ok (.iload_n 3, 1) := by decide +kernel
theorem dX9_judge_62 : decode cX9_judge 62 = .ok (.iadd, 1) := by decide +kernel
theorem dX9_judge_63 : decode cX9_judge 63 = .ok (.ireturn, 1) := by decide +kernel
theorem dX9_judge_64 : decode cX9_judge 64 = .ok (.aload_n 0, 1) := by decide +kernel
theorem dX9_judge_65 : decode cX9_judge 65 = .ok (.getfield 241, 3) := by decide +kernel
theorem dX9_judge_68 : decode cX9_judge 68 = .ok (.bipush 60, 2) := by decide +kernel
theorem dX9_judge_70 : decode cX9_judge 70 = .ok (.iload_n 1, 1) := by decide +kernel
theorem dX9_judge_71 : decode cX9_judge 71 = .ok (.imul, 1) := by decide +kernel
theorem dX9_judge_72 : decode cX9_judge 72 = .ok (.iload_n 2, 1) := by decide +kernel
theorem dX9_judge_73 : decode cX9_judge 73 = .ok (.iadd, 1) := by decide +kernel
theorem dX9_judge_74 : decode cX9_judge 74 = .ok (.iload_n 3, 1) := by decide +kernel
theorem dX9_judge_75 : decode cX9_judge 75 = .ok (.iadd, 1) := by decide +kernel
theorem dX9_judge_76 : decode cX9_judge 76 = .ok (.laload, 1) := by decide +kernel
theorem dX9_judge_77 : decode cX9_judge 77 = .ok (.aload_n 0, 1) := by decide +kernel
theorem dX9_judge_78 : decode cX9_judge 78 = .ok (.getfield 32, 3) := by decide +kernel
theorem dX9_judge_81 : decode cX9_judge 81 = .ok (.iload_n 3, 1) := by decide +kernel
theorem dX9_judge_82 : decode cX9_judge 82 = .ok (.iaload, 1) := by decide +kernel
theorem dX9_judge_83 : decode cX9_judge 83 = .ok (.i2l, 1) := by decide +kernel
theorem dX9_judge_84 : decode cX9_judge 84 = .ok (.lcmp, 1) := by decide +kernel
theorem dX9_judge_85 : decode cX9_judge 85 = .ok (.ifCond .eq 5, 3) := by decide +kernel
theorem dX9_judge_88 : decode cX9_judge 88 = .ok (.iload_n 3, 1) := by decide +kernel
theorem dX9_judge_89 : decode cX9_judge 89 = .ok (.ireturn, 1) := by decide +kernel
theorem dX9_judge_90 : decode cX9_judge 90 = .ok (.iinc 3 1, 3) := by decide +kernel
theorem dX9_judge_93 : decode cX9_judge 93 = .ok (.goto (-69), 3) := by decide +kernel
theorem dX9_judge_96 : decode cX9_judge 96 = .ok (.bipush (-5), 2) := by decide +kernel
theorem dX9_judge_98 : decode cX9_judge 98 = .ok (.ireturn, 1) := by decide +kernel
theorem dX9_image_0 : decode cX9_image 0 = .ok (.aload_n 0, 1) := by decide +kernel
theorem dX9_image_1 : decode cX9_image 1 = .ok (.iconst 1, 1) := by decide +kernel
theorem dX9_image_2 : decode cX9_image 2 = .ok (.putfield 156, 3) := by decide +kernel
theorem dX9_image_5 : decode cX9_image 5 = .ok (.aload_n 0, 1) := by decide +kernel
theorem dX9_image_6 : decode cX9_image 6 = .ok (.aload_n 0, 1) := by decide +kernel
theorem dX9_image_7 : decode cX9_image 7 = .ok (.getfield 50, 3) := by decide +kernel
theorem dX9_image_10 : decode cX9_image 10 = .ok (.putfield 160, 3) := by decide +kernel
theorem dX9_image_13 : decode cX9_image 13 = .ok (.aload_n 0, 1) := by decide +kernel
theorem dX9_image_14 : decode cX9_image 14 = .ok (.aload_n 0, 1) := by decide +kernel
theorem dX9_image_15 : decode cX9_image 15 = .ok (.getfield 7, 3) := by decide +kernel
theorem dX9_image_18 : decode cX9_image 18 = .ok (.putfield 163, 3) := by decide +kernel
theorem dX9_image_21 : decode cX9_image 21 = .ok (.aload_n 0, 1) := by decide +kernel
theorem dX9_image_22 : decode cX9_image 22 = .ok (.aload_n 0, 1) := by decide +kernel
theorem dX9_image_23 : decode cX9_image 23 = .ok (.getfield 13, 3) := by decide +kernel
theorem dX9_image_26 : decode cX9_image 26 = .ok (.putfield 166, 3) := by decide +kernel
theorem dX9_image_29 : decode cX9_image 29 = .ok (.aload_n 0, 1) := by decide +kernel
theorem dX9_image_30 : decode cX9_image 30 = .ok (.aload_n 0, 1) := by decide +kernel
theorem dX9_image_31 : decode cX9_image 31 = .ok (.getfield 16, 3) := by decide +kernel
theorem dX9_image_34 : decode cX9_image 34 = .ok (.putfield 169, 3) := by decide +kernel
theorem dX9_image_37 : decode cX9_image 37 = .ok (.aload_n 0, 1) := by decide +kernel
theorem dX9_image_38 : decode cX9_image 38 = .ok (.aload_n 0, 1) := by decide +kernel
theorem dX9_image_39 : decode cX9_image 39 = .ok (.getfield 19, 3) := by decide +kernel
theorem dX9_image_42 : decode cX9_image 42 = .ok (.putfield 172, 3) := by decide +kernel
theorem dX9_image_45 : decode cX9_image 45 = .ok (.aload_n 0, 1) := by decide +kernel
theorem dX9_image_46 : decode cX9_image 46 = .ok (.aload_n 0, 1) := by decide +kernel
theorem dX9_image_47 : decode cX9_image 47 = .ok (.getfield 22, 3) := by decide +kernel
theorem dX9_image_50 : decode cX9_image 50 = .ok (.putfield 175, 3) := by decide +kernel
theorem dX9_image_53 : decode cX9_image 53 = .ok (.aload_n 0, 1) := by decide +kernel
theorem dX9_image_54 : decode cX9_image 54 = .ok (.aload_n 0, 1) := by decide +kernel
theorem dX9_image_55 : decode cX9_image 55 = .ok (.getfield 126, 3) := by decide +kernel
theorem dX9_image_58 : decode cX9_image 58 = .ok (.putfield 178, 3) := by decide +kernel
theorem dX9_image_61 : decode cX9_image 61 = .ok (.aload_n 0, 1) := by decide +kernel
theorem dX9_image_62 : decode cX9_image 62 = .ok (.aload_n 0, 1) := by decide +kernel
theorem dX9_image_63 : decode cX9_image 63 = .ok (.getfield 138, 3) := by decide +kernel
theorem dX9_image_66 : decode cX9_image 66 = .ok (.putfield 181, 3) := by decide +kernel
theorem dX9_image_69 : decode cX9_image 69 = .ok (.aload_n 0, 1) := by decide +kernel
theorem dX9_image_70 : decode cX9_image 70 = .ok (.aload_n 0, 1) := by decide +kernel
theorem dX9_image_71 : decode cX9_image 71 = .ok (.getfield 141, 3) := by decide +kernel
theorem dX9_image_74 : decode cX9_image 74 = .ok (.putfield 184, 3) := by decide +kernel
theorem dX9_image_77 : decode cX9_image 77 = .ok (.iconst 0, 1) := by decide +kernel
theorem dX9_image_78 : decode cX9_image 78 = .ok (.istore_n 1, 1) := by decide +kernel
theorem dX9_image_79 : decode cX9_image 79 = .ok (.iload_n 1, 1) := by decide +kernel
theorem dX9_image_80 : decode cX9_image 80 = .ok (.bipush 6, 2) := by decide +kernel
theorem dX9_image_82 : decode cX9_image 82 = .ok (.if_icmp .ge 45, 3) := by decide +kernel
theorem dX9_image_85 : decode cX9_image 85 = .ok (.aload_n 0, 1) := by decide +kernel
theorem dX9_image_86 : decode cX9_image 86 = .ok (.getfield 187, 3) := by decide +kernel
theorem dX9_image_89 : decode cX9_image 89 = .ok (.iload_n 1, 1) := by decide +kernel
theorem dX9_image_90 : decode cX9_image 90 = .ok (.aload_n 0, 1) := by decide +kernel
theorem dX9_image_91 : decode cX9_image 91 = .ok (.getfield 25, 3) := by decide +kernel
theorem dX9_image_94 : decode cX9_image 94 = .ok (.iload_n 1, 1) := by decide +kernel
theorem dX9_image_95 : decode cX9_image 95 = .ok (.iaload, 1) := by decide +kernel
theorem dX9_image_96 : decode cX9_image 96 = .ok (.iastore, 1) := by decide +kernel
theorem dX9_image_97 : decode cX9_image 97 = .ok (.aload_n 0, 1) := by decide +kernel
theorem dX9_image_98 : decode cX9_image 98 = .ok (.getfield 190, 3) := by decide +kernel
theorem dX9_image_101 : decode cX9_image 101 = .ok (.iload_n 1, 1) := by decide +kernel
theorem dX9_image_102 : decode cX9_image 102 = .ok (.aload_n 0, 1) := by decide +kernel
theorem dX9_image_103 : decode cX9_image 103 = .ok (.getfield 29, 3) := by decide +kernel
theorem dX9_image_106 : decode cX9_image 106 = .ok (.iload_n 1, 1) := by decide +kernel
theorem dX9_image_107 : decode cX9_image 107 = .ok (.iaload, 1) := by decide +kernel
theorem dX9_image_108 : decode cX9_image 108 = .ok (.iastore, 1) := by decide +kernel
theorem dX9_image_109 : decode cX9_image 109 = .ok (.aload_n 0, 1) := by decide +kernel
theorem dX9_image_110 : decode cX9_image 110 = .ok (.getfield 193, 3) := by decide +kernel
theorem dX9_image_113 : decode cX9_image 113 = .ok (.iload_n 1, 1) := by decide +kernel
theorem dX9_image_114 : decode cX9_image 114 = .ok (.aload_n 0, 1) := by decide +kernel
theorem dX9_image_115 : decode cX9_image 115 = .ok (.getfield 32, 3) := by decide +kernel
theorem dX9_image_118 : decode cX9_image 118 = .ok (.iload_n 1, 1) := by decide +kernel
theorem dX9_image_119 : decode cX9_image 119 = .ok (.iaload, 1) := by decide +kernel
theorem dX9_image_120 : decode cX9_image 120 = .ok (.iastore, 1) := by decide +kernel
theorem dX9_image_121 : decode cX9_image 121 = .ok (.iinc 1 1, 3) := by decide +kernel
theorem dX9_image_124 : decode cX9_image 124 = .ok (.goto (-45), 3) := by decide +kernel
theorem dX9_image_127 : decode cX9_image 127 = .ok (.iconst 0, 1) := by decide +kernel
theorem dX9_image_128 : decode cX9_image 128 = .ok (.istore_n 1, 1) := by decide +kernel
theorem dX9_image_129 : decode cX9_image 129 = .ok (.iload_n 1, 1) := by decide +kernel
theorem dX9_image_130 : decode cX9_image 130 = .ok (.bipush 24, 2) := by decide +kernel
theorem dX9_image_132 : decode cX9_image 132 = .ok (.if_icmp .ge 21, 3) := by decide +kernel
theorem dX9_image_135 : decode cX9_image 135 = .ok (.aload_n 0, 1) := by decide +kernel
theorem dX9_image_136 : decode cX9_image 136 = .ok (.getfield 196, 3) := by decide +kernel
theorem dX9_image_139 : decode cX9_image 139 = .ok (.iload_n 1, 1) := by decide +kernel
theorem dX9_image_140 : decode cX9_image 140 = .ok (.aload_n 0, 1) := by decide +kernel
theorem dX9_image_141 : decode cX9_image 141 = .ok (.getfield 35, 3) := by decide +kernel
theorem dX9_image_144 : decode cX9_image 144 = .ok (.iload_n 1, 1) := by decide +kernel
theorem dX9_image_145 : decode cX9_image 145 = .ok (.iaload, 1) := by decide +kernel
theorem dX9_image_146 : decode cX9_image 146 = .ok (.iastore, 1) := by decide +kernel
theorem dX9_image_147 : decode cX9_image 147 = .ok (.iinc 1 1, 3) := by decide +kernel
theorem dX9_image_150 : decode cX9_image 150 = .ok (.goto (-21), 3) := by decide +kernel
theorem dX9_image_153 : decode cX9_image 153 = .ok (.iconst 0, 1) := by decide +kernel
theorem dX9_image_154 : decode cX9_image 154 = .ok (.istore_n 1, 1) := by decide +kernel
theorem dX9_image_155 : decode cX9_image 155 = .ok (.iload_n 1, 1) := by decide +kernel
theorem dX9_image_156 : decode cX9_image 156 = .ok (.iconst 4, 1) := by decide +kernel
theorem dX9_image_157 : decode cX9_image 157 = .ok (.if_icmp .ge 45, 3) := by decide +kernel
theorem dX9_image_160 : decode cX9_image 160 = .ok (.aload_n 0, 1) := by decide +kernel
theorem dX9_image_161 : decode cX9_image 161 = .ok (.getfield 199, 3) := by decide +kernel
theorem dX9_image_164 : decode cX9_image 164 = .ok (.iload_n 1, 1) := by decide +kernel
theorem dX9_image_165 : decode cX9_image 165 = .ok (.aload_n 0, 1) := by decide +kernel
theorem dX9_image_166 : decode cX9_image 166 = .ok (.getfield 38, 3) := by decide +kernel
theorem dX9_image_169 : decode cX9_image 169 = .ok (.iload_n 1, 1) := by decide +kernel
theorem dX9_image_170 : decode cX9_image 170 = .ok (.iaload, 1) := by decide +kernel
theorem dX9_image_171 : decode cX9_image 171 = .ok (.iastore, 1) := by decide +kernel
theorem dX9_image_172 : decode cX9_image 172 = .ok (.aload_n 0, 1) := by decide +kernel
theorem dX9_image_173 : decode cX9_image 173 = .ok (.getfield 202, 3) := by decide +kernel
theorem dX9_image_176 : decode cX9_image 176 = .ok (.iload_n 1, 1) := by decide +kernel
theorem dX9_image_177 : decode cX9_image 177 = .ok (.aload_n 0, 1) := by decide +kernel
theorem dX9_image_178 : decode cX9_image 178 = .ok (.getfield 41, 3) := by decide +kernel
theorem dX9_image_181 : decode cX9_image 181 = .ok (.iload_n 1, 1) := by decide +kernel
theorem dX9_image_182 : decode cX9_image 182 = .ok (.iaload, 1) := by decide +kernel
theorem dX9_image_183 : decode cX9_image 183 = .ok (.iastore, 1) := by decide +kernel
theorem dX9_image_184 : decode cX9_image 184 = .ok (.aload_n 0, 1) := by decide +kernel
theorem dX9_image_185 : decode cX9_image 185 = .ok (.getfield 205, 3) := by decide +kernel
theorem dX9_image_188 : decode cX9_image 188 = .ok (.iload_n 1, 1) := by decide +kernel
theorem dX9_image_189 : decode cX9_image 189 = .ok (.aload_n 0, 1) := by decide +kernel
theorem dX9_image_190 : decode cX9_image 190 = .ok (.getfield 44, 3) := by decide +kernel
theorem dX9_image_193 : decode cX9_image 193 = .ok (.iload_n 1, 1) := by decide +kernel
theorem dX9_image_194 : decode cX9_image 194 = .ok (.iaload, 1) := by decide +kernel
theorem dX9_image_195 : decode cX9_image 195 = .ok (.iastore, 1) := by decide +kernel
theorem dX9_image_196 : decode cX9_image 196 = .ok (.iinc 1 1, 3) := by decide +kernel
theorem dX9_image_199 : decode cX9_image 199 = .ok (.goto (-44), 3) := by decide +kernel
theorem dX9_image_202 : decode cX9_image 202 = .ok (.iconst 0, 1) := by decide +kernel
theorem dX9_image_203 : decode cX9_image 203 = .ok (.istore_n 1, 1) := by decide +kernel
theorem dX9_image_204 : decode cX9_image 204 = .ok (.iload_n 1, 1) := by decide +kernel
theorem dX9_image_205 : decode cX9_image 205 = .ok (.iconst 5, 1) := by decide +kernel
theorem dX9_image_206 : decode cX9_image 206 = .ok (.if_icmp .ge 45, 3) := by decide +kernel
theorem dX9_image_209 : decode cX9_image 209 = .ok (.aload_n 0, 1) := by decide +kernel
theorem dX9_image_210 : decode cX9_image 210 = .ok (.getfield 208, 3) := by decide +kernel
theorem dX9_image_213 : decode cX9_image 213 = .ok (.iload_n 1, 1) := by decide +kernel
theorem dX9_image_214 : decode cX9_image 214 = .ok (.aload_n 0, 1) := by decide +kernel
theorem dX9_image_215 : decode cX9_image 215 = .ok (.getfield 129, 3) := by decide +kernel
theorem dX9_image_218 : decode cX9_image 218 = .ok (.iload_n 1, 1) := by decide +kernel
theorem dX9_image_219 : decode cX9_image 219 = .ok (.iaload, 1) := by decide +kernel
theorem dX9_image_220 : decode cX9_image 220 = .ok (.iastore, 1) := by decide +kernel
theorem dX9_image_221 : decode cX9_image 221 = .ok (.aload_n 0, 1) := by decide +kernel
theorem dX9_image_222 : decode cX9_image 222 = .ok (.getfield 211, 3) := by decide +kernel
theorem dX9_image_225 : decode cX9_image 225 = .ok (.iload_n 1, 1) := by decide +kernel
theorem dX9_image_226 : decode cX9_image 226 = .ok (.aload_n 0, 1) := by decide +kernel
theorem dX9_image_227 : decode cX9_image 227 = .ok (.getfield 132, 3) := by decide +kernel
theorem dX9_image_230 : decode cX9_image 230 = .ok (.iload_n 1, 1) := by decide +kernel
theorem dX9_image_231 : decode cX9_image 231 = .ok (.iaload, 1) := by decide +kernel
theorem dX9_image_232 : decode cX9_image 232 = .ok (.iastore, 1) := by decide +kernel
theorem dX9_image_233 : decode cX9_image 233 = .ok (.aload_n 0, 1) := by decide +kernel
theorem dX9_image_234 : decode cX9_image 234 = .ok (.getfield 226, 3) := by decide +kernel
theorem dX9_image_237 : decode cX9_image 237 = .ok (.iload_n 1, 1) := by decide +kernel
theorem dX9_image_238 : decode cX9_image 238 = .ok (.aload_n 0, 1) := by decide +kernel
theorem dX9_image_239 : decode cX9_image 239 = .ok (.getfield 135, 3) := by decide +kernel
theorem dX9_image_242 : decode cX9_image 242 = .ok (.iload_n 1, 1) := by decide +kernel
theorem dX9_image_243 : decode cX9_image 243 = .ok (.baload, 1) := by decide +kernel
theorem dX9_image_244 : decode cX9_image 244 = .ok (.bastore, 1) := by decide +kernel
theorem dX9_image_245 : decode cX9_image 245 = .ok (.iinc 1 1, 3) := by decide +kernel
theorem dX9_image_248 : decode cX9_image 248 = .ok (.goto (-44), 3) := by decide +kernel
theorem dX9_image_251 : decode cX9_image 251 = .ok (.iconst 0, 1) := by decide +kernel
theorem dX9_image_252 : decode cX9_image 252 = .ok (.istore_n 1, 1) := by decide +kernel
theorem dX9_image_253 : decode cX9_image 253 = .ok (.iload_n 1, 1) := by decide +kernel
theorem dX9_image_254 : decode cX9_image 254 = .ok (.bipush 10, 2) := by decide +kernel
theorem dX9_image_256 : decode cX9_image 256 = .ok (.if_icmp .ge 33, 3) := by decide +kernel
theorem dX9_image_259 : decode cX9_image 259 = .ok (.aload_n 0, 1) := by decide +kernel
theorem dX9_image_260 : decode cX9_image 260 = .ok (.getfield 214, 3) := by decide +kernel
theorem dX9_image_263 : decode cX9_image 263 = .ok (.iload_n 1, 1) := by decide +kernel
theorem dX9_image_264 : decode cX9_image 264 = .ok (.aload_n 0, 1) := by decide +kernel
theorem dX9_image_265 : decode cX9_image 265 = .ok (.getfield 144, 3) := by decide +kernel
theorem dX9_image_268 : decode cX9_image 268 = .ok (.iload_n 1, 1) := by decide +kernel
theorem dX9_image_269 : decode cX9_image 269 = .ok (.iaload, 1) := by decide +kernel
theorem dX9_image_270 : decode cX9_image 270 = .ok (.iastore, 1) := by decide +kernel
theorem dX9_image_271 : decode cX9_image 271 = .ok (.aload_n 0, 1) := by decide +kernel
theorem dX9_image_272 : decode cX9_image 272 = .ok (.getfield 217, 3) := by decide +kernel
theorem dX9_image_275 : decode cX9_image 275 = .ok (.iload_n 1, 1) := by decide +kernel
theorem dX9_image_276 : decode cX9_image 276 = .ok (.aload_n 0, 1) := by decide +kernel
theorem dX9_image_277 : decode cX9_image 277 = .ok (.getfield 147, 3) := by decide +kernel
theorem dX9_image_280 : decode cX9_image 280 = .ok (.iload_n 1, 1) := by decide +kernel
theorem dX9_image_281 : decode cX9_image 281 = .ok (.iaload, 1) := by decide +kernel
theorem dX9_image_282 : decode cX9_image 282 = .ok (.iastore, 1) := by decide +kernel
theorem dX9_image_283 : decode cX9_image 283 = .ok (.iinc 1 1, 3) := by decide +kernel
theorem dX9_image_286 : decode cX9_image 286 = .ok (.goto (-33), 3) := by decide +kernel
theorem dX9_image_289 : decode cX9_image 289 = .ok (.iconst 0, 1) := by decide +kernel
theorem dX9_image_290 : decode cX9_image 290 = .ok (.istore_n 1, 1) := by decide +kernel
theorem dX9_image_291 : decode cX9_image 291 = .ok (.iload_n 1, 1) := by decide +kernel
theorem dX9_image_292 : decode cX9_image 292 = .ok (.bipush 8, 2) := by decide +kernel
theorem dX9_image_294 : decode cX9_image 294 = .ok (.if_icmp .ge 33, 3) := by decide +kernel
theorem dX9_image_297 : decode cX9_image 297 = .ok (.aload_n 0, 1) := by decide +kernel
theorem dX9_image_298 : decode cX9_image 298 = .ok (.getfield 220, 3) := by decide +kernel
theorem dX9_image_301 : decode cX9_image 301 = .ok (.iload_n 1, 1) := by decide +kernel
theorem dX9_image_302 : decode cX9_image 302 = .ok (.aload_n 0, 1) := by decide +kernel
theorem dX9_image_303 : decode cX9_image 303 = .ok (.getfield 150, 3) := by decide +kernel
theorem dX9_image_306 : decode cX9_image 306 = .ok (.iload_n 1, 1) := by decide +kernel
theorem dX9_image_307 : decode cX9_image 307 = .ok (.iaload, 1) := by decide +kernel
theorem dX9_image_308 : decode cX9_image 308 = .ok (.iastore, 1) := by decide +kernel
theorem dX9_image_309 : decode cX9_image 309 = .ok (.aload_n 0, 1) := by decide +kernel
theorem dX9_image_310 : decode cX9_image 310 = .ok (.getfield 223, 3) := by decide +kernel
theorem dX9_image_313 : decode cX9_image 313 = .ok (.iload_n 1, 1) := by decide +kernel
theorem dX9_image_314 : decode cX9_image 314 = .ok (.aload_n 0, 1) := by decide +kernel
theorem dX9_image_315 : decode cX9_image 315 = .ok (.getfield 153, 3) := by decide +kernel
theorem dX9_image_318 : decode cX9_image 318 = .ok (.iload_n 1, 1) := by decide +kernel
theorem dX9_image_319 : decode cX9_image 319 = .ok (.iaload, 1) := by decide +kernel
theorem dX9_image_320 : decode cX9_image 320 = .ok (.iastore, 1) := by decide +kernel
theorem dX9_image_321 : decode cX9_image 321 = .ok (.iinc 1 1, 3) := by decide +kernel
theorem dX9_image_324 : decode cX9_image 324 = .ok (.goto (-33), 3) := by decide +kernel
theorem dX9_image_327 : decode cX9_image 327 = .ok (.aload_n 0, 1) := by decide +kernel
theorem dX9_image_328 : decode cX9_image 328 = .ok (.getfield 7, 3) := by decide +kernel
theorem dX9_image_331 : decode cX9_image 331 = .ok (.ireturn, 1) := by decide +kernel
theorem dX9_undo_0 : decode cX9_undo 0 = .ok (.aload_n 0, 1) := by decide +kernel
theorem dX9_undo_1 : decode cX9_undo 1 = .ok (.getfield 156, 3) := by decide +kernel
theorem dX9_undo_4 : decode cX9_undo 4 = .ok (.ifCond .ne 6, 3) := by decide +kernel
theorem dX9_undo_7 : decode cX9_undo 7 = .ok (.bipush (-3), 2) := by decide +kernel
theorem dX9_undo_9 : decode cX9_undo 9 = .ok (.ireturn, 1) := by decide +kernel
theorem dX9_undo_10 : decode cX9_undo 10 = .ok (.aload_n 0, 1) := by decide +kernel
theorem dX9_undo_11 : decode cX9_undo 11 = .ok (.aload_n 0, 1) := by decide +kernel
theorem dX9_undo_12 : decode cX9_undo 12 = .ok (.getfield 160, 3) := by decide +kernel
theorem dX9_undo_15 : decode cX9_undo 15 = .ok (.putfield 50, 3) := by decide +kernel
theorem dX9_undo_18 : decode cX9_undo 18 = .ok (.aload_n 0, 1) := by decide +kernel
theorem dX9_undo_19 : decode cX9_undo 19 = .ok (.aload_n 0, 1) := by decide +kernel
theorem dX9_undo_20 : decode cX9_undo 20 = .ok (.getfield 163, 3) := by decide +kernel
theorem dX9_undo_23 : decode cX9_undo 23 = .ok (.putfield 7, 3) := by decide +kernel
theorem dX9_undo_26 : decode cX9_undo 26 = .ok (.aload_n 0, 1) := by decide +kernel
theorem dX9_undo_27 : decode cX9_undo 27 = .ok (.aload_n 0, 1) := by decide +kernel
theorem dX9_undo_28 : decode cX9_undo 28 = .ok (.getfield 166, 3) := by decide +kernel
theorem dX9_undo_31 : decode cX9_undo 31 = .ok (.putfield 13, 3) := by decide +kernel
theorem dX9_undo_34 : decode cX9_undo 34 = .ok (.aload_n 0, 1) := by decide +kernel
theorem dX9_undo_35 : decode cX9_undo 35 = .ok (.aload_n 0, 1) := by decide +kernel
theorem dX9_undo_36 : decode cX9_undo 36 = .ok (.getfield 169, 3) := by decide +kernel
theorem dX9_undo_39 : decode cX9_undo 39 = .ok (.putfield 16, 3) := by decide +kernel
theorem dX9_undo_42 : decode cX9_undo 42 = .ok (.aload_n 0, 1) := by decide +kernel
theorem dX9_undo_43 : decode cX9_undo 43 = .ok (.aload_n 0, 1) := by decide +kernel
theorem dX9_undo_44 : decode cX9_undo 44 = .ok (.getfield 172, 3) := by decide +kernel
theorem dX9_undo_47 : decode cX9_undo 47 = .ok (.putfield 19, 3) := by decide +kernel
theorem dX9_undo_50 : decode cX9_undo 50 = .ok (.aload_n 0, 1) := by decide +kernel
theorem dX9_undo_51 : decode cX9_undo 51 = .ok (.aload_n 0, 1) := by decide +kernel
theorem dX9_undo_52 : decode cX9_undo 52 = .ok (.getfield 175, 3) := by decide +kernel
theorem dX9_undo_55 : decode cX9_undo 55 = .ok (.putfield 22, 3) := by decide +kernel
theorem dX9_undo_58 : decode cX9_undo 58 = .ok (.aload_n 0, 1) := by decide +kernel
theorem dX9_undo_59 : decode cX9_undo 59 = .ok (.aload_n 0, 1) := by decide +kernel
theorem dX9_undo_60 : decode cX9_undo 60 = .ok (.getfield 178, 3) := by decide +kernel
theorem dX9_undo_63 : decode cX9_undo 63 = .ok (.putfield 126, 3) := by decide +kernel
theorem dX9_undo_66 : decode cX9_undo 66 = .ok (.aload_n 0, 1) := by decide +kernel
theorem dX9_undo_67 : decode cX9_undo 67 = .ok (.aload_n 0, 1) := by decide +kernel
theorem dX9_undo_68 : decode cX9_undo 68 = .ok (.getfield 181, 3) := by decide +kernel
theorem dX9_undo_71 : decode cX9_undo 71 = .ok (.putfield 138, 3) := by decide +kernel
theorem dX9_undo_74 : decode cX9_undo 74 = .ok (.aload_n 0, 1) := by decide +kernel
theorem dX9_undo_75 : decode cX9_undo 75 = .ok (.aload_n 0, 1) := by decide +kernel
theorem dX9_undo_76 : decode cX9_undo 76 = .ok (.getfield 184, 3) := by decide +kernel
theorem dX9_undo_79 : decode cX9_undo 79 = .ok (.putfield 141, 3) := by decide +kernel
theorem dX9_undo_82 : decode cX9_undo 82 = .ok (.iconst 0, 1) := by decide +kernel
theorem dX9_undo_83 : decode cX9_undo 83 = .ok (.istore_n 1, 1) := by decide +kernel
theorem dX9_undo_84 : decode cX9_undo 84 = .ok (.iload_n 1, 1) := by decide +kernel
theorem dX9_undo_85 : decode cX9_undo 85 = .ok (.bipush 6, 2) := by decide +kernel
theorem dX9_undo_87 : decode cX9_undo 87 = .ok (.if_icmp .ge 45, 3) := by decide +kernel
theorem dX9_undo_90 : decode cX9_undo 90 = .ok (.aload_n 0, 1) := by decide +kernel
theorem dX9_undo_91 : decode cX9_undo 91 = .ok (.getfield 25, 3) := by decide +kernel
theorem dX9_undo_94 : decode cX9_undo 94 = .ok (.iload_n 1, 1) := by decide +kernel
theorem dX9_undo_95 : decode cX9_undo 95 = .ok (.aload_n 0, 1) := by decide +kernel
theorem dX9_undo_96 : decode cX9_undo 96 = .ok (.getfield 187, 3) := by decide +kernel
theorem dX9_undo_99 : decode cX9_undo 99 = .ok (.iload_n 1, 1) := by decide +kernel
theorem dX9_undo_100 : decode cX9_undo 100 = .ok (.iaload, 1) := by decide +kernel
theorem dX9_undo_101 : decode cX9_undo 101 = .ok (.iastore, 1) := by decide +kernel
theorem dX9_undo_102 : decode cX9_undo 102 = .ok (.aload_n 0, 1) := by decide +kernel
theorem dX9_undo_103 : decode cX9_undo 103 = .ok (.getfield 29, 3) := by decide +kernel
theorem dX9_undo_106 : decode cX9_undo 106 = .ok (.iload_n 1, 1) := by decide +kernel
theorem dX9_undo_107 : decode cX9_undo 107 = .ok (.aload_n 0, 1) := by decide +kernel
theorem dX9_undo_108 : decode cX9_undo 108 = .ok (.getfield 190, 3) := by decide +kernel
theorem dX9_undo_111 : decode cX9_undo 111 = .ok (.iload_n 1, 1) := by decide +kernel
theorem dX9_undo_112 : decode cX9_undo 112 = .ok (.iaload, 1) := by decide +kernel
theorem dX9_undo_113 : decode cX9_undo 113 = .ok (.iastore, 1) := by decide +kernel
theorem dX9_undo_114 : decode cX9_undo 114 = .ok (.aload_n 0, 1) := by decide +kernel
theorem dX9_undo_115 : decode cX9_undo 115 = .ok (.getfield 32, 3) := by decide +kernel
theorem dX9_undo_118 : decode cX9_undo 118 = .ok (.iload_n 1, 1) := by decide +kernel
theorem dX9_undo_119 : decode cX9_undo 119 = .ok (.aload_n 0, 1) := by decide +kernel
theorem dX9_undo_120 : decode cX9_undo 120 = .ok (.getfield 193, 3) := by decide +kernel
theorem dX9_undo_123 : decode cX9_undo 123 = .ok (.iload_n 1, 1) := by decide +kernel
theorem dX9_undo_124 : decode cX9_undo 124 = .ok (.iaload, 1) := by decide +kernel
theorem dX9_undo_125 : decode cX9_undo 125 = .ok (.iastore, 1) := by decide +kernel
theorem dX9_undo_126 : decode cX9_undo 126 = .ok (.iinc 1 1, 3) := by decide +kernel
theorem dX9_undo_129 : decode cX9_undo 129 = .ok (.goto (-45), 3) := by decide +kernel
theorem dX9_undo_132 : decode cX9_undo 132 = .ok (.iconst 0, 1) := by decide +kernel
theorem dX9_undo_133 : decode cX9_undo 133 = .ok (.istore_n 1, 1) := by decide +kernel
theorem dX9_undo_134 : decode cX9_undo 134 = .ok (.iload_n 1, 1) := by decide +kernel
theorem dX9_undo_135 : decode cX9_undo 135 = .ok (.bipush 24, 2) := by decide +kernel
theorem dX9_undo_137 : decode cX9_undo 137 = .ok (.if_icmp .ge 21, 3) := by decide +kernel
theorem dX9_undo_140 : decode cX9_undo 140 = .ok (.aload_n 0, 1) := by decide +kernel
theorem dX9_undo_141 : decode cX9_undo 141 = .ok (.getfield 35, 3) := by decide +kernel
theorem dX9_undo_144 : decode cX9_undo 144 = .ok (.iload_n 1, 1) := by decide +kernel
theorem dX9_undo_145 : decode cX9_undo 145 = .ok (.aload_n 0, 1) := by decide +kernel
theorem dX9_undo_146 : decode cX9_undo 146 = .ok (.getfield 196, 3) := by decide +kernel
theorem dX9_undo_149 : decode cX9_undo 149 = .ok (.iload_n 1, 1) := by decide +kernel
theorem dX9_undo_150 : decode cX9_undo 150 = .ok (.iaload, 1) := by decide +kernel
theorem dX9_undo_151 : decode cX9_undo 151 = .ok (.iastore, 1) := by decide +kernel
theorem dX9_undo_152 : decode cX9_undo 152 = .ok (.iinc 1 1, 3) := by decide +kernel
theorem dX9_undo_155 : decode cX9_undo 155 = .ok (.goto (-21), 3) := by decide +kernel
theorem dX9_undo_158 : decode cX9_undo 158 = .ok (.iconst 0, 1) := by decide +kernel
theorem dX9_undo_159 : decode cX9_undo 159 = .ok (.istore_n 1, 1) := by decide +kernel
theorem dX9_undo_160 : decode cX9_undo 160 = .ok (.iload_n 1, 1) := by decide +kernel
theorem dX9_undo_161 : decode cX9_undo 161 = .ok (.iconst 4, 1) := by decide +kernel
theorem dX9_undo_162 : decode cX9_undo 162 = .ok (.if_icmp .ge 45, 3) := by decide +kernel
theorem dX9_undo_165 : decode cX9_undo 165 = .ok (.aload_n 0, 1) := by decide +kernel
theorem dX9_undo_166 : decode cX9_undo 166 = .ok (.getfield 38, 3) := by decide +kernel
theorem dX9_undo_169 : decode cX9_undo 169 = .ok (.iload_n 1, 1) := by decide +kernel
theorem dX9_undo_170 : decode cX9_undo 170 = .ok (.aload_n 0, 1) := by decide +kernel
theorem dX9_undo_171 : decode cX9_undo 171 = .ok (.getfield 199, 3) := by decide +kernel
theorem dX9_undo_174 : decode cX9_undo 174 = .ok (.iload_n 1, 1) := by decide +kernel
theorem dX9_undo_175 : decode cX9_undo 175 = .ok (.iaload, 1) := by decide +kernel
theorem dX9_undo_176 : decode cX9_undo 176 = .ok (.iastore, 1) := by decide +kernel
theorem dX9_undo_177 : decode cX9_undo 177 = .ok (.aload_n 0, 1) := by decide +kernel
theorem dX9_undo_178 : decode cX9_undo 178 = .ok (.getfield 41, 3) := by decide +kernel
theorem dX9_undo_181 : decode cX9_undo 181 = .ok (.iload_n 1, 1) := by decide +kernel
theorem dX9_undo_182 : decode cX9_undo 182 = .ok (.aload_n 0, 1) := by decide +kernel
theorem dX9_undo_183 : decode cX9_undo 183 = .ok (.getfield 202, 3) := by decide +kernel
theorem dX9_undo_186 : decode cX9_undo 186 = .ok (.iload_n 1, 1) := by decide +kernel
theorem dX9_undo_187 : decode cX9_undo 187 = .ok (.iaload, 1) := by decide +kernel
theorem dX9_undo_188 : decode cX9_undo 188 = .ok (.iastore, 1) := by decide +kernel
theorem dX9_undo_189 : decode cX9_undo 189 = .ok (.aload_n 0, 1) := by decide +kernel
theorem dX9_undo_190 : decode cX9_undo 190 = .ok (.getfield 44, 3) := by decide +kernel
theorem dX9_undo_193 : decode cX9_undo 193 = .ok (.iload_n 1, 1) := by decide +kernel
theorem dX9_undo_194 : decode cX9_undo 194 = .ok (.aload_n 0, 1) := by decide +kernel
theorem dX9_undo_195 : decode cX9_undo 195 = .ok (.getfield 205, 3) := by decide +kernel
theorem dX9_undo_198 : decode cX9_undo 198 = .ok (.iload_n 1, 1) := by decide +kernel
theorem dX9_undo_199 : decode cX9_undo 199 = .ok (.iaload, 1) := by decide +kernel
theorem dX9_undo_200 : decode cX9_undo 200 = .ok (.iastore, 1) := by decide +kernel
theorem dX9_undo_201 : decode cX9_undo 201 = .ok (.iinc 1 1, 3) := by decide +kernel
theorem dX9_undo_204 : decode cX9_undo 204 = .ok (.goto (-44), 3) := by decide +kernel
theorem dX9_undo_207 : decode cX9_undo 207 = .ok (.iconst 0, 1) := by decide +kernel
theorem dX9_undo_208 : decode cX9_undo 208 = .ok (.istore_n 1, 1) := by decide +kernel
theorem dX9_undo_209 : decode cX9_undo 209 = .ok (.iload_n 1, 1) := by decide +kernel
theorem dX9_undo_210 : decode cX9_undo 210 = .ok (.iconst 5, 1) := by decide +kernel
theorem dX9_undo_211 : decode cX9_undo 211 = .ok (.if_icmp .ge 45, 3) := by decide +kernel
theorem dX9_undo_214 : decode cX9_undo 214 = .ok (.aload_n 0, 1) := by decide +kernel
theorem dX9_undo_215 : decode cX9_undo 215 = .ok (.getfield 129, 3) := by decide +kernel
theorem dX9_undo_218 : decode cX9_undo 218 = .ok (.iload_n 1, 1) := by decide +kernel
theorem dX9_undo_219 : decode cX9_undo 219 = .ok (.aload_n 0, 1) := by decide +kernel
theorem dX9_undo_220 : decode cX9_undo 220 = .ok (.getfield 208, 3) := by decide +kernel
theorem dX9_undo_223 : decode cX9_undo 223 = .ok (.iload_n 1, 1) := by decide +kernel
theorem dX9_undo_224 : decode cX9_undo 224 = .ok (.iaload, 1) := by decide +kernel
theorem dX9_undo_225 : decode cX9_undo 225 = .ok (.iastore, 1) := by decide +kernel
theorem dX9_undo_226 : decode cX9_undo 226 = .ok (.aload_n 0, 1) := by decide +kernel
theorem dX9_undo_227 : decode cX9_undo 227 = .ok (.getfield 132, 3) := by decide +kernel
theorem dX9_undo_230 : decode cX9_undo 230 = .ok (.iload_n 1, 1) := by decide +kernel
theorem dX9_undo_231 : decode cX9_undo 231 = .ok (.aload_n 0, 1) := by decide +kernel
theorem dX9_undo_232 : decode cX9_undo 232 = .ok (.getfield 211, 3) := by decide +kernel
theorem dX9_undo_235 : decode cX9_undo 235 = .ok (.iload_n 1, 1) := by decide +kernel
theorem dX9_undo_236 : decode cX9_undo 236 = .ok (.iaload, 1) := by decide +kernel
theorem dX9_undo_237 : decode cX9_undo 237 = .ok (.iastore, 1) := by decide +kernel
theorem dX9_undo_238 : decode cX9_undo 238 = .ok (.aload_n 0, 1) := by decide +kernel
theorem dX9_undo_239 : decode cX9_undo 239 = .ok (.getfield 135, 3) := by decide +kernel
theorem dX9_undo_242 : decode cX9_undo 242 = .ok (.iload_n 1, 1) := by decide +kernel
theorem dX9_undo_243 : decode cX9_undo 243 = .ok (.aload_n 0, 1) := by decide +kernel
theorem dX9_undo_244 : decode cX9_undo 244 = .ok (.getfield 226, 3) := by decide +kernel
theorem dX9_undo_247 : decode cX9_undo 247 = .ok (.iload_n 1, 1) := by decide +kernel
theorem dX9_undo_248 : decode cX9_undo 248 = .ok (.baload, 1) := by decide +kernel
theorem dX9_undo_249 : decode cX9_undo 249 = .ok (.bastore, 1) := by decide +kernel
theorem dX9_undo_250 : decode cX9_undo 250 = .ok (.iinc 1 1, 3) := by decide +kernel
theorem dX9_undo_253 : decode cX9_undo 253 = .ok (.goto (-44), 3) := by decide +kernel
theorem dX9_undo_256 : decode cX9_undo 256 = .ok (.iconst 0, 1) := by decide +kernel
theorem dX9_undo_257 : decode cX9_undo 257 = .ok (.istore_n 1, 1) := by decide +kernel
theorem dX9_undo_258 : decode cX9_undo 258 = .ok (.iload_n 1, 1) := by decide +kernel
theorem dX9_undo_259 : decode cX9_undo 259 = .ok (.bipush 10, 2) := by decide +kernel
theorem dX9_undo_261 : decode cX9_undo 261 = .ok (.if_icmp .ge 33, 3) := by decide +kernel
theorem dX9_undo_264 : decode cX9_undo 264 = .ok (.aload_n 0, 1) := by decide +kernel
theorem dX9_undo_265 : decode cX9_undo 265 = .ok (.getfield 144, 3) := by decide +kernel
theorem dX9_undo_268 : decode cX9_undo 268 = .ok (.iload_n 1, 1) := by decide +kernel
theorem dX9_undo_269 : decode cX9_undo 269 = .ok (.aload_n 0, 1) := by decide +kernel
theorem dX9_undo_270 : decode cX9_undo 270 = .ok (.getfield 214, 3) := by decide +kernel
theorem dX9_undo_273 : decode cX9_undo 273 = .ok (.iload_n 1, 1) := by decide +kernel
theorem dX9_undo_274 : decode cX9_undo 274 = .ok (.iaload, 1) := by decide +kernel
theorem dX9_undo_275 : decode cX9_undo 275 = .ok (.iastore, 1) := by decide +kernel
theorem dX9_undo_276 : decode cX9_undo 276 = .ok (.aload_n 0, 1) := by decide +kernel
theorem dX9_undo_277 : decode cX9_undo 277 = .ok (.getfield 147, 3) := by decide +kernel
theorem dX9_undo_280 : decode cX9_undo 280 = .ok (.iload_n 1, 1) := by decide +kernel
theorem dX9_undo_281 : decode cX9_undo 281 = .ok (.aload_n 0, 1) := by decide +kernel
theorem dX9_undo_282 : decode cX9_undo 282 = .ok (.getfield 217, 3) := by decide +kernel
theorem dX9_undo_285 : decode cX9_undo 285 = .ok (.iload_n 1, 1) := by decide +kernel
theorem dX9_undo_286 : decode cX9_undo 286 = .ok (.iaload, 1) := by decide +kernel
theorem dX9_undo_287 : decode cX9_undo 287 = .ok (.iastore, 1) := by decide +kernel
theorem dX9_undo_288 : decode cX9_undo 288 = .ok (.iinc 1 1, 3) := by decide +kernel
theorem dX9_undo_291 : decode cX9_undo 291 = .ok (.goto (-33), 3) := by decide +kernel
theorem dX9_undo_294 : decode cX9_undo 294 = .ok (.iconst 0, 1) := by decide +kernel
theorem dX9_undo_295 : decode cX9_undo 295 = .ok (.istore_n 1, 1) := by decide +kernel
theorem dX9_undo_296 : decode cX9_undo 296 = .ok (.iload_n 1, 1) := by decide +kernel
theorem dX9_undo_297 : decode cX9_undo 297 = .ok (.bipush 8, 2) := by decide +kernel
theorem dX9_undo_299 : decode cX9_undo 299 = .ok (.if_icmp .ge 33, 3) := by decide +kernel
theorem dX9_undo_302 : decode cX9_undo 302 = .ok (.aload_n 0, 1) := by decide +kernel
theorem dX9_undo_303 : decode cX9_undo 303 = .ok (.getfield 150, 3) := by decide +kernel
theorem dX9_undo_306 : decode cX9_undo 306 = .ok (.iload_n 1, 1) := by decide +kernel
theorem dX9_undo_307 : decode cX9_undo 307 = .ok (.aload_n 0, 1) := by decide +kernel
theorem dX9_undo_308 : decode cX9_undo 308 = .ok (.getfield 220, 3) := by decide +kernel
theorem dX9_undo_311 : decode cX9_undo 311 = .ok (.iload_n 1, 1) := by decide +kernel
theorem dX9_undo_312 : decode cX9_undo 312 = .ok (.iaload, 1) := by decide +kernel
theorem dX9_undo_313 : decode cX9_undo 313 = .ok (.iastore, 1) := by decide +kernel
theorem dX9_undo_314 : decode cX9_undo 314 = .ok (.aload_n 0, 1) := by decide +kernel
theorem dX9_undo_315 : decode cX9_undo 315 = .ok (.getfield 153, 3) := by decide +kernel
theorem dX9_undo_318 : decode cX9_undo 318 = .ok (.iload_n 1, 1) := by decide +kernel
theorem dX9_undo_319 : decode cX9_undo 319 = .ok (.aload_n 0, 1) := by decide +kernel
theorem dX9_undo_320 : decode cX9_undo 320 = .ok (.getfield 223, 3) := by decide +kernel
theorem dX9_undo_323 : decode cX9_undo 323 = .ok (.iload_n 1, 1) := by decide +kernel
theorem dX9_undo_324 : decode cX9_undo 324 = .ok (.iaload, 1) := by decide +kernel
theorem dX9_undo_325 : decode cX9_undo 325 = .ok (.iastore, 1) := by decide +kernel
theorem dX9_undo_326 : decode cX9_undo 326 = .ok (.iinc 1 1, 3) := by decide +kernel
theorem dX9_undo_329 : decode cX9_undo 329 = .ok (.goto (-33), 3) := by decide +kernel
theorem dX9_undo_332 : decode cX9_undo 332 = .ok (.aload_n 0, 1) := by decide +kernel
theorem dX9_undo_333 : decode cX9_undo 333 = .ok (.getfield 7, 3) := by decide +kernel
theorem dX9_undo_336 : decode cX9_undo 336 = .ok (.ireturn, 1) := by decide +kernel
theorem dX9_body_0 : decode cX9_body 0 = .ok (.aload_n 0, 1) := by decide +kernel
theorem dX9_body_1 : decode cX9_body 1 = .ok (.getfield 229, 3) := by decide +kernel
theorem dX9_body_4 : decode cX9_body 4 = .ok (.bipush 20, 2) := by decide +kernel
theorem dX9_body_6 : decode cX9_body 6 = .ok (.if_icmp .ge 13, 3) := by decide +kernel
theorem dX9_body_9 : decode cX9_body 9 = .ok (.aload_n 0, 1) := by decide +kernel
theorem dX9_body_10 : decode cX9_body 10 = .ok (.getfield 232, 3) := by decide +kernel
theorem dX9_body_13 : decode cX9_body 13 = .ok (.aload_n 0, 1) := by decide +kernel
theorem dX9_body_14 : decode cX9_body 14 = .ok (.getfield 229, 3) := by decide +kernel
theorem dX9_body_17 : decode cX9_body 17 = .ok (.iload_n 1, 1) := by decide +kernel
theorem dX9_body_18 : decode cX9_body 18 = .ok (.iastore, 1) := by decide +kernel
theorem dX9_body_19 : decode cX9_body 19 = .ok (.aload_n 0, 1) := by decide +kernel
theorem dX9_body_20 : decode cX9_body 20 = .ok (.dup, 1) := by decide +kernel
theorem dX9_body_21 : decode cX9_body 21 = .ok (.getfield 229, 3) := by decide +kernel
theorem dX9_body_24 : decode cX9_body 24 = .ok (.iconst 1, 1) := by decide +kernel
theorem dX9_body_25 : decode cX9_body 25 = .ok (.iadd, 1) := by decide +kernel
theorem dX9_body_26 : decode cX9_body 26 = .ok (.putfield 229, 3) := by decide +kernel
theorem dX9_body_29 : decode cX9_body 29 = .ok (.return_, 1) := by decide +kernel
theorem dX9_oneGlows_0 : decode cX9_oneGlows 0 = .ok (.aload_n 0, 1) := by decide +kernel
theorem dX9_oneGlows_1 : decode cX9_oneGlows 1 = .ok (.bipush 10, 2) := by decide +kernel
theorem dX9_oneGlows_3 : decode cX9_oneGlows 3 = .ok (.invokevirtual 417, 3) := by decide +kernel
theorem dX9_oneGlows_6 : decode cX9_oneGlows 6 = .ok (.iload_n 2, 1) := by decide +kernel
theorem dX9_oneGlows_7 : decode cX9_oneGlows 7 = .ok (.iload_n 1, 1) := by decide +kernel
theorem dX9_oneGlows_8 : decode cX9_oneGlows 8 = .ok (.iadd, 1) := by decide +kernel
theorem dX9_oneGlows_9 : decode cX9_oneGlows 9 = .ok (.ireturn, 1) := by decide +kernel
theorem dX9_glowsAct_0 : decode cX9_glowsAct 0 = .ok (.aload_n 0, 1) := by decide +kernel
theorem dX9_glowsAct_1 : decode cX9_glowsAct 1 = .ok (.getfield 25, 3) := by decide +kernel
theorem dX9_glowsAct_4 : decode cX9_glowsAct 4 = .ok (.iload_n 1, 1) := by decide +kernel
theorem dX9_glowsAct_5 : decode cX9_glowsAct 5 = .ok (.iaload, 1) := by decide +kernel
theorem dX9_glowsAct_6 : decode cX9_glowsAct 6 = .ok (.tableswitch 83 2 6 #[34, 83, 49, 34, 63], 34) := by decide +kernel
theorem dX9_glowsAct_40 : decode cX9_glowsAct 40 = .ok (.aload_n 0, 1) := by decide +kernel
theorem dX9_glowsAct_41 : decode cX9_glowsAct 41 = .ok (.bipush 30, 2) := by decide +kernel
theorem dX9_glowsAct_43 : decode cX9_glowsAct 43 = .ok (.invokevirtual 417, 3) := by decide +kernel
theorem dX9_glowsAct_46 : decode cX9_glowsAct 46 = .ok (.aload_n 0, 1) := by decide +kernel
theorem dX9_glowsAct_47 : decode cX9_glowsAct 47 = .ok (.iload_n 1, 1) := by decide +kernel
theorem dX9_glowsAct_48 : decode cX9_glowsAct 48 = .ok (.iload_n 2, 1) := by decide +kernel
theorem dX9_glowsAct_49 : decode cX9_glowsAct 49 = .ok (.iconst 3, 1) := by decide +kernel
theorem dX9_glowsAct_50 : decode cX9_glowsAct 50 = .ok (.imul, 1) := by decide +kernel
theorem dX9_glowsAct_51 : decode cX9_glowsAct 51 = .ok (.invokevirtual 420, 3) := by decide +kernel
theorem dX9_glowsAct_54 : decode cX9_glowsAct 54 = .ok (.ireturn, 1) := by decide +kernel
theorem dX9_glowsAct_55 : decode cX9_glowsAct 55 = .ok (.aload_n 0, 1) := by decide +kernel
theorem dX9_glowsAct_56 : decode cX9_glowsAct 56 = .ok (.bipush 50, 2) := by decide +kernel
theorem dX9_glowsAct_58 : decode cX9_glowsAct 58 = .ok (.invokevirtual 417, 3) := by decide +kernel
theorem dX9_glowsAct_61 : decode cX9_glowsAct 61 = .ok (.aload_n 0, 1) := by decide +kernel
theorem dX9_glowsAct_62 : decode cX9_glowsAct 62 = .ok (.iload_n 1, 1) := by decide +kernel
theorem dX9_glowsAct_63 : decode cX9_glowsAct 63 = .ok (.iload_n 2, 1) := by decide +kernel
theorem dX9_glowsAct_64 : decode cX9_glowsAct 64 = .ok (.invokevirtual 420, 3) := by decide +kernel
theorem dX9_glowsAct_67 : decode cX9_glowsAct 67 = .ok (.ineg, 1) := by decide +kernel
theorem dX9_glowsAct_68 : decode cX9_glowsAct 68 = .ok (.ireturn, 1) := by decide +kernel
theorem dX9_glowsAct_69 : decode cX9_glowsAct 69 = .ok (.aload_n 0, 1) := by decide +kernel
theorem dX9_glowsAct_70 : decode cX9_glowsAct 70 = .ok (.bipush 71, 2) := by decide +kernel
theorem dX9_glowsAct_72 : decode cX9_glowsAct 72 = .ok (.invokevirtual 417, 3) := by decide +kernel
theorem dX9_glowsAct_75 : decode cX9_glowsAct 75 = .ok (.aload_n 0, 1) := by decide +kernel
theorem dX9_glowsAct_76 : decode cX9_glowsAct 76 = .ok (.iload_n 1, 1) := by decide +kernel
theorem dX9_glowsAct_77 : decode cX9_glowsAct 77 = .ok (.iload_n 2, 1) := by decide +kernel
theorem dX9_glowsAct_78 : decode cX9_glowsAct 78 = .ok (.invokevirtual 420, 3) := by decide +kernel
theorem dX9_glowsAct_81 : decode cX9_glowsAct 81 = .ok (.aload_n 0, 1) := by decide +kernel
theorem dX9_glowsAct_82 : decode cX9_glowsAct 82 = .ok (.getfield 29, 3) := by decide +kernel
theorem dX9_glowsAct_85 : decode cX9_glowsAct 85 = .ok (.iload_n 1, 1) := by decide +kernel
theorem dX9_glowsAct_86 : decode cX9_glowsAct 86 = .ok (.iaload, 1) := by decide +kernel
theorem dX9_glowsAct_87 : decode cX9_glowsAct 87 = .ok (.ixor, 1) := by decide +kernel
theorem dX9_glowsAct_88 : decode cX9_glowsAct 88 = .ok (.ireturn, 1) := by decide +kernel
theorem dX9_glowsAct_89 : decode cX9_glowsAct 89 = .ok (.aload_n 0, 1) := by decide +kernel
theorem dX9_glowsAct_90 : decode cX9_glowsAct 90 = .ok (.iload_n 1, 1) := by decide +kernel
theorem dX9_glowsAct_91 : decode cX9_glowsAct 91 = .ok (.iload_n 2, 1) := by decide +kernel
theorem dX9_glowsAct_92 : decode cX9_glowsAct 92 = .ok (.invokevirtual 420, 3) := by decide +kernel
theorem dX9_glowsAct_95 : decode cX9_glowsAct 95 = .ok (.ireturn, 1) := by decide +kernel
theorem dX9_oneRings_0 : decode cX9_oneRings 0 = .ok (.aload_n 0, 1) := by decide +kernel
theorem dX9_oneRings_1 : decode cX9_oneRings 1 = .ok (.bipush 11, 2) := by decide +kernel
theorem dX9_oneRings_3 : decode cX9_oneRings 3 = .ok (.invokevirtual 417, 3) := by decide +kernel
theorem dX9_oneRings_6 : decode cX9_oneRings 6 = .ok (.aload_n 0, 1) := by decide +kernel
theorem dX9_oneRings_7 : decode cX9_oneRings 7 = .ok (.iload_n 1, 1) := by decide +kernel
theorem dX9_oneRings_8 : decode cX9_oneRings 8 = .ok (.iload_n 2, 1) := by decide +kernel
theorem dX9_oneRings_9 : decode cX9_oneRings 9 = .ok (.invokevirtual 423, 3) := by decide +kernel
theorem dX9_oneRings_12 : decode cX9_oneRings 12 = .ok (.aload_n 0, 1) := by decide +kernel
theorem dX9_oneRings_13 : decode cX9_oneRings 13 = .ok (.getfield 29, 3) := by decide +kernel
theorem dX9_oneRings_16 : decode cX9_oneRings 16 = .ok (.iload_n 1, 1) := by decide +kernel
theorem dX9_oneRings_17 : decode cX9_oneRings 17 = .ok (.iaload, 1) := by decide +kernel
theorem dX9_oneRings_18 : decode cX9_oneRings 18 = .ok (.isub, 1) := by decide +kernel
theorem dX9_oneRings_19 : decode cX9_oneRings 19 = .ok (.ireturn, 1) := by decide +kernel
theorem dX9_bankerRings_0 : decode cX9_bankerRings 0 = .ok (.aload_n 0, 1) := by decide +kernel
theorem dX9_bankerRings_1 : decode cX9_bankerRings 1 = .ok (.bipush 20, 2) := by decide +kernel
theorem dX9_bankerRings_3 : decode cX9_bankerRings 3 = .ok (.invokevirtual 417, 3) := by decide +kernel
theorem dX9_bankerRings_6 : decode cX9_bankerRings 6 = .ok (.aload_n 0, 1) := by decide +kernel
theorem dX9_bankerRings_7 : decode cX9_bankerRings 7 = .ok (.iload_n 1, 1) := by decide +kernel
theorem dX9_bankerRings_8 : decode cX9_bankerRings 8 = .ok (.iload_n 2, 1) := by decide +kernel
theorem dX9_bankerRings_9 : decode cX9_bankerRings 9 = .ok (.invokevirtual 426, 3) := by decide +kernel
theorem dX9_bankerRings_12 : decode cX9_bankerRings 12 = .ok (.bipush 6, 2) := by decide +kernel
theorem dX9_bankerRings_14 : decode cX9_bankerRings 14 = .ok (.ixor, 1) := by decide +kernel
theorem dX9_bankerRings_15 : decode cX9_bankerRings 15 = .ok (.ireturn, 1) := by decide +kernel
theorem dX9_ringsAct_0 : decode cX9_ringsAct 0 = .ok (.aload_n 0, 1) := by decide +kernel
theorem dX9_ringsAct_1 : decode cX9_ringsAct 1 = .ok (.getfield 25, 3) := by decide +kernel
theorem dX9_ringsAct_4 : decode cX9_ringsAct 4 = .ok (.iload_n 1, 1) := by decide +kernel
theorem dX9_ringsAct_5 : decode cX9_ringsAct 5 = .ok (.iaload, 1) := by decide +kernel
theorem dX9_ringsAct_6 : decode cX9_ringsAct 6 = .ok (.lookupswitch 78 #[(1, 34), (4, 41), (6, 56)], 34) := by decide +kernel
theorem dX9_ringsAct_40 : decode cX9_ringsAct 40 = .ok (.aload_n 0, 1) := by decide +kernel
theorem dX9_ringsAct_41 : decode cX9_ringsAct 41 = .ok (.iload_n 1, 1) := by decide +kernel
theorem dX9_ringsAct_42 : decode cX9_ringsAct 42 = .ok (.iload_n 2, 1) := by decide +kernel
theorem dX9_ringsAct_43 : decode cX9_ringsAct 43 = .ok (.invokevirtual 429, 3) := by decide +kernel
theorem dX9_ringsAct_46 : decode cX9_ringsAct 46 = .ok (.ireturn, 1) := by decide +kernel
theorem dX9_ringsAct_47 : decode cX9_ringsAct 47 = .ok (.aload_n 0, 1) := by decide +kernel
theorem dX9_ringsAct_48 : decode cX9_ringsAct 48 = .ok (.bipush 51, 2) := by decide +kernel
theorem dX9_ringsAct_50 : decode cX9_ringsAct 50 = .ok (.invokevirtual 417, 3) := by decide +kernel
theorem dX9_ringsAct_53 : decode cX9_ringsAct 53 = .ok (.aload_n 0, 1) := by decide +kernel
theorem dX9_ringsAct_54 : decode cX9_ringsAct 54 = .ok (.iload_n 1, 1) := by decide +kernel
theorem dX9_ringsAct_55 : decode cX9_ringsAct 55 = .ok (.iload_n 2, 1) := by decide +kernel
theorem dX9_ringsAct_56 : decode cX9_ringsAct 56 = .ok (.iconst 1, 1) := by decide +kernel
theorem dX9_ringsAct_57 : decode cX9_ringsAct 57 = .ok (.iadd, 1) := by decide +kernel
theorem dX9_ringsAct_58 : decode cX9_ringsAct 58 = .ok (.invokevirtual 429, 3) := by decide +kernel
theorem dX9_ringsAct_61 : decode cX9_ringsAct 61 = .ok (.ireturn, 1) := by decide +kernel
theorem dX9_ringsAct_62 : decode cX9_ringsAct 62 = .ok (.aload_n 0, 1) := by decide +kernel
theorem dX9_ringsAct_63 : decode cX9_ringsAct 63 = .ok (.bipush 70, 2) := by decide +kernel
theorem dX9_ringsAct_65 : decode cX9_ringsAct 65 = .ok (.invokevirtual 417, 3) := by decide +kernel
theorem dX9_ringsAct_68 : decode cX9_ringsAct 68 = .ok (.aload_n 0, 1) := by decide +kernel
theorem dX9_ringsAct_69 : decode cX9_ringsAct 69 = .ok (.iload_n 1, 1) := by decide +kernel
theorem dX9_ringsAct_70 : decode cX9_ringsAct 70 = .ok (.iload_n 2, 1) := by decide +kernel
theorem dX9_ringsAct_71 : decode cX9_ringsAct 71 = .ok (.invokevirtual 426, 3) := by decide +kernel
theorem dX9_ringsAct_74 : decode cX9_ringsAct 74 = .ok (.istore_n 3, 1) := by decide +kernel
theorem dX9_ringsAct_75 : decode cX9_ringsAct 75 = .ok (.iload_n 3, 1) := by decide +kernel
theorem dX9_ringsAct_76 : decode cX9_ringsAct 76 = .ok (.aload_n 0, 1) := by decide +kernel
theorem dX9_ringsAct_77 : decode cX9_ringsAct 77 = .ok (.iload_n 1, 1) := by decide +kernel
theorem dX9_ringsAct_78 : decode cX9_ringsAct 78 = .ok (.iconst 2, 1) := by decide +kernel
theorem dX9_ringsAct_79 : decode cX9_ringsAct 79 = .ok (.invokevirtual 420, 3) := by decide +kernel
theorem dX9_ringsAct_82 : decode cX9_ringsAct 82 = .ok (.iadd, 1) := by decide +kernel
theorem dX9_ringsAct_83 : decode cX9_ringsAct 83 = .ok (.ireturn, 1) := by decide +kernel
theorem dX9_ringsAct_84 : decode cX9_ringsAct 84 = .ok (.aload_n 0, 1) := by decide +kernel
theorem dX9_ringsAct_85 : decode cX9_ringsAct 85 = .ok (.iload_n 1, 1) := by decide +kernel
theorem dX9_ringsAct_86 : decode cX9_ringsAct 86 = .ok (.iload_n 2, 1) := by decide +kernel
theorem dX9_ringsAct_87 : decode cX9_ringsAct 87 = .ok (.invokevirtual 426, 3) := by decide +kernel
theorem dX9_ringsAct_90 : decode cX9_ringsAct 90 = .ok (.ireturn, 1) := by decide +kernel
theorem dX9_oneTells_0 : decode cX9_oneTells 0 = .ok (.aload_n 0, 1) := by decide +kernel
theorem dX9_oneTells_1 : decode cX9_oneTells 1 = .ok (.bipush 12, 2) := by decide +kernel
theorem dX9_oneTells_3 : decode cX9_oneTells 3 = .ok (.invokevirtual 417, 3) := by decide +kernel
theorem dX9_oneTells_6 : decode cX9_oneTells 6 = .ok (.aload_n 0, 1) := by decide +kernel
theorem dX9_oneTells_7 : decode cX9_oneTells 7 = .ok (.iload_n 1, 1) := by decide +kernel
theorem dX9_oneTells_8 : decode cX9_oneTells 8 = .ok (.iload_n 2, 1) := by decide +kernel
theorem dX9_oneTells_9 : decode cX9_oneTells 9 = .ok (.invokevirtual 432, 3) := by decide +kernel
theorem dX9_oneTells_12 : decode cX9_oneTells 12 = .ok (.iconst 2, 1) := by decide +kernel
theorem dX9_oneTells_13 : decode cX9_oneTells 13 = .ok (.imul, 1) := by decide +kernel
theorem dX9_oneTells_14 : decode cX9_oneTells 14 = .ok (.ireturn, 1) := by decide +kernel
theorem dX9_tellsAct_0 : decode cX9_tellsAct 0 = .ok (.aload_n 0, 1) := by decide +kernel
theorem dX9_tellsAct_1 : decode cX9_tellsAct 1 = .ok (.getfield 25, 3) := by decide +kernel
theorem dX9_tellsAct_4 : decode cX9_tellsAct 4 = .ok (.iload_n 1, 1) := by decide +kernel
theorem dX9_tellsAct_5 : decode cX9_tellsAct 5 = .ok (.iaload, 1) := by decide +kernel
theorem dX9_tellsAct_6 : decode cX9_tellsAct 6 = .ok (.tableswitch 67 3 6 #[30, 67, 52, 30], 30) := by decide +kernel
theorem dX9_tellsAct_36 : decode cX9_tellsAct 36 = .ok (.aload_n 0, 1) := by decide +kernel
theorem dX9_tellsAct_37 : decode cX9_tellsAct 37 = .ok (.bipush 40, 2) := by decide +kernel
theorem dX9_tellsAct_39 : decode cX9_tellsAct 39 = .ok (.invokevirtual 417, 3) := by decide +kernel
theorem dX9_tellsAct_42 : decode cX9_tellsAct 42 = .ok (.aload_n 0, 1) := by decide +kernel
theorem dX9_tellsAct_43 : decode cX9_tellsAct 43 = .ok (.iload_n 1, 1) := by decide +kernel
theorem dX9_tellsAct_44 : decode cX9_tellsAct 44 = .ok (.iload_n 2, 1) := by decide +kernel
theorem dX9_tellsAct_45 : decode cX9_tellsAct 45 = .ok (.invokevirtual 435, 3) := by decide +kernel
theorem dX9_tellsAct_48 : decode cX9_tellsAct 48 = .ok (.istore_n 3, 1) := by decide +kernel
theorem dX9_tellsAct_49 : decode cX9_tellsAct 49 = .ok (.iload_n 3, 1) := by decide +kernel
theorem dX9_tellsAct_50 : decode cX9_tellsAct 50 = .ok (.aload_n 0, 1) := by decide +kernel
theorem dX9_tellsAct_51 : decode cX9_tellsAct 51 = .ok (.iload_n 1, 1) := by decide +kernel
theorem dX9_tellsAct_52 : decode cX9_tellsAct 52 = .ok (.iconst 1, 1) := by decide +kernel
theorem dX9_tellsAct_53 : decode cX9_tellsAct 53 = .ok (.invokevirtual 432, 3) := by decide +kernel
theorem dX9_tellsAct_56 : decode cX9_tellsAct 56 = .ok (.iadd, 1) := by decide +kernel
theorem dX9_tellsAct_57 : decode cX9_tellsAct 57 = .ok (.ireturn, 1) := by decide +kernel
theorem dX9_tellsAct_58 : decode cX9_tellsAct 58 = .ok (.aload_n 0, 1) := by decide +kernel
theorem dX9_tellsAct_59 : decode cX9_tellsAct 59 = .ok (.bipush 60, 2) := by decide +kernel
theorem dX9_tellsAct_61 : decode cX9_tellsAct 61 = .ok (.invokevirtual 417, 3) := by decide +kernel
theorem dX9_tellsAct_64 : decode cX9_tellsAct 64 = .ok (.aload_n 0, 1) := by decide +kernel
theorem dX9_tellsAct_65 : decode cX9_tellsAct 65 = .ok (.iload_n 1, 1) := by decide +kernel
theorem dX9_tellsAct_66 : decode cX9_tellsAct 66 = .ok (.iload_n 2, 1) := by decide +kernel
theorem dX9_tellsAct_67 : decode cX9_tellsAct 67 = .ok (.iload_n 1, 1) := by decide +kernel
theorem dX9_tellsAct_68 : decode cX9_tellsAct 68 = .ok (.isub, 1) := by decide +kernel
theorem dX9_tellsAct_69 : decode cX9_tellsAct 69 = .ok (.invokevirtual 435, 3) := by decide +kernel
theorem dX9_tellsAct_72 : decode cX9_tellsAct 72 = .ok (.ireturn, 1) := by decide +kernel
theorem dX9_tellsAct_73 : decode cX9_tellsAct 73 = .ok (.aload_n 0, 1) := by decide +kernel
theorem dX9_tellsAct_74 : decode cX9_tellsAct 74 = .ok (.iload_n 1, 1) := by decide +kernel
theorem dX9_tellsAct_75 : decode cX9_tellsAct 75 = .ok (.iload_n 2, 1) := by decide +kernel
theorem dX9_tellsAct_76 : decode cX9_tellsAct 76 = .ok (.invokevirtual 435, 3) := by decide +kernel
theorem dX9_tellsAct_79 : decode cX9_tellsAct 79 = .ok (.ireturn, 1) := by decide +kernel
theorem dX9_act_0 : decode cX9_act 0 = .ok (.aload_n 0, 1) := by decide +kernel
theorem dX9_act_1 : decode cX9_act 1 = .ok (.iconst 0, 1) := by decide +kernel
theorem dX9_act_2 : decode cX9_act 2 = .ok (.putfield 229, 3) := by decide +kernel
theorem dX9_act_5 : decode cX9_act 5 = .ok (.aload_n 0, 1) := by decide +kernel
theorem dX9_act_6 : decode cX9_act 6 = .ok (.iload_n 1, 1) := by decide +kernel
theorem dX9_act_7 : decode cX9_act 7 = .ok (.invokevirtual 260, 3) := by decide +kernel
theorem dX9_act_10 : decode cX9_act 10 = .ok (.ifCond .eq 13, 3) := by decide +kernel
theorem dX9_act_13 : decode cX9_act 13 = .ok (.aload_n 0, 1) := by decide +kernel
theorem dX9_act_14 : decode cX9_act 14 = .ok (.iload_n 2, 1) := by decide +kernel
theorem dX9_act_15 : decode cX9_act 15 = .ok (.iconst 0, 1) := by decide +kernel
theorem dX9_act_16 : decode cX9_act 16 = .ok (.iconst 2, 1) := by decide +kernel
theorem dX9_act_17 : decode cX9_act 17 = .ok (.invokevirtual 252, 3) := by decide +kernel
theorem dX9_act_20 : decode cX9_act 20 = .ok (.ifCond .ne 5, 3) := by decide +kernel
theorem dX9_act_23 : decode cX9_act 23 = .ok (.iconst 0, 1) := by decide +kernel
theorem dX9_act_24 : decode cX9_act 24 = .ok (.ireturn, 1) := by decide +kernel
theorem dX9_act_25 : decode cX9_act 25 = .ok (.iload_n 2, 1) := by decide +kernel
theorem dX9_act_26 : decode cX9_act 26 = .ok (.ifCond .ne 12, 3) := by decide +kernel
theorem dX9_act_29 : decode cX9_act 29 = .ok (.aload_n 0, 1) := by decide +kernel
theorem dX9_act_30 : decode cX9_act 30 = .ok (.iload_n 1, 1) := by decide +kernel
theorem dX9_act_31 : decode cX9_act 31 = .ok (.iload_n 3, 1) := by decide +kernel
theorem dX9_act_32 : decode cX9_act 32 = .ok (.invokevirtual 423, 3) := by decide +kernel
theorem dX9_act_35 : decode cX9_act 35 = .ok (.goto 23, 3) := by decide +kernel
theorem dX9_act_38 : decode cX9_act 38 = .ok (.iload_n 2, 1) := by decide +kernel
theorem dX9_act_39 : decode cX9_act 39 = .ok (.iconst 1, 1) := by decide +kernel
theorem dX9_act_40 : decode cX9_act 40 = .ok (.if_icmp .ne 12, 3) := by decide +kernel
theorem dX9_act_43 : decode cX9_act 43 = .ok (.aload_n 0, 1) := by decide +kernel
theorem dX9_act_44 : decode cX9_act 44 = .ok (.iload_n 1, 1) := by decide +kernel
theorem dX9_act_45 : decode cX9_act 45 = .ok (.iload_n 3, 1) := by decide +kernel
theorem dX9_act_46 : decode cX9_act 46 = .ok (.invokevirtual 432, 3) := by decide +kernel
theorem dX9_act_49 : decode cX9_act 49 = .ok (.goto 9, 3) := by decide +kernel
theorem dX9_act_52 : decode cX9_act 52 = .ok (.aload_n 0, 1) := by decide +kernel
theorem dX9_act_53 : decode cX9_act 53 = .ok (.iload_n 1, 1) := by decide +kernel
theorem dX9_act_54 : decode cX9_act 54 = .ok (.iload_n 3, 1) := by decide +kernel
theorem dX9_act_55 : decode cX9_act 55 = .ok (.invokevirtual 438, 3) := by decide +kernel
theorem dX9_act_58 : decode cX9_act 58 = .ok (.ireturn, 1) := by decide +kernel
theorem dX9_trace_0 : decode cX9_trace 0 = .ok (.aload_n 0, 1) := by decide +kernel
theorem dX9_trace_1 : decode cX9_trace 1 = .ok (.iload_n 1, 1) := by decide +kernel
theorem dX9_trace_2 : decode cX9_trace 2 = .ok (.iconst 0, 1) := by decide +kernel
theorem dX9_trace_3 : decode cX9_trace 3 = .ok (.bipush 19, 2) := by decide +kernel
theorem dX9_trace_5 : decode cX9_trace 5 = .ok (.invokevirtual 252, 3) := by decide +kernel
theorem dX9_trace_8 : decode cX9_trace 8 = .ok (.ifCond .eq 20, 3) := by decide +kernel
theorem dX9_trace_11 : decode cX9_trace 11 = .ok (.iload_n 1, 1) := by decide +kernel
theorem dX9_trace_12 : decode cX9_trace 12 = .ok (.aload_n 0, 1) := by decide +kernel
theorem dX9_trace_13 : decode cX9_trace 13 = .ok (.getfield 229, 3) := by decide +kernel
theorem dX9_trace_16 : decode cX9_trace 16 = .ok (.if_icmp .ge 12, 3) := by decide +kernel
theorem dX9_trace_19 : decode cX9_trace 19 = .ok (.aload_n 0, 1) := by decide +kernel
theorem dX9_trace_20 : decode cX9_trace 20 = .ok (.getfield 232, 3) := by decide +kernel
theorem dX9_trace_23 : decode cX9_trace 23 = .ok (.iload_n 1, 1) := by decide +kernel
theorem dX9_trace_24 : decode cX9_trace 24 = .ok (.iaload, 1) := by decide +kernel
theorem dX9_trace_25 : decode cX9_trace 25 = .ok (.goto 4, 3) := by decide +kernel
theorem dX9_trace_28 : decode cX9_trace 28 = .ok (.iconst (-1), 1) := by decide +kernel
theorem dX9_trace_29 : decode cX9_trace 29 = .ok (.ireturn, 1) := by decide +kernel
theorem dX9_taken_0 : decode cX9_taken 0 = .ok (.aload_n 0, 1) := by decide +kernel
theorem dX9_taken_1 : decode cX9_taken 1 = .ok (.iload_n 2, 1) := by decide +kernel
theorem dX9_taken_2 : decode cX9_taken 2 = .ok (.iconst 0, 1) := by decide +kernel
theorem dX9_taken_3 : decode cX9_taken 3 = .ok (.bipush 6, 2) := by decide +kernel
theorem dX9_taken_5 : decode cX9_taken 5 = .ok (.invokevirtual 252, 3) := by decide +kernel
theorem dX9_taken_8 : decode cX9_taken 8 = .ok (.ifCond .ne 6, 3) := by decide +kernel
theorem dX9_taken_11 : decode cX9_taken 11 = .ok (.bipush (-2), 2) := by decide +kernel
theorem dX9_taken_13 : decode cX9_taken 13 = .ok (.ireturn, 1) := by decide +kernel
theorem dX9_taken_14 : decode cX9_taken 14 = .ok (.aload_n 0, 1) := by decide +kernel
theorem dX9_taken_15 : decode cX9_taken 15 = .ok (.iload_n 1, 1) := by decide +kernel
theorem dX9_taken_16 : decode cX9_taken 16 = .ok (.invokevirtual 260, 3) := by decide +kernel
theorem dX9_taken_19 : decode cX9_taken 19 = .ok (.ifCond .ne 6, 3) := by decide +kernel
theorem dX9_taken_22 : decode cX9_taken 22 = .ok (.bipush (-11), 2) := by decide +kernel
theorem dX9_taken_24 : decode cX9_taken 24 = .ok (.ireturn, 1) := by decide +kernel
theorem dX9_taken_25 : decode cX9_taken 25 = .ok (.aload_n 0, 1) := by decide +kernel
theorem dX9_taken_26 : decode cX9_taken 26 = .ok (.getfield 25, 3) := by decide +kernel
theorem dX9_taken_29 : decode cX9_taken 29 = .ok (.iload_n 1, 1) := by decide +kernel
theorem dX9_taken_30 : decode cX9_taken 30 = .ok (.iaload, 1) := by decide +kernel
theorem dX9_taken_31 : decode cX9_taken 31 = .ok (.istore_n 3, 1) := by decide +kernel
theorem dX9_taken_32 : decode cX9_taken 32 = .ok (.iload_n 2, 1) := by decide +kernel
theorem dX9_taken_33 : decode cX9_taken 33 = .ok (.ifCond .eq 39, 3) := by decide +kernel
theorem dX9_taken_36 : decode cX9_taken 36 = .ok (.iload_n 3, 1) := by decide +kernel
theorem dX9_taken_37 : decode cX9_taken 37 = .ok (.iload_n 2, 1) := by decide +kernel
theorem dX9_taken_38 : decode cX9_taken 38 = .ok (.if_icmp .eq 34, 3) := by decide +kernel
theorem dX9_taken_41 : decode cX9_taken 41 = .ok (.iload_n 2, 1) := by decide +kernel
theorem dX9_taken_42 : decode cX9_taken 42 = .ok (.iconst 1, 1) := by decide +kernel
theorem dX9_taken_43 : decode cX9_taken 43 = .ok (.if_icmp .ne 8, 3) := by decide +kernel
theorem dX9_taken_46 : decode cX9_taken 46 = .ok (.iload_n 3, 1) := by decide +kernel
theorem dX9_taken_47 : decode cX9_taken 47 = .ok (.iconst 4, 1) := by decide +kernel
theorem dX9_taken_48 : decode cX9_taken 48 = .ok (.if_icmp .eq 24, 3) := by decide +kernel
theorem dX9_taken_51 : decode cX9_taken 51 = .ok (.iload_n 2, 1) := by decide +kernel
theorem dX9_taken_52 : decode cX9_taken 52 = .ok (.iconst 2, 1) := by decide +kernel
theorem dX9_taken_53 : decode cX9_taken 53 = .ok (.if_icmp .ne 8, 3) := by decide +kernel
theorem dX9_taken_56 : decode cX9_taken 56 = .ok (.iload_n 3, 1) := by decide +kernel
theorem dX9_taken_57 : decode cX9_taken 57 = .ok (.iconst 5, 1) := by decide +kernel
theorem dX9_taken_58 : decode cX9_taken 58 = .ok (.if_icmp .eq 14, 3) := by decide +kernel
theorem dX9_taken_61 : decode cX9_taken 61 = .ok (.iload_n 2, 1) := by decide +kernel
theorem dX9_taken_62 : decode cX9_taken 62 = .ok (.iconst 3, 1) := by decide +kernel
theorem dX9_taken_63 : decode cX9_taken 63 = .ok (.if_icmp .ne 13, 3) := by decide +kernel
theorem dX9_taken_66 : decode cX9_taken 66 = .ok (.iload_n 3, 1) := by decide +kernel
theorem dX9_taken_67 : decode cX9_taken 67 = .ok (.bipush 6, 2) := by decide +kernel
theorem dX9_taken_69 : decode cX9_taken 69 = .ok (.if_icmp .ne 7, 3) := by decide +kernel
theorem dX9_taken_72 : decode cX9_taken 72 = .ok (.iload_n 3, 1) := by decide +kernel
theorem dX9_taken_73 : decode cX9_taken 73 = .ok (.goto 5, 3) := by decide +kernel
theorem dX9_taken_76 : decode cX9_taken 76 = .ok (.bipush (-12), 2) := by decide +kernel
theorem dX9_taken_78 : decode cX9_taken 78 = .ok (.ireturn, 1) := by decide +kernel
theorem dX9_count_0 : decode cX9_count 0 = .ok (.iload_n 1, 1) := by decide +kernel
theorem dX9_count_1 : decode cX9_count 1 = .ok (.tableswitch 87 0 7 #[47, 52, 57, 62, 67, 72, 77, 82], 47) := by decide +kernel
theorem dX9_count_48 : decode cX9_count 48 = .ok (.aload_n 0, 1) := by decide +kernel
theorem dX9_count_49 : decode cX9_count 49 = .ok (.getfield 7, 3) := by decide +kernel
theorem dX9_count_52 : decode cX9_count 52 = .ok (.ireturn, 1) := by decide +kernel
theorem dX9_count_53 : decode cX9_count 53 = .ok (.aload_n 0, 1) := by decide +kernel
theorem dX9_count_54 : decode cX9_count 54 = .ok (.getfield 16, 3) := by decide +kernel
theorem dX9_count_57 : decode cX9_count 57 = .ok (.ireturn, 1) := by decide +kernel
theorem dX9_count_58 : decode cX9_count 58 = .ok (.aload_n 0, 1) := by decide +kernel
theorem dX9_count_59 : decode cX9_count 59 = .ok (.getfield 47, 3) := by decide +kernel
theorem dX9_count_62 : decode cX9_count 62 = .ok (.ireturn, 1) := by decide +kernel
theorem dX9_count_63 : decode cX9_count 63 = .ok (.aload_n 0, 1) := by decide +kernel
theorem dX9_count_64 : decode cX9_count 64 = .ok (.getfield 126, 3) := by decide +kernel
theorem dX9_count_67 : decode cX9_count 67 = .ok (.ireturn, 1) := by decide +kernel
theorem dX9_count_68 : decode cX9_count 68 = .ok (.aload_n 0, 1) := by decide +kernel
theorem dX9_count_69 : decode cX9_count 69 = .ok (.getfield 138, 3) := by decide +kernel
theorem dX9_count_72 : decode cX9_count 72 = .ok (.ireturn, 1) := by decide +kernel
theorem dX9_count_73 : decode cX9_count 73 = .ok (.aload_n 0, 1) := by decide +kernel
theorem dX9_count_74 : decode cX9_count 74 = .ok (.getfield 141, 3) := by decide +kernel
theorem dX9_count_77 : decode cX9_count 77 = .ok (.ireturn, 1) := by decide +kernel
theorem dX9_count_78 : decode cX9_count 78 = .ok (.aload_n 0, 1) := by decide +kernel
theorem dX9_count_79 : decode cX9_count 79 = .ok (.getfield 53, 3) := by decide +kernel
theorem dX9_count_82 : decode cX9_count 82 = .ok (.ireturn, 1) := by decide +kernel
theorem dX9_count_83 : decode cX9_count 83 = .ok (.aload_n 0, 1) := by decide +kernel
theorem dX9_count_84 : decode cX9_count 84 = .ok (.getfield 229, 3) := by decide +kernel
theorem dX9_count_87 : decode cX9_count 87 = .ok (.ireturn, 1) := by decide +kernel
theorem dX9_count_88 : decode cX9_count 88 = .ok (.bipush (-2), 2) := by decide +kernel
theorem dX9_count_90 : decode cX9_count 90 = .ok (.ireturn, 1) := by decide +kernel
theorem dX9_isTape_0 : decode cX9_isTape 0 = .ok (.aload_n 0, 1) := by decide +kernel
theorem dX9_isTape_1 : decode cX9_isTape 1 = .ok (.iload_n 1, 1) := by decide +kernel
theorem dX9_isTape_2 : decode cX9_isTape 2 = .ok (.iconst 0, 1) := by decide +kernel
theorem dX9_isTape_3 : decode cX9_isTape 3 = .ok (.iconst 5, 1) := by decide +kernel
theorem dX9_isTape_4 : decode cX9_isTape 4 = .ok (.invokevirtual 252, 3) := by decide +kernel
theorem dX9_isTape_7 : decode cX9_isTape 7 = .ok (.ireturn, 1) := by decide +kernel
theorem dX9_tape_0 : decode cX9_tape 0 = .ok (.aload_n 0, 1) := by decide +kernel
theorem dX9_tape_1 : decode cX9_tape 1 = .ok (.iload_n 1, 1) := by decide +kernel
theorem dX9_tape_2 : decode cX9_tape 2 = .ok (.invokevirtual 414, 3) := by decide +kernel
theorem dX9_tape_5 : decode cX9_tape 5 = .ok (.ifCond .ne 5, 3) := by decide +kernel
theorem dX9_tape_8 : decode cX9_tape 8 = .ok (.iconst (-1), 1) := by decide +kernel
theorem dX9_tape_9 : decode cX9_tape 9 = .ok (.ireturn, 1) := by decide +kernel
theorem dX9_tape_10 : decode cX9_tape 10 = .ok (.aload_n 0, 1) := by decide +kernel
theorem dX9_tape_11 : decode cX9_tape 11 = .ok (.iload_n 2, 1) := by decide +kernel
theorem dX9_tape_12 : decode cX9_tape 12 = .ok (.iconst (-1), 1) := by decide +kernel
theorem dX9_tape_13 : decode cX9_tape 13 = .ok (.iconst 4, 1) := by decide +kernel
theorem dX9_tape_14 : decode cX9_tape 14 = .ok (.invokevirtual 252, 3) := by decide +kernel
theorem dX9_tape_17 : decode cX9_tape 17 = .ok (.ifCond .eq 13, 3) := by decide +kernel
theorem dX9_tape_20 : decode cX9_tape 20 = .ok (.iload_n 2, 1) := by decide +kernel
theorem dX9_tape_21 : decode cX9_tape 21 = .ok (.ifCond .lt 12, 3) := by decide +kernel
theorem dX9_tape_24 : decode cX9_tape 24 = .ok (.iload_n 3, 1) := by decide +kernel
theorem dX9_tape_25 : decode cX9_tape 25 = .ok (.bipush 60, 2) := by decide +kernel
theorem dX9_tape_27 : decode cX9_tape 27 = .ok (.if_icmp .le 6, 3) := by decide +kernel
theorem dX9_tape_30 : decode cX9_tape 30 = .ok (.bipush (-2), 2) := by decide +kernel
theorem dX9_tape_32 : decode cX9_tape 32 = .ok (.ireturn, 1) := by decide +kernel
theorem dX9_tape_33 : decode cX9_tape 33 = .ok (.iload_n 2, 1) := by decide +kernel
theorem dX9_tape_34 : decode cX9_tape 34 = .ok (.ifCond .lt 10, 3) := by decide +kernel
theorem dX9_tape_37 : decode cX9_tape 37 = .ok (.iload_n 3, 1) := by decide +kernel
theorem dX9_tape_38 : decode cX9_tape 38 = .ok (.ifCond .ge 6, 3) := by decide +kernel
theorem dX9_tape_41 : decode cX9_tape 41 = .ok (.bipush (-14), 2) := by decide +kernel
theorem dX9_tape_43 : decode cX9_tape 43 = .ok (.ireturn, 1) := by decide +kernel
theorem dX9_tape_44 : decode cX9_tape 44 = .ok (.aload_n 0, 1) := by decide +kernel
theorem dX9_tape_45 : decode cX9_tape 45 = .ok (.getfield 235, 3) := by decide +kernel
theorem dX9_tape_48 : decode cX9_tape 48 = .ok (.iload_n 1, 1) := by decide +kernel
theorem dX9_tape_49 : decode cX9_tape 49 = .ok (.iload_n 2, 1) := by decide +kernel
theorem dX9_tape_50 : decode cX9_tape 50 = .ok (.iastore, 1) := by decide +kernel
theorem dX9_tape_51 : decode cX9_tape 51 = .ok (.aload_n 0, 1) := by decide +kernel
theorem dX9_tape_52 : decode cX9_tape 52 = .ok (.getfield 238, 3) := by decide +kernel
theorem dX9_tape_55 : decode cX9_tape 55 = .ok (.iload_n 1, 1) := by decide +kernel
theorem dX9_tape_56 : decode cX9_tape 56 = .ok (.iload_n 2, 1) := by decide +kernel
theorem dX9_tape_57 : decode cX9_tape 57 = .ok (.ifCond .ge 7, 3) := by decide +kernel
theorem dX9_tape_60 : decode cX9_tape 60 = .ok (.iconst 0, 1) := by decide +kernel
theorem dX9_tape_61 : decode cX9_tape 61 = .ok (.goto 4, 3) := by decide +kernel
theorem dX9_tape_64 : decode cX9_tape 64 = .ok (.iload_n 3, 1) := by decide +kernel
theorem dX9_tape_65 : decode cX9_tape 65 = .ok (.iastore, 1) := by decide +kernel
theorem dX9_tape_66 : decode cX9_tape 66 = .ok (.iconst 0, 1) := by decide +kernel
theorem dX9_tape_67 : decode cX9_tape 67 = .ok (.istore 4, 2) := by decide +kernel
theorem dX9_tape_69 : decode cX9_tape 69 = .ok (.iload 4, 2) := by decide +kernel
theorem dX9_tape_71 : decode cX9_tape 71 = .ok (.bipush 60, 2) := by decide +kernel
theorem dX9_tape_73 : decode cX9_tape 73 = .ok (.if_icmp .ge 22, 3) := by decide +kernel
theorem dX9_tape_76 : decode cX9_tape 76 = .ok (.aload_n 0, 1) := by decide +kernel
theorem dX9_tape_77 : decode cX9_tape 77 = .ok (.getfield 241, 3) := by decide +kernel
theorem dX9_tape_80 : decode cX9_tape 80 = .ok (.bipush 60, 2) := by decide +kernel
theorem dX9_tape_82 : decode cX9_tape 82 = .ok (.iload_n 1, 1) := by decide +kernel
theorem dX9_tape_83 : decode cX9_tape 83 = .ok (.imul, 1) := by decide +kernel
theorem dX9_tape_84 : decode cX9_tape 84 = .ok (.iload 4, 2) := by decide +kernel
theorem dX9_tape_86 : decode cX9_tape 86 = .ok (.iadd, 1) := by decide +kernel
theorem dX9_tape_87 : decode cX9_tape 87 = .ok (.lconst 0, 1) := by decide +kernel
theorem dX9_tape_88 : decode cX9_tape 88 = .ok (.lastore, 1) := by decide +kernel
theorem dX9_tape_89 : decode cX9_tape 89 = .ok (.iinc 4 1, 3) := by decide +kernel
theorem dX9_tape_92 : decode cX9_tape 92 = .ok (.goto (-23), 3) := by decide +kernel
theorem dX9_tape_95 : decode cX9_tape 95 = .ok (.iconst 1, 1) := by decide +kernel
theorem dX9_tape_96 : decode cX9_tape 96 = .ok (.ireturn, 1) := by decide +kernel
theorem dX9_narrow_0 : decode cX9_narrow 0 = .ok (.iload_n 1, 1) := by decide +kernel
theorem dX9_narrow_1 : decode cX9_narrow 1 = .ok (.ifCond .ne 10, 3) := by decide +kernel
theorem dX9_narrow_4 : decode cX9_narrow 4 = .ok (.lload_n 2, 1) := by decide +kernel
theorem dX9_narrow_5 : decode cX9_narrow 5 = .ok (.l2i, 1) := by decide +kernel
theorem dX9_narrow_6 : decode cX9_narrow 6 = .ok (.i2b, 1) := by decide +kernel
theorem dX9_narrow_7 : decode cX9_narrow 7 = .ok (.i2l, 1) := by decide +kernel
theorem dX9_narrow_8 : decode cX9_narrow 8 = .ok (.goto 46, 3) := by decide +kernel
theorem dX9_narrow_11 : decode cX9_narrow 11 = .ok (.iload_n 1, 1) := by decide +kernel
theorem dX9_narrow_12 : decode cX9_narrow 12 = .ok (.iconst 1, 1) := by decide +kernel
theorem dX9_narrow_13 : decode cX9_narrow 13 = .ok (.if_icmp .ne 10, 3) := by decide +kernel
theorem dX9_narrow_16 : decode cX9_narrow 16 = .ok (.lload_n 2, 1) := by decide +kernel
theorem dX9_narrow_17 : decode cX9_narrow 17 = .ok (.l2i, 1) := by decide +kernel
theorem dX9_narrow_18 : decode cX9_narrow 18 = .ok (.i2s, 1) := by decide +kernel
theorem dX9_narrow_19 : decode cX9_narrow 19 = .ok (.i2l, 1) := by decide +kernel
theorem dX9_narrow_20 : decode cX9_narrow 20 = .ok (.goto 34, 3) := by decide +kernel
theorem dX9_narrow_23 : decode cX9_narrow 23 = .ok (.iload_n 1, 1) := by decide +kernel
theorem dX9_narrow_24 : decode cX9_narrow 24 = .ok (.iconst 2, 1) := by decide +kernel
theorem dX9_narrow_25 : decode cX9_narrow 25 = .ok (.if_icmp .ne 9, 3) := by decide +kernel
theorem dX9_narrow_28 : decode cX9_narrow 28 = .ok (.lload_n 2, 1) := by decide +kernel
theorem dX9_narrow_29 : decode cX9_narrow 29 = .ok (.l2i, 1) := by decide +kernel
theorem dX9_narrow_30 : decode cX9_narrow 30 = .ok (.i2l, 1) := by decide +kernel
theorem dX9_narrow_31 : decode cX9_narrow 31 = .ok (.goto 23, 3) := by decide +kernel
theorem dX9_narrow_34 : decode cX9_narrow 34 = .ok (.iload_n 1, 1) := by decide +kernel
theorem dX9_narrow_35 : decode cX9_narrow 35 = .ok (.iconst 4, 1) := by decide +kernel
theorem dX9_narrow_36 : decode cX9_narrow 36 = .ok (.if_icmp .ne 17, 3) := by decide +kernel
theorem dX9_narrow_39 : decode cX9_narrow 39 = .ok (.lload_n 2, 1) := by decide +kernel
theorem dX9_narrow_40 : decode cX9_narrow 40 = .ok (.lconst 0, 1) := by decide +kernel
theorem dX9_narrow_41 : decode cX9_narrow 41 = .ok (.lcmp, 1) := by decide +kernel
theorem dX9_narrow_42 : decode cX9_narrow 42 = .ok (.ifCond .eq 7, 3) := by decide +kernel
theorem dX9_narrow_45 : decode cX9_narrow 45 = .ok (.lconst 1, 1) := by decide +kernel
theorem dX9_narrow_46 : decode cX9_narrow 46 = .ok (.goto 8, 3) := by decide +kernel
theorem dX9_narrow_49 : decode cX9_narrow 49 = .ok (.lconst 0, 1) := by decide +kernel
theorem dX9_narrow_50 : decode cX9_narrow 50 = .ok (.goto 4, 3) := by decide +kernel
theorem dX9_narrow_53 : decode cX9_narrow 53 = .ok (.lload_n 2, 1) := by decide +kernel
theorem dX9_narrow_54 : decode cX9_narrow 54 = .ok (.lreturn, 1) := by decide +kernel
theorem dX9_item_0 : decode cX9_item 0 = .ok (.aload_n 0, 1) := by decide +kernel
theorem dX9_item_1 : decode cX9_item 1 = .ok (.iload_n 1, 1) := by decide +kernel
theorem dX9_item_2 : decode cX9_item 2 = .ok (.invokevirtual 414, 3) := by decide +kernel
theorem dX9_item_5 : decode cX9_item 5 = .ok (.ifCond .ne 5, 3) := by decide +kernel
theorem dX9_item_8 : decode cX9_item 8 = .ok (.iconst (-1), 1) := by decide +kernel
theorem dX9_item_9 : decode cX9_item 9 = .ok (.ireturn, 1) := by decide +kernel
theorem dX9_item_10 : decode cX9_item 10 = .ok (.aload_n 0, 1) := by decide +kernel
theorem dX9_item_11 : decode cX9_item 11 = .ok (.getfield 235, 3) := by decide +kernel
theorem dX9_item_14 : decode cX9_item 14 = .ok (.iload_n 1, 1) := by decide +kernel
theorem dX9_item_15 : decode cX9_item 15 = .ok (.iaload, 1) := by decide +kernel
theorem dX9_item_16 : decode cX9_item 16 = .ok (.ifCond .ge 6, 3) := by decide +kernel
theorem dX9_item_19 : decode cX9_item 19 = .ok (.bipush (-11), 2) := by decide +kernel
theorem dX9_item_21 : decode cX9_item 21 = .ok (.ireturn, 1) := by decide +kernel
theorem dX9_item_22 : decode cX9_item 22 = .ok (.aload_n 0, 1) := by decide +kernel
theorem dX9_item_23 : decode cX9_item 23 = .ok (.iload_n 2, 1) := by decide +kernel
theorem dX9_item_24 : decode cX9_item 24 = .ok (.iconst 0, 1) := by decide +kernel
theorem dX9_item_25 : decode cX9_item 25 = .ok (.aload_n 0, 1) := by decide +kernel
theorem dX9_item_26 : decode cX9_item 26 = .ok (.getfield 238, 3) := by decide +kernel
theorem dX9_item_29 : decode cX9_item 29 = .ok (.iload_n 1, 1) := by decide +kernel
theorem dX9_item_30 : decode cX9_item 30 = .ok (.iaload, 1) := by decide +kernel
theorem dX9_item_31 : decode cX9_item 31 = .ok (.iconst 1, 1) := by decide +kernel
theorem dX9_item_32 : decode cX9_item 32 = .ok (.isub, 1) := by decide +kernel
theorem dX9_item_33 : decode cX9_item 33 = .ok (.invokevirtual 252, 3) := by decide +kernel
theorem dX9_item_36 : decode cX9_item 36 = .ok (.ifCond .ne 6, 3) := by decide +kernel
theorem dX9_item_39 : decode cX9_item 39 = .ok (.bipush (-13), 2) := by decide +kernel
theorem dX9_item_41 : decode cX9_item 41 = .ok (.ireturn, 1) := by decide +kernel
theorem dX9_item_42 : decode cX9_item 42 = .ok (.aload_n 0, 1) := by decide +kernel
theorem dX9_item_43 : decode cX9_item 43 = .ok (.getfield 241, 3) := by decide +kernel
theorem dX9_item_46 : decode cX9_item 46 = .ok (.bipush 60, 2) := by decide +kernel
theorem dX9_item_48 : decode cX9_item 48 = .ok (.iload_n 1, 1) := by decide +kernel
theorem dX9_item_49 : decode cX9_item 49 = .ok (.imul, 1) := by decide +kernel
theorem dX9_item_50 : decode cX9_item 50 = .ok (.iload_n 2, 1) := by decide +kernel
theorem dX9_item_51 : decode cX9_item 51 = .ok (.iadd, 1) := by decide +kernel
theorem dX9_item_52 : decode cX9_item 52 = .ok (.aload_n 0, 1) := by decide +kernel
theorem dX9_item_53 : decode cX9_item 53 = .ok (.aload_n 0, 1) := by decide +kernel
theorem dX9_item_54 : decode cX9_item 54 = .ok (.getfield 235, 3) := by decide +kernel
theorem dX9_item_57 : decode cX9_item 57 = .ok (.iload_n 1, 1) := by decide +kernel
theorem dX9_item_58 : decode cX9_item 58 = .ok (.iaload, 1) := by decide +kernel
theorem dX9_item_59 : decode cX9_item 59 = .ok (.lload_n 3, 1) := by decide +kernel
theorem dX9_item_60 : decode cX9_item 60 = .ok (.invokevirtual 441, 3) := by decide +kernel
theorem dX9_item_63 : decode cX9_item 63 = .ok (.lastore, 1) := by decide +kernel
theorem dX9_item_64 : decode cX9_item 64 = .ok (.iconst 1, 1) := by decide +kernel
theorem dX9_item_65 : decode cX9_item 65 = .ok (.ireturn, 1) := by decide +kernel
theorem dX9_read_0 : decode cX9_read 0 = .ok (.aload_n 0, 1) := by decide +kernel
theorem dX9_read_1 : decode cX9_read 1 = .ok (.iload_n 1, 1) := by decide +kernel
theorem dX9_read_2 : decode cX9_read 2 = .ok (.invokevirtual 414, 3) := by decide +kernel
theorem dX9_read_5 : decode cX9_read 5 = .ok (.ifCond .eq 29, 3) := by decide +kernel
theorem dX9_read_8 : decode cX9_read 8 = .ok (.aload_n 0, 1) := by decide +kernel
theorem dX9_read_9 : decode cX9_read 9 = .ok (.getfield 235, 3) := by decide +kernel
theorem dX9_read_12 : decode cX9_read 12 = .ok (.iload_n 1, 1) := by decide +kernel
theorem dX9_read_13 : decode cX9_read 13 = .ok (.iaload, 1) := by decide +kernel
theorem dX9_read_14 : decode cX9_read 14 = .ok (.ifCond .lt 20, 3) := by decide +kernel
theorem dX9_read_17 : decode cX9_read 17 = .ok (.aload_n 0, 1) := by decide +kernel
theorem dX9_read_18 : decode cX9_read 18 = .ok (.iload_n 2, 1) := by decide +kernel
theorem dX9_read_19 : decode cX9_read 19 = .ok (.iconst 0, 1) := by decide +kernel
theorem dX9_read_20 : decode cX9_read 20 = .ok (.aload_n 0, 1) := by decide +kernel
theorem dX9_read_21 : decode cX9_read 21 = .ok (.getfield 238, 3) := by decide +kernel
theorem dX9_read_24 : decode cX9_read 24 = .ok (.iload_n 1, 1) := by decide +kernel
theorem dX9_read_25 : decode cX9_read 25 = .ok (.iaload, 1) := by decide +kernel
theorem dX9_read_26 : decode cX9_read 26 = .ok (.iconst 1, 1) := by decide +kernel
theorem dX9_read_27 : decode cX9_read 27 = .ok (.isub, 1) := by decide +kernel
theorem dX9_read_28 : decode cX9_read 28 = .ok (.invokevirtual 252, 3) := by decide +kernel
theorem dX9_read_31 : decode cX9_read 31 = .ok (.ifCond .ne 9, 3) := by decide +kernel
theorem dX9_read_34 : decode cX9_read 34 = .ok (.ldc2_w 401, 3) := by decide +kernel
theorem dX9_read_37 : decode cX9_read 37 = .ok (.goto 14, 3) := by decide +kernel
theorem dX9_read_40 : decode cX9_read 40 = .ok (.aload_n 0, 1) := by decide +kernel
theorem dX9_read_41 : decode cX9_read 41 = .ok (.getfield 241, 3) := by decide +kernel
theorem dX9_read_44 : decode cX9_read 44 = .ok (.bipush 60, 2) := by decide +kernel
theorem dX9_read_46 : decode cX9_read 46 = .ok (.iload_n 1, 1) := by decide +kernel
theorem dX9_read_47 : decode cX9_read 47 = .ok (.imul, 1) := by decide +kernel
theorem dX9_read_48 : decode cX9_read 48 = .ok (.iload_n 2, 1) := by decide +kernel
theorem dX9_read_49 : decode cX9_read 49 = .ok (.iadd, 1) := by decide +kernel
theorem dX9_read_50 : decode cX9_read 50 = .ok (.laload, 1) := by decide +kernel
theorem dX9_read_51 : decode cX9_read 51 = .ok (.lreturn, 1) := by decide +kernel
theorem dX9_shift_0 : decode cX9_shift 0 = .ok (.aload_n 0, 1) := by decide +kernel
theorem dX9_shift_1 : decode cX9_shift 1 = .ok (.iload_n 1, 1) := by decide +kernel
theorem dX9_shift_2 : decode cX9_shift 2 = .ok (.invokevirtual 414, 3) := by decide +kernel
theorem dX9_shift_5 : decode cX9_shift 5 = .ok (.ifCond .eq 11, 3) := by decide +kernel
theorem dX9_shift_8 : decode cX9_shift 8 = .ok (.aload_n 0, 1) := by decide +kernel
theorem dX9_shift_9 : decode cX9_shift 9 = .ok (.iload_n 3, 1) := by decide +kernel
theorem dX9_shift_10 : decode cX9_shift 10 = .ok (.invokevirtual 414, 3) := by decide +kernel
theorem dX9_shift_13 : decode cX9_shift 13 = .ok (.ifCond .ne 5, 3) := by decide +kernel
theorem dX9_shift_16 : decode cX9_shift 16 = .ok (.iconst (-1), 1) := by decide +kernel
theorem dX9_shift_17 : decode cX9_shift 17 = .ok (.ireturn, 1) := by decide +kernel
theorem dX9_shift_18 : decode cX9_shift 18 = .ok (.aload_n 0, 1) := by decide +kernel
theorem dX9_shift_19 : decode cX9_shift 19 = .ok (.getfield 235, 3) := by decide +kernel
theorem dX9_shift_22 : decode cX9_shift 22 = .ok (.iload_n 1, 1) := by decide +kernel
theorem dX9_shift_23 : decode cX9_shift 23 = .ok (.iaload, 1) := by decide +kernel
theorem dX9_shift_24 : decode cX9_shift 24 = .ok (.ifCond .lt 12, 3) := by decide +kernel
theorem dX9_shift_27 : decode cX9_shift 27 = .ok (.aload_n 0, 1) := by decide +kernel
theorem dX9_shift_28 : decode cX9_shift 28 = .ok (.getfield 235, 3) := by decide +kernel
theorem dX9_shift_31 : decode cX9_shift 31 = .ok (.iload_n 3, 1) := by decide +kernel
theorem dX9_shift_32 : decode cX9_shift 32 = .ok (.iaload, 1) := by decide +kernel
theorem dX9_shift_33 : decode cX9_shift 33 = .ok (.ifCond .ge 6, 3) := by decide +kernel
theorem dX9_shift_36 : decode cX9_shift 36 = .ok (.bipush (-11), 2) := by decide +kernel
theorem dX9_shift_38 : decode cX9_shift 38 = .ok (.ireturn, 1) := by decide +kernel
theorem dX9_shift_39 : decode cX9_shift 39 = .ok (.aload_n 0, 1) := by decide +kernel
theorem dX9_shift_40 : decode cX9_shift 40 = .ok (.getfield 235, 3) := by decide +kernel
theorem dX9_shift_43 : decode cX9_shift 43 = .ok (.iload_n 1, 1) := by decide +kernel
theorem dX9_shift_44 : decode cX9_shift 44 = .ok (.iaload, 1) := by decide +kernel
theorem dX9_shift_45 : decode cX9_shift 45 = .ok (.aload_n 0, 1) := by decide +kernel
theorem dX9_shift_46 : decode cX9_shift 46 = .ok (.getfield 235, 3) := by decide +kernel
theorem dX9_shift_49 : decode cX9_shift 49 = .ok (.iload_n 3, 1) := by decide +kernel
theorem dX9_shift_50 : decode cX9_shift 50 = .ok (.iaload, 1) := by decide +kernel
theorem dX9_shift_51 : decode cX9_shift 51 = .ok (.if_icmp .eq 6, 3) := by decide +kernel
theorem dX9_shift_54 : decode cX9_shift 54 = .ok (.bipush (-12), 2) := by decide +kernel
theorem dX9_shift_56 : decode cX9_shift 56 = .ok (.ireturn, 1) := by decide +kernel
theorem dX9_shift_57 : decode cX9_shift 57 = .ok (.iload 5, 2) := by decide +kernel
theorem dX9_shift_59 : decode cX9_shift 59 = .ok (.ifCond .lt 39, 3) := by decide +kernel
theorem dX9_shift_62 : decode cX9_shift 62 = .ok (.iload_n 2, 1) := by decide +kernel
theorem dX9_shift_63 : decode cX9_shift 63 = .ok (.ifCond .lt 35, 3) := by decide +kernel
theorem dX9_shift_66 : decode cX9_shift 66 = .ok (.iload 4, 2) := by decide +kernel
theorem dX9_shift_68 : decode cX9_shift 68 = .ok (.ifCond .lt 30, 3) := by decide +kernel
theorem dX9_shift_71 : decode cX9_shift 71 = .ok (.iload_n 2, 1) := by decide +kernel
theorem dX9_shift_72 : decode cX9_shift 72 = .ok (.aload_n 0, 1) := by decide +kernel
theorem dX9_shift_73 : decode cX9_shift 73 = .ok (.getfield 238, 3) := by decide +kernel
theorem dX9_shift_76 : decode cX9_shift 76 = .ok (.iload_n 1, 1) := by decide +kernel
theorem dX9_shift_77 : decode cX9_shift 77 = .ok (.iaload, 1) := by decide +kernel
theorem dX9_shift_78 : decode cX9_shift 78 = .ok (.iload 5, 2) := by decide +kernel
theorem dX9_shift_80 : decode cX9_shift 80 = .ok (.isub, 1) := by decide +kernel
theorem dX9_shift_81 : decode cX9_shift 81 = .ok (.if_icmp .gt 17, 3) := by decide +kernel
theorem dX9_shift_84 : decode cX9_shift 84 = .ok (.iload 4, 2) := by decide +kernel
theorem dX9_shift_86 : decode cX9_shift 86 = .ok (.aload_n 0, 1) := by decide +kernel
theorem dX9_shift_87 : decode cX9_shift 87 = .ok (.getfield 238, 3) := by decide +kernel
theorem dX9_shift_90 : decode cX9_shift 90 = .ok (.iload_n 3, 1) := by decide +kernel
theorem dX9_shift_91 : decode cX9_shift 91 = .ok (.iaload, 1) := by decide +kernel
theorem dX9_shift_92 : decode cX9_shift 92 = .ok (.iload 5, 2) := by decide +kernel
theorem dX9_shift_94 : decode cX9_shift 94 = .ok (.isub, 1) := by decide +kernel
theorem dX9_shift_95 : decode cX9_shift 95 = .ok (.if_icmp .le 6, 3) := by decide +kernel
theorem dX9_shift_98 : decode cX9_shift 98 = .ok (.bipush (-13), 2) := by decide +kernel
theorem dX9_shift_100 : decode cX9_shift 100 = .ok (.ireturn, 1) := by decide +kernel
theorem dX9_shift_101 : decode cX9_shift 101 = .ok (.iconst 0, 1) := by decide +kernel
theorem dX9_shift_102 : decode cX9_shift 102 = .ok (.istore 6, 2) := by decide +kernel
theorem dX9_shift_104 : decode cX9_shift 104 = .ok (.iload 6, 2) := by decide +kernel
theorem dX9_shift_106 : decode cX9_shift 106 = .ok (.iload 5, 2) := by decide +kernel
theorem dX9_shift_108 : decode cX9_shift 108 = .ok (.if_icmp .ge 30, 3) := by decide +kernel
theorem dX9_shift_111 : decode cX9_shift 111 = .ok (.aload_n 0, 1) := by decide +kernel
theorem dX9_shift_112 : decode cX9_shift 112 = .ok (.getfield 245, 3) := by decide +kernel
theorem dX9_shift_115 : decode cX9_shift 115 = .ok (.iload 6, 2) := by decide +kernel
theorem dX9_shift_117 : decode cX9_shift 117 = .ok (.aload_n 0, 1) := by decide +kernel
theorem dX9_shift_118 : decode cX9_shift 118 = .ok (.getfield 241, 3) := by decide +kernel
theorem dX9_shift_121 : decode cX9_shift 121 = .ok (.bipush 60, 2) := by decide +kernel
theorem dX9_shift_123 : decode cX9_shift 123 = .ok (.iload_n 1, 1) := by decide +kernel
theorem dX9_shift_124 : decode cX9_shift 124 = .ok (.imul, 1) := by decide +kernel
theorem dX9_shift_125 : decode cX9_shift 125 = .ok (.iload_n 2, 1) := by decide +kernel
theorem dX9_shift_126 : decode cX9_shift 126 = .ok (.iadd, 1) := by decide +kernel
theorem dX9_shift_127 : decode cX9_shift 127 = .ok (.iload 6, 2) := by decide +kernel
theorem dX9_shift_129 : decode cX9_shift 129 = .ok (.iadd, 1) := by decide +kernel
theorem dX9_shift_130 : decode cX9_shift 130 = .ok (.laload, 1) := by decide +kernel
theorem dX9_shift_131 : decode cX9_shift 131 = .ok (.lastore, 1) := by decide +kernel
theorem dX9_shift_132 : decode cX9_shift 132 = .ok (.iinc 6 1, 3) := by decide +kernel
theorem dX9_shift_135 : decode cX9_shift 135 = .ok (.goto (-31), 3) := by decide +kernel
theorem dX9_shift_138 : decode cX9_shift 138 = .ok (.iconst 0, 1) := by decide +kernel
theorem dX9_shift_139 : decode cX9_shift 139 = .ok (.istore 6, 2) := by decide +kernel
theorem dX9_shift_141 : decode cX9_shift 141 = .ok (.iload 6, 2) := by decide +kernel
theorem dX9_shift_143 : decode cX9_shift 143 = .ok (.iload 5, 2) := by decide +kernel
theorem dX9_shift_145 : decode cX9_shift 145 = .ok (.if_icmp .ge 31, 3) := by decide +kernel
theorem dX9_shift_148 : decode cX9_shift 148 = .ok (.aload_n 0, 1) := by decide +kernel
theorem dX9_shift_149 : decode cX9_shift 149 = .ok (.getfield 241, 3) := by decide +kernel
theorem dX9_shift_152 : decode cX9_shift 152 = .ok (.bipush 60, 2) := by decide +kernel
theorem dX9_shift_154 : decode cX9_shift 154 = .ok (.iload_n 3, 1) := by decide +kernel
theorem dX9_shift_155 : decode cX9_shift 155 = .ok (.imul, 1) := by decide +kernel
theorem dX9_shift_156 : decode cX9_shift 156 = .ok (.iload 4, 2) := by decide +kernel
theorem dX9_shift_158 : decode cX9_shift 158 = .ok (.iadd, 1) := by decide +kernel
theorem dX9_shift_159 : decode cX9_shift 159 = .ok (.iload 6, 2) := by decide +kernel
theorem dX9_shift_161 : decode cX9_shift 161 = .ok (.iadd, 1) := by decide +kernel
theorem dX9_shift_162 : decode cX9_shift 162 = .ok (.aload_n 0, 1) := by decide +kernel
theorem dX9_shift_163 : decode cX9_shift 163 = .ok (.getfield 245, 3) := by decide +kernel
theorem dX9_shift_166 : decode cX9_shift 166 = .ok (.iload 6, 2) := by decide +kernel
theorem dX9_shift_168 : decode cX9_shift 168 = .ok (.laload, 1) := by decide +kernel
theorem dX9_shift_169 : decode cX9_shift 169 = .ok (.lastore, 1) := by decide +kernel
theorem dX9_shift_170 : decode cX9_shift 170 = .ok (.iinc 6 1, 3) := by decide +kernel
theorem dX9_shift_173 : decode cX9_shift 173 = .ok (.goto (-32), 3) := by decide +kernel
theorem dX9_shift_176 : decode cX9_shift 176 = .ok (.iload 5, 2) := by decide +kernel
theorem dX9_shift_178 : decode cX9_shift 178 = .ok (.ireturn, 1) := by decide +kernel
end
