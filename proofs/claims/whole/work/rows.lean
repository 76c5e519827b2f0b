section
-- ===== PART A: goes FIRST, ahead of the names: the tables' words, and 'selects' of the private methods out of them =====
/-- a private method of a class that the tables say can be made, by its rows of tables_1 -/
def lw_okq (q : MethodName × Nat) : Prop := (q.1.cls ≠ "java/lang/invoke/MethodHandle" ∧ q.1.cls ≠ "java/lang/invoke/VarHandle") ∧ Cond.instantiable q.1.cls q.2 ∈ tables_1 ∧ Cond.privateMethod q.1 ∈ tables_1 ∧ Cond.instanceMethod q.1 ∈ tables_1
theorem lw_p0 : lw_okq (⟨"StruckWhile$Town", "setLetters", "(II)V"⟩, 15) := ⟨⟨by decide +kernel, by decide +kernel⟩, List.mem_of_getElem? (i := 34) (by decide +kernel), List.mem_of_getElem? (i := 336) (by decide +kernel), List.mem_of_getElem? (i := 337) (by decide +kernel)⟩
theorem lw_p1 : lw_okq (⟨"StruckWhile$Reader", "readsClause", "()Z"⟩, 4) := ⟨⟨by decide +kernel, by decide +kernel⟩, List.mem_of_getElem? (i := 181) (by decide +kernel), List.mem_of_getElem? (i := 440) (by decide +kernel), List.mem_of_getElem? (i := 441) (by decide +kernel)⟩
theorem lw_p2 : lw_okq (⟨"StruckWhile$Reader", "sees", "(C)Z"⟩, 4) := ⟨⟨by decide +kernel, by decide +kernel⟩, List.mem_of_getElem? (i := 181) (by decide +kernel), List.mem_of_getElem? (i := 444) (by decide +kernel), List.mem_of_getElem? (i := 445) (by decide +kernel)⟩
theorem lw_p3 : lw_okq (⟨"StruckWhile$Reader", "takesWord", "(Ljava/lang/String;)Z"⟩, 4) := ⟨⟨by decide +kernel, by decide +kernel⟩, List.mem_of_getElem? (i := 181) (by decide +kernel), List.mem_of_getElem? (i := 449) (by decide +kernel), List.mem_of_getElem? (i := 450) (by decide +kernel)⟩
theorem lw_p4 : lw_okq (⟨"StruckWhile$Reader", "takes", "(C)Z"⟩, 4) := ⟨⟨by decide +kernel, by decide +kernel⟩, List.mem_of_getElem? (i := 181) (by decide +kernel), List.mem_of_getElem? (i := 501) (by decide +kernel), List.mem_of_getElem? (i := 502) (by decide +kernel)⟩
theorem lw_p5 : lw_okq (⟨"StruckWhile$Reader", "readsHeat", "(I)Z"⟩, 4) := ⟨⟨by decide +kernel, by decide +kernel⟩, List.mem_of_getElem? (i := 181) (by decide +kernel), List.mem_of_getElem? (i := 505) (by decide +kernel), List.mem_of_getElem? (i := 506) (by decide +kernel)⟩
theorem lw_p6 : lw_okq (⟨"StruckWhile$Reader", "takeNumber", "()I"⟩, 4) := ⟨⟨by decide +kernel, by decide +kernel⟩, List.mem_of_getElem? (i := 181) (by decide +kernel), List.mem_of_getElem? (i := 509) (by decide +kernel), List.mem_of_getElem? (i := 510) (by decide +kernel)⟩
theorem lw_p7 : lw_okq (⟨"StruckWhile$Reader", "readsEither", "(I)Z"⟩, 4) := ⟨⟨by decide +kernel, by decide +kernel⟩, List.mem_of_getElem? (i := 181) (by decide +kernel), List.mem_of_getElem? (i := 514) (by decide +kernel), List.mem_of_getElem? (i := 515) (by decide +kernel)⟩
theorem lw_p8 : lw_okq (⟨"StruckWhile$Reader", "readsBoth", "(I)Z"⟩, 4) := ⟨⟨by decide +kernel, by decide +kernel⟩, List.mem_of_getElem? (i := 181) (by decide +kernel), List.mem_of_getElem? (i := 518) (by decide +kernel), List.mem_of_getElem? (i := 519) (by decide +kernel)⟩
theorem lw_p9 : lw_okq (⟨"StruckWhile$Reader", "readsFactor", "(I)Z"⟩, 4) := ⟨⟨by decide +kernel, by decide +kernel⟩, List.mem_of_getElem? (i := 181) (by decide +kernel), List.mem_of_getElem? (i := 522) (by decide +kernel), List.mem_of_getElem? (i := 523) (by decide +kernel)⟩
theorem lw_p10 : lw_okq (⟨"StruckWhile$Reader", "readsTest", "()Z"⟩, 4) := ⟨⟨by decide +kernel, by decide +kernel⟩, List.mem_of_getElem? (i := 181) (by decide +kernel), List.mem_of_getElem? (i := 526) (by decide +kernel), List.mem_of_getElem? (i := 527) (by decide +kernel)⟩
theorem lw_p11 : lw_okq (⟨"StruckWhile$Reader", "takeOneOf", "(Ljava/lang/String;)I"⟩, 4) := ⟨⟨by decide +kernel, by decide +kernel⟩, List.mem_of_getElem? (i := 181) (by decide +kernel), List.mem_of_getElem? (i := 531) (by decide +kernel), List.mem_of_getElem? (i := 532) (by decide +kernel)⟩
theorem lw_p12 : lw_okq (⟨"StruckWhile$Ahead", "setRow", "(II)V"⟩, 6) := ⟨⟨by decide +kernel, by decide +kernel⟩, List.mem_of_getElem? (i := 153) (by decide +kernel), List.mem_of_getElem? (i := 653) (by decide +kernel), List.mem_of_getElem? (i := 654) (by decide +kernel)⟩
theorem lw_p13 : lw_okq (⟨"StruckWhile$Ahead", "countDoneInTime", "(II)I"⟩, 6) := ⟨⟨by decide +kernel, by decide +kernel⟩, List.mem_of_getElem? (i := 153) (by decide +kernel), List.mem_of_getElem? (i := 657) (by decide +kernel), List.mem_of_getElem? (i := 658) (by decide +kernel)⟩
theorem lw_p14 : lw_okq (⟨"StruckWhile$Ahead", "firstUndone", "(II)I"⟩, 6) := ⟨⟨by decide +kernel, by decide +kernel⟩, List.mem_of_getElem? (i := 153) (by decide +kernel), List.mem_of_getElem? (i := 668) (by decide +kernel), List.mem_of_getElem? (i := 669) (by decide +kernel)⟩
theorem lw_p15 : lw_okq (⟨"StruckWhile$Ahead", "warm", "(II)V"⟩, 6) := ⟨⟨by decide +kernel, by decide +kernel⟩, List.mem_of_getElem? (i := 153) (by decide +kernel), List.mem_of_getElem? (i := 686) (by decide +kernel), List.mem_of_getElem? (i := 687) (by decide +kernel)⟩
def lw_privs_1 : List (MethodName × Nat) := [(⟨"StruckWhile$Town", "setLetters", "(II)V"⟩, 15), (⟨"StruckWhile$Reader", "readsClause", "()Z"⟩, 4), (⟨"StruckWhile$Reader", "sees", "(C)Z"⟩, 4), (⟨"StruckWhile$Reader", "takesWord", "(Ljava/lang/String;)Z"⟩, 4), (⟨"StruckWhile$Reader", "takes", "(C)Z"⟩, 4), (⟨"StruckWhile$Reader", "readsHeat", "(I)Z"⟩, 4), (⟨"StruckWhile$Reader", "takeNumber", "()I"⟩, 4), (⟨"StruckWhile$Reader", "readsEither", "(I)Z"⟩, 4), (⟨"StruckWhile$Reader", "readsBoth", "(I)Z"⟩, 4), (⟨"StruckWhile$Reader", "readsFactor", "(I)Z"⟩, 4), (⟨"StruckWhile$Reader", "readsTest", "()Z"⟩, 4), (⟨"StruckWhile$Reader", "takeOneOf", "(Ljava/lang/String;)I"⟩, 4), (⟨"StruckWhile$Ahead", "setRow", "(II)V"⟩, 6), (⟨"StruckWhile$Ahead", "countDoneInTime", "(II)I"⟩, 6), (⟨"StruckWhile$Ahead", "firstUndone", "(II)I"⟩, 6), (⟨"StruckWhile$Ahead", "warm", "(II)V"⟩, 6)]
theorem lw_r1 : ∀ q ∈ lw_privs_1, lw_okq q := List.forall_mem_cons.mpr ⟨lw_p0, List.forall_mem_cons.mpr ⟨lw_p1, List.forall_mem_cons.mpr ⟨lw_p2, List.forall_mem_cons.mpr ⟨lw_p3, List.forall_mem_cons.mpr ⟨lw_p4, List.forall_mem_cons.mpr ⟨lw_p5, List.forall_mem_cons.mpr ⟨lw_p6, List.forall_mem_cons.mpr ⟨lw_p7, List.forall_mem_cons.mpr ⟨lw_p8, List.forall_mem_cons.mpr ⟨lw_p9, List.forall_mem_cons.mpr ⟨lw_p10, List.forall_mem_cons.mpr ⟨lw_p11, List.forall_mem_cons.mpr ⟨lw_p12, List.forall_mem_cons.mpr ⟨lw_p13, List.forall_mem_cons.mpr ⟨lw_p14, List.forall_mem_cons.mpr ⟨lw_p15, fun _ h => absurd h List.not_mem_nil⟩⟩⟩⟩⟩⟩⟩⟩⟩⟩⟩⟩⟩⟩⟩⟩
theorem lw_p16 : lw_okq (⟨"StruckWhile$Ahead", "isAllSeenSo", "()Z"⟩, 6) := ⟨⟨by decide +kernel, by decide +kernel⟩, List.mem_of_getElem? (i := 153) (by decide +kernel), List.mem_of_getElem? (i := 717) (by decide +kernel), List.mem_of_getElem? (i := 718) (by decide +kernel)⟩
theorem lw_p17 : lw_okq (⟨"StruckWhile$Ahead", "goPlanned", "(II)V"⟩, 6) := ⟨⟨by decide +kernel, by decide +kernel⟩, List.mem_of_getElem? (i := 153) (by decide +kernel), List.mem_of_getElem? (i := 758) (by decide +kernel), List.mem_of_getElem? (i := 759) (by decide +kernel)⟩
theorem lw_p18 : lw_okq (⟨"StruckWhile$Acts", "run", "(IIII)I"⟩, 5) := ⟨⟨by decide +kernel, by decide +kernel⟩, List.mem_of_getElem? (i := 205) (by decide +kernel), List.mem_of_getElem? (i := 808) (by decide +kernel), List.mem_of_getElem? (i := 809) (by decide +kernel)⟩
theorem lw_p19 : lw_okq (⟨"StruckWhile$Acts", "note", "(I)V"⟩, 5) := ⟨⟨by decide +kernel, by decide +kernel⟩, List.mem_of_getElem? (i := 205) (by decide +kernel), List.mem_of_getElem? (i := 820) (by decide +kernel), List.mem_of_getElem? (i := 821) (by decide +kernel)⟩
theorem lw_p20 : lw_okq (⟨"StruckWhileModel", "in", "(III)Z"⟩, 78) := ⟨⟨by decide +kernel, by decide +kernel⟩, List.mem_of_getElem? (i := 873) (by decide +kernel), List.mem_of_getElem? (i := 1118) (by decide +kernel), List.mem_of_getElem? (i := 1119) (by decide +kernel)⟩
theorem lw_p21 : lw_okq (⟨"StruckWhileModel", "isHeat", "(I)Z"⟩, 78) := ⟨⟨by decide +kernel, by decide +kernel⟩, List.mem_of_getElem? (i := 873) (by decide +kernel), List.mem_of_getElem? (i := 1122) (by decide +kernel), List.mem_of_getElem? (i := 1123) (by decide +kernel)⟩
theorem lw_p22 : lw_okq (⟨"StruckWhileModel", "isOne", "(I)Z"⟩, 78) := ⟨⟨by decide +kernel, by decide +kernel⟩, List.mem_of_getElem? (i := 873) (by decide +kernel), List.mem_of_getElem? (i := 1130) (by decide +kernel), List.mem_of_getElem? (i := 1131) (by decide +kernel)⟩
theorem lw_p23 : lw_okq (⟨"StruckWhileModel", "has", "(II)Z"⟩, 78) := ⟨⟨by decide +kernel, by decide +kernel⟩, List.mem_of_getElem? (i := 873) (by decide +kernel), List.mem_of_getElem? (i := 1138) (by decide +kernel), List.mem_of_getElem? (i := 1139) (by decide +kernel)⟩
theorem lw_p24 : lw_okq (⟨"StruckWhileModel", "goes", "(IZ)V"⟩, 78) := ⟨⟨by decide +kernel, by decide +kernel⟩, List.mem_of_getElem? (i := 873) (by decide +kernel), List.mem_of_getElem? (i := 1142) (by decide +kernel), List.mem_of_getElem? (i := 1143) (by decide +kernel)⟩
theorem lw_p25 : lw_okq (⟨"StruckWhileModel", "isWork", "(I)Z"⟩, 78) := ⟨⟨by decide +kernel, by decide +kernel⟩, List.mem_of_getElem? (i := 873) (by decide +kernel), List.mem_of_getElem? (i := 1154) (by decide +kernel), List.mem_of_getElem? (i := 1155) (by decide +kernel)⟩
theorem lw_p26 : lw_okq (⟨"StruckWhileModel", "goesText", "(I)Z"⟩, 78) := ⟨⟨by decide +kernel, by decide +kernel⟩, List.mem_of_getElem? (i := 873) (by decide +kernel), List.mem_of_getElem? (i := 1170) (by decide +kernel), List.mem_of_getElem? (i := 1171) (by decide +kernel)⟩
theorem lw_p27 : lw_okq (⟨"StruckWhileModel", "takesClause", "(I)Z"⟩, 78) := ⟨⟨by decide +kernel, by decide +kernel⟩, List.mem_of_getElem? (i := 873) (by decide +kernel), List.mem_of_getElem? (i := 1174) (by decide +kernel), List.mem_of_getElem? (i := 1175) (by decide +kernel)⟩
theorem lw_p28 : lw_okq (⟨"StruckWhileModel", "takesHead", "(I)Z"⟩, 78) := ⟨⟨by decide +kernel, by decide +kernel⟩, List.mem_of_getElem? (i := 873) (by decide +kernel), List.mem_of_getElem? (i := 1178) (by decide +kernel), List.mem_of_getElem? (i := 1179) (by decide +kernel)⟩
theorem lw_p29 : lw_okq (⟨"StruckWhileModel", "next", "()I"⟩, 78) := ⟨⟨by decide +kernel, by decide +kernel⟩, List.mem_of_getElem? (i := 873) (by decide +kernel), List.mem_of_getElem? (i := 1182) (by decide +kernel), List.mem_of_getElem? (i := 1183) (by decide +kernel)⟩
theorem lw_p30 : lw_okq (⟨"StruckWhileModel", "takesWord", "(II)Z"⟩, 78) := ⟨⟨by decide +kernel, by decide +kernel⟩, List.mem_of_getElem? (i := 873) (by decide +kernel), List.mem_of_getElem? (i := 1186) (by decide +kernel), List.mem_of_getElem? (i := 1187) (by decide +kernel)⟩
theorem lw_p31 : lw_okq (⟨"StruckWhileModel", "takes", "(I)Z"⟩, 78) := ⟨⟨by decide +kernel, by decide +kernel⟩, List.mem_of_getElem? (i := 873) (by decide +kernel), List.mem_of_getElem? (i := 1190) (by decide +kernel), List.mem_of_getElem? (i := 1191) (by decide +kernel)⟩
def lw_privs_2 : List (MethodName × Nat) := [(⟨"StruckWhile$Ahead", "isAllSeenSo", "()Z"⟩, 6), (⟨"StruckWhile$Ahead", "goPlanned", "(II)V"⟩, 6), (⟨"StruckWhile$Acts", "run", "(IIII)I"⟩, 5), (⟨"StruckWhile$Acts", "note", "(I)V"⟩, 5), (⟨"StruckWhileModel", "in", "(III)Z"⟩, 78), (⟨"StruckWhileModel", "isHeat", "(I)Z"⟩, 78), (⟨"StruckWhileModel", "isOne", "(I)Z"⟩, 78), (⟨"StruckWhileModel", "has", "(II)Z"⟩, 78), (⟨"StruckWhileModel", "goes", "(IZ)V"⟩, 78), (⟨"StruckWhileModel", "isWork", "(I)Z"⟩, 78), (⟨"StruckWhileModel", "goesText", "(I)Z"⟩, 78), (⟨"StruckWhileModel", "takesClause", "(I)Z"⟩, 78), (⟨"StruckWhileModel", "takesHead", "(I)Z"⟩, 78), (⟨"StruckWhileModel", "next", "()I"⟩, 78), (⟨"StruckWhileModel", "takesWord", "(II)Z"⟩, 78), (⟨"StruckWhileModel", "takes", "(I)Z"⟩, 78)]
theorem lw_r2 : ∀ q ∈ lw_privs_2, lw_okq q := List.forall_mem_cons.mpr ⟨lw_p16, List.forall_mem_cons.mpr ⟨lw_p17, List.forall_mem_cons.mpr ⟨lw_p18, List.forall_mem_cons.mpr ⟨lw_p19, List.forall_mem_cons.mpr ⟨lw_p20, List.forall_mem_cons.mpr ⟨lw_p21, List.forall_mem_cons.mpr ⟨lw_p22, List.forall_mem_cons.mpr ⟨lw_p23, List.forall_mem_cons.mpr ⟨lw_p24, List.forall_mem_cons.mpr ⟨lw_p25, List.forall_mem_cons.mpr ⟨lw_p26, List.forall_mem_cons.mpr ⟨lw_p27, List.forall_mem_cons.mpr ⟨lw_p28, List.forall_mem_cons.mpr ⟨lw_p29, List.forall_mem_cons.mpr ⟨lw_p30, List.forall_mem_cons.mpr ⟨lw_p31, fun _ h => absurd h List.not_mem_nil⟩⟩⟩⟩⟩⟩⟩⟩⟩⟩⟩⟩⟩⟩⟩⟩
theorem lw_p32 : lw_okq (⟨"StruckWhileModel", "takesNumber", "()Z"⟩, 78) := ⟨⟨by decide +kernel, by decide +kernel⟩, List.mem_of_getElem? (i := 873) (by decide +kernel), List.mem_of_getElem? (i := 1194) (by decide +kernel), List.mem_of_getElem? (i := 1195) (by decide +kernel)⟩
theorem lw_p33 : lw_okq (⟨"StruckWhileModel", "isDigit", "()Z"⟩, 78) := ⟨⟨by decide +kernel, by decide +kernel⟩, List.mem_of_getElem? (i := 873) (by decide +kernel), List.mem_of_getElem? (i := 1198) (by decide +kernel), List.mem_of_getElem? (i := 1199) (by decide +kernel)⟩
theorem lw_p34 : lw_okq (⟨"StruckWhileModel", "takesE", "(I)Z"⟩, 78) := ⟨⟨by decide +kernel, by decide +kernel⟩, List.mem_of_getElem? (i := 873) (by decide +kernel), List.mem_of_getElem? (i := 1202) (by decide +kernel), List.mem_of_getElem? (i := 1203) (by decide +kernel)⟩
theorem lw_p35 : lw_okq (⟨"StruckWhileModel", "takesTest", "()Z"⟩, 78) := ⟨⟨by decide +kernel, by decide +kernel⟩, List.mem_of_getElem? (i := 873) (by decide +kernel), List.mem_of_getElem? (i := 1206) (by decide +kernel), List.mem_of_getElem? (i := 1207) (by decide +kernel)⟩
theorem lw_p36 : lw_okq (⟨"StruckWhileModel", "place", "(I)I"⟩, 78) := ⟨⟨by decide +kernel, by decide +kernel⟩, List.mem_of_getElem? (i := 873) (by decide +kernel), List.mem_of_getElem? (i := 1210) (by decide +kernel), List.mem_of_getElem? (i := 1211) (by decide +kernel)⟩
theorem lw_p37 : lw_okq (⟨"StruckWhileModel", "emits", "(I)V"⟩, 78) := ⟨⟨by decide +kernel, by decide +kernel⟩, List.mem_of_getElem? (i := 873) (by decide +kernel), List.mem_of_getElem? (i := 1214) (by decide +kernel), List.mem_of_getElem? (i := 1215) (by decide +kernel)⟩
theorem lw_p38 : lw_okq (⟨"StruckWhileModel", "whole", "()V"⟩, 78) := ⟨⟨by decide +kernel, by decide +kernel⟩, List.mem_of_getElem? (i := 873) (by decide +kernel), List.mem_of_getElem? (i := 1218) (by decide +kernel), List.mem_of_getElem? (i := 1219) (by decide +kernel)⟩
theorem lw_p39 : lw_okq (⟨"StruckWhileModel", "settle", "(I)V"⟩, 78) := ⟨⟨by decide +kernel, by decide +kernel⟩, List.mem_of_getElem? (i := 873) (by decide +kernel), List.mem_of_getElem? (i := 1222) (by decide +kernel), List.mem_of_getElem? (i := 1223) (by decide +kernel)⟩
theorem lw_p40 : lw_okq (⟨"StruckWhileModel", "rise", "(I)I"⟩, 78) := ⟨⟨by decide +kernel, by decide +kernel⟩, List.mem_of_getElem? (i := 873) (by decide +kernel), List.mem_of_getElem? (i := 1230) (by decide +kernel), List.mem_of_getElem? (i := 1231) (by decide +kernel)⟩
theorem lw_p41 : lw_okq (⟨"StruckWhileModel", "sum", "(I)I"⟩, 78) := ⟨⟨by decide +kernel, by decide +kernel⟩, List.mem_of_getElem? (i := 873) (by decide +kernel), List.mem_of_getElem? (i := 1234) (by decide +kernel), List.mem_of_getElem? (i := 1235) (by decide +kernel)⟩
theorem lw_p42 : lw_okq (⟨"StruckWhileModel", "begin", "()I"⟩, 78) := ⟨⟨by decide +kernel, by decide +kernel⟩, List.mem_of_getElem? (i := 873) (by decide +kernel), List.mem_of_getElem? (i := 1238) (by decide +kernel), List.mem_of_getElem? (i := 1239) (by decide +kernel)⟩
theorem lw_p43 : lw_okq (⟨"StruckWhileModel", "behind", "()I"⟩, 78) := ⟨⟨by decide +kernel, by decide +kernel⟩, List.mem_of_getElem? (i := 873) (by decide +kernel), List.mem_of_getElem? (i := 1242) (by decide +kernel), List.mem_of_getElem? (i := 1243) (by decide +kernel)⟩
theorem lw_p44 : lw_okq (⟨"StruckWhileModel", "holds", "(II)Z"⟩, 78) := ⟨⟨by decide +kernel, by decide +kernel⟩, List.mem_of_getElem? (i := 873) (by decide +kernel), List.mem_of_getElem? (i := 1246) (by decide +kernel), List.mem_of_getElem? (i := 1247) (by decide +kernel)⟩
theorem lw_p45 : lw_okq (⟨"StruckWhileModel", "factOf", "(II)I"⟩, 78) := ⟨⟨by decide +kernel, by decide +kernel⟩, List.mem_of_getElem? (i := 873) (by decide +kernel), List.mem_of_getElem? (i := 1250) (by decide +kernel), List.mem_of_getElem? (i := 1251) (by decide +kernel)⟩
theorem lw_p46 : lw_okq (⟨"StruckWhileModel", "beside", "(II)I"⟩, 78) := ⟨⟨by decide +kernel, by decide +kernel⟩, List.mem_of_getElem? (i := 873) (by decide +kernel), List.mem_of_getElem? (i := 1254) (by decide +kernel), List.mem_of_getElem? (i := 1255) (by decide +kernel)⟩
theorem lw_p47 : lw_okq (⟨"StruckWhileModel", "spark", "()I"⟩, 78) := ⟨⟨by decide +kernel, by decide +kernel⟩, List.mem_of_getElem? (i := 873) (by decide +kernel), List.mem_of_getElem? (i := 1262) (by decide +kernel), List.mem_of_getElem? (i := 1263) (by decide +kernel)⟩
def lw_privs_3 : List (MethodName × Nat) := [(⟨"StruckWhileModel", "takesNumber", "()Z"⟩, 78), (⟨"StruckWhileModel", "isDigit", "()Z"⟩, 78), (⟨"StruckWhileModel", "takesE", "(I)Z"⟩, 78), (⟨"StruckWhileModel", "takesTest", "()Z"⟩, 78), (⟨"StruckWhileModel", "place", "(I)I"⟩, 78), (⟨"StruckWhileModel", "emits", "(I)V"⟩, 78), (⟨"StruckWhileModel", "whole", "()V"⟩, 78), (⟨"StruckWhileModel", "settle", "(I)V"⟩, 78), (⟨"StruckWhileModel", "rise", "(I)I"⟩, 78), (⟨"StruckWhileModel", "sum", "(I)I"⟩, 78), (⟨"StruckWhileModel", "begin", "()I"⟩, 78), (⟨"StruckWhileModel", "behind", "()I"⟩, 78), (⟨"StruckWhileModel", "holds", "(II)Z"⟩, 78), (⟨"StruckWhileModel", "factOf", "(II)I"⟩, 78), (⟨"StruckWhileModel", "beside", "(II)I"⟩, 78), (⟨"StruckWhileModel", "spark", "()I"⟩, 78)]
theorem lw_r3 : ∀ q ∈ lw_privs_3, lw_okq q := List.forall_mem_cons.mpr ⟨lw_p32, List.forall_mem_cons.mpr ⟨lw_p33, List.forall_mem_cons.mpr ⟨lw_p34, List.forall_mem_cons.mpr ⟨lw_p35, List.forall_mem_cons.mpr ⟨lw_p36, List.forall_mem_cons.mpr ⟨lw_p37, List.forall_mem_cons.mpr ⟨lw_p38, List.forall_mem_cons.mpr ⟨lw_p39, List.forall_mem_cons.mpr ⟨lw_p40, List.forall_mem_cons.mpr ⟨lw_p41, List.forall_mem_cons.mpr ⟨lw_p42, List.forall_mem_cons.mpr ⟨lw_p43, List.forall_mem_cons.mpr ⟨lw_p44, List.forall_mem_cons.mpr ⟨lw_p45, List.forall_mem_cons.mpr ⟨lw_p46, List.forall_mem_cons.mpr ⟨lw_p47, fun _ h => absurd h List.not_mem_nil⟩⟩⟩⟩⟩⟩⟩⟩⟩⟩⟩⟩⟩⟩⟩⟩
theorem lw_p48 : lw_okq (⟨"StruckWhileModel", "doneSet", "()I"⟩, 78) := ⟨⟨by decide +kernel, by decide +kernel⟩, List.mem_of_getElem? (i := 873) (by decide +kernel), List.mem_of_getElem? (i := 1266) (by decide +kernel), List.mem_of_getElem? (i := 1267) (by decide +kernel)⟩
theorem lw_p49 : lw_okq (⟨"StruckWhileModel", "isDone", "(I)Z"⟩, 78) := ⟨⟨by decide +kernel, by decide +kernel⟩, List.mem_of_getElem? (i := 873) (by decide +kernel), List.mem_of_getElem? (i := 1270) (by decide +kernel), List.mem_of_getElem? (i := 1271) (by decide +kernel)⟩
theorem lw_p50 : lw_okq (⟨"StruckWhileModel", "hottest", "()I"⟩, 78) := ⟨⟨by decide +kernel, by decide +kernel⟩, List.mem_of_getElem? (i := 873) (by decide +kernel), List.mem_of_getElem? (i := 1274) (by decide +kernel), List.mem_of_getElem? (i := 1275) (by decide +kernel)⟩
theorem lw_p51 : lw_okq (⟨"StruckWhileModel", "allHeat", "()I"⟩, 78) := ⟨⟨by decide +kernel, by decide +kernel⟩, List.mem_of_getElem? (i := 873) (by decide +kernel), List.mem_of_getElem? (i := 1278) (by decide +kernel), List.mem_of_getElem? (i := 1279) (by decide +kernel)⟩
theorem lw_p52 : lw_okq (⟨"StruckWhileModel", "isMinutes", "(I)Z"⟩, 78) := ⟨⟨by decide +kernel, by decide +kernel⟩, List.mem_of_getElem? (i := 873) (by decide +kernel), List.mem_of_getElem? (i := 1286) (by decide +kernel), List.mem_of_getElem? (i := 1287) (by decide +kernel)⟩
theorem lw_p53 : lw_okq (⟨"StruckWhileModel", "goMinutes", "(I)V"⟩, 78) := ⟨⟨by decide +kernel, by decide +kernel⟩, List.mem_of_getElem? (i := 873) (by decide +kernel), List.mem_of_getElem? (i := 1290) (by decide +kernel), List.mem_of_getElem? (i := 1291) (by decide +kernel)⟩
theorem lw_p54 : lw_okq (⟨"StruckWhileModel", "goMinute", "()V"⟩, 78) := ⟨⟨by decide +kernel, by decide +kernel⟩, List.mem_of_getElem? (i := 873) (by decide +kernel), List.mem_of_getElem? (i := 1294) (by decide +kernel), List.mem_of_getElem? (i := 1295) (by decide +kernel)⟩
theorem lw_p55 : lw_okq (⟨"StruckWhileModel", "held", "(I)I"⟩, 78) := ⟨⟨by decide +kernel, by decide +kernel⟩, List.mem_of_getElem? (i := 873) (by decide +kernel), List.mem_of_getElem? (i := 1298) (by decide +kernel), List.mem_of_getElem? (i := 1299) (by decide +kernel)⟩
theorem lw_p56 : lw_okq (⟨"StruckWhileModel", "least", "(II)I"⟩, 78) := ⟨⟨by decide +kernel, by decide +kernel⟩, List.mem_of_getElem? (i := 873) (by decide +kernel), List.mem_of_getElem? (i := 1302) (by decide +kernel), List.mem_of_getElem? (i := 1303) (by decide +kernel)⟩
theorem lw_p57 : lw_okq (⟨"StruckWhileModel", "ready", "(I)I"⟩, 78) := ⟨⟨by decide +kernel, by decide +kernel⟩, List.mem_of_getElem? (i := 873) (by decide +kernel), List.mem_of_getElem? (i := 1310) (by decide +kernel), List.mem_of_getElem? (i := 1311) (by decide +kernel)⟩
theorem lw_p58 : lw_okq (⟨"StruckWhileModel", "save", "()V"⟩, 78) := ⟨⟨by decide +kernel, by decide +kernel⟩, List.mem_of_getElem? (i := 873) (by decide +kernel), List.mem_of_getElem? (i := 1314) (by decide +kernel), List.mem_of_getElem? (i := 1315) (by decide +kernel)⟩
theorem lw_p59 : lw_okq (⟨"StruckWhileModel", "putBack", "()V"⟩, 78) := ⟨⟨by decide +kernel, by decide +kernel⟩, List.mem_of_getElem? (i := 873) (by decide +kernel), List.mem_of_getElem? (i := 1318) (by decide +kernel), List.mem_of_getElem? (i := 1319) (by decide +kernel)⟩
theorem lw_p60 : lw_okq (⟨"StruckWhileModel", "layLine", "(I)Z"⟩, 78) := ⟨⟨by decide +kernel, by decide +kernel⟩, List.mem_of_getElem? (i := 873) (by decide +kernel), List.mem_of_getElem? (i := 1330) (by decide +kernel), List.mem_of_getElem? (i := 1331) (by decide +kernel)⟩
theorem lw_p61 : lw_okq (⟨"StruckWhileModel", "doneInTime", "(I)I"⟩, 78) := ⟨⟨by decide +kernel, by decide +kernel⟩, List.mem_of_getElem? (i := 873) (by decide +kernel), List.mem_of_getElem? (i := 1334) (by decide +kernel), List.mem_of_getElem? (i := 1335) (by decide +kernel)⟩
theorem lw_p62 : lw_okq (⟨"StruckWhileModel", "firstOfLine", "()I"⟩, 78) := ⟨⟨by decide +kernel, by decide +kernel⟩, List.mem_of_getElem? (i := 873) (by decide +kernel), List.mem_of_getElem? (i := 1338) (by decide +kernel), List.mem_of_getElem? (i := 1339) (by decide +kernel)⟩
theorem lw_p63 : lw_okq (⟨"StruckWhileModel", "hottestIf", "(II)I"⟩, 78) := ⟨⟨by decide +kernel, by decide +kernel⟩, List.mem_of_getElem? (i := 873) (by decide +kernel), List.mem_of_getElem? (i := 1346) (by decide +kernel), List.mem_of_getElem? (i := 1347) (by decide +kernel)⟩
def lw_privs_4 : List (MethodName × Nat) := [(⟨"StruckWhileModel", "doneSet", "()I"⟩, 78), (⟨"StruckWhileModel", "isDone", "(I)Z"⟩, 78), (⟨"StruckWhileModel", "hottest", "()I"⟩, 78), (⟨"StruckWhileModel", "allHeat", "()I"⟩, 78), (⟨"StruckWhileModel", "isMinutes", "(I)Z"⟩, 78), (⟨"StruckWhileModel", "goMinutes", "(I)V"⟩, 78), (⟨"StruckWhileModel", "goMinute", "()V"⟩, 78), (⟨"StruckWhileModel", "held", "(I)I"⟩, 78), (⟨"StruckWhileModel", "least", "(II)I"⟩, 78), (⟨"StruckWhileModel", "ready", "(I)I"⟩, 78), (⟨"StruckWhileModel", "save", "()V"⟩, 78), (⟨"StruckWhileModel", "putBack", "()V"⟩, 78), (⟨"StruckWhileModel", "layLine", "(I)Z"⟩, 78), (⟨"StruckWhileModel", "doneInTime", "(I)I"⟩, 78), (⟨"StruckWhileModel", "firstOfLine", "()I"⟩, 78), (⟨"StruckWhileModel", "hottestIf", "(II)I"⟩, 78)]
theorem lw_r4 : ∀ q ∈ lw_privs_4, lw_okq q := List.forall_mem_cons.mpr ⟨lw_p48, List.forall_mem_cons.mpr ⟨lw_p49, List.forall_mem_cons.mpr ⟨lw_p50, List.forall_mem_cons.mpr ⟨lw_p51, List.forall_mem_cons.mpr ⟨lw_p52, List.forall_mem_cons.mpr ⟨lw_p53, List.forall_mem_cons.mpr ⟨lw_p54, List.forall_mem_cons.mpr ⟨lw_p55, List.forall_mem_cons.mpr ⟨lw_p56, List.forall_mem_cons.mpr ⟨lw_p57, List.forall_mem_cons.mpr ⟨lw_p58, List.forall_mem_cons.mpr ⟨lw_p59, List.forall_mem_cons.mpr ⟨lw_p60, List.forall_mem_cons.mpr ⟨lw_p61, List.forall_mem_cons.mpr ⟨lw_p62, List.forall_mem_cons.mpr ⟨lw_p63, fun _ h => absurd h List.not_mem_nil⟩⟩⟩⟩⟩⟩⟩⟩⟩⟩⟩⟩⟩⟩⟩⟩
theorem lw_p64 : lw_okq (⟨"StruckWhileModel", "heats", "(II)I"⟩, 78) := ⟨⟨by decide +kernel, by decide +kernel⟩, List.mem_of_getElem? (i := 873) (by decide +kernel), List.mem_of_getElem? (i := 1358) (by decide +kernel), List.mem_of_getElem? (i := 1359) (by decide +kernel)⟩
theorem lw_p65 : lw_okq (⟨"StruckWhileModel", "isSeen", "()Z"⟩, 78) := ⟨⟨by decide +kernel, by decide +kernel⟩, List.mem_of_getElem? (i := 873) (by decide +kernel), List.mem_of_getElem? (i := 1362) (by decide +kernel), List.mem_of_getElem? (i := 1363) (by decide +kernel)⟩
theorem lw_p66 : lw_okq (⟨"StruckWhileModel", "canBe", "(II)I"⟩, 78) := ⟨⟨by decide +kernel, by decide +kernel⟩, List.mem_of_getElem? (i := 873) (by decide +kernel), List.mem_of_getElem? (i := 1366) (by decide +kernel), List.mem_of_getElem? (i := 1367) (by decide +kernel)⟩
theorem lw_p67 : lw_okq (⟨"StruckWhileModel", "isHotIf", "(III)Z"⟩, 78) := ⟨⟨by decide +kernel, by decide +kernel⟩, List.mem_of_getElem? (i := 873) (by decide +kernel), List.mem_of_getElem? (i := 1375) (by decide +kernel), List.mem_of_getElem? (i := 1376) (by decide +kernel)⟩
theorem lw_p68 : lw_okq (⟨"StruckWhileModel", "lowest", "(III)J"⟩, 78) := ⟨⟨by decide +kernel, by decide +kernel⟩, List.mem_of_getElem? (i := 873) (by decide +kernel), List.mem_of_getElem? (i := 1379) (by decide +kernel), List.mem_of_getElem? (i := 1380) (by decide +kernel)⟩
theorem lw_p69 : lw_okq (⟨"StruckWhileModel", "divisor", "(II)I"⟩, 78) := ⟨⟨by decide +kernel, by decide +kernel⟩, List.mem_of_getElem? (i := 873) (by decide +kernel), List.mem_of_getElem? (i := 1383) (by decide +kernel), List.mem_of_getElem? (i := 1384) (by decide +kernel)⟩
theorem lw_p70 : lw_okq (⟨"StruckWhileModel", "goPlan", "(II)V"⟩, 78) := ⟨⟨by decide +kernel, by decide +kernel⟩, List.mem_of_getElem? (i := 873) (by decide +kernel), List.mem_of_getElem? (i := 1399) (by decide +kernel), List.mem_of_getElem? (i := 1400) (by decide +kernel)⟩
theorem lw_p71 : lw_okq (⟨"StruckWhileModel", "isTape", "(I)Z"⟩, 78) := ⟨⟨by decide +kernel, by decide +kernel⟩, List.mem_of_getElem? (i := 873) (by decide +kernel), List.mem_of_getElem? (i := 1415) (by decide +kernel), List.mem_of_getElem? (i := 1416) (by decide +kernel)⟩
theorem lw_p72 : lw_okq (⟨"StruckWhileModel", "glowsAct", "(II)I"⟩, 78) := ⟨⟨by decide +kernel, by decide +kernel⟩, List.mem_of_getElem? (i := 873) (by decide +kernel), List.mem_of_getElem? (i := 1431) (by decide +kernel), List.mem_of_getElem? (i := 1432) (by decide +kernel)⟩
theorem lw_p73 : lw_okq (⟨"StruckWhileModel", "body", "(I)V"⟩, 78) := ⟨⟨by decide +kernel, by decide +kernel⟩, List.mem_of_getElem? (i := 873) (by decide +kernel), List.mem_of_getElem? (i := 1435) (by decide +kernel), List.mem_of_getElem? (i := 1436) (by decide +kernel)⟩
theorem lw_p74 : lw_okq (⟨"StruckWhileModel", "oneGlows", "(II)I"⟩, 78) := ⟨⟨by decide +kernel, by decide +kernel⟩, List.mem_of_getElem? (i := 873) (by decide +kernel), List.mem_of_getElem? (i := 1439) (by decide +kernel), List.mem_of_getElem? (i := 1440) (by decide +kernel)⟩
theorem lw_p75 : lw_okq (⟨"StruckWhileModel", "ringsAct", "(II)I"⟩, 78) := ⟨⟨by decide +kernel, by decide +kernel⟩, List.mem_of_getElem? (i := 873) (by decide +kernel), List.mem_of_getElem? (i := 1443) (by decide +kernel), List.mem_of_getElem? (i := 1444) (by decide +kernel)⟩
theorem lw_p76 : lw_okq (⟨"StruckWhileModel", "bankerRings", "(II)I"⟩, 78) := ⟨⟨by decide +kernel, by decide +kernel⟩, List.mem_of_getElem? (i := 873) (by decide +kernel), List.mem_of_getElem? (i := 1447) (by decide +kernel), List.mem_of_getElem? (i := 1448) (by decide +kernel)⟩
theorem lw_p77 : lw_okq (⟨"StruckWhileModel", "oneRings", "(II)I"⟩, 78) := ⟨⟨by decide +kernel, by decide +kernel⟩, List.mem_of_getElem? (i := 873) (by decide +kernel), List.mem_of_getElem? (i := 1451) (by decide +kernel), List.mem_of_getElem? (i := 1452) (by decide +kernel)⟩
theorem lw_p78 : lw_okq (⟨"StruckWhileModel", "tellsAct", "(II)I"⟩, 78) := ⟨⟨by decide +kernel, by decide +kernel⟩, List.mem_of_getElem? (i := 873) (by decide +kernel), List.mem_of_getElem? (i := 1455) (by decide +kernel), List.mem_of_getElem? (i := 1456) (by decide +kernel)⟩
theorem lw_p79 : lw_okq (⟨"StruckWhileModel", "oneTells", "(II)I"⟩, 78) := ⟨⟨by decide +kernel, by decide +kernel⟩, List.mem_of_getElem? (i := 873) (by decide +kernel), List.mem_of_getElem? (i := 1459) (by decide +kernel), List.mem_of_getElem? (i := 1460) (by decide +kernel)⟩
def lw_privs_5 : List (MethodName × Nat) := [(⟨"StruckWhileModel", "heats", "(II)I"⟩, 78), (⟨"StruckWhileModel", "isSeen", "()Z"⟩, 78), (⟨"StruckWhileModel", "canBe", "(II)I"⟩, 78), (⟨"StruckWhileModel", "isHotIf", "(III)Z"⟩, 78), (⟨"StruckWhileModel", "lowest", "(III)J"⟩, 78), (⟨"StruckWhileModel", "divisor", "(II)I"⟩, 78), (⟨"StruckWhileModel", "goPlan", "(II)V"⟩, 78), (⟨"StruckWhileModel", "isTape", "(I)Z"⟩, 78), (⟨"StruckWhileModel", "glowsAct", "(II)I"⟩, 78), (⟨"StruckWhileModel", "body", "(I)V"⟩, 78), (⟨"StruckWhileModel", "oneGlows", "(II)I"⟩, 78), (⟨"StruckWhileModel", "ringsAct", "(II)I"⟩, 78), (⟨"StruckWhileModel", "bankerRings", "(II)I"⟩, 78), (⟨"StruckWhileModel", "oneRings", "(II)I"⟩, 78), (⟨"StruckWhileModel", "tellsAct", "(II)I"⟩, 78), (⟨"StruckWhileModel", "oneTells", "(II)I"⟩, 78)]
theorem lw_r5 : ∀ q ∈ lw_privs_5, lw_okq q := List.forall_mem_cons.mpr ⟨lw_p64, List.forall_mem_cons.mpr ⟨lw_p65, List.forall_mem_cons.mpr ⟨lw_p66, List.forall_mem_cons.mpr ⟨lw_p67, List.forall_mem_cons.mpr ⟨lw_p68, List.forall_mem_cons.mpr ⟨lw_p69, List.forall_mem_cons.mpr ⟨lw_p70, List.forall_mem_cons.mpr ⟨lw_p71, List.forall_mem_cons.mpr ⟨lw_p72, List.forall_mem_cons.mpr ⟨lw_p73, List.forall_mem_cons.mpr ⟨lw_p74, List.forall_mem_cons.mpr ⟨lw_p75, List.forall_mem_cons.mpr ⟨lw_p76, List.forall_mem_cons.mpr ⟨lw_p77, List.forall_mem_cons.mpr ⟨lw_p78, List.forall_mem_cons.mpr ⟨lw_p79, fun _ h => absurd h List.not_mem_nil⟩⟩⟩⟩⟩⟩⟩⟩⟩⟩⟩⟩⟩⟩⟩⟩
theorem lw_p80 : lw_okq (⟨"StruckWhileModel", "narrow", "(IJ)J"⟩, 78) := ⟨⟨by decide +kernel, by decide +kernel⟩, List.mem_of_getElem? (i := 873) (by decide +kernel), List.mem_of_getElem? (i := 1483) (by decide +kernel), List.mem_of_getElem? (i := 1484) (by decide +kernel)⟩
def lw_privs_6 : List (MethodName × Nat) := [(⟨"StruckWhileModel", "narrow", "(IJ)J"⟩, 78)]
theorem lw_r6 : ∀ q ∈ lw_privs_6, lw_okq q := List.forall_mem_cons.mpr ⟨lw_p80, fun _ h => absurd h List.not_mem_nil⟩
def lw_privs : List (MethodName × Nat) := lw_privs_1 ++ (lw_privs_2 ++ (lw_privs_3 ++ (lw_privs_4 ++ (lw_privs_5 ++ (lw_privs_6)))))
def lw_tbl : List Cond := k2_sels lw_privs ++ tables_1
theorem lw_privs_ok : ∀ q ∈ lw_privs, lw_okq q := by
  show ∀ q ∈ lw_privs_1 ++ (lw_privs_2 ++ (lw_privs_3 ++ (lw_privs_4 ++ (lw_privs_5 ++ (lw_privs_6))))), lw_okq q
  exact List.forall_mem_append.mpr ⟨lw_r1, List.forall_mem_append.mpr ⟨lw_r2, List.forall_mem_append.mpr ⟨lw_r3, List.forall_mem_append.mpr ⟨lw_r4, List.forall_mem_append.mpr ⟨lw_r5, lw_r6⟩⟩⟩⟩⟩
end
section
/-- words of one list among another's, by their places -/
theorem zmem_of {big : List Cond} (ws : List Cond) (ps : List Nat) (hp : ws = ps.filterMap (fun i => big[i]?)) : ∀ w ∈ ws, w ∈ big := by
  intro w hw
  rw [hp] at hw
  obtain ⟨i, -, hi⟩ := List.mem_filterMap.mp hw
  exact List.mem_of_getElem? hi
theorem zw_at {big : List Cond} (i : Nat) {w : Cond} (h : big[i]? = some w) : w ∈ big := List.mem_of_getElem? h
/-- the words that travel by themselves -/
def zTb : List Cond := lw_tbl.filter goodWord
theorem zt_at (i : Nat) {w : Cond} (h : lw_tbl[i]? = some w) (hg : goodWord w = true) : w ∈ zTb := List.mem_filter.mpr ⟨List.mem_of_getElem? h, hg⟩
theorem zt_in {w : Cond} (h : w ∈ zTb) : w ∈ lw_tbl := (List.mem_filter.mp h).1
theorem zt_good {w : Cond} (h : w ∈ zTb) : goodWord w = true := (List.mem_filter.mp h).2
/-- words of one list among the travelling ones, by their places -/
theorem zmem_tb (ws : List Cond) (ps : List Nat) (hp : ws = ps.filterMap (fun i => lw_tbl[i]?)) (hg : ws.all goodWord = true) : ∀ w ∈ ws, w ∈ zTb := fun w hw => List.mem_filter.mpr ⟨zmem_of ws ps hp w hw, List.all_eq_true.mp hg w hw⟩
def RX0 : String := "StruckWhile$Acts"
def TX0 : u_T := fun k => match k with
  | 0 => ("StruckWhile$Acts", "ran", "I", false)
  | 1 => ("StruckWhile$Acts", "traced", "[I", true)
  | 2 => ("StruckWhile$Acts", "number", "I", false)
  | 3 => ("StruckWhile$Acts", "kind", "I", false)
  | _ => ("StruckWhile$Acts", "v", "I", false)
def tyX0 : Nat → FieldType := fun k => match k with
  | 0 => .int
  | 1 => .array .int
  | 2 => .int
  | 3 => .int
  | _ => .int
set_option maxRecDepth 100000 in
theorem nmX0 : ∀ a, a < 5 → ∀ b, b < 5 → a ≠ b → (TX0 a).2.1 ≠ (TX0 b).2.1 := by decide +kernel
theorem tyX0_ok : ∀ k, k < 5 → parseFieldDescriptor (TX0 k).2.2.1 = some (tyX0 k) := by decide +kernel
abbrev cX0_init : ByteArray := prog_2_method_1_code
def yX0_init : MethodName := ⟨RX0, "<init>", "()V"⟩
abbrev cX0_start : ByteArray := prog_2_method_2_code
def yX0_start : MethodName := ⟨RX0, "start", "(LStruckWhile$Town;III)I"⟩
abbrev cX0_run : ByteArray := prog_2_method_3_code
def yX0_run : MethodName := ⟨RX0, "run", "(IIII)I"⟩
abbrev cX0_bodyOf : ByteArray := prog_2_method_4_code
def yX0_bodyOf : MethodName := ⟨RX0, "bodyOf", "(II)I"⟩
abbrev cX0_note : ByteArray := prog_2_method_5_code
def yX0_note : MethodName := ⟨RX0, "note", "(I)V"⟩
def RX1 : String := "StruckWhile$Ahead"
def TX1 : u_T := fun k => match k with
  | 0 => ("StruckWhile$Ahead", "bestRow", "[I", true)
  | 1 => ("StruckWhile$Ahead", "now", "LStruckWhile$Town;", true)
  | 2 => ("StruckWhile$Ahead", "seen", "LStruckWhile$Sheet;", true)
  | 3 => ("StruckWhile$Ahead", "then", "LStruckWhile$Town;", true)
  | 4 => ("StruckWhile$Ahead", "row", "[I", true)
  | _ => ("StruckWhile$Ahead", "reached", "I", false)
def tyX1 : Nat → FieldType := fun k => match k with
  | 0 => .array .int
  | 1 => .object "StruckWhile$Town"
  | 2 => .object "StruckWhile$Sheet"
  | 3 => .object "StruckWhile$Town"
  | 4 => .array .int
  | _ => .int
set_option maxRecDepth 100000 in
theorem nmX1 : ∀ a, a < 6 → ∀ b, b < 6 → a ≠ b → (TX1 a).2.1 ≠ (TX1 b).2.1 := by decide +kernel
theorem tyX1_ok : ∀ k, k < 6 → parseFieldDescriptor (TX1 k).2.2.1 = some (tyX1 k) := by decide +kernel
abbrev cX1_init : ByteArray := prog_3_method_1_code
def yX1_init : MethodName := ⟨RX1, "<init>", "(LStruckWhile$Town;LStruckWhile$Sheet;)V"⟩
abbrev cX1_behind : ByteArray := prog_3_method_2_code
def yX1_behind : MethodName := ⟨RX1, "behind", "(I)LStruckWhile$Town;"⟩
abbrev cX1_minutesUntilDone : ByteArray := prog_3_method_3_code
def yX1_minutesUntilDone : MethodName := ⟨RX1, "minutesUntilDone", "(I)I"⟩
abbrev cX1_findBestRow : ByteArray := prog_3_method_4_code
def yX1_findBestRow : MethodName := ⟨RX1, "findBestRow", "(I)I"⟩
abbrev cX1_setRow : ByteArray := prog_3_method_5_code
def yX1_setRow : MethodName := ⟨RX1, "setRow", "(II)V"⟩
abbrev cX1_countDoneInTime : ByteArray := prog_3_method_6_code
def yX1_countDoneInTime : MethodName := ⟨RX1, "countDoneInTime", "(II)I"⟩
abbrev cX1_firstUndone : ByteArray := prog_3_method_7_code
def yX1_firstUndone : MethodName := ⟨RX1, "firstUndone", "(II)I"⟩
abbrev cX1_whomToTalkTo : ByteArray := prog_3_method_8_code
def yX1_whomToTalkTo : MethodName := ⟨RX1, "whomToTalkTo", "(I)I"⟩
abbrev cX1_hottestByTalk : ByteArray := prog_3_method_9_code
def yX1_hottestByTalk : MethodName := ⟨RX1, "hottestByTalk", "(II)I"⟩
abbrev cX1_warm : ByteArray := prog_3_method_10_code
def yX1_warm : MethodName := ⟨RX1, "warm", "(II)V"⟩
abbrev cX1_fitting : ByteArray := prog_3_method_11_code
def yX1_fitting : MethodName := ⟨RX1, "fitting", "(IZZ)I"⟩
abbrev cX1_isAllSeenSo : ByteArray := prog_3_method_12_code
def yX1_isAllSeenSo : MethodName := ⟨RX1, "isAllSeenSo", "()Z"⟩
abbrev cX1_countHot : ByteArray := prog_3_method_13_code
def yX1_countHot : MethodName := ⟨RX1, "countHot", "(II)I"⟩
abbrev cX1_behindPlan : ByteArray := prog_3_method_14_code
def yX1_behindPlan : MethodName := ⟨RX1, "behindPlan", "(LStruckWhile$Sheet;)LStruckWhile$Town;"⟩
abbrev cX1_goPlanned : ByteArray := prog_3_method_15_code
def yX1_goPlanned : MethodName := ⟨RX1, "goPlanned", "(II)V"⟩
def RX2 : String := "StruckWhile$Reader"
def TX2 : u_T := fun k => match k with
  | 0 => ("StruckWhile$Reader", "size", "I", false)
  | 1 => ("StruckWhile$Reader", "at", "I", false)
  | 2 => ("StruckWhile$Reader", "text", "[B", true)
  | _ => ("StruckWhile$Reader", "into", "LStruckWhile$Square;", false)
def tyX2 : Nat → FieldType := fun k => match k with
  | 0 => .int
  | 1 => .int
  | 2 => .array .byte
  | _ => .object "StruckWhile$Square"
set_option maxRecDepth 100000 in
theorem nmX2 : ∀ a, a < 4 → ∀ b, b < 4 → a ≠ b → (TX2 a).2.1 ≠ (TX2 b).2.1 := by decide +kernel
theorem tyX2_ok : ∀ k, k < 4 → parseFieldDescriptor (TX2 k).2.2.1 = some (tyX2 k) := by decide +kernel
abbrev cX2_init : ByteArray := prog_4_method_1_code
def yX2_init : MethodName := ⟨RX2, "<init>", "()V"⟩
abbrev cX2_add : ByteArray := prog_4_method_2_code
def yX2_add : MethodName := ⟨RX2, "add", "(B)I"⟩
abbrev cX2_empty : ByteArray := prog_4_method_3_code
def yX2_empty : MethodName := ⟨RX2, "empty", "()V"⟩
abbrev cX2_reads : ByteArray := prog_4_method_4_code
def yX2_reads : MethodName := ⟨RX2, "reads", "(LStruckWhile$Square;)Z"⟩
abbrev cX2_readsClause : ByteArray := prog_4_method_5_code
def yX2_readsClause : MethodName := ⟨RX2, "readsClause", "()Z"⟩
abbrev cX2_readsHeat : ByteArray := prog_4_method_6_code
def yX2_readsHeat : MethodName := ⟨RX2, "readsHeat", "(I)Z"⟩
abbrev cX2_readsEither : ByteArray := prog_4_method_7_code
def yX2_readsEither : MethodName := ⟨RX2, "readsEither", "(I)Z"⟩
abbrev cX2_readsBoth : ByteArray := prog_4_method_8_code
def yX2_readsBoth : MethodName := ⟨RX2, "readsBoth", "(I)Z"⟩
abbrev cX2_readsFactor : ByteArray := prog_4_method_9_code
def yX2_readsFactor : MethodName := ⟨RX2, "readsFactor", "(I)Z"⟩
abbrev cX2_readsTest : ByteArray := prog_4_method_10_code
def yX2_readsTest : MethodName := ⟨RX2, "readsTest", "()Z"⟩
abbrev cX2_takeNumber : ByteArray := prog_4_method_11_code
def yX2_takeNumber : MethodName := ⟨RX2, "takeNumber", "()I"⟩
abbrev cX2_takeOneOf : ByteArray := prog_4_method_12_code
def yX2_takeOneOf : MethodName := ⟨RX2, "takeOneOf", "(Ljava/lang/String;)I"⟩
abbrev cX2_takesWord : ByteArray := prog_4_method_13_code
def yX2_takesWord : MethodName := ⟨RX2, "takesWord", "(Ljava/lang/String;)Z"⟩
abbrev cX2_takes : ByteArray := prog_4_method_14_code
def yX2_takes : MethodName := ⟨RX2, "takes", "(C)Z"⟩
abbrev cX2_sees : ByteArray := prog_4_method_15_code
def yX2_sees : MethodName := ⟨RX2, "sees", "(C)Z"⟩
def RX3 : String := "StruckWhile$Sheet"
def TX3 : u_T := fun k => match k with
  | 0 => ("StruckWhile$Sheet", "first", "[I", true)
  | 1 => ("StruckWhile$Sheet", "second", "[I", true)
  | 2 => ("StruckWhile$Sheet", "third", "[I", true)
  | _ => ("StruckWhile$Sheet", "size", "I", false)
def tyX3 : Nat → FieldType := fun k => match k with
  | 0 => .array .int
  | 1 => .array .int
  | 2 => .array .int
  | _ => .int
set_option maxRecDepth 100000 in
theorem nmX3 : ∀ a, a < 4 → ∀ b, b < 4 → a ≠ b → (TX3 a).2.1 ≠ (TX3 b).2.1 := by decide +kernel
theorem tyX3_ok : ∀ k, k < 4 → parseFieldDescriptor (TX3 k).2.2.1 = some (tyX3 k) := by decide +kernel
abbrev cX3_init : ByteArray := prog_5_method_1_code
def yX3_init : MethodName := ⟨RX3, "<init>", "(I)V"⟩
abbrev cX3_isFull : ByteArray := prog_5_method_2_code
def yX3_isFull : MethodName := ⟨RX3, "isFull", "()Z"⟩
abbrev cX3_add : ByteArray := prog_5_method_3_code
def yX3_add : MethodName := ⟨RX3, "add", "(III)I"⟩
abbrev cX3_empty : ByteArray := prog_5_method_4_code
def yX3_empty : MethodName := ⟨RX3, "empty", "()I"⟩
abbrev cX3_become : ByteArray := prog_5_method_5_code
def yX3_become : MethodName := ⟨RX3, "become", "(LStruckWhile$Sheet;)V"⟩
def RX4 : String := "StruckWhile$Square"
def TX4 : u_T := fun k => match k with
  | 0 => ("StruckWhile$Square", "spark", "I", false)
  | 1 => ("StruckWhile$Square", "steps", "[I", true)
  | 2 => ("StruckWhile$Square", "stepCount", "I", false)
  | 3 => ("StruckWhile$Square", "heats", "[I", true)
  | _ => ("StruckWhile$Square", "heatCount", "I", false)
def tyX4 : Nat → FieldType := fun k => match k with
  | 0 => .int
  | 1 => .array .int
  | 2 => .int
  | 3 => .array .int
  | _ => .int
set_option maxRecDepth 100000 in
theorem nmX4 : ∀ a, a < 5 → ∀ b, b < 5 → a ≠ b → (TX4 a).2.1 ≠ (TX4 b).2.1 := by decide +kernel
theorem tyX4_ok : ∀ k, k < 5 → parseFieldDescriptor (TX4 k).2.2.1 = some (tyX4 k) := by decide +kernel
abbrev cX4_init : ByteArray := prog_6_method_1_code
def yX4_init : MethodName := ⟨RX4, "<init>", "()V"⟩
abbrev cX4_empty : ByteArray := prog_6_method_2_code
def yX4_empty : MethodName := ⟨RX4, "empty", "()V"⟩
abbrev cX4_addTest : ByteArray := prog_6_method_3_code
def yX4_addTest : MethodName := ⟨RX4, "addTest", "(III)V"⟩
abbrev cX4_addStep : ByteArray := prog_6_method_4_code
def yX4_addStep : MethodName := ⟨RX4, "addStep", "(I)V"⟩
abbrev cX4_addClause : ByteArray := prog_6_method_5_code
def yX4_addClause : MethodName := ⟨RX4, "addClause", "(I)V"⟩
abbrev cX4_sum : ByteArray := prog_6_method_6_code
def yX4_sum : MethodName := ⟨RX4, "sum", "([I)I"⟩
abbrev cX4_test : ByteArray := prog_6_method_7_code
def yX4_test : MethodName := ⟨RX4, "test", "(II)I"⟩
def RX5 : String := "StruckWhile$Tapes"
def TX5 : u_T := fun k => match k with
  | 0 => ("StruckWhile$Tapes", "sort", "[I", true)
  | 1 => ("StruckWhile$Tapes", "size", "[I", true)
  | _ => ("StruckWhile$Tapes", "items", "[[J", true)
def tyX5 : Nat → FieldType := fun k => match k with
  | 0 => .array .int
  | 1 => .array .int
  | _ => .array (.array .long)
set_option maxRecDepth 100000 in
theorem nmX5 : ∀ a, a < 3 → ∀ b, b < 3 → a ≠ b → (TX5 a).2.1 ≠ (TX5 b).2.1 := by decide +kernel
theorem tyX5_ok : ∀ k, k < 3 → parseFieldDescriptor (TX5 k).2.2.1 = some (tyX5 k) := by decide +kernel
abbrev cX5_init : ByteArray := prog_7_method_1_code
def yX5_init : MethodName := ⟨RX5, "<init>", "()V"⟩
abbrev cX5_has : ByteArray := prog_7_method_2_code
def yX5_has : MethodName := ⟨RX5, "has", "(I)Z"⟩
abbrev cX5_holds : ByteArray := prog_7_method_3_code
def yX5_holds : MethodName := ⟨RX5, "holds", "(I)Z"⟩
abbrev cX5_hasItems : ByteArray := prog_7_method_4_code
def yX5_hasItems : MethodName := ⟨RX5, "hasItems", "(III)Z"⟩
abbrev cX5_become : ByteArray := prog_7_method_5_code
def yX5_become : MethodName := ⟨RX5, "become", "(III)I"⟩
abbrev cX5_put : ByteArray := prog_7_method_6_code
def yX5_put : MethodName := ⟨RX5, "put", "(IIJ)I"⟩
abbrev cX5_cut : ByteArray := prog_7_method_7_code
def yX5_cut : MethodName := ⟨RX5, "cut", "(IJ)J"⟩
def RX6 : String := "StruckWhile$Town"
def TX6 : u_T := fun k => match k with
  | 0 => ("StruckWhile$Town", "people", "I", false)
  | 1 => ("StruckWhile$Town", "kind", "[I", true)
  | 2 => ("StruckWhile$Town", "v", "[I", true)
  | 3 => ("StruckWhile$Town", "heat", "[I", true)
  | 4 => ("StruckWhile$Town", "isAway", "[Z", true)
  | 5 => ("StruckWhile$Town", "rows", "[I", true)
  | 6 => ("StruckWhile$Town", "works", "I", false)
  | 7 => ("StruckWhile$Town", "needs", "[I", true)
  | 8 => ("StruckWhile$Town", "due", "[I", true)
  | 9 => ("StruckWhile$Town", "struck", "[I", true)
  | 10 => ("StruckWhile$Town", "onAnvil", "I", false)
  | 11 => ("StruckWhile$Town", "minute", "I", false)
  | 12 => ("StruckWhile$Town", "holding", "LStruckWhile$Square;", false)
  | 13 => ("StruckWhile$Town", "nextHeat", "[I", true)
  | _ => ("StruckWhile$Town", "letters", "[I", true)
def tyX6 : Nat → FieldType := fun k => match k with
  | 0 => .int
  | 1 => .array .int
  | 2 => .array .int
  | 3 => .array .int
  | 4 => .array .boolean
  | 5 => .array .int
  | 6 => .int
  | 7 => .array .int
  | 8 => .array .int
  | 9 => .array .int
  | 10 => .int
  | 11 => .int
  | 12 => .object "StruckWhile$Square"
  | 13 => .array .int
  | _ => .array .int
set_option maxRecDepth 100000 in
theorem nmX6 : ∀ a, a < 15 → ∀ b, b < 15 → a ≠ b → (TX6 a).2.1 ≠ (TX6 b).2.1 := by decide +kernel
theorem tyX6_ok : ∀ k, k < 15 → parseFieldDescriptor (TX6 k).2.2.1 = some (tyX6 k) := by decide +kernel
abbrev cX6_init : ByteArray := prog_8_method_1_code
def yX6_init : MethodName := ⟨RX6, "<init>", "()V"⟩
abbrev cX6_hasOne : ByteArray := prog_8_method_2_code
def yX6_hasOne : MethodName := ⟨RX6, "hasOne", "(I)Z"⟩
abbrev cX6_hasWork : ByteArray := prog_8_method_3_code
def yX6_hasWork : MethodName := ⟨RX6, "hasWork", "(I)Z"⟩
abbrev cX6_addOne : ByteArray := prog_8_method_4_code
def yX6_addOne : MethodName := ⟨RX6, "addOne", "(III)I"⟩
abbrev cX6_addWork : ByteArray := prog_8_method_5_code
def yX6_addWork : MethodName := ⟨RX6, "addWork", "(II)I"⟩
abbrev cX6_become : ByteArray := prog_8_method_6_code
def yX6_become : MethodName := ⟨RX6, "become", "(LStruckWhile$Town;)V"⟩
abbrev cX6_isHot : ByteArray := prog_8_method_7_code
def yX6_isHot : MethodName := ⟨RX6, "isHot", "(I)Z"⟩
abbrev cX6_isDone : ByteArray := prog_8_method_8_code
def yX6_isDone : MethodName := ⟨RX6, "isDone", "(I)Z"⟩
abbrev cX6_doneBits : ByteArray := prog_8_method_9_code
def yX6_doneBits : MethodName := ⟨RX6, "doneBits", "()I"⟩
abbrev cX6_heatOfAll : ByteArray := prog_8_method_10_code
def yX6_heatOfAll : MethodName := ⟨RX6, "heatOfAll", "()I"⟩
abbrev cX6_countHere : ByteArray := prog_8_method_11_code
def yX6_countHere : MethodName := ⟨RX6, "countHere", "()I"⟩
abbrev cX6_hottest : ByteArray := prog_8_method_12_code
def yX6_hottest : MethodName := ⟨RX6, "hottest", "()I"⟩
abbrev cX6_countBeside : ByteArray := prog_8_method_13_code
def yX6_countBeside : MethodName := ⟨RX6, "countBeside", "(II)I"⟩
abbrev cX6_spark : ByteArray := prog_8_method_14_code
def yX6_spark : MethodName := ⟨RX6, "spark", "()I"⟩
abbrev cX6_riseOf : ByteArray := prog_8_method_15_code
def yX6_riseOf : MethodName := ⟨RX6, "riseOf", "(I)I"⟩
abbrev cX6_setLetters : ByteArray := prog_8_method_16_code
def yX6_setLetters : MethodName := ⟨RX6, "setLetters", "(II)V"⟩
abbrev cX6_goOn : ByteArray := prog_8_method_17_code
def yX6_goOn : MethodName := ⟨RX6, "goOn", "(I)V"⟩
abbrev cX6_goOneMinute : ByteArray := prog_8_method_18_code
def yX6_goOneMinute : MethodName := ⟨RX6, "goOneMinute", "()V"⟩
def RX7 : String := "StruckWhile$Whole"
def TX7 : u_T := fun k => match k with
  | 0 => ("StruckWhile$Whole", "town", "LStruckWhile$Town;", true)
  | 1 => ("StruckWhile$Whole", "seen", "LStruckWhile$Sheet;", true)
  | 2 => ("StruckWhile$Whole", "plan", "LStruckWhile$Sheet;", true)
  | _ => ("StruckWhile$Whole", "book", "LStruckWhile$Sheet;", true)
def tyX7 : Nat → FieldType := fun k => match k with
  | 0 => .object "StruckWhile$Town"
  | 1 => .object "StruckWhile$Sheet"
  | 2 => .object "StruckWhile$Sheet"
  | _ => .object "StruckWhile$Sheet"
set_option maxRecDepth 100000 in
theorem nmX7 : ∀ a, a < 4 → ∀ b, b < 4 → a ≠ b → (TX7 a).2.1 ≠ (TX7 b).2.1 := by decide +kernel
theorem tyX7_ok : ∀ k, k < 4 → parseFieldDescriptor (TX7 k).2.2.1 = some (tyX7 k) := by decide +kernel
abbrev cX7_init : ByteArray := prog_9_method_1_code
def yX7_init : MethodName := ⟨RX7, "<init>", "()V"⟩
abbrev cX7_become : ByteArray := prog_9_method_2_code
def yX7_become : MethodName := ⟨RX7, "become", "(LStruckWhile$Whole;)V"⟩
def RX8 : String := "StruckWhile"
def TX8 : u_T := fun k => match k with
  | 0 => ("StruckWhile", "now", "LStruckWhile$Whole;", true)
  | 1 => ("StruckWhile", "image", "LStruckWhile$Whole;", true)
  | 2 => ("StruckWhile", "hasImage", "Z", false)
  | 3 => ("StruckWhile", "town", "LStruckWhile$Town;", true)
  | 4 => ("StruckWhile", "ahead", "LStruckWhile$Ahead;", true)
  | 5 => ("StruckWhile", "reader", "LStruckWhile$Reader;", true)
  | 6 => ("StruckWhile", "squares", "[LStruckWhile$Square;", true)
  | 7 => ("StruckWhile", "squareCount", "I", false)
  | 8 => ("StruckWhile", "acts", "LStruckWhile$Acts;", true)
  | _ => ("StruckWhile", "tapes", "LStruckWhile$Tapes;", true)
def tyX8 : Nat → FieldType := fun k => match k with
  | 0 => .object "StruckWhile$Whole"
  | 1 => .object "StruckWhile$Whole"
  | 2 => .boolean
  | 3 => .object "StruckWhile$Town"
  | 4 => .object "StruckWhile$Ahead"
  | 5 => .object "StruckWhile$Reader"
  | 6 => .array (.object "StruckWhile$Square")
  | 7 => .int
  | 8 => .object "StruckWhile$Acts"
  | _ => .object "StruckWhile$Tapes"
set_option maxRecDepth 100000 in
theorem nmX8 : ∀ a, a < 10 → ∀ b, b < 10 → a ≠ b → (TX8 a).2.1 ≠ (TX8 b).2.1 := by decide +kernel
theorem tyX8_ok : ∀ k, k < 10 → parseFieldDescriptor (TX8 k).2.2.1 = some (tyX8 k) := by decide +kernel
abbrev cX8_init : ByteArray := prog_1_method_1_code
def yX8_init : MethodName := ⟨RX8, "<init>", "()V"⟩
abbrev cX8_one : ByteArray := prog_1_method_2_code
def yX8_one : MethodName := ⟨RX8, "one", "(III)I"⟩
abbrev cX8_of : ByteArray := prog_1_method_3_code
def yX8_of : MethodName := ⟨RX8, "of", "(II)I"⟩
abbrev cX8_heat : ByteArray := prog_1_method_4_code
def yX8_heat : MethodName := ⟨RX8, "heat", "(II)I"⟩
abbrev cX8_away : ByteArray := prog_1_method_5_code
def yX8_away : MethodName := ⟨RX8, "away", "(IZ)I"⟩
abbrev cX8_work : ByteArray := prog_1_method_6_code
def yX8_work : MethodName := ⟨RX8, "work", "(II)I"⟩
abbrev cX8_piece : ByteArray := prog_1_method_7_code
def yX8_piece : MethodName := ⟨RX8, "piece", "(II)I"⟩
abbrev cX8_anvil : ByteArray := prog_1_method_8_code
def yX8_anvil : MethodName := ⟨RX8, "anvil", "(I)I"⟩
abbrev cX8_row : ByteArray := prog_1_method_9_code
def yX8_row : MethodName := ⟨RX8, "row", "(III)I"⟩
abbrev cX8_feed : ByteArray := prog_1_method_10_code
def yX8_feed : MethodName := ⟨RX8, "feed", "(I)I"⟩
abbrev cX8_square : ByteArray := prog_1_method_11_code
def yX8_square : MethodName := ⟨RX8, "square", "()I"⟩
abbrev cX8_told : ByteArray := prog_1_method_12_code
def yX8_told : MethodName := ⟨RX8, "told", "(I)I"⟩
abbrev cX8_pass : ByteArray := prog_1_method_13_code
def yX8_pass : MethodName := ⟨RX8, "pass", "(I)I"⟩
abbrev cX8_on : ByteArray := prog_1_method_14_code
def yX8_on : MethodName := ⟨RX8, "on", "(II)I"⟩
abbrev cX8_best : ByteArray := prog_1_method_15_code
def yX8_best : MethodName := ⟨RX8, "best", "(II)I"⟩
abbrev cX8_talk : ByteArray := prog_1_method_16_code
def yX8_talk : MethodName := ⟨RX8, "talk", "(II)I"⟩
abbrev cX8_see : ByteArray := prog_1_method_17_code
def yX8_see : MethodName := ⟨RX8, "see", "(IIZ)I"⟩
abbrev cX8_can : ByteArray := prog_1_method_18_code
def yX8_can : MethodName := ⟨RX8, "can", "(III)I"⟩
abbrev cX8_odds : ByteArray := prog_1_method_19_code
def yX8_odds : MethodName := ⟨RX8, "odds", "(III)J"⟩
abbrev cX8_mean : ByteArray := prog_1_method_20_code
def yX8_mean : MethodName := ⟨RX8, "mean", "(II)J"⟩
abbrev cX8_plan : ByteArray := prog_1_method_21_code
def yX8_plan : MethodName := ⟨RX8, "plan", "(II)I"⟩
abbrev cX8_ends : ByteArray := prog_1_method_22_code
def yX8_ends : MethodName := ⟨RX8, "ends", "(I)I"⟩
abbrev cX8_book : ByteArray := prog_1_method_23_code
def yX8_book : MethodName := ⟨RX8, "book", "(II)I"⟩
abbrev cX8_looked : ByteArray := prog_1_method_24_code
def yX8_looked : MethodName := ⟨RX8, "looked", "()I"⟩
abbrev cX8_judge : ByteArray := prog_1_method_25_code
def yX8_judge : MethodName := ⟨RX8, "judge", "(II)I"⟩
abbrev cX8_image : ByteArray := prog_1_method_26_code
def yX8_image : MethodName := ⟨RX8, "image", "()I"⟩
abbrev cX8_undo : ByteArray := prog_1_method_27_code
def yX8_undo : MethodName := ⟨RX8, "undo", "()I"⟩
abbrev cX8_act : ByteArray := prog_1_method_28_code
def yX8_act : MethodName := ⟨RX8, "act", "(III)I"⟩
abbrev cX8_trace : ByteArray := prog_1_method_29_code
def yX8_trace : MethodName := ⟨RX8, "trace", "(I)I"⟩
abbrev cX8_taken : ByteArray := prog_1_method_30_code
def yX8_taken : MethodName := ⟨RX8, "taken", "(II)I"⟩
abbrev cX8_count : ByteArray := prog_1_method_31_code
def yX8_count : MethodName := ⟨RX8, "count", "(I)I"⟩
abbrev cX8_tape : ByteArray := prog_1_method_32_code
def yX8_tape : MethodName := ⟨RX8, "tape", "(III)I"⟩
abbrev cX8_item : ByteArray := prog_1_method_33_code
def yX8_item : MethodName := ⟨RX8, "item", "(IIJ)I"⟩
abbrev cX8_read : ByteArray := prog_1_method_34_code
def yX8_read : MethodName := ⟨RX8, "read", "(II)J"⟩
abbrev cX8_shift : ByteArray := prog_1_method_35_code
def yX8_shift : MethodName := ⟨RX8, "shift", "(IIIII)I"⟩
abbrev cX8_isWithin : ByteArray := prog_1_method_36_code
def yX8_isWithin : MethodName := ⟨RX8, "isWithin", "(III)Z"⟩
abbrev cX8_asNumber : ByteArray := prog_1_method_37_code
def yX8_asNumber : MethodName := ⟨RX8, "asNumber", "(Z)I"⟩
abbrev cX8_orLacks : ByteArray := prog_1_method_38_code
def yX8_orLacks : MethodName := ⟨RX8, "orLacks", "(I)I"⟩
abbrev cX8_isOrIsUnder : ByteArray := prog_1_method_39_code
def yX8_isOrIsUnder : MethodName := ⟨RX8, "isOrIsUnder", "(II)Z"⟩
abbrev cX8_lowestTerms : ByteArray := prog_1_method_40_code
def yX8_lowestTerms : MethodName := ⟨RX8, "lowestTerms", "(III)J"⟩
def RX9 : String := "StruckWhileModel"
def TX9 : u_T := fun k => match k with
  | 0 => ("StruckWhileModel", "people", "I", false)
  | 1 => ("StruckWhileModel", "absent", "I", false)
  | 2 => ("StruckWhileModel", "works", "I", false)
  | 3 => ("StruckWhileModel", "lies", "I", false)
  | 4 => ("StruckWhileModel", "minute", "I", false)
  | 5 => ("StruckWhileModel", "kind", "[I", true)
  | 6 => ("StruckWhileModel", "v", "[I", true)
  | 7 => ("StruckWhileModel", "heat0", "[I", true)
  | 8 => ("StruckWhileModel", "rows", "[I", true)
  | 9 => ("StruckWhileModel", "needs", "[I", true)
  | 10 => ("StruckWhileModel", "due", "[I", true)
  | 11 => ("StruckWhileModel", "struck", "[I", true)
  | 12 => ("StruckWhileModel", "squares", "I", false)
  | 13 => ("StruckWhileModel", "the", "I", false)
  | 14 => ("StruckWhileModel", "fed", "I", false)
  | 15 => ("StruckWhileModel", "at", "I", false)
  | 16 => ("StruckWhileModel", "digits", "I", false)
  | 17 => ("StruckWhileModel", "text", "[I", true)
  | 18 => ("StruckWhileModel", "clauses", "[I", true)
  | 19 => ("StruckWhileModel", "word", "[I", true)
  | 20 => ("StruckWhileModel", "number", "[I", true)
  | 21 => ("StruckWhileModel", "from", "[I", true)
  | 22 => ("StruckWhileModel", "to", "[I", true)
  | 23 => ("StruckWhileModel", "sign", "[I", true)
  | 24 => ("StruckWhileModel", "waits", "[I", true)
  | 25 => ("StruckWhileModel", "signs", "I", false)
  | 26 => ("StruckWhileModel", "waiting", "I", false)
  | 27 => ("StruckWhileModel", "open", "I", false)
  | 28 => ("StruckWhileModel", "letters", "[I", true)
  | 29 => ("StruckWhileModel", "pile", "[Z", true)
  | 30 => ("StruckWhileModel", "then", "[I", true)
  | 31 => ("StruckWhileModel", "keptAbsent", "I", false)
  | 32 => ("StruckWhileModel", "keptLies", "I", false)
  | 33 => ("StruckWhileModel", "keptMinute", "I", false)
  | 34 => ("StruckWhileModel", "keptHeat", "[I", true)
  | 35 => ("StruckWhileModel", "keptStruck", "[I", true)
  | 36 => ("StruckWhileModel", "line", "[I", true)
  | 37 => ("StruckWhileModel", "bestLine", "[I", true)
  | 38 => ("StruckWhileModel", "seen", "I", false)
  | 39 => ("StruckWhileModel", "seenWho", "[I", true)
  | 40 => ("StruckWhileModel", "seenWhen", "[I", true)
  | 41 => ("StruckWhileModel", "seenHot", "[Z", true)
  | 42 => ("StruckWhileModel", "plans", "I", false)
  | 43 => ("StruckWhileModel", "books", "I", false)
  | 44 => ("StruckWhileModel", "planWhat", "[I", true)
  | 45 => ("StruckWhileModel", "planNumber", "[I", true)
  | 46 => ("StruckWhileModel", "bookWho", "[I", true)
  | 47 => ("StruckWhileModel", "bookHeat", "[I", true)
  | 48 => ("StruckWhileModel", "hasImage", "Z", false)
  | 49 => ("StruckWhileModel", "imageThe", "I", false)
  | 50 => ("StruckWhileModel", "imagePeople", "I", false)
  | 51 => ("StruckWhileModel", "imageAbsent", "I", false)
  | 52 => ("StruckWhileModel", "imageWorks", "I", false)
  | 53 => ("StruckWhileModel", "imageLies", "I", false)
  | 54 => ("StruckWhileModel", "imageMinute", "I", false)
  | 55 => ("StruckWhileModel", "imageSeen", "I", false)
  | 56 => ("StruckWhileModel", "imagePlans", "I", false)
  | 57 => ("StruckWhileModel", "imageBooks", "I", false)
  | 58 => ("StruckWhileModel", "imageKind", "[I", true)
  | 59 => ("StruckWhileModel", "imageV", "[I", true)
  | 60 => ("StruckWhileModel", "imageHeat", "[I", true)
  | 61 => ("StruckWhileModel", "imageRows", "[I", true)
  | 62 => ("StruckWhileModel", "imageNeeds", "[I", true)
  | 63 => ("StruckWhileModel", "imageDue", "[I", true)
  | 64 => ("StruckWhileModel", "imageStruck", "[I", true)
  | 65 => ("StruckWhileModel", "imageWho", "[I", true)
  | 66 => ("StruckWhileModel", "imageWhen", "[I", true)
  | 67 => ("StruckWhileModel", "imageWhat", "[I", true)
  | 68 => ("StruckWhileModel", "imageNumber", "[I", true)
  | 69 => ("StruckWhileModel", "imageBookWho", "[I", true)
  | 70 => ("StruckWhileModel", "imageBookHeat", "[I", true)
  | 71 => ("StruckWhileModel", "imageHot", "[Z", true)
  | 72 => ("StruckWhileModel", "ran", "I", false)
  | 73 => ("StruckWhileModel", "bodies", "[I", true)
  | 74 => ("StruckWhileModel", "sort", "[I", true)
  | 75 => ("StruckWhileModel", "length", "[I", true)
  | 76 => ("StruckWhileModel", "item", "[J", true)
  | _ => ("StruckWhileModel", "aside", "[J", true)
def tyX9 : Nat → FieldType := fun k => match k with
  | 0 => .int
  | 1 => .int
  | 2 => .int
  | 3 => .int
  | 4 => .int
  | 5 => .array .int
  | 6 => .array .int
  | 7 => .array .int
  | 8 => .array .int
  | 9 => .array .int
  | 10 => .array .int
  | 11 => .array .int
  | 12 => .int
  | 13 => .int
  | 14 => .int
  | 15 => .int
  | 16 => .int
  | 17 => .array .int
  | 18 => .array .int
  | 19 => .array .int
  | 20 => .array .int
  | 21 => .array .int
  | 22 => .array .int
  | 23 => .array .int
  | 24 => .array .int
  | 25 => .int
  | 26 => .int
  | 27 => .int
  | 28 => .array .int
  | 29 => .array .boolean
  | 30 => .array .int
  | 31 => .int
  | 32 => .int
  | 33 => .int
  | 34 => .array .int
  | 35 => .array .int
  | 36 => .array .int
  | 37 => .array .int
  | 38 => .int
  | 39 => .array .int
  | 40 => .array .int
  | 41 => .array .boolean
  | 42 => .int
  | 43 => .int
  | 44 => .array .int
  | 45 => .array .int
  | 46 => .array .int
  | 47 => .array .int
  | 48 => .boolean
  | 49 => .int
  | 50 => .int
  | 51 => .int
  | 52 => .int
  | 53 => .int
  | 54 => .int
  | 55 => .int
  | 56 => .int
  | 57 => .int
  | 58 => .array .int
  | 59 => .array .int
  | 60 => .array .int
  | 61 => .array .int
  | 62 => .array .int
  | 63 => .array .int
  | 64 => .array .int
  | 65 => .array .int
  | 66 => .array .int
  | 67 => .array .int
  | 68 => .array .int
  | 69 => .array .int
  | 70 => .array .int
  | 71 => .array .boolean
  | 72 => .int
  | 73 => .array .int
  | 74 => .array .int
  | 75 => .array .int
  | 76 => .array .long
  | _ => .array .long
set_option maxRecDepth 100000 in
theorem nmX9 : ∀ a, a < 78 → ∀ b, b < 78 → a ≠ b → (TX9 a).2.1 ≠ (TX9 b).2.1 := by decide +kernel
theorem tyX9_ok : ∀ k, k < 78 → parseFieldDescriptor (TX9 k).2.2.1 = some (tyX9 k) := by decide +kernel
abbrev cX9_init : ByteArray := prog_11_method_1_code
def yX9_init : MethodName := ⟨RX9, "<init>", "()V"⟩
abbrev cX9_in : ByteArray := prog_11_method_2_code
def yX9_in : MethodName := ⟨RX9, "in", "(III)Z"⟩
abbrev cX9_has : ByteArray := prog_11_method_3_code
def yX9_has : MethodName := ⟨RX9, "has", "(II)Z"⟩
abbrev cX9_least : ByteArray := prog_11_method_4_code
def yX9_least : MethodName := ⟨RX9, "least", "(II)I"⟩
abbrev cX9_held : ByteArray := prog_11_method_5_code
def yX9_held : MethodName := ⟨RX9, "held", "(I)I"⟩
abbrev cX9_isOne : ByteArray := prog_11_method_6_code
def yX9_isOne : MethodName := ⟨RX9, "isOne", "(I)Z"⟩
abbrev cX9_isWork : ByteArray := prog_11_method_7_code
def yX9_isWork : MethodName := ⟨RX9, "isWork", "(I)Z"⟩
abbrev cX9_isHeat : ByteArray := prog_11_method_8_code
def yX9_isHeat : MethodName := ⟨RX9, "isHeat", "(I)Z"⟩
abbrev cX9_isMinutes : ByteArray := prog_11_method_9_code
def yX9_isMinutes : MethodName := ⟨RX9, "isMinutes", "(I)Z"⟩
abbrev cX9_one : ByteArray := prog_11_method_10_code
def yX9_one : MethodName := ⟨RX9, "one", "(III)I"⟩
abbrev cX9_heat : ByteArray := prog_11_method_11_code
def yX9_heat : MethodName := ⟨RX9, "heat", "(II)I"⟩
abbrev cX9_goes : ByteArray := prog_11_method_12_code
def yX9_goes : MethodName := ⟨RX9, "goes", "(IZ)V"⟩
abbrev cX9_away : ByteArray := prog_11_method_13_code
def yX9_away : MethodName := ⟨RX9, "away", "(IZ)I"⟩
abbrev cX9_work : ByteArray := prog_11_method_14_code
def yX9_work : MethodName := ⟨RX9, "work", "(II)I"⟩
abbrev cX9_anvil : ByteArray := prog_11_method_15_code
def yX9_anvil : MethodName := ⟨RX9, "anvil", "(I)I"⟩
abbrev cX9_row : ByteArray := prog_11_method_16_code
def yX9_row : MethodName := ⟨RX9, "row", "(III)I"⟩
abbrev cX9_feed : ByteArray := prog_11_method_17_code
def yX9_feed : MethodName := ⟨RX9, "feed", "(I)I"⟩
abbrev cX9_next : ByteArray := prog_11_method_18_code
def yX9_next : MethodName := ⟨RX9, "next", "()I"⟩
abbrev cX9_takes : ByteArray := prog_11_method_19_code
def yX9_takes : MethodName := ⟨RX9, "takes", "(I)Z"⟩
abbrev cX9_takesWord : ByteArray := prog_11_method_20_code
def yX9_takesWord : MethodName := ⟨RX9, "takesWord", "(II)Z"⟩
abbrev cX9_isDigit : ByteArray := prog_11_method_21_code
def yX9_isDigit : MethodName := ⟨RX9, "isDigit", "()Z"⟩
abbrev cX9_takesNumber : ByteArray := prog_11_method_22_code
def yX9_takesNumber : MethodName := ⟨RX9, "takesNumber", "()Z"⟩
abbrev cX9_emits : ByteArray := prog_11_method_23_code
def yX9_emits : MethodName := ⟨RX9, "emits", "(I)V"⟩
abbrev cX9_whole : ByteArray := prog_11_method_24_code
def yX9_whole : MethodName := ⟨RX9, "whole", "()V"⟩
abbrev cX9_settle : ByteArray := prog_11_method_25_code
def yX9_settle : MethodName := ⟨RX9, "settle", "(I)V"⟩
abbrev cX9_place : ByteArray := prog_11_method_26_code
def yX9_place : MethodName := ⟨RX9, "place", "(I)I"⟩
abbrev cX9_takesTest : ByteArray := prog_11_method_27_code
def yX9_takesTest : MethodName := ⟨RX9, "takesTest", "()Z"⟩
abbrev cX9_takesE : ByteArray := prog_11_method_28_code
def yX9_takesE : MethodName := ⟨RX9, "takesE", "(I)Z"⟩
abbrev cX9_takesHead : ByteArray := prog_11_method_29_code
def yX9_takesHead : MethodName := ⟨RX9, "takesHead", "(I)Z"⟩
abbrev cX9_takesClause : ByteArray := prog_11_method_30_code
def yX9_takesClause : MethodName := ⟨RX9, "takesClause", "(I)Z"⟩
abbrev cX9_goesText : ByteArray := prog_11_method_31_code
def yX9_goesText : MethodName := ⟨RX9, "goesText", "(I)Z"⟩
abbrev cX9_square : ByteArray := prog_11_method_32_code
def yX9_square : MethodName := ⟨RX9, "square", "()I"⟩
abbrev cX9_begin : ByteArray := prog_11_method_33_code
def yX9_begin : MethodName := ⟨RX9, "begin", "()I"⟩
abbrev cX9_behind : ByteArray := prog_11_method_34_code
def yX9_behind : MethodName := ⟨RX9, "behind", "()I"⟩
abbrev cX9_spark : ByteArray := prog_11_method_35_code
def yX9_spark : MethodName := ⟨RX9, "spark", "()I"⟩
abbrev cX9_beside : ByteArray := prog_11_method_36_code
def yX9_beside : MethodName := ⟨RX9, "beside", "(II)I"⟩
abbrev cX9_factOf : ByteArray := prog_11_method_37_code
def yX9_factOf : MethodName := ⟨RX9, "factOf", "(II)I"⟩
abbrev cX9_holds : ByteArray := prog_11_method_38_code
def yX9_holds : MethodName := ⟨RX9, "holds", "(II)Z"⟩
abbrev cX9_sum : ByteArray := prog_11_method_39_code
def yX9_sum : MethodName := ⟨RX9, "sum", "(I)I"⟩
abbrev cX9_rise : ByteArray := prog_11_method_40_code
def yX9_rise : MethodName := ⟨RX9, "rise", "(I)I"⟩
abbrev cX9_of : ByteArray := prog_11_method_41_code
def yX9_of : MethodName := ⟨RX9, "of", "(II)I"⟩
abbrev cX9_hottest : ByteArray := prog_11_method_42_code
def yX9_hottest : MethodName := ⟨RX9, "hottest", "()I"⟩
abbrev cX9_isDone : ByteArray := prog_11_method_43_code
def yX9_isDone : MethodName := ⟨RX9, "isDone", "(I)Z"⟩
abbrev cX9_doneSet : ByteArray := prog_11_method_44_code
def yX9_doneSet : MethodName := ⟨RX9, "doneSet", "()I"⟩
abbrev cX9_allHeat : ByteArray := prog_11_method_45_code
def yX9_allHeat : MethodName := ⟨RX9, "allHeat", "()I"⟩
abbrev cX9_told : ByteArray := prog_11_method_46_code
def yX9_told : MethodName := ⟨RX9, "told", "(I)I"⟩
abbrev cX9_goMinute : ByteArray := prog_11_method_47_code
def yX9_goMinute : MethodName := ⟨RX9, "goMinute", "()V"⟩
abbrev cX9_goMinutes : ByteArray := prog_11_method_48_code
def yX9_goMinutes : MethodName := ⟨RX9, "goMinutes", "(I)V"⟩
abbrev cX9_pass : ByteArray := prog_11_method_49_code
def yX9_pass : MethodName := ⟨RX9, "pass", "(I)I"⟩
abbrev cX9_save : ByteArray := prog_11_method_50_code
def yX9_save : MethodName := ⟨RX9, "save", "()V"⟩
abbrev cX9_putBack : ByteArray := prog_11_method_51_code
def yX9_putBack : MethodName := ⟨RX9, "putBack", "()V"⟩
abbrev cX9_ready : ByteArray := prog_11_method_52_code
def yX9_ready : MethodName := ⟨RX9, "ready", "(I)I"⟩
abbrev cX9_piece : ByteArray := prog_11_method_53_code
def yX9_piece : MethodName := ⟨RX9, "piece", "(II)I"⟩
abbrev cX9_on : ByteArray := prog_11_method_54_code
def yX9_on : MethodName := ⟨RX9, "on", "(II)I"⟩
abbrev cX9_layLine : ByteArray := prog_11_method_55_code
def yX9_layLine : MethodName := ⟨RX9, "layLine", "(I)Z"⟩
abbrev cX9_firstOfLine : ByteArray := prog_11_method_56_code
def yX9_firstOfLine : MethodName := ⟨RX9, "firstOfLine", "()I"⟩
abbrev cX9_doneInTime : ByteArray := prog_11_method_57_code
def yX9_doneInTime : MethodName := ⟨RX9, "doneInTime", "(I)I"⟩
abbrev cX9_best : ByteArray := prog_11_method_58_code
def yX9_best : MethodName := ⟨RX9, "best", "(II)I"⟩
abbrev cX9_hottestIf : ByteArray := prog_11_method_59_code
def yX9_hottestIf : MethodName := ⟨RX9, "hottestIf", "(II)I"⟩
abbrev cX9_talk : ByteArray := prog_11_method_60_code
def yX9_talk : MethodName := ⟨RX9, "talk", "(II)I"⟩
abbrev cX9_see : ByteArray := prog_11_method_61_code
def yX9_see : MethodName := ⟨RX9, "see", "(IIZ)I"⟩
abbrev cX9_isSeen : ByteArray := prog_11_method_62_code
def yX9_isSeen : MethodName := ⟨RX9, "isSeen", "()Z"⟩
abbrev cX9_heats : ByteArray := prog_11_method_63_code
def yX9_heats : MethodName := ⟨RX9, "heats", "(II)I"⟩
abbrev cX9_canBe : ByteArray := prog_11_method_64_code
def yX9_canBe : MethodName := ⟨RX9, "canBe", "(II)I"⟩
abbrev cX9_can : ByteArray := prog_11_method_65_code
def yX9_can : MethodName := ⟨RX9, "can", "(III)I"⟩
abbrev cX9_divisor : ByteArray := prog_11_method_66_code
def yX9_divisor : MethodName := ⟨RX9, "divisor", "(II)I"⟩
abbrev cX9_lowest : ByteArray := prog_11_method_67_code
def yX9_lowest : MethodName := ⟨RX9, "lowest", "(III)J"⟩
abbrev cX9_isHotIf : ByteArray := prog_11_method_68_code
def yX9_isHotIf : MethodName := ⟨RX9, "isHotIf", "(III)Z"⟩
abbrev cX9_odds : ByteArray := prog_11_method_69_code
def yX9_odds : MethodName := ⟨RX9, "odds", "(III)J"⟩
abbrev cX9_mean : ByteArray := prog_11_method_70_code
def yX9_mean : MethodName := ⟨RX9, "mean", "(II)J"⟩
abbrev cX9_plan : ByteArray := prog_11_method_71_code
def yX9_plan : MethodName := ⟨RX9, "plan", "(II)I"⟩
abbrev cX9_goPlan : ByteArray := prog_11_method_72_code
def yX9_goPlan : MethodName := ⟨RX9, "goPlan", "(II)V"⟩
abbrev cX9_ends : ByteArray := prog_11_method_73_code
def yX9_ends : MethodName := ⟨RX9, "ends", "(I)I"⟩
abbrev cX9_book : ByteArray := prog_11_method_74_code
def yX9_book : MethodName := ⟨RX9, "book", "(II)I"⟩
abbrev cX9_looked : ByteArray := prog_11_method_75_code
def yX9_looked : MethodName := ⟨RX9, "looked", "()I"⟩
abbrev cX9_judge : ByteArray := prog_11_method_76_code
def yX9_judge : MethodName := ⟨RX9, "judge", "(II)I"⟩
abbrev cX9_image : ByteArray := prog_11_method_77_code
def yX9_image : MethodName := ⟨RX9, "image", "()I"⟩
abbrev cX9_undo : ByteArray := prog_11_method_78_code
def yX9_undo : MethodName := ⟨RX9, "undo", "()I"⟩
abbrev cX9_body : ByteArray := prog_11_method_79_code
def yX9_body : MethodName := ⟨RX9, "body", "(I)V"⟩
abbrev cX9_oneGlows : ByteArray := prog_11_method_80_code
def yX9_oneGlows : MethodName := ⟨RX9, "oneGlows", "(II)I"⟩
abbrev cX9_glowsAct : ByteArray := prog_11_method_81_code
def yX9_glowsAct : MethodName := ⟨RX9, "glowsAct", "(II)I"⟩
abbrev cX9_oneRings : ByteArray := prog_11_method_82_code
def yX9_oneRings : MethodName := ⟨RX9, "oneRings", "(II)I"⟩
abbrev cX9_bankerRings : ByteArray := prog_11_method_83_code
def yX9_bankerRings : MethodName := ⟨RX9, "bankerRings", "(II)I"⟩
abbrev cX9_ringsAct : ByteArray := prog_11_method_84_code
def yX9_ringsAct : MethodName := ⟨RX9, "ringsAct", "(II)I"⟩
abbrev cX9_oneTells : ByteArray := prog_11_method_85_code
def yX9_oneTells : MethodName := ⟨RX9, "oneTells", "(II)I"⟩
abbrev cX9_tellsAct : ByteArray := prog_11_method_86_code
def yX9_tellsAct : MethodName := ⟨RX9, "tellsAct", "(II)I"⟩
abbrev cX9_act : ByteArray := prog_11_method_87_code
def yX9_act : MethodName := ⟨RX9, "act", "(III)I"⟩
abbrev cX9_trace : ByteArray := prog_11_method_88_code
def yX9_trace : MethodName := ⟨RX9, "trace", "(I)I"⟩
abbrev cX9_taken : ByteArray := prog_11_method_89_code
def yX9_taken : MethodName := ⟨RX9, "taken", "(II)I"⟩
abbrev cX9_count : ByteArray := prog_11_method_90_code
def yX9_count : MethodName := ⟨RX9, "count", "(I)I"⟩
abbrev cX9_isTape : ByteArray := prog_11_method_91_code
def yX9_isTape : MethodName := ⟨RX9, "isTape", "(I)Z"⟩
abbrev cX9_tape : ByteArray := prog_11_method_92_code
def yX9_tape : MethodName := ⟨RX9, "tape", "(III)I"⟩
abbrev cX9_narrow : ByteArray := prog_11_method_93_code
def yX9_narrow : MethodName := ⟨RX9, "narrow", "(IJ)J"⟩
abbrev cX9_item : ByteArray := prog_11_method_94_code
def yX9_item : MethodName := ⟨RX9, "item", "(IIJ)I"⟩
abbrev cX9_read : ByteArray := prog_11_method_95_code
def yX9_read : MethodName := ⟨RX9, "read", "(II)J"⟩
abbrev cX9_shift : ByteArray := prog_11_method_96_code
def yX9_shift : MethodName := ⟨RX9, "shift", "(IIIII)I"⟩
set_option maxRecDepth 100000 in
theorem inX0 : ∀ w ∈ u_ws RX0 TX0 5, w ∈ zTb := zmem_tb _ [298, 300, 302, 304, 306] (by decide +kernel) (by decide +kernel)
set_option maxRecDepth 100000 in
theorem inX1 : ∀ w ∈ u_ws RX1 TX1 6, w ∈ zTb := zmem_tb _ [248, 250, 252, 254, 256, 258] (by decide +kernel) (by decide +kernel)
set_option maxRecDepth 100000 in
theorem inX2 : ∀ w ∈ u_ws RX2 TX2 4, w ∈ zTb := zmem_tb _ [273, 275, 277, 279] (by decide +kernel) (by decide +kernel)
set_option maxRecDepth 100000 in
theorem inX3 : ∀ w ∈ u_ws RX3 TX3 4, w ∈ zTb := zmem_tb _ [207, 209, 211, 213] (by decide +kernel) (by decide +kernel)
set_option maxRecDepth 100000 in
theorem inX4 : ∀ w ∈ u_ws RX4 TX4 5, w ∈ zTb := zmem_tb _ [343, 345, 347, 349, 351] (by decide +kernel) (by decide +kernel)
set_option maxRecDepth 100000 in
theorem inX5 : ∀ w ∈ u_ws RX5 TX5 3, w ∈ zTb := zmem_tb _ [323, 325, 327] (by decide +kernel) (by decide +kernel)
set_option maxRecDepth 100000 in
theorem inX6 : ∀ w ∈ u_ws RX6 TX6 15, w ∈ zTb := zmem_tb _ [157, 159, 161, 163, 165, 167, 169, 171, 173, 175, 177, 179, 181, 183, 185] (by decide +kernel) (by decide +kernel)
set_option maxRecDepth 100000 in
theorem inX7 : ∀ w ∈ u_ws RX7 TX7 4, w ∈ zTb := zmem_tb _ [224, 226, 228, 230] (by decide +kernel) (by decide +kernel)
set_option maxRecDepth 100000 in
theorem inX8 : ∀ w ∈ u_ws RX8 TX8 10, w ∈ zTb := zmem_tb _ [364, 366, 368, 370, 372, 374, 376, 378, 380, 382] (by decide +kernel) (by decide +kernel)
set_option maxRecDepth 100000 in
theorem inX9 : ∀ w ∈ u_ws RX9 TX9 78, w ∈ zTb := zmem_tb _ [1037, 1039, 1041, 1043, 1045, 1047, 1049, 1051, 1053, 1055, 1057, 1059, 1061, 1063, 1065, 1067, 1069, 1071, 1073, 1075, 1077, 1079, 1081, 1083, 1085, 1087, 1089, 1091, 1093, 1095, 1097, 1099, 1101, 1103, 1105, 1107, 1109, 1111, 1113, 1115, 1117, 1119, 1121, 1123, 1125, 1127, 1129, 1131, 1133, 1135, 1137, 1139, 1141, 1143, 1145, 1147, 1149, 1151, 1153, 1155, 1157, 1159, 1161, 1163, 1165, 1167, 1169, 1171, 1173, 1175, 1177, 1179, 1181, 1183, 1185, 1187, 1189, 1191] (by decide +kernel) (by decide +kernel)
abbrev zcl : List vw_C := [(RX0, TX0, 5), (RX1, TX1, 6), (RX2, TX2, 4), (RX3, TX3, 4), (RX4, TX4, 5), (RX5, TX5, 3), (RX6, TX6, 15), (RX7, TX7, 4), (RX8, TX8, 10), (RX9, TX9, 78)]
def zclok (q : vw_C) : Prop := (∀ w ∈ u_ws q.1 q.2.1 q.2.2, w ∈ zTb) ∧ (∃ ty0 : Nat → FieldType, ∀ k, k < q.2.2 → parseFieldDescriptor (q.2.1 k).2.2.1 = some (ty0 k)) ∧ ∀ a, a < q.2.2 → ∀ b, b < q.2.2 → a ≠ b → (q.2.1 a).2.1 ≠ (q.2.1 b).2.1
theorem zcl_ok : ∀ q ∈ zcl, zclok q := List.forall_mem_cons.mpr ⟨⟨inX0, ⟨tyX0, tyX0_ok⟩, nmX0⟩, List.forall_mem_cons.mpr ⟨⟨inX1, ⟨tyX1, tyX1_ok⟩, nmX1⟩, List.forall_mem_cons.mpr ⟨⟨inX2, ⟨tyX2, tyX2_ok⟩, nmX2⟩, List.forall_mem_cons.mpr ⟨⟨inX3, ⟨tyX3, tyX3_ok⟩, nmX3⟩, List.forall_mem_cons.mpr ⟨⟨inX4, ⟨tyX4, tyX4_ok⟩, nmX4⟩, List.forall_mem_cons.mpr ⟨⟨inX5, ⟨tyX5, tyX5_ok⟩, nmX5⟩, List.forall_mem_cons.mpr ⟨⟨inX6, ⟨tyX6, tyX6_ok⟩, nmX6⟩, List.forall_mem_cons.mpr ⟨⟨inX7, ⟨tyX7, tyX7_ok⟩, nmX7⟩, List.forall_mem_cons.mpr ⟨⟨inX8, ⟨tyX8, tyX8_ok⟩, nmX8⟩, List.forall_mem_cons.mpr ⟨⟨inX9, ⟨tyX9, tyX9_ok⟩, nmX9⟩, fun _ h => absurd h List.not_mem_nil⟩⟩⟩⟩⟩⟩⟩⟩⟩⟩
end
section
/-! ===== the memory of a system as three functions, its shapes, and the machine's cells out of them ===== -/
abbrev zM : Type := (Nat → Nat → Int32) × (Nat → Nat → Int64) × (Nat → Nat → Option Nat)
def gI (u : zM) (a k : Nat) : Int32 := u.1 a k
def gJ (u : zM) (a k : Nat) : Int64 := u.2.1 a k
def gO (u : zM) (a k : Nat) : Option Nat := u.2.2 a k
def sI (u : zM) (a k : Nat) (x : Int32) : zM := (fun b j => if b = a ∧ j = k then x else u.1 b j, u.2.1, u.2.2)
def sJ (u : zM) (a k : Nat) (x : Int64) : zM := (u.1, fun b j => if b = a ∧ j = k then x else u.2.1 b j, u.2.2)
def sO (u : zM) (a k : Nat) (x : Option Nat) : zM := (u.1, u.2.1, fun b j => if b = a ∧ j = k then x else u.2.2 b j)
/-- an object: its class's number, its slots' kinds (0 an int, 1 a long, 2 a reference or null, j + 3 the cell j); an array: its kind (0 int, 1 boolean, 2 byte, 3 long, 4 and 5 of references), its length, where its references begin and in what steps -/
abbrev zS : Type := (Nat × List Nat) ⊕ (Nat × Nat × Nat × Nat)
def zr (as : Nat → Nat) : Value → Value
  | .ref k => .ref (as k)
  | v => v
def zfield (as : Nat → Nat) (u : zM) (a k : Nat) : Nat → Value
  | 0 => .int (gI u a k)
  | 1 => .long (gJ u a k)
  | 2 => va_rf ((gO u a k).map as)
  | j + 3 => .ref (as j)
def zarr (as : Nat → Nat) (u : zM) (a n b sd : Nat) : Nat → vp_A
  | 0 => (n, .inl (gI u a))
  | 1 => (n, .inl (gI u a))
  | 2 => (n, .inl (gI u a))
  | 3 => (n, .inr (.inl (gJ u a)))
  | _ => (n, .inr (.inr (.inr (.inr (fun j => some (as (b + sd * j)))))))
def zcell (as : Nat → Nat) (dA : Nat → ClassId) (u : zM) (a : Nat) : zS → va_E
  | .inl o => .inr (o.1, o.2.mapIdx (fun k kd => zfield as u a k kd))
  | .inr r => .inl (dA r.1, zarr as u a r.2.1 r.2.2.1 r.2.2.2 r.1)
def zw (as : Nat → Nat) (dA : Nat → ClassId) (SH : List zS) (u : zM) : va_W := SH.mapIdx (fun a S => (as a, zcell as dA u a S))
theorem zw_get {as : Nat → Nat} {dA : Nat → ClassId} {SH : List zS} {u : zM} {a : Nat} {S : zS} (h : SH[a]? = some S) : (zw as dA SH u)[a]? = some (as a, zcell as dA u a S) := by
  unfold zw
  rw [List.getElem?_mapIdx, h]
  rfl
theorem zw_has {as : Nat → Nat} {dA : Nat → ClassId} {SH : List zS} {u : zM} {a : Nat} {q : Nat × va_E} (h : (zw as dA SH u)[a]? = some q) : ∃ S, SH[a]? = some S ∧ q = (as a, zcell as dA u a S) := by
  unfold zw at h
  rw [List.getElem?_mapIdx] at h
  cases hS : SH[a]? with
  | none => rw [hS] at h; cases h
  | some S => rw [hS] at h; exact ⟨S, rfl, (Option.some.inj h).symm⟩
theorem zw_set {as : Nat → Nat} {dA : Nat → ClassId} {SH : List zS} {u u' : zM} {a : Nat} {S : zS} {e : va_E} (h : SH[a]? = some S) (he : e = zcell as dA u' a S) (ho : ∀ b S', b ≠ a → zcell as dA u' b S' = zcell as dA u b S') : (zw as dA SH u).set a (as a, e) = zw as dA SH u' := by
  apply List.ext_getElem?
  intro b
  rw [List.getElem?_set]
  by_cases hb : a = b
  · subst hb
    have hl : a < (zw as dA SH u).length := (List.getElem?_eq_some_iff.mp (zw_get h)).1
    rw [if_pos rfl, if_pos hl, zw_get h, he]
  · rw [if_neg hb]
    cases hS : SH[b]? with
    | none =>
      unfold zw
      rw [List.getElem?_mapIdx, List.getElem?_mapIdx, hS]
      rfl
    | some S' => rw [zw_get hS, zw_get hS, ho b S' (fun q => hb q.symm)]
theorem zfield_I {as : Nat → Nat} {u : zM} {a k : Nat} {x : Int32} {b j : Nat} (kd : Nat) (h : ¬ (b = a ∧ j = k)) : zfield as (sI u a k x) b j kd = zfield as u b j kd := by
  match kd with
  | 0 => show Value.int _ = Value.int _; unfold gI sI; dsimp only; rw [if_neg h]
  | 1 => rfl
  | 2 => rfl
  | _ + 3 => rfl
theorem zcell_I {as : Nat → Nat} {dA : Nat → ClassId} {u : zM} {a k : Nat} {x : Int32} (b : Nat) (S : zS) (h : b ≠ a) : zcell as dA (sI u a k x) b S = zcell as dA u b S := by
  cases S with
  | inl o =>
    have e : (fun j kd => zfield as (sI u a k x) b j kd) = fun j kd => zfield as u b j kd := by
      funext j kd
      exact zfield_I kd (fun q => h q.1)
    show Sum.inr (o.1, o.2.mapIdx (fun j kd => zfield as (sI u a k x) b j kd)) = Sum.inr (o.1, o.2.mapIdx (fun j kd => zfield as u b j kd))
    rw [e]
  | inr r =>
    show Sum.inl _ = Sum.inl _
    congr 2
    have e : gI (sI u a k x) b = gI u b := by funext j; unfold gI sI; dsimp only; rw [if_neg (fun q => h q.1)]
    obtain ⟨t, n, p, q⟩ := r
    dsimp only
    unfold zarr
    split <;> first | rw [e] | rfl
theorem zcell_J {as : Nat → Nat} {dA : Nat → ClassId} {u : zM} {a k : Nat} {x : Int64} (b : Nat) (S : zS) (h : b ≠ a) : zcell as dA (sJ u a k x) b S = zcell as dA u b S := by
  cases S with
  | inl o =>
    have e : (fun j kd => zfield as (sJ u a k x) b j kd) = fun j kd => zfield as u b j kd := by
      funext j kd
      match kd with
      | 0 => rfl
      | 1 => show Value.long _ = Value.long _; unfold gJ sJ; dsimp only; rw [if_neg (fun q => h q.1)]
      | 2 => rfl
      | _ + 3 => rfl
    show Sum.inr (o.1, o.2.mapIdx (fun j kd => zfield as (sJ u a k x) b j kd)) = Sum.inr (o.1, o.2.mapIdx (fun j kd => zfield as u b j kd))
    rw [e]
  | inr r =>
    show Sum.inl _ = Sum.inl _
    congr 2
    have e : gJ (sJ u a k x) b = gJ u b := by funext j; unfold gJ sJ; dsimp only; rw [if_neg (fun q => h q.1)]
    obtain ⟨t, n, p, q⟩ := r
    dsimp only
    unfold zarr
    split <;> first | rw [e] | rfl
theorem zcell_O {as : Nat → Nat} {dA : Nat → ClassId} {u : zM} {a k : Nat} {x : Option Nat} (b : Nat) (S : zS) (h : b ≠ a) : zcell as dA (sO u a k x) b S = zcell as dA u b S := by
  cases S with
  | inl o =>
    have e : (fun j kd => zfield as (sO u a k x) b j kd) = fun j kd => zfield as u b j kd := by
      funext j kd
      match kd with
      | 0 => rfl
      | 1 => rfl
      | 2 => show va_rf _ = va_rf _; unfold gO sO; dsimp only; rw [if_neg (fun q => h q.1)]
      | _ + 3 => rfl
    show Sum.inr (o.1, o.2.mapIdx (fun j kd => zfield as (sO u a k x) b j kd)) = Sum.inr (o.1, o.2.mapIdx (fun j kd => zfield as u b j kd))
    rw [e]
  | inr r => rfl
theorem zfs_set {as : Nat → Nat} {u u' : zM} {a k kd : Nat} {ks : List Nat} {v : Value} (hk : ks[k]? = some kd) (hv : v = zfield as u' a k kd) (ho : ∀ j kj, j ≠ k → zfield as u' a j kj = zfield as u a j kj) : (ks.mapIdx (fun j kj => zfield as u a j kj)).set k v = ks.mapIdx (fun j kj => zfield as u' a j kj) := by
  apply List.ext_getElem?
  intro j
  rw [List.getElem?_set]
  by_cases hj : k = j
  · subst hj
    have hl : k < (ks.mapIdx (fun j kj => zfield as u a j kj)).length := by rw [List.length_mapIdx]; exact (List.getElem?_eq_some_iff.mp hk).1
    rw [if_pos rfl, if_pos hl, List.getElem?_mapIdx, hk, hv]
    rfl
  · rw [if_neg hj, List.getElem?_mapIdx, List.getElem?_mapIdx]
    cases ks[j]? with
    | none => rfl
    | some kj => exact congrArg some (ho j kj (fun q => hj q.symm)).symm
/-- which cells a system may change -/
def zA (as : Nat → Nat) (n sz : Nat) : Nat → Prop := fun q => (∃ k : Nat, k < n ∧ q = as k) ∨ sz ≤ q
def zInj (as : Nat → Nat) (n : Nat) : Prop := ∀ i j : Nat, i < n → j < n → as i = as j → i = j
theorem zw_D {as : Nat → Nat} {dA : Nat → ClassId} {SH : List zS} {u : zM} {A : Nat → Prop} (hI : zInj as SH.length) (hA : ∀ k : Nat, k < SH.length → A (as k)) : va_D A (zw as dA SH u) := by
  refine ⟨fun i j p q hi hj e => ?_, fun k q hk => ?_⟩
  · obtain ⟨S, h1, rfl⟩ := zw_has hi
    obtain ⟨S', h2, rfl⟩ := zw_has hj
    exact hI i j (List.getElem?_eq_some_iff.mp h1).1 (List.getElem?_eq_some_iff.mp h2).1 e
  · obtain ⟨S, h1, rfl⟩ := zw_has hk
    exact hA k (List.getElem?_eq_some_iff.mp h1).1
theorem zw_DA {as : Nat → Nat} {dA : Nat → ClassId} {SH : List zS} {u : zM} {sz : Nat} (hI : zInj as SH.length) : va_D (zA as SH.length sz) (zw as dA SH u) := zw_D hI (fun k h => Or.inl ⟨k, h, rfl⟩)
/-- the kinds of arrays -/
def zty (dA : Nat → ClassId) : List (ClassId × FieldType) := [(dA 0, .int), (dA 1, .boolean), (dA 2, .byte), (dA 3, .long), (dA 4, .object "StruckWhile$Square"), (dA 5, .array .long)]
/-! ===== what stands outside: words of nests, static arrays, String constants ===== -/
def zIsNest : Cond → Bool
  | .methodLinkNest _ _ _ _ => true
  | .fieldLinkNest _ _ _ _ _ _ => true
  | _ => false
def zNest : List Cond := lw_tbl.filter zIsNest
theorem zn_at (i : Nat) {w : Cond} (h : lw_tbl[i]? = some w) (hg : zIsNest w = true) : w ∈ zNest := List.mem_filter.mpr ⟨List.mem_of_getElem? h, hg⟩
theorem zn_warm {w : Cond} (hw : w ∈ zNest) {s U : State} (hW : s.WarmedH U.vm) (h : va_Nw w s) : va_Nw w U := by
  have hk := (List.mem_filter.mp hw).2
  cases w <;> first | exact va_Nw.warmM hW h | exact va_Nw.warmF hW h | (cases hk)
theorem zn_same {w : Cond} (hw : w ∈ zNest) {u U : State} (hv : u.vm = U.vm) (h : va_Nw w u) : va_Nw w U := by
  have hk := (List.mem_filter.mp hw).2
  cases w <;> first | exact va_Nw.same rfl hv h | (cases hk)
theorem zn_use {w : Cond} (hw : w ∈ zNest) {a : Array Value} {U : State} (h : va_Nw w U) : w.before a U = true := by
  have hk := (List.mem_filter.mp hw).2
  cases w <;> first | exact va_Nw.use rfl h | (cases hk)
theorem zn_of {w : Cond} (hw : w ∈ zNest) {a : Array Value} {U : State} (h : w.before a U = true) : va_Nw w U := by
  have hk := (List.mem_filter.mp hw).2
  cases w <;> first | exact va_Nw.of rfl h | (cases hk)
/-- static arrays of ints: class, name, their numbers -/
def zSA : List (String × String × List Int32) := [("StruckWhile", "KIND_ABOVE", [-1, 0, 0, 0, 1, 2, 3]), ("StruckWhile$Acts", "BODIES", [10, 11, 12, 0, 20, 0, 30, 0, 0, 0, 0, 40, 50, 51, 0, 0, 0, 60, 71, 70, 0]), ("StruckWhile$Ahead", "ROWS_OF", [1, 1, 2, 6, 24])]
/-- String constants of the Reader: place, text, bytes -/
def zSK : List (Nat × String × List Int32) := [(42, "heat", [104, 101, 97, 116]), (81, "pkvhnm", [112, 107, 118, 104, 110, 109]), (87, "<=>", [60, 61, 62]), (52, "calm", [99, 97, 108, 109]), (54, "spark", [115, 112, 97, 114, 107])]
/-- what stands outside of all systems: the words of nests, static arrays (at 1000 ..), String constants (at 1010 ..), their bytes (at 1020 ..) -/
def zSt (as : Nat → Nat) (A : Nat → Prop) (U : State) : Prop :=
  (∀ w ∈ zNest, va_Nw w U) ∧ va_Z "java/lang/String" "COMPACT_STRINGS" "Z" (.int 1) A U U.heap ∧ va_Zq "jdk/internal/util/Preconditions" "SIOOBE_FORMATTER" "Ljava/util/function/BiFunction;" A U U.heap ∧
  (∀ (k : Nat) (q : String × String × List Int32), zSA[k]? = some q → va_Z q.1 q.2.1 "[I" (.ref (as (1000 + k))) A U U.heap ∧ va_T .int (as (1000 + k)) q.2.2.length (fun i => .int (q.2.2.getD i 0)) A U U.heap) ∧
  vk_S 5 (zSK.map (fun q => q.2.2.length)) (zSK.map (fun q => q.2.2)) (fun k => as (1010 + k)) (fun k => as (1020 + k)) A U U.heap ∧
  ∀ (k : Nat) (q : Nat × String × List Int32), zSK[k]? = some q → vk_R "StruckWhile$Reader" q.1 q.2.1 (as (1010 + k)) U
theorem zSt.same {as : Nat → Nat} {A : Nat → Prop} {u U : State} (hh : U.heap = u.heap) (hv : U.vm = u.vm) (h : zSt as A u) : zSt as A U := by
  have ha : u.vm.Alike U.vm := by rw [hv]; exact Vm.Alike.refl _
  obtain ⟨h1, h2, h3, h4, h5, h6⟩ := h
  refine ⟨fun w hw => zn_same hw hv.symm (h1 w hw), ?_, ?_, fun k q hk => ⟨?_, ?_⟩, ?_, fun k q hk => (h6 k q hk).same hv⟩ <;> rw [hh]
  · exact h2.moved ha
  · exact h3.moved ha
  · exact (h4 k q hk).1.moved ha
  · exact (h4 k q hk).2.moved ha
  · exact h5.moved ha
theorem zSt.call {as : Nat → Nat} {A B : Nat → Prop} {s U : State} {H : Heap} {locs : List Loc} (hU : U.heap = H) (hW : s.WarmedH U.vm) (hS : va_S A s.heap H locs) (hAB : ∀ q, B q → A q) (h : zSt as A s) : zSt as B U := by
  have ha : s.vm.Alike U.vm := hW.alike
  obtain ⟨h1, h2, h3, h4, h5, h6⟩ := h
  refine ⟨fun w hw => zn_warm hw hW (h1 w hw), ?_, ?_, fun k q hk => ⟨?_, ?_⟩, ?_, fun k q hk => (h6 k q hk).warm hW⟩ <;> rw [hU]
  · exact ((h2.kept hS.2.1).moved ha).narrow hAB
  · exact ((h3.kept hS.2.1).moved ha).narrow hAB
  · exact (((h4 k q hk).1.kept hS.2.1).moved ha).narrow hAB
  · exact (((h4 k q hk).2.kept hS.2.1).moved ha).narrow hAB
  · exact ((h5.kept hS.2.1).moved ha).narrow hAB
/-! ===== contracts ===== -/
def zRm (d : Nat) : Room := { frames := d, cells := 0, slots := 0, locals := 64 * d }
def zPre (as : Nat → Nat) (dA : Nat → ClassId) (D : va_G) (SH : List zS) (u : zM) (sz : Nat) (U : State) : Prop :=
  U.heap.size = sz ∧ va_P D zcl (zw as dA SH u) U.heap ∧ va_K D zcl (zty dA) U ∧ zInj as SH.length ∧ zSt as (zA as SH.length sz) U
def zPost (as : Nat → Nat) (dA : Nat → ClassId) (D : va_G) (SH : List zS) (u : zM) (t : State) : Prop := va_P D zcl (zw as dA SH u) t.heap ∧ va_K D zcl (zty dA) t
def zQi (as : Nat → Nat) (dA : Nat → ClassId) (D : va_G) (SH : List zS) (sz : Nat) (x : Int32) (u' : zM) : Array Value → State → Outcome → State → Prop :=
  va_Qi (fun (x' : Int32) (v : zM) => x' = x ∧ v = u') (fun v t => zPost as dA D SH v t) (zA as SH.length sz)
def zQl (as : Nat → Nat) (dA : Nat → ClassId) (D : va_G) (SH : List zS) (sz : Nat) (x : Int64) (u' : zM) : Array Value → State → Outcome → State → Prop :=
  va_Ql (fun (x' : Int64) (v : zM) => x' = x ∧ v = u') (fun v t => zPost as dA D SH v t) (zA as SH.length sz)
def zQv (as : Nat → Nat) (dA : Nat → ClassId) (D : va_G) (SH : List zS) (sz : Nat) (_ : Unit) (u' : zM) : Array Value → State → Outcome → State → Prop :=
  va_Qv (fun (v : zM) => v = u') (fun v t => zPost as dA D SH v t) (zA as SH.length sz)
/-- a reference that is answered: the cell's number -/
def zQr (as : Nat → Nat) (dA : Nat → ClassId) (D : va_G) (SH : List zS) (sz : Nat) (x : Nat) (u' : zM) : Array Value → State → Outcome → State → Prop :=
  va_Qr (fun (v : zM) => v = u') (fun v a t => a = as x ∧ zPost as dA D SH v t) (zA as SH.length sz)
def zMet {α : Type} (Qk : (Nat → Nat) → (Nat → ClassId) → va_G → List zS → Nat → α → zM → Array Value → State → Outcome → State → Prop) (SH : List zS) (y : MethodName) (bytes : ByteArray) (maxL : Nat) (rt : Option FieldType) (d : Nat) (av : List Value) (u : zM) (F : Option (α × zM)) : Prop :=
  ∀ (r : α) (u' : zM), F = some (r, u') → ∀ (l : Launch) (as : Nat → Nat) (dA : Nat → ClassId) (D : va_G) (sz : Nat), Met l y (.code y bytes maxL rt :: zTb) (zRm d) (va_Pc (av.map (zr as)) (zPre as dA D SH u sz)) (Qk as dA D SH sz r u') 0 0 (zA as SH.length sz)
/-- what holds in a method's frame -/
def zCx (p : Program) (s : State) (m : MethodId) (args : Array Value) (meth : Method) (c : Code) (as : Nat → Nat) (dA : Nat → ClassId) (D : va_G) (SH : List zS) (d : Nat) (nL : Nat) (own : String) (cc : ByteArray) (ret : Option FieldType) : Prop :=
  p.tables.exec = Jvm.exec ∧ c.code = cc ∧ c.maxLocals = nL ∧ s.vm.findClass own = some m.cls ∧ (∀ w ∈ zTb, w.before args s = true) ∧ meth.sig.returnType = ret ∧ meth.locks = false ∧ va_K D zcl (zty dA) s ∧ zInj as SH.length ∧ zSt as (zA as SH.length s.heap.size) s ∧ 1 ≤ d
def zL (as : Nat → Nat) (L : List (Nat × Value)) : List (Nat × Value) := L.map (fun q => (q.1, zr as q.2))
def Go (p : Program) (l : Launch) (e : Env) (s : State) (m : MethodId) (args : Array Value) (below : List Frame) (meth : Method) (c : Code) (as : Nat → Nat) (dA : Nat → ClassId) (D : va_G) (SH : List zS) (d : Nat) (nL : Nat) {α : Type} (Qk : (Nat → Nat) → (Nat → ClassId) → va_G → List zS → Nat → α → zM → Array Value → State → Outcome → State → Prop)
    (pc : Nat) (L : List (Nat × Value)) (st : List Value) (u : zM) (F : Option (α × zM)) : Prop :=
  ∀ (r : α) (u' : zM), F = some (r, u') → ∀ (H : Heap) (locs : List Loc) (ls : Array Slot), va_P D zcl (zw as dA SH u) H → va_S (zA as SH.length s.heap.size) s.heap H locs → lv_has ls nL (zL as L) →
    W p l e (zRm d) s m args below meth c H locs 0 0 (MQ below (Qk as dA D SH s.heap.size r u') args s 0 0 (zA as SH.length s.heap.size)) (F0 m pc ls (st.map (zr as)))
theorem zr_cat (as : Nat → Nat) (v : Value) : (zr as v).category = v.category := by cases v <;> rfl
theorem zL_at {as : Nat → Nat} {L : List (Nat × Value)} {k i : Nat} {v : Value} (h : L[k]? = some (i, v)) : (zL as L)[k]? = some (i, zr as v) := by
  unfold zL
  rw [List.getElem?_map, h]
  rfl
theorem zL_f1 (as : Nat → Nat) (i : Nat) : ∀ L : List (Nat × Value), (zL as L).filter (fun q => !(q.1 == i) && !(q.1 + 1 == i && q.2.category == 2)) = zL as (L.filter (fun q => !(q.1 == i) && !(q.1 + 1 == i && q.2.category == 2))) := by
  intro L
  unfold zL
  rw [List.filter_map]
  congr 1
  apply List.filter_congr
  intro q _
  show (!(q.1 == i) && !(q.1 + 1 == i && (zr as q.2).category == 2)) = _
  rw [zr_cat]
theorem zL_sub {as : Nat → Nat} {ls : Array Slot} {nL : Nat} {L L' : List (Nat × Value)} (h : lv_has ls nL (zL as L)) (ks : List Nat) (hl : lv_pick L ks = L') : lv_has ls nL (zL as L') := by
  refine lv_sub h ks ?_
  rw [← hl]
  unfold lv_pick zL
  rw [List.map_filterMap]
  congr 1
  funext k
  rw [List.getElem?_map]
end
section
/-! ===== one rule an instruction, over the memory ===== -/
section GoRules
variable {p : Program} {l : Launch} {e : Env} {s : State} {m : MethodId} {args : Array Value} {below : List Frame} {meth : Method} {c : Code} {as : Nat → Nat} {dA : Nat → ClassId} {D : va_G} {SH : List zS} {d nL : Nat} {α : Type} {Qk : (Nat → Nat) → (Nat → ClassId) → va_G → List zS → Nat → α → zM → Array Value → State → Outcome → State → Prop}
variable {own : String} {cc : ByteArray} {ret : Option FieldType} {pc : Nat} {L : List (Nat × Value)} {st : List Value} {u : zM} {F : Option (α × zM)}
def zck {β : Type} (b : Bool) (o : Option β) : Option β := if b = true then o else none
def zb {β γ : Type} (o : Option (β × zM)) (k : β → zM → Option γ) : Option γ := match o with
  | some q => k q.1 q.2
  | none => none
def zlet {γ : Type} (u : zM) (k : zM → Option γ) : Option γ := k u
def zlx {γ : Type} (x : Int32) (k : Int32 → Option γ) : Option γ := k x
def zly {γ : Type} (x : Int64) (k : Int64 → Option γ) : Option γ := k x
def zmo {γ : Type} (o : Option Nat) (k0 : Option γ) (k1 : Nat → Option γ) : Option γ := match o with
  | some x => k1 x
  | none => k0
def zrem (x y : Int32) : Int32 := x - x / y * y
def inB (i : Int32) (n : Nat) : Bool := decide (¬ (i < 0 ∨ n ≤ i.toNatClampNeg))
theorem inB_in {i : Int32} {n : Nat} (h : inB i n = true) : vp_in i n := by
  show ¬ (i < 0 ∨ n ≤ i.toNatClampNeg)
  unfold inB at h
  exact of_decide_eq_true h
theorem zck_some {β : Type} {b : Bool} {o : Option β} {r : β} (h : zck b o = some r) : b = true ∧ o = some r := by
  unfold zck at h
  split at h
  · exact ⟨by assumption, h⟩
  · cases h
theorem zb_some {β γ : Type} {o : Option (β × zM)} {k : β → zM → Option γ} {r : γ} (h : zb o k = some r) : ∃ x v, o = some (x, v) ∧ k x v = some r := by
  cases o with
  | none => cases h
  | some q => exact ⟨q.1, q.2, rfl, h⟩
theorem G_none : Go p l e s m args below meth c as dA D SH d nL Qk pc L st u none := fun _ _ h => by cases h
theorem G_ck {b : Bool} (k : b = true → Go p l e s m args below meth c as dA D SH d nL Qk pc L st u F) : Go p l e s m args below meth c as dA D SH d nL Qk pc L st u (zck b F) := fun r u' h => k (zck_some h).1 r u' (zck_some h).2
theorem G_if {P : Prop} [Decidable P] {F1 F2 : Option (α × zM)} (k1 : P → Go p l e s m args below meth c as dA D SH d nL Qk pc L st u F1) (k2 : ¬ P → Go p l e s m args below meth c as dA D SH d nL Qk pc L st u F2) : Go p l e s m args below meth c as dA D SH d nL Qk pc L st u (if P then F1 else F2) := by
  by_cases h : P
  · rw [if_pos h]; exact k1 h
  · rw [if_neg h]; exact k2 h
theorem G_topi {x : Int32} {F : Int32 → Option (α × zM)} (k : ∀ y : Int32, Go p l e s m args below meth c as dA D SH d nL Qk pc L (.int y :: st) u (F y)) : Go p l e s m args below meth c as dA D SH d nL Qk pc L (.int x :: st) u (zlx x F) := k x
theorem G_topl {x : Int64} {F : Int64 → Option (α × zM)} (k : ∀ y : Int64, Go p l e s m args below meth c as dA D SH d nL Qk pc L (.long y :: st) u (F y)) : Go p l e s m args below meth c as dA D SH d nL Qk pc L (.long x :: st) u (zly x F) := k x
theorem G_locals (ks : List Nat) {L' : List (Nat × Value)} (hl : lv_pick L ks = L') (k : Go p l e s m args below meth c as dA D SH d nL Qk pc L' st u F) : Go p l e s m args below meth c as dA D SH d nL Qk pc L st u F := fun r u' hF H locs ls hP hS h => k r u' hF H locs ls hP hS (zL_sub h ks hl)

theorem G_iconst (C : zCx p s m args meth c as dA D SH d nL own cc ret) {n : Int} {v : Int32} (hdg : decode cc pc = .ok (.iconst n, 1)) (hv : Int32.ofInt n = v) (k : Go p l e s m args below meth c as dA D SH d nL Qk  (pc + 1) L (.int v :: st) u F) : Go p l e s m args below meth c as dA D SH d nL Qk  pc L st u F := by
  obtain ⟨hx, hb, hml, hown, hts, hr, hlk, hK, hI, hZ, hd1⟩ := C
  intro r u' hF H locs ls hP hS hl
  exact lv_iconst hx hb hdg hv (k r u' hF H locs ls hP hS hl)
theorem G_bipush (C : zCx p s m args meth c as dA D SH d nL own cc ret) {n : Int} {v : Int32} (hdg : decode cc pc = .ok (.bipush n, 2)) (hv : (Int8.ofInt n).toInt32 = v) (k : Go p l e s m args below meth c as dA D SH d nL Qk  (pc + 2) L (.int v :: st) u F) : Go p l e s m args below meth c as dA D SH d nL Qk  pc L st u F := by
  obtain ⟨hx, hb, hml, hown, hts, hr, hlk, hK, hI, hZ, hd1⟩ := C
  intro r u' hF H locs ls hP hS hl
  exact lv_bipush hx hb hdg hv (k r u' hF H locs ls hP hS hl)
theorem G_sipush (C : zCx p s m args meth c as dA D SH d nL own cc ret) {n : Int} {v : Int32} (hdg : decode cc pc = .ok (.sipush n, 3)) (hv : (Int16.ofInt n).toInt32 = v) (k : Go p l e s m args below meth c as dA D SH d nL Qk  (pc + 3) L (.int v :: st) u F) : Go p l e s m args below meth c as dA D SH d nL Qk  pc L st u F := by
  obtain ⟨hx, hb, hml, hown, hts, hr, hlk, hK, hI, hZ, hd1⟩ := C
  intro r u' hF H locs ls hP hS hl
  exact lv_sipush hx hb hdg hv (k r u' hF H locs ls hP hS hl)
theorem G_lconst (C : zCx p s m args meth c as dA D SH d nL own cc ret) {n : Fin 2} {v : Int64} (hdg : decode cc pc = .ok (.lconst n, 1)) (hv : Int64.ofNat (n : Nat) = v) (k : Go p l e s m args below meth c as dA D SH d nL Qk  (pc + 1) L (.long v :: st) u F) : Go p l e s m args below meth c as dA D SH d nL Qk  pc L st u F := by
  obtain ⟨hx, hb, hml, hown, hts, hr, hlk, hK, hI, hZ, hd1⟩ := C
  intro r u' hF H locs ls hP hS hl
  exact lv_lconst hx hb hdg hv (k r u' hF H locs ls hP hS hl)
theorem G_ldc (C : zCx p s m args meth c as dA D SH d nL own cc ret) {index : Nat} {v : Int32} (hdg : decode cc pc = .ok (.ldc index, 2)) (hc : Cond.constant own index v ∈ zTb) (k : Go p l e s m args below meth c as dA D SH d nL Qk  (pc + 2) L (.int v :: st) u F) : Go p l e s m args below meth c as dA D SH d nL Qk  pc L st u F := by
  obtain ⟨hx, hb, hml, hown, hts, hr, hlk, hK, hI, hZ, hd1⟩ := C
  intro r u' hF H locs ls hP hS hl
  exact lv_ldc hx hb hown (hts _ hc) hdg (k r u' hF H locs ls hP hS hl)
theorem G_ldc2 (C : zCx p s m args meth c as dA D SH d nL own cc ret) {index : Nat} {v : Int64} (hdg : decode cc pc = .ok (.ldc2_w index, 3)) (hc : Cond.constantLong own index v ∈ zTb) (k : Go p l e s m args below meth c as dA D SH d nL Qk  (pc + 3) L (.long v :: st) u F) : Go p l e s m args below meth c as dA D SH d nL Qk  pc L st u F := by
  obtain ⟨hx, hb, hml, hown, hts, hr, hlk, hK, hI, hZ, hd1⟩ := C
  intro r u' hF H locs ls hP hS hl
  exact lv_ldc2 hx hb hown (hts _ hc) hdg (k r u' hF H locs ls hP hS hl)
theorem G_iadd (C : zCx p s m args meth c as dA D SH d nL own cc ret) {x y : Int32} (hdg : decode cc pc = .ok (.iadd, 1)) (k : Go p l e s m args below meth c as dA D SH d nL Qk  (pc + 1) L (.int (x + y) :: st) u F) : Go p l e s m args below meth c as dA D SH d nL Qk  pc L (.int y :: .int x :: st) u F := by
  obtain ⟨hx, hb, hml, hown, hts, hr, hlk, hK, hI, hZ, hd1⟩ := C
  intro r u' hF H locs ls hP hS hl
  exact lv_iadd hx hb hdg (k r u' hF H locs ls hP hS hl)
theorem G_isub (C : zCx p s m args meth c as dA D SH d nL own cc ret) {x y : Int32} (hdg : decode cc pc = .ok (.isub, 1)) (k : Go p l e s m args below meth c as dA D SH d nL Qk  (pc + 1) L (.int (x - y) :: st) u F) : Go p l e s m args below meth c as dA D SH d nL Qk  pc L (.int y :: .int x :: st) u F := by
  obtain ⟨hx, hb, hml, hown, hts, hr, hlk, hK, hI, hZ, hd1⟩ := C
  intro r u' hF H locs ls hP hS hl
  exact lv_isub hx hb hdg (k r u' hF H locs ls hP hS hl)
theorem G_imul (C : zCx p s m args meth c as dA D SH d nL own cc ret) {x y : Int32} (hdg : decode cc pc = .ok (.imul, 1)) (k : Go p l e s m args below meth c as dA D SH d nL Qk  (pc + 1) L (.int (x * y) :: st) u F) : Go p l e s m args below meth c as dA D SH d nL Qk  pc L (.int y :: .int x :: st) u F := by
  obtain ⟨hx, hb, hml, hown, hts, hr, hlk, hK, hI, hZ, hd1⟩ := C
  intro r u' hF H locs ls hP hS hl
  exact lv_imul hx hb hdg (k r u' hF H locs ls hP hS hl)
theorem G_iand (C : zCx p s m args meth c as dA D SH d nL own cc ret) {x y : Int32} (hdg : decode cc pc = .ok (.iand, 1)) (k : Go p l e s m args below meth c as dA D SH d nL Qk  (pc + 1) L (.int (x &&& y) :: st) u F) : Go p l e s m args below meth c as dA D SH d nL Qk  pc L (.int y :: .int x :: st) u F := by
  obtain ⟨hx, hb, hml, hown, hts, hr, hlk, hK, hI, hZ, hd1⟩ := C
  intro r u' hF H locs ls hP hS hl
  exact lv_iand hx hb hdg (k r u' hF H locs ls hP hS hl)
theorem G_ior (C : zCx p s m args meth c as dA D SH d nL own cc ret) {x y : Int32} (hdg : decode cc pc = .ok (.ior, 1)) (k : Go p l e s m args below meth c as dA D SH d nL Qk  (pc + 1) L (.int (x ||| y) :: st) u F) : Go p l e s m args below meth c as dA D SH d nL Qk  pc L (.int y :: .int x :: st) u F := by
  obtain ⟨hx, hb, hml, hown, hts, hr, hlk, hK, hI, hZ, hd1⟩ := C
  intro r u' hF H locs ls hP hS hl
  exact lv_ior hx hb hdg (k r u' hF H locs ls hP hS hl)
theorem G_ixor (C : zCx p s m args meth c as dA D SH d nL own cc ret) {x y : Int32} (hdg : decode cc pc = .ok (.ixor, 1)) (k : Go p l e s m args below meth c as dA D SH d nL Qk  (pc + 1) L (.int (x ^^^ y) :: st) u F) : Go p l e s m args below meth c as dA D SH d nL Qk  pc L (.int y :: .int x :: st) u F := by
  obtain ⟨hx, hb, hml, hown, hts, hr, hlk, hK, hI, hZ, hd1⟩ := C
  intro r u' hF H locs ls hP hS hl
  exact lv_ixor hx hb hdg (k r u' hF H locs ls hP hS hl)
theorem G_idiv (C : zCx p s m args meth c as dA D SH d nL own cc ret) {x y : Int32} (hdg : decode cc pc = .ok (.idiv, 1)) (hne : ¬ y = 0) (k : Go p l e s m args below meth c as dA D SH d nL Qk  (pc + 1) L (.int (x / y) :: st) u F) : Go p l e s m args below meth c as dA D SH d nL Qk  pc L (.int y :: .int x :: st) u F := by
  obtain ⟨hx, hb, hml, hown, hts, hr, hlk, hK, hI, hZ, hd1⟩ := C
  intro r u' hF H locs ls hP hS hl
  exact lv_idiv hx hb hdg hne (k r u' hF H locs ls hP hS hl)
theorem G_irem (C : zCx p s m args meth c as dA D SH d nL own cc ret) {x y : Int32} (hdg : decode cc pc = .ok (.irem, 1)) (hne : ¬ y = 0) (k : Go p l e s m args below meth c as dA D SH d nL Qk  (pc + 1) L (.int (zrem x y) :: st) u F) : Go p l e s m args below meth c as dA D SH d nL Qk  pc L (.int y :: .int x :: st) u F := by
  obtain ⟨hx, hb, hml, hown, hts, hr, hlk, hK, hI, hZ, hd1⟩ := C
  intro r u' hF H locs ls hP hS hl
  exact lv_irem hx hb hdg hne (k r u' hF H locs ls hP hS hl)
theorem G_ineg (C : zCx p s m args meth c as dA D SH d nL own cc ret) {x : Int32} (hdg : decode cc pc = .ok (.ineg, 1)) (k : Go p l e s m args below meth c as dA D SH d nL Qk  (pc + 1) L (.int (-x) :: st) u F) : Go p l e s m args below meth c as dA D SH d nL Qk  pc L (.int x :: st) u F := by
  obtain ⟨hx, hb, hml, hown, hts, hr, hlk, hK, hI, hZ, hd1⟩ := C
  intro r u' hF H locs ls hP hS hl
  exact lv_ineg hx hb hdg (k r u' hF H locs ls hP hS hl)
theorem G_ishl (C : zCx p s m args meth c as dA D SH d nL own cc ret) {x y : Int32} (hdg : decode cc pc = .ok (.ishl, 1)) (k : Go p l e s m args below meth c as dA D SH d nL Qk  (pc + 1) L (.int (x <<< (y &&& 31)) :: st) u F) : Go p l e s m args below meth c as dA D SH d nL Qk  pc L (.int y :: .int x :: st) u F := by
  obtain ⟨hx, hb, hml, hown, hts, hr, hlk, hK, hI, hZ, hd1⟩ := C
  intro r u' hF H locs ls hP hS hl
  exact lv_ishl hx hb hdg (k r u' hF H locs ls hP hS hl)
theorem G_ishr (C : zCx p s m args meth c as dA D SH d nL own cc ret) {x y : Int32} (hdg : decode cc pc = .ok (.ishr, 1)) (k : Go p l e s m args below meth c as dA D SH d nL Qk  (pc + 1) L (.int (x >>> (y &&& 31)) :: st) u F) : Go p l e s m args below meth c as dA D SH d nL Qk  pc L (.int y :: .int x :: st) u F := by
  obtain ⟨hx, hb, hml, hown, hts, hr, hlk, hK, hI, hZ, hd1⟩ := C
  intro r u' hF H locs ls hP hS hl
  exact lv_ishr hx hb hdg (k r u' hF H locs ls hP hS hl)
theorem G_iushr (C : zCx p s m args meth c as dA D SH d nL own cc ret) {x y : Int32} (hdg : decode cc pc = .ok (.iushr, 1)) (k : Go p l e s m args below meth c as dA D SH d nL Qk  (pc + 1) L (.int ((x.toUInt32 >>> (y.toUInt32 &&& Int32.toUInt32 31)).toInt32) :: st) u F) : Go p l e s m args below meth c as dA D SH d nL Qk  pc L (.int y :: .int x :: st) u F := by
  obtain ⟨hx, hb, hml, hown, hts, hr, hlk, hK, hI, hZ, hd1⟩ := C
  intro r u' hF H locs ls hP hS hl
  exact lv_iushr hx hb hdg rfl (k r u' hF H locs ls hP hS hl)
theorem G_ladd (C : zCx p s m args meth c as dA D SH d nL own cc ret) {x y : Int64} (hdg : decode cc pc = .ok (.ladd, 1)) (k : Go p l e s m args below meth c as dA D SH d nL Qk  (pc + 1) L (.long (x + y) :: st) u F) : Go p l e s m args below meth c as dA D SH d nL Qk  pc L (.long y :: .long x :: st) u F := by
  obtain ⟨hx, hb, hml, hown, hts, hr, hlk, hK, hI, hZ, hd1⟩ := C
  intro r u' hF H locs ls hP hS hl
  exact lv_ladd hx hb hdg (k r u' hF H locs ls hP hS hl)
theorem G_land (C : zCx p s m args meth c as dA D SH d nL own cc ret) {x y : Int64} (hdg : decode cc pc = .ok (.land, 1)) (k : Go p l e s m args below meth c as dA D SH d nL Qk  (pc + 1) L (.long (x &&& y) :: st) u F) : Go p l e s m args below meth c as dA D SH d nL Qk  pc L (.long y :: .long x :: st) u F := by
  obtain ⟨hx, hb, hml, hown, hts, hr, hlk, hK, hI, hZ, hd1⟩ := C
  intro r u' hF H locs ls hP hS hl
  exact lv_land hx hb hdg (k r u' hF H locs ls hP hS hl)
theorem G_lor (C : zCx p s m args meth c as dA D SH d nL own cc ret) {x y : Int64} (hdg : decode cc pc = .ok (.lor, 1)) (k : Go p l e s m args below meth c as dA D SH d nL Qk  (pc + 1) L (.long (x ||| y) :: st) u F) : Go p l e s m args below meth c as dA D SH d nL Qk  pc L (.long y :: .long x :: st) u F := by
  obtain ⟨hx, hb, hml, hown, hts, hr, hlk, hK, hI, hZ, hd1⟩ := C
  intro r u' hF H locs ls hP hS hl
  exact lv_lor hx hb hdg (k r u' hF H locs ls hP hS hl)
theorem G_lshl (C : zCx p s m args meth c as dA D SH d nL own cc ret) {x : Int64} {y : Int32} (hdg : decode cc pc = .ok (.lshl, 1)) (k : Go p l e s m args below meth c as dA D SH d nL Qk  (pc + 1) L (.long (x <<< (y.toInt64 &&& 63)) :: st) u F) : Go p l e s m args below meth c as dA D SH d nL Qk  pc L (.int y :: .long x :: st) u F := by
  obtain ⟨hx, hb, hml, hown, hts, hr, hlk, hK, hI, hZ, hd1⟩ := C
  intro r u' hF H locs ls hP hS hl
  exact lv_lshl hx hb hdg rfl (k r u' hF H locs ls hP hS hl)
theorem G_i2b (C : zCx p s m args meth c as dA D SH d nL own cc ret) {x : Int32} (hdg : decode cc pc = .ok (.i2b, 1)) (k : Go p l e s m args below meth c as dA D SH d nL Qk  (pc + 1) L (.int (x.toInt8.toInt32) :: st) u F) : Go p l e s m args below meth c as dA D SH d nL Qk  pc L (.int x :: st) u F := by
  obtain ⟨hx, hb, hml, hown, hts, hr, hlk, hK, hI, hZ, hd1⟩ := C
  intro r u' hF H locs ls hP hS hl
  exact lv_i2b hx hb hdg rfl (k r u' hF H locs ls hP hS hl)
theorem G_i2s (C : zCx p s m args meth c as dA D SH d nL own cc ret) {x : Int32} (hdg : decode cc pc = .ok (.i2s, 1)) (k : Go p l e s m args below meth c as dA D SH d nL Qk  (pc + 1) L (.int (x.toInt16.toInt32) :: st) u F) : Go p l e s m args below meth c as dA D SH d nL Qk  pc L (.int x :: st) u F := by
  obtain ⟨hx, hb, hml, hown, hts, hr, hlk, hK, hI, hZ, hd1⟩ := C
  intro r u' hF H locs ls hP hS hl
  exact lv_i2s hx hb hdg rfl (k r u' hF H locs ls hP hS hl)
theorem G_i2c (C : zCx p s m args meth c as dA D SH d nL own cc ret) {x : Int32} (hdg : decode cc pc = .ok (.i2c, 1)) (k : Go p l e s m args below meth c as dA D SH d nL Qk  (pc + 1) L (.int ((x.toUInt32 % 65536).toInt32) :: st) u F) : Go p l e s m args below meth c as dA D SH d nL Qk  pc L (.int x :: st) u F := by
  obtain ⟨hx, hb, hml, hown, hts, hr, hlk, hK, hI, hZ, hd1⟩ := C
  intro r u' hF H locs ls hP hS hl
  exact lv_i2c hx hb hdg rfl (k r u' hF H locs ls hP hS hl)
theorem G_i2l (C : zCx p s m args meth c as dA D SH d nL own cc ret) {x : Int32} (hdg : decode cc pc = .ok (.i2l, 1)) (k : Go p l e s m args below meth c as dA D SH d nL Qk  (pc + 1) L (.long x.toInt64 :: st) u F) : Go p l e s m args below meth c as dA D SH d nL Qk  pc L (.int x :: st) u F := by
  obtain ⟨hx, hb, hml, hown, hts, hr, hlk, hK, hI, hZ, hd1⟩ := C
  intro r u' hF H locs ls hP hS hl
  exact lv_i2l hx hb hdg rfl (k r u' hF H locs ls hP hS hl)
theorem G_l2i (C : zCx p s m args meth c as dA D SH d nL own cc ret) {x : Int64} (hdg : decode cc pc = .ok (.l2i, 1)) (k : Go p l e s m args below meth c as dA D SH d nL Qk  (pc + 1) L (.int x.toInt32 :: st) u F) : Go p l e s m args below meth c as dA D SH d nL Qk  pc L (.long x :: st) u F := by
  obtain ⟨hx, hb, hml, hown, hts, hr, hlk, hK, hI, hZ, hd1⟩ := C
  intro r u' hF H locs ls hP hS hl
  exact lv_l2i hx hb hdg rfl (k r u' hF H locs ls hP hS hl)
theorem G_lcmp (C : zCx p s m args meth c as dA D SH d nL own cc ret) {x y : Int64} (hdg : decode cc pc = .ok (.lcmp, 1)) (k : Go p l e s m args below meth c as dA D SH d nL Qk  (pc + 1) L (.int (lg_cmp x y) :: st) u F) : Go p l e s m args below meth c as dA D SH d nL Qk  pc L (.long y :: .long x :: st) u F := by
  obtain ⟨hx, hb, hml, hown, hts, hr, hlk, hK, hI, hZ, hd1⟩ := C
  intro r u' hF H locs ls hP hS hl
  exact W.lcmp hx hb hdg (k r u' hF H locs ls hP hS hl)
theorem G_dup (C : zCx p s m args meth c as dA D SH d nL own cc ret) {v : Value} (hdg : decode cc pc = .ok (.dup, 1)) (hv : v.category = 1) (k : Go p l e s m args below meth c as dA D SH d nL Qk  (pc + 1) L (v :: v :: st) u F) : Go p l e s m args below meth c as dA D SH d nL Qk  pc L (v :: st) u F := by
  obtain ⟨hx, hb, hml, hown, hts, hr, hlk, hK, hI, hZ, hd1⟩ := C
  intro r u' hF H locs ls hP hS hl
  exact lv_dup hx hb hdg ((zr_cat as v).trans hv) (k r u' hF H locs ls hP hS hl)
theorem G_dup2 (C : zCx p s m args meth c as dA D SH d nL own cc ret) {v w : Value} (hdg : decode cc pc = .ok (.dup2, 1)) (hv : v.category = 1) (hw : w.category = 1) (k : Go p l e s m args below meth c as dA D SH d nL Qk  (pc + 1) L (v :: w :: v :: w :: st) u F) : Go p l e s m args below meth c as dA D SH d nL Qk  pc L (v :: w :: st) u F := by
  obtain ⟨hx, hb, hml, hown, hts, hr, hlk, hK, hI, hZ, hd1⟩ := C
  intro r u' hF H locs ls hP hS hl
  exact lv_dup2_11 hx hb hdg ((zr_cat as v).trans hv) ((zr_cat as w).trans hw) (k r u' hF H locs ls hP hS hl)
theorem G_pop (C : zCx p s m args meth c as dA D SH d nL own cc ret) {v : Value} (hdg : decode cc pc = .ok (.pop, 1)) (hv : v.category = 1) (k : Go p l e s m args below meth c as dA D SH d nL Qk  (pc + 1) L st u F) : Go p l e s m args below meth c as dA D SH d nL Qk  pc L (v :: st) u F := by
  obtain ⟨hx, hb, hml, hown, hts, hr, hlk, hK, hI, hZ, hd1⟩ := C
  intro r u' hF H locs ls hP hS hl
  exact lv_pop hx hb hdg ((zr_cat as v).trans hv) (k r u' hF H locs ls hP hS hl)
theorem G_null (C : zCx p s m args meth c as dA D SH d nL own cc ret) (hdg : decode cc pc = .ok (.aconst_null, 1)) (k : Go p l e s m args below meth c as dA D SH d nL Qk  (pc + 1) L (.null :: st) u F) : Go p l e s m args below meth c as dA D SH d nL Qk  pc L st u F := by
  obtain ⟨hx, hb, hml, hown, hts, hr, hlk, hK, hI, hZ, hd1⟩ := C
  intro r u' hF H locs ls hP hS hl
  exact lv_null hx hb hdg (k r u' hF H locs ls hP hS hl)
theorem G_iload_n (C : zCx p s m args meth c as dA D SH d nL own cc ret) {n : Fin 4} {i : Nat} {x : Int32} (q : Nat) (hdg : decode cc pc = .ok (.iload_n n, 1)) (hi : (n : Nat) = i) (hq : L[q]? = some (i, .int x)) (k : Go p l e s m args below meth c as dA D SH d nL Qk  (pc + 1) L (.int x :: st) u F) : Go p l e s m args below meth c as dA D SH d nL Qk  pc L st u F := by
  obtain ⟨hx, hb, hml, hown, hts, hr, hlk, hK, hI, hZ, hd1⟩ := C
  intro r u' hF H locs ls hP hS hl
  exact lv_iload_n hx hb hdg hi (lv_at hl q (zL_at hq)) (k r u' hF H locs ls hP hS hl)
theorem G_iload (C : zCx p s m args meth c as dA D SH d nL own cc ret) {i : Nat} {x : Int32} (q : Nat) (hdg : decode cc pc = .ok (.iload i, 2)) (hq : L[q]? = some (i, .int x)) (k : Go p l e s m args below meth c as dA D SH d nL Qk  (pc + 2) L (.int x :: st) u F) : Go p l e s m args below meth c as dA D SH d nL Qk  pc L st u F := by
  obtain ⟨hx, hb, hml, hown, hts, hr, hlk, hK, hI, hZ, hd1⟩ := C
  intro r u' hF H locs ls hP hS hl
  exact lv_iload hx hb hdg (lv_at hl q (zL_at hq)) (k r u' hF H locs ls hP hS hl)
theorem G_lload_n (C : zCx p s m args meth c as dA D SH d nL own cc ret) {n : Fin 4} {i : Nat} {x : Int64} (q : Nat) (hdg : decode cc pc = .ok (.lload_n n, 1)) (hi : (n : Nat) = i) (hq : L[q]? = some (i, .long x)) (k : Go p l e s m args below meth c as dA D SH d nL Qk  (pc + 1) L (.long x :: st) u F) : Go p l e s m args below meth c as dA D SH d nL Qk  pc L st u F := by
  obtain ⟨hx, hb, hml, hown, hts, hr, hlk, hK, hI, hZ, hd1⟩ := C
  intro r u' hF H locs ls hP hS hl
  exact lv_lload_n hx hb hdg hi (lv_at hl q (zL_at hq)) (k r u' hF H locs ls hP hS hl)
theorem G_lload (C : zCx p s m args meth c as dA D SH d nL own cc ret) {i : Nat} {x : Int64} (q : Nat) (hdg : decode cc pc = .ok (.lload i, 2)) (hq : L[q]? = some (i, .long x)) (k : Go p l e s m args below meth c as dA D SH d nL Qk  (pc + 2) L (.long x :: st) u F) : Go p l e s m args below meth c as dA D SH d nL Qk  pc L st u F := by
  obtain ⟨hx, hb, hml, hown, hts, hr, hlk, hK, hI, hZ, hd1⟩ := C
  intro r u' hF H locs ls hP hS hl
  exact lv_lload hx hb hdg (lv_at hl q (zL_at hq)) (k r u' hF H locs ls hP hS hl)
theorem G_aload_n (C : zCx p s m args meth c as dA D SH d nL own cc ret) {n : Fin 4} {i : Nat} {x : Nat} (q : Nat) (hdg : decode cc pc = .ok (.aload_n n, 1)) (hi : (n : Nat) = i) (hq : L[q]? = some (i, .ref x)) (k : Go p l e s m args below meth c as dA D SH d nL Qk  (pc + 1) L (.ref x :: st) u F) : Go p l e s m args below meth c as dA D SH d nL Qk  pc L st u F := by
  obtain ⟨hx, hb, hml, hown, hts, hr, hlk, hK, hI, hZ, hd1⟩ := C
  intro r u' hF H locs ls hP hS hl
  exact lv_aload_n hx hb hdg hi (lv_at hl q (zL_at hq)) (k r u' hF H locs ls hP hS hl)
theorem G_aload (C : zCx p s m args meth c as dA D SH d nL own cc ret) {i : Nat} {x : Nat} (q : Nat) (hdg : decode cc pc = .ok (.aload i, 2)) (hq : L[q]? = some (i, .ref x)) (k : Go p l e s m args below meth c as dA D SH d nL Qk  (pc + 2) L (.ref x :: st) u F) : Go p l e s m args below meth c as dA D SH d nL Qk  pc L st u F := by
  obtain ⟨hx, hb, hml, hown, hts, hr, hlk, hK, hI, hZ, hd1⟩ := C
  intro r u' hF H locs ls hP hS hl
  exact lv_aload hx hb hdg (lv_at hl q (zL_at hq)) (k r u' hF H locs ls hP hS hl)
theorem G_istore_n (C : zCx p s m args meth c as dA D SH d nL own cc ret) {n : Fin 4} {i : Nat} {x : Int32} {L' : List (Nat × Value)} (hdg : decode cc pc = .ok (.istore_n n, 1)) (hi : (n : Nat) = i) (hn : i < nL) (hL : (i, Value.int x) :: (L.filter (fun q => !(q.1 == i) && !(q.1 + 1 == i && q.2.category == 2))) = L') (k : Go p l e s m args below meth c as dA D SH d nL Qk  (pc + 1) L' st u F) : Go p l e s m args below meth c as dA D SH d nL Qk  pc L (.int x :: st) u F := by
  obtain ⟨hx, hb, hml, hown, hts, hr, hlk, hK, hI, hZ, hd1⟩ := C
  intro r u' hF H locs ls hP hS hl
  subst hL
  exact lv_istore_n hx hb hdg hi hl hn (congrArg _ (zL_f1 as i L)) (fun ls' hl' => k r u' hF H locs ls' hP hS hl')
theorem G_istore (C : zCx p s m args meth c as dA D SH d nL own cc ret) {i : Nat} {x : Int32} {L' : List (Nat × Value)} (hdg : decode cc pc = .ok (.istore i, 2)) (hn : i < nL) (hL : (i, Value.int x) :: (L.filter (fun q => !(q.1 == i) && !(q.1 + 1 == i && q.2.category == 2))) = L') (k : Go p l e s m args below meth c as dA D SH d nL Qk  (pc + 2) L' st u F) : Go p l e s m args below meth c as dA D SH d nL Qk  pc L (.int x :: st) u F := by
  obtain ⟨hx, hb, hml, hown, hts, hr, hlk, hK, hI, hZ, hd1⟩ := C
  intro r u' hF H locs ls hP hS hl
  subst hL
  exact lv_istore hx hb hdg hl hn (congrArg _ (zL_f1 as i L)) (fun ls' hl' => k r u' hF H locs ls' hP hS hl')
theorem G_astore_n (C : zCx p s m args meth c as dA D SH d nL own cc ret) {n : Fin 4} {i : Nat} {x : Nat} {L' : List (Nat × Value)} (hdg : decode cc pc = .ok (.astore_n n, 1)) (hi : (n : Nat) = i) (hn : i < nL) (hL : (i, Value.ref x) :: (L.filter (fun q => !(q.1 == i) && !(q.1 + 1 == i && q.2.category == 2))) = L') (k : Go p l e s m args below meth c as dA D SH d nL Qk  (pc + 1) L' st u F) : Go p l e s m args below meth c as dA D SH d nL Qk  pc L (.ref x :: st) u F := by
  obtain ⟨hx, hb, hml, hown, hts, hr, hlk, hK, hI, hZ, hd1⟩ := C
  intro r u' hF H locs ls hP hS hl
  subst hL
  exact lv_astore_n hx hb hdg hi hl hn (congrArg _ (zL_f1 as i L)) (fun ls' hl' => k r u' hF H locs ls' hP hS hl')
theorem G_astore (C : zCx p s m args meth c as dA D SH d nL own cc ret) {i : Nat} {x : Nat} {L' : List (Nat × Value)} (hdg : decode cc pc = .ok (.astore i, 2)) (hn : i < nL) (hL : (i, Value.ref x) :: (L.filter (fun q => !(q.1 == i) && !(q.1 + 1 == i && q.2.category == 2))) = L') (k : Go p l e s m args below meth c as dA D SH d nL Qk  (pc + 2) L' st u F) : Go p l e s m args below meth c as dA D SH d nL Qk  pc L (.ref x :: st) u F := by
  obtain ⟨hx, hb, hml, hown, hts, hr, hlk, hK, hI, hZ, hd1⟩ := C
  intro r u' hF H locs ls hP hS hl
  subst hL
  exact lv_astore hx hb hdg hl hn (congrArg _ (zL_f1 as i L)) (fun ls' hl' => k r u' hF H locs ls' hP hS hl')
theorem G_iinc (C : zCx p s m args meth c as dA D SH d nL own cc ret) {i : Nat} {n : Int} {x v : Int32} {L' : List (Nat × Value)} (q : Nat) (hdg : decode cc pc = .ok (.iinc i n, 3)) (hq : L[q]? = some (i, .int x)) (hv : Int32.ofInt n = v) (hn : i < nL) (hL : (i, Value.int (x + v)) :: (L.filter (fun q => !(q.1 == i) && !(q.1 + 1 == i && q.2.category == 2))) = L') (k : Go p l e s m args below meth c as dA D SH d nL Qk  (pc + 3) L' st u F) : Go p l e s m args below meth c as dA D SH d nL Qk  pc L st u F := by
  obtain ⟨hx, hb, hml, hown, hts, hr, hlk, hK, hI, hZ, hd1⟩ := C
  intro r u' hF H locs ls hP hS hl
  subst hL; subst hv
  exact lv_iinc hx hb hdg hl (zL_at hq) rfl hn (congrArg _ (zL_f1 as i L)) (fun ls' hl' => k r u' hF H locs ls' hP hS hl')
theorem G_if_eq (C : zCx p s m args meth c as dA D SH d nL own cc ret) {x : Int32} {off : Int} {tgt : Nat} {F1 F2 : Option (α × zM)} (hdg : decode cc pc = .ok (.ifCond .eq off, 3)) (ht : (pc : Int) + off = (tgt : Int)) (k1 : (x = 0) → Go p l e s m args below meth c as dA D SH d nL Qk  tgt L st u F1) (k2 : ¬ (x = 0) → Go p l e s m args below meth c as dA D SH d nL Qk  (pc + 3) L st u F2) : Go p l e s m args below meth c as dA D SH d nL Qk  pc L (.int x :: st) u (if (x = 0) then F1 else F2) := by
  obtain ⟨hx, hb, hml, hown, hts, hr, hlk, hK, hI, hZ, hd1⟩ := C
  intro r u' hF H locs ls hP hS hl
  refine lv_if_eq hx hb hdg ht (fun h => ?_) (fun h => ?_)
  · exact k1 h r u' (by rw [if_pos h] at hF; exact hF) H locs ls hP hS hl
  · exact k2 h r u' (by rw [if_neg h] at hF; exact hF) H locs ls hP hS hl
theorem G_icmp_eq (C : zCx p s m args meth c as dA D SH d nL own cc ret) {x y : Int32} {off : Int} {tgt : Nat} {F1 F2 : Option (α × zM)} (hdg : decode cc pc = .ok (.if_icmp .eq off, 3)) (ht : (pc : Int) + off = (tgt : Int)) (k1 : (x = y) → Go p l e s m args below meth c as dA D SH d nL Qk  tgt L st u F1) (k2 : ¬ (x = y) → Go p l e s m args below meth c as dA D SH d nL Qk  (pc + 3) L st u F2) : Go p l e s m args below meth c as dA D SH d nL Qk  pc L (.int y :: .int x :: st) u (if (x = y) then F1 else F2) := by
  obtain ⟨hx, hb, hml, hown, hts, hr, hlk, hK, hI, hZ, hd1⟩ := C
  intro r u' hF H locs ls hP hS hl
  refine lv_icmp_eq hx hb hdg ht (fun h => ?_) (fun h => ?_)
  · exact k1 h r u' (by rw [if_pos h] at hF; exact hF) H locs ls hP hS hl
  · exact k2 h r u' (by rw [if_neg h] at hF; exact hF) H locs ls hP hS hl
theorem G_if_ne (C : zCx p s m args meth c as dA D SH d nL own cc ret) {x : Int32} {off : Int} {tgt : Nat} {F1 F2 : Option (α × zM)} (hdg : decode cc pc = .ok (.ifCond .ne off, 3)) (ht : (pc : Int) + off = (tgt : Int)) (k1 : ¬ (x = 0) → Go p l e s m args below meth c as dA D SH d nL Qk  tgt L st u F1) (k2 : (x = 0) → Go p l e s m args below meth c as dA D SH d nL Qk  (pc + 3) L st u F2) : Go p l e s m args below meth c as dA D SH d nL Qk  pc L (.int x :: st) u (if (x = 0) then F2 else F1) := by
  obtain ⟨hx, hb, hml, hown, hts, hr, hlk, hK, hI, hZ, hd1⟩ := C
  intro r u' hF H locs ls hP hS hl
  refine lv_if_ne hx hb hdg ht (fun h => ?_) (fun h => ?_)
  · exact k1 h r u' (by rw [if_neg h] at hF; exact hF) H locs ls hP hS hl
  · exact k2 h r u' (by rw [if_pos h] at hF; exact hF) H locs ls hP hS hl
theorem G_icmp_ne (C : zCx p s m args meth c as dA D SH d nL own cc ret) {x y : Int32} {off : Int} {tgt : Nat} {F1 F2 : Option (α × zM)} (hdg : decode cc pc = .ok (.if_icmp .ne off, 3)) (ht : (pc : Int) + off = (tgt : Int)) (k1 : ¬ (x = y) → Go p l e s m args below meth c as dA D SH d nL Qk  tgt L st u F1) (k2 : (x = y) → Go p l e s m args below meth c as dA D SH d nL Qk  (pc + 3) L st u F2) : Go p l e s m args below meth c as dA D SH d nL Qk  pc L (.int y :: .int x :: st) u (if (x = y) then F2 else F1) := by
  obtain ⟨hx, hb, hml, hown, hts, hr, hlk, hK, hI, hZ, hd1⟩ := C
  intro r u' hF H locs ls hP hS hl
  refine lv_icmp_ne hx hb hdg ht (fun h => ?_) (fun h => ?_)
  · exact k1 h r u' (by rw [if_neg h] at hF; exact hF) H locs ls hP hS hl
  · exact k2 h r u' (by rw [if_pos h] at hF; exact hF) H locs ls hP hS hl
theorem G_if_lt (C : zCx p s m args meth c as dA D SH d nL own cc ret) {x : Int32} {off : Int} {tgt : Nat} {F1 F2 : Option (α × zM)} (hdg : decode cc pc = .ok (.ifCond .lt off, 3)) (ht : (pc : Int) + off = (tgt : Int)) (k1 : (x < 0) → Go p l e s m args below meth c as dA D SH d nL Qk  tgt L st u F1) (k2 : ¬ (x < 0) → Go p l e s m args below meth c as dA D SH d nL Qk  (pc + 3) L st u F2) : Go p l e s m args below meth c as dA D SH d nL Qk  pc L (.int x :: st) u (if (x < 0) then F1 else F2) := by
  obtain ⟨hx, hb, hml, hown, hts, hr, hlk, hK, hI, hZ, hd1⟩ := C
  intro r u' hF H locs ls hP hS hl
  refine lv_if_lt hx hb hdg ht (fun h => ?_) (fun h => ?_)
  · exact k1 h r u' (by rw [if_pos h] at hF; exact hF) H locs ls hP hS hl
  · exact k2 h r u' (by rw [if_neg h] at hF; exact hF) H locs ls hP hS hl
theorem G_icmp_lt (C : zCx p s m args meth c as dA D SH d nL own cc ret) {x y : Int32} {off : Int} {tgt : Nat} {F1 F2 : Option (α × zM)} (hdg : decode cc pc = .ok (.if_icmp .lt off, 3)) (ht : (pc : Int) + off = (tgt : Int)) (k1 : (x < y) → Go p l e s m args below meth c as dA D SH d nL Qk  tgt L st u F1) (k2 : ¬ (x < y) → Go p l e s m args below meth c as dA D SH d nL Qk  (pc + 3) L st u F2) : Go p l e s m args below meth c as dA D SH d nL Qk  pc L (.int y :: .int x :: st) u (if (x < y) then F1 else F2) := by
  obtain ⟨hx, hb, hml, hown, hts, hr, hlk, hK, hI, hZ, hd1⟩ := C
  intro r u' hF H locs ls hP hS hl
  refine lv_icmp_lt hx hb hdg ht (fun h => ?_) (fun h => ?_)
  · exact k1 h r u' (by rw [if_pos h] at hF; exact hF) H locs ls hP hS hl
  · exact k2 h r u' (by rw [if_neg h] at hF; exact hF) H locs ls hP hS hl
theorem G_if_ge (C : zCx p s m args meth c as dA D SH d nL own cc ret) {x : Int32} {off : Int} {tgt : Nat} {F1 F2 : Option (α × zM)} (hdg : decode cc pc = .ok (.ifCond .ge off, 3)) (ht : (pc : Int) + off = (tgt : Int)) (k1 : (0 ≤ x) → Go p l e s m args below meth c as dA D SH d nL Qk  tgt L st u F1) (k2 : ¬ (0 ≤ x) → Go p l e s m args below meth c as dA D SH d nL Qk  (pc + 3) L st u F2) : Go p l e s m args below meth c as dA D SH d nL Qk  pc L (.int x :: st) u (if (0 ≤ x) then F1 else F2) := by
  obtain ⟨hx, hb, hml, hown, hts, hr, hlk, hK, hI, hZ, hd1⟩ := C
  intro r u' hF H locs ls hP hS hl
  refine lv_if_ge hx hb hdg ht (fun h => ?_) (fun h => ?_)
  · exact k1 h r u' (by rw [if_pos h] at hF; exact hF) H locs ls hP hS hl
  · exact k2 h r u' (by rw [if_neg h] at hF; exact hF) H locs ls hP hS hl
theorem G_icmp_ge (C : zCx p s m args meth c as dA D SH d nL own cc ret) {x y : Int32} {off : Int} {tgt : Nat} {F1 F2 : Option (α × zM)} (hdg : decode cc pc = .ok (.if_icmp .ge off, 3)) (ht : (pc : Int) + off = (tgt : Int)) (k1 : (y ≤ x) → Go p l e s m args below meth c as dA D SH d nL Qk  tgt L st u F1) (k2 : ¬ (y ≤ x) → Go p l e s m args below meth c as dA D SH d nL Qk  (pc + 3) L st u F2) : Go p l e s m args below meth c as dA D SH d nL Qk  pc L (.int y :: .int x :: st) u (if (y ≤ x) then F1 else F2) := by
  obtain ⟨hx, hb, hml, hown, hts, hr, hlk, hK, hI, hZ, hd1⟩ := C
  intro r u' hF H locs ls hP hS hl
  refine lv_icmp_ge hx hb hdg ht (fun h => ?_) (fun h => ?_)
  · exact k1 h r u' (by rw [if_pos h] at hF; exact hF) H locs ls hP hS hl
  · exact k2 h r u' (by rw [if_neg h] at hF; exact hF) H locs ls hP hS hl
theorem G_if_gt (C : zCx p s m args meth c as dA D SH d nL own cc ret) {x : Int32} {off : Int} {tgt : Nat} {F1 F2 : Option (α × zM)} (hdg : decode cc pc = .ok (.ifCond .gt off, 3)) (ht : (pc : Int) + off = (tgt : Int)) (k1 : (0 < x) → Go p l e s m args below meth c as dA D SH d nL Qk  tgt L st u F1) (k2 : ¬ (0 < x) → Go p l e s m args below meth c as dA D SH d nL Qk  (pc + 3) L st u F2) : Go p l e s m args below meth c as dA D SH d nL Qk  pc L (.int x :: st) u (if (0 < x) then F1 else F2) := by
  obtain ⟨hx, hb, hml, hown, hts, hr, hlk, hK, hI, hZ, hd1⟩ := C
  intro r u' hF H locs ls hP hS hl
  refine lv_if_gt hx hb hdg ht (fun h => ?_) (fun h => ?_)
  · exact k1 h r u' (by rw [if_pos h] at hF; exact hF) H locs ls hP hS hl
  · exact k2 h r u' (by rw [if_neg h] at hF; exact hF) H locs ls hP hS hl
theorem G_icmp_gt (C : zCx p s m args meth c as dA D SH d nL own cc ret) {x y : Int32} {off : Int} {tgt : Nat} {F1 F2 : Option (α × zM)} (hdg : decode cc pc = .ok (.if_icmp .gt off, 3)) (ht : (pc : Int) + off = (tgt : Int)) (k1 : (y < x) → Go p l e s m args below meth c as dA D SH d nL Qk  tgt L st u F1) (k2 : ¬ (y < x) → Go p l e s m args below meth c as dA D SH d nL Qk  (pc + 3) L st u F2) : Go p l e s m args below meth c as dA D SH d nL Qk  pc L (.int y :: .int x :: st) u (if (y < x) then F1 else F2) := by
  obtain ⟨hx, hb, hml, hown, hts, hr, hlk, hK, hI, hZ, hd1⟩ := C
  intro r u' hF H locs ls hP hS hl
  refine lv_icmp_gt hx hb hdg ht (fun h => ?_) (fun h => ?_)
  · exact k1 h r u' (by rw [if_pos h] at hF; exact hF) H locs ls hP hS hl
  · exact k2 h r u' (by rw [if_neg h] at hF; exact hF) H locs ls hP hS hl
theorem G_if_le (C : zCx p s m args meth c as dA D SH d nL own cc ret) {x : Int32} {off : Int} {tgt : Nat} {F1 F2 : Option (α × zM)} (hdg : decode cc pc = .ok (.ifCond .le off, 3)) (ht : (pc : Int) + off = (tgt : Int)) (k1 : (x ≤ 0) → Go p l e s m args below meth c as dA D SH d nL Qk  tgt L st u F1) (k2 : ¬ (x ≤ 0) → Go p l e s m args below meth c as dA D SH d nL Qk  (pc + 3) L st u F2) : Go p l e s m args below meth c as dA D SH d nL Qk  pc L (.int x :: st) u (if (x ≤ 0) then F1 else F2) := by
  obtain ⟨hx, hb, hml, hown, hts, hr, hlk, hK, hI, hZ, hd1⟩ := C
  intro r u' hF H locs ls hP hS hl
  refine lv_if_le hx hb hdg ht (fun h => ?_) (fun h => ?_)
  · exact k1 h r u' (by rw [if_pos h] at hF; exact hF) H locs ls hP hS hl
  · exact k2 h r u' (by rw [if_neg h] at hF; exact hF) H locs ls hP hS hl
theorem G_icmp_le (C : zCx p s m args meth c as dA D SH d nL own cc ret) {x y : Int32} {off : Int} {tgt : Nat} {F1 F2 : Option (α × zM)} (hdg : decode cc pc = .ok (.if_icmp .le off, 3)) (ht : (pc : Int) + off = (tgt : Int)) (k1 : (x ≤ y) → Go p l e s m args below meth c as dA D SH d nL Qk  tgt L st u F1) (k2 : ¬ (x ≤ y) → Go p l e s m args below meth c as dA D SH d nL Qk  (pc + 3) L st u F2) : Go p l e s m args below meth c as dA D SH d nL Qk  pc L (.int y :: .int x :: st) u (if (x ≤ y) then F1 else F2) := by
  obtain ⟨hx, hb, hml, hown, hts, hr, hlk, hK, hI, hZ, hd1⟩ := C
  intro r u' hF H locs ls hP hS hl
  refine lv_icmp_le hx hb hdg ht (fun h => ?_) (fun h => ?_)
  · exact k1 h r u' (by rw [if_pos h] at hF; exact hF) H locs ls hP hS hl
  · exact k2 h r u' (by rw [if_neg h] at hF; exact hF) H locs ls hP hS hl
theorem G_goto (C : zCx p s m args meth c as dA D SH d nL own cc ret) {off : Int} {tgt : Nat} (hdg : decode cc pc = .ok (.goto off, 3)) (ht : (pc : Int) + off = (tgt : Int)) (k : Go p l e s m args below meth c as dA D SH d nL Qk  tgt L st u F) : Go p l e s m args below meth c as dA D SH d nL Qk  pc L st u F := by
  obtain ⟨hx, hb, hml, hown, hts, hr, hlk, hK, hI, hZ, hd1⟩ := C
  intro r u' hF H locs ls hP hS hl
  exact lv_goto hx hb hdg ht (k r u' hF H locs ls hP hS hl)
theorem G_ifnull (C : zCx p s m args meth c as dA D SH d nL own cc ret) {x : Nat} {off : Int} (hdg : decode cc pc = .ok (.ifnull off, 3)) (k : Go p l e s m args below meth c as dA D SH d nL Qk  (pc + 3) L st u F) : Go p l e s m args below meth c as dA D SH d nL Qk  pc L (.ref x :: st) u F := by
  obtain ⟨hx, hb, hml, hown, hts, hr, hlk, hK, hI, hZ, hd1⟩ := C
  intro r u' hF H locs ls hP hS hl
  exact lv_ifnull hx hb hdg (k r u' hF H locs ls hP hS hl)
theorem G_ifnullN (C : zCx p s m args meth c as dA D SH d nL own cc ret) {off : Int} {tgt : Nat} (hdg : decode cc pc = .ok (.ifnull off, 3)) (ht : (pc : Int) + off = (tgt : Int)) (k : Go p l e s m args below meth c as dA D SH d nL Qk  tgt L st u F) : Go p l e s m args below meth c as dA D SH d nL Qk  pc L (.null :: st) u F := by
  obtain ⟨hx, hb, hml, hown, hts, hr, hlk, hK, hI, hZ, hd1⟩ := C
  intro r u' hF H locs ls hP hS hl
  exact lv_ifnullN hx hb hdg ht (k r u' hF H locs ls hP hS hl)
theorem G_ifnonnull (C : zCx p s m args meth c as dA D SH d nL own cc ret) {x : Nat} {off : Int} {tgt : Nat} (hdg : decode cc pc = .ok (.ifnonnull off, 3)) (ht : (pc : Int) + off = (tgt : Int)) (k : Go p l e s m args below meth c as dA D SH d nL Qk  tgt L st u F) : Go p l e s m args below meth c as dA D SH d nL Qk  pc L (.ref x :: st) u F := by
  obtain ⟨hx, hb, hml, hown, hts, hr, hlk, hK, hI, hZ, hd1⟩ := C
  intro r u' hF H locs ls hP hS hl
  exact lv_ifnonnull hx hb hdg ht (k r u' hF H locs ls hP hS hl)
theorem G_ifnonnullN (C : zCx p s m args meth c as dA D SH d nL own cc ret) {off : Int} (hdg : decode cc pc = .ok (.ifnonnull off, 3)) (k : Go p l e s m args below meth c as dA D SH d nL Qk  (pc + 3) L st u F) : Go p l e s m args below meth c as dA D SH d nL Qk  pc L (.null :: st) u F := by
  obtain ⟨hx, hb, hml, hown, hts, hr, hlk, hK, hI, hZ, hd1⟩ := C
  intro r u' hF H locs ls hP hS hl
  exact lv_ifnonnullN hx hb hdg (k r u' hF H locs ls hP hS hl)
theorem G_tsOut (C : zCx p s m args meth c as dA D SH d nL own cc ret) {dflt lo hi : Int} {offs : Array Int} {len : Nat} {x : Int32} {tgt : Nat} (hdg : decode cc pc = .ok (.tableswitch dflt lo hi offs, len)) (h : x.toInt < lo ∨ hi < x.toInt) (ht : (pc : Int) + dflt = (tgt : Int)) (k : Go p l e s m args below meth c as dA D SH d nL Qk  tgt L st u F) : Go p l e s m args below meth c as dA D SH d nL Qk  pc L (.int x :: st) u F := by
  obtain ⟨hx, hb, hml, hown, hts, hr, hlk, hK, hI, hZ, hd1⟩ := C
  intro r u' hF H locs ls hP hS hl
  exact lv_tableOut hx hb hdg h ht (k r u' hF H locs ls hP hS hl)
theorem G_tsIn (C : zCx p s m args meth c as dA D SH d nL own cc ret) {dflt lo hi : Int} {offs : Array Int} {len : Nat} {x v : Int32} {off : Int} {tgt : Nat} (hdg : decode cc pc = .ok (.tableswitch dflt lo hi offs, len)) (hv : x = v) (h1 : ¬ v.toInt < lo) (h2 : ¬ hi < v.toInt) (ho : offs[(v.toInt - lo).toNat]? = some off) (ht : (pc : Int) + off = (tgt : Int)) (k : Go p l e s m args below meth c as dA D SH d nL Qk  tgt L st u F) : Go p l e s m args below meth c as dA D SH d nL Qk  pc L (.int x :: st) u F := by
  obtain ⟨hx, hb, hml, hown, hts, hr, hlk, hK, hI, hZ, hd1⟩ := C
  intro r u' hF H locs ls hP hS hl
  subst hv
  exact lv_tableIn hx hb hdg h1 h2 ho ht (k r u' hF H locs ls hP hS hl)
theorem G_lsw (C : zCx p s m args meth c as dA D SH d nL own cc ret) {dflt : Int} {ps : Array (Int × Int)} {len : Nat} {x : Int32} {off : Int} {tgt : Nat} (hdg : decode cc pc = .ok (.lookupswitch dflt ps, len)) (hp : (ps.toList.zip (ps.toList.drop 1)).all (fun (a, next) => a.1 < next.1) = true) (ho : Op.lookupswitch.offset ps.toList dflt x.toInt = off) (ht : (pc : Int) + off = (tgt : Int)) (k : Go p l e s m args below meth c as dA D SH d nL Qk  tgt L st u F) : Go p l e s m args below meth c as dA D SH d nL Qk  pc L (.int x :: st) u F := by
  obtain ⟨hx, hb, hml, hown, hts, hr, hlk, hK, hI, hZ, hd1⟩ := C
  intro r u' hF H locs ls hP hS hl
  exact lv_lookup hx hb hdg hp ho ht (k r u' hF H locs ls hP hS hl)
end GoRules
end
section
/-! ===== fields, arrays, calls, ends ===== -/
section GoMem
variable {p : Program} {l : Launch} {e : Env} {s : State} {m : MethodId} {args : Array Value} {below : List Frame} {meth : Method} {c : Code} {as : Nat → Nat} {dA : Nat → ClassId} {D : va_G} {SH : List zS} {d nL : Nat} {α : Type} {Qk : (Nat → Nat) → (Nat → ClassId) → va_G → List zS → Nat → α → zM → Array Value → State → Outcome → State → Prop}
variable {own : String} {cc : ByteArray} {ret : Option FieldType} {pc : Nat} {L : List (Nat × Value)} {st : List Value} {u : zM} {F : Option (α × zM)}
theorem zgood_of {ws : List Cond} (h : ∀ w ∈ ws, w ∈ zTb) : GoodIn zTb ws := fun w hw => ⟨h w hw, good_of_word (zt_good (h w hw))⟩
theorem zw_obj {a ci : Nat} {ks : List Nat} (hs : SH[a]? = some (.inl (ci, ks))) : (zw as dA SH u)[a]? = some (as a, .inr (ci, ks.mapIdx (fun k kd => zfield as u a k kd))) := zw_get hs
theorem zw_arr {a : Nat} {r : Nat × Nat × Nat × Nat} (hs : SH[a]? = some (.inr r)) : (zw as dA SH u)[a]? = some (as a, .inl (dA r.1, zarr as u a r.2.1 r.2.2.1 r.2.2.2 r.1)) := zw_get hs
theorem zf_get {a k kd : Nat} {ks : List Nat} (hk : ks[k]? = some kd) : (ks.mapIdx (fun k kd => zfield as u a k kd))[k]? = some (zfield as u a k kd) := by
  rw [List.getElem?_mapIdx, hk]
  rfl
theorem zf_len {a k kd : Nat} {ks : List Nat} (hk : ks[k]? = some kd) : k < (ks.mapIdx (fun k kd => zfield as u a k kd)).length := by
  rw [List.length_mapIdx]
  exact (List.getElem?_eq_some_iff.mp hk).1
theorem zfield_I2 {a k : Nat} {x : Int32} (j kj : Nat) (h : j ≠ k) : zfield as (sI u a k x) a j kj = zfield as u a j kj := zfield_I kj (fun q => h q.2)
theorem zfield_O2 {a k : Nat} {x : Option Nat} (j kj : Nat) (h : j ≠ k) : zfield as (sO u a k x) a j kj = zfield as u a j kj := by
  match kj with
  | 0 => rfl
  | 1 => rfl
  | 2 => show va_rf _ = va_rf _; unfold gO sO; dsimp only; rw [if_neg (fun q => h q.2)]
  | _ + 3 => rfl
theorem gI_same {a k : Nat} {x : Int32} : gI (sI u a k x) a k = x := by unfold gI sI; dsimp only; rw [if_pos ⟨rfl, rfl⟩]
theorem gJ_same {a k : Nat} {x : Int64} : gJ (sJ u a k x) a k = x := by unfold gJ sJ; dsimp only; rw [if_pos ⟨rfl, rfl⟩]
theorem gO_same {a k : Nat} {x : Option Nat} : gO (sO u a k x) a k = x := by unfold gO sO; dsimp only; rw [if_pos ⟨rfl, rfl⟩]
theorem gI_upd {a k : Nat} {x : Int32} : gI (sI u a k x) a = upd (gI u a) k x := by
  funext j
  unfold gI sI upd
  dsimp only
  by_cases h : j = k
  · rw [if_pos ⟨rfl, h⟩, if_pos h]
  · rw [if_neg (fun q => h q.2), if_neg h]
theorem gJ_upd {a k : Nat} {x : Int64} : gJ (sJ u a k x) a = vp_updL (gJ u a) k x := by
  funext j
  unfold gJ sJ vp_updL
  dsimp only
  by_cases h : j = k
  · rw [if_pos ⟨rfl, h⟩, if_pos h]
  · rw [if_neg (fun q => h q.2), if_neg h]
/-- n numbers of one array come to another (or the same) -/
def cpI (u : zM) (a sp b dp n : Nat) : zM := (fun q j => if q = b ∧ dp ≤ j ∧ j < dp + n then u.1 a (sp + (j - dp)) else u.1 q j, u.2.1, u.2.2)
def cpJ (u : zM) (a sp b dp n : Nat) : zM := (u.1, fun q j => if q = b ∧ dp ≤ j ∧ j < dp + n then u.2.1 a (sp + (j - dp)) else u.2.1 q j, u.2.2)
def cpB (sp dp n : Int32) (n0 n1 : Nat) : Bool := decide (¬ sp < 0 ∧ ¬ dp < 0 ∧ ¬ n < 0 ∧ sp.toNatClampNeg + n.toNatClampNeg ≤ n0 ∧ dp.toNatClampNeg + n.toNatClampNeg ≤ n1)
theorem gI_cp {a sp b dp n : Nat} : gI (cpI u a sp b dp n) b = va_cpy (gI u a) (gI u b) sp dp n := by
  funext j
  unfold gI cpI va_cpy
  dsimp only
  by_cases h : dp ≤ j ∧ j < dp + n
  · rw [if_pos ⟨rfl, h⟩, if_pos h]
  · rw [if_neg (fun q => h q.2), if_neg h]
theorem gJ_cp {a sp b dp n : Nat} : gJ (cpJ u a sp b dp n) b = va_cpy (gJ u a) (gJ u b) sp dp n := by
  funext j
  unfold gJ cpJ va_cpy
  dsimp only
  by_cases h : dp ≤ j ∧ j < dp + n
  · rw [if_pos ⟨rfl, h⟩, if_pos h]
  · rw [if_neg (fun q => h q.2), if_neg h]
theorem zcell_cpI {a sp b dp n : Nat} (q : Nat) (S : zS) (h : q ≠ b) : zcell as dA (cpI u a sp b dp n) q S = zcell as dA u q S := by
  have e : gI (cpI u a sp b dp n) q = gI u q := by funext j; unfold gI cpI; dsimp only; rw [if_neg (fun z => h z.1)]
  cases S with
  | inl o =>
    have e2 : (fun j kd => zfield as (cpI u a sp b dp n) q j kd) = fun j kd => zfield as u q j kd := by
      funext j kd
      match kd with
      | 0 => show Value.int _ = Value.int _; rw [e]
      | 1 => rfl
      | 2 => rfl
      | _ + 3 => rfl
    show Sum.inr (o.1, o.2.mapIdx (fun j kd => zfield as (cpI u a sp b dp n) q j kd)) = Sum.inr (o.1, o.2.mapIdx (fun j kd => zfield as u q j kd))
    rw [e2]
  | inr r =>
    show Sum.inl _ = Sum.inl _
    congr 2
    obtain ⟨t, n, p, q⟩ := r
    dsimp only
    unfold zarr
    split <;> first | rw [e] | rfl
theorem zcell_cpJ {a sp b dp n : Nat} (q : Nat) (S : zS) (h : q ≠ b) : zcell as dA (cpJ u a sp b dp n) q S = zcell as dA u q S := by
  have e : gJ (cpJ u a sp b dp n) q = gJ u q := by funext j; unfold gJ cpJ; dsimp only; rw [if_neg (fun z => h z.1)]
  cases S with
  | inl o =>
    have e2 : (fun j kd => zfield as (cpJ u a sp b dp n) q j kd) = fun j kd => zfield as u q j kd := by
      funext j kd
      match kd with
      | 0 => rfl
      | 1 => show Value.long _ = Value.long _; rw [e]
      | 2 => rfl
      | _ + 3 => rfl
    show Sum.inr (o.1, o.2.mapIdx (fun j kd => zfield as (cpJ u a sp b dp n) q j kd)) = Sum.inr (o.1, o.2.mapIdx (fun j kd => zfield as u q j kd))
    rw [e2]
  | inr r =>
    show Sum.inl _ = Sum.inl _
    congr 2
    obtain ⟨t, n, p, q⟩ := r
    dsimp only
    unfold zarr
    split <;> first | rw [e] | rfl

theorem G_getI (C : zCx p s m args meth c as dA D SH d nL own cc ret) {ci : Nat} {Cn : String} {T : u_T} {N : Nat} (fk : Nat) {a index : Nat} {ks : List Nat} (hs : SH[a]? = some (.inl (ci, ks))) (hc : zcl[ci]? = some (Cn, T, N)) (hk : ks[fk]? = some 0) (hkN : fk < N) (hw : Cond.fieldLink own index (T fk).1 (T fk).2.1 (T fk).2.2.1 ∈ zTb) (hdg : decode cc pc = .ok (.getfield index, 3)) (k : Go p l e s m args below meth c as dA D SH d nL Qk  (pc + 3) L (.int (gI u a fk) :: st) u F) : Go p l e s m args below meth c as dA D SH d nL Qk  pc L (.ref a :: st) u F := by
  obtain ⟨hx, hb, hml, hown, hts, hr, hlk, hK, hI, hZ, hd1⟩ := C
  intro r u' hF H locs ls hP hS hl
  have hq := zcl_ok _ (List.mem_of_getElem? hc)
  obtain ⟨hin, ⟨ty0, hty⟩, hnm⟩ := hq
  exact va_get hx hb hts hin hown hK hP a (zw_obj hs) hc fk hkN (hts _ hw) (fun _ h9 => h9) (zf_get hk) hdg (k r u' hF H locs ls hP hS hl)
theorem G_getR (C : zCx p s m args meth c as dA D SH d nL own cc ret) {ci : Nat} {Cn : String} {T : u_T} {N : Nat} (fk : Nat) {a index : Nat} {ks : List Nat} {j : Nat} (hs : SH[a]? = some (.inl (ci, ks))) (hc : zcl[ci]? = some (Cn, T, N)) (hk : ks[fk]? = some (j + 3)) (hkN : fk < N) (hw : Cond.fieldLink own index (T fk).1 (T fk).2.1 (T fk).2.2.1 ∈ zTb) (hdg : decode cc pc = .ok (.getfield index, 3)) (k : Go p l e s m args below meth c as dA D SH d nL Qk  (pc + 3) L (.ref j :: st) u F) : Go p l e s m args below meth c as dA D SH d nL Qk  pc L (.ref a :: st) u F := by
  obtain ⟨hx, hb, hml, hown, hts, hr, hlk, hK, hI, hZ, hd1⟩ := C
  intro r u' hF H locs ls hP hS hl
  have hq := zcl_ok _ (List.mem_of_getElem? hc)
  obtain ⟨hin, ⟨ty0, hty⟩, hnm⟩ := hq
  exact va_get hx hb hts hin hown hK hP a (zw_obj hs) hc fk hkN (hts _ hw) (fun _ h9 => h9) (zf_get hk) hdg (k r u' hF H locs ls hP hS hl)
theorem G_getO (C : zCx p s m args meth c as dA D SH d nL own cc ret) {ci : Nat} {Cn : String} {T : u_T} {N : Nat} (fk : Nat) {a index : Nat} {ks : List Nat} {k0 : Option (α × zM)} {k1 : Nat → Option (α × zM)} (hs : SH[a]? = some (.inl (ci, ks))) (hc : zcl[ci]? = some (Cn, T, N)) (hk : ks[fk]? = some 2) (hkN : fk < N) (hw : Cond.fieldLink own index (T fk).1 (T fk).2.1 (T fk).2.2.1 ∈ zTb) (hdg : decode cc pc = .ok (.getfield index, 3)) (h0 : gO u a fk = none → Go p l e s m args below meth c as dA D SH d nL Qk  (pc + 3) L (.null :: st) u k0) (h1 : ∀ x : Nat, gO u a fk = some x → Go p l e s m args below meth c as dA D SH d nL Qk  (pc + 3) L (.ref x :: st) u (k1 x)) : Go p l e s m args below meth c as dA D SH d nL Qk  pc L (.ref a :: st) u (zmo (gO u a fk) k0 k1) := by
  obtain ⟨hx, hb, hml, hown, hts, hr, hlk, hK, hI, hZ, hd1⟩ := C
  intro r u' hF H locs ls hP hS hl
  have hq := zcl_ok _ (List.mem_of_getElem? hc)
  obtain ⟨hin, ⟨ty0, hty⟩, hnm⟩ := hq
  refine va_get hx hb hts hin hown hK hP a (zw_obj hs) hc fk hkN (hts _ hw) (fun _ h9 => h9) (zf_get hk) hdg ?_
  show W p l e (zRm d) s m args below meth c H locs 0 0 _ (F0 m (pc + 3) ls (va_rf ((gO u a fk).map as) :: st.map (zr as)))
  cases ho : gO u a fk with
  | none => rw [ho] at hF; exact h0 ho r u' hF H locs ls hP hS hl
  | some x => rw [ho] at hF; exact h1 x ho r u' hF H locs ls hP hS hl
theorem G_putI (C : zCx p s m args meth c as dA D SH d nL own cc ret) {ci : Nat} {Cn : String} {T : u_T} {N : Nat} (fk : Nat) {a index : Nat} {ks : List Nat} {ty : FieldType} {x : Int32} {F : zM → Option (α × zM)} (hs : SH[a]? = some (.inl (ci, ks))) (hc : zcl[ci]? = some (Cn, T, N)) (hk : ks[fk]? = some 0) (hkN : fk < N) (hw : Cond.fieldLink own index (T fk).1 (T fk).2.1 (T fk).2.2.1 ∈ zTb) (hfin : (T fk).2.2.2 = false) (hd : parseFieldDescriptor (T fk).2.2.1 = some ty) (hn : narrow ty (.int x) = .int x) (hfit : fits ty (.int x) = true) (hdg : decode cc pc = .ok (.putfield index, 3)) (k : ∀ v : zM, Go p l e s m args below meth c as dA D SH d nL Qk  (pc + 3) L st v (F v)) : Go p l e s m args below meth c as dA D SH d nL Qk  pc L (.int x :: .ref a :: st) u (zlet (sI u a fk x) F) := by
  obtain ⟨hx, hb, hml, hown, hts, hr, hlk, hK, hI, hZ, hd1⟩ := C
  intro r u' hF H locs ls hP hS hl
  have hq := zcl_ok _ (List.mem_of_getElem? hc)
  obtain ⟨hin, ⟨ty0, hty⟩, hnm⟩ := hq
  refine va_put hx hb hts hin ty0 hty hnm hown hK hP (zw_DA hI) hS a (zw_obj hs) hc fk hkN (hts _ hw) (fun _ h9 => h9) hfin hd hn hfit (zf_len hk) hdg (fun H1 locs1 hP1 _ hS1 => ?_)
  rw [zw_set (u' := sI u a fk x) hs (by show Sum.inr _ = Sum.inr _; rw [zfs_set hk (u' := sI u a fk x) (by show Value.int x = Value.int (gI (sI u a fk x) a fk); rw [gI_same]) (fun j kj h => zfield_I2 j kj h)]) (fun b S' h => zcell_I b S' h)] at hP1
  exact k _ r u' hF H1 locs1 ls hP1 hS1 hl
theorem G_putO (C : zCx p s m args meth c as dA D SH d nL own cc ret) {ci : Nat} {Cn : String} {T : u_T} {N : Nat} (fk : Nat) {a index : Nat} {ks : List Nat} {C2 : String} {x : Nat} {F : zM → Option (α × zM)} (hs : SH[a]? = some (.inl (ci, ks))) (hc : zcl[ci]? = some (Cn, T, N)) (hk : ks[fk]? = some 2) (hkN : fk < N) (hw : Cond.fieldLink own index (T fk).1 (T fk).2.1 (T fk).2.2.1 ∈ zTb) (hfin : (T fk).2.2.2 = false) (hd : parseFieldDescriptor (T fk).2.2.1 = some (.object C2)) (hdg : decode cc pc = .ok (.putfield index, 3)) (k : ∀ v : zM, Go p l e s m args below meth c as dA D SH d nL Qk  (pc + 3) L st v (F v)) : Go p l e s m args below meth c as dA D SH d nL Qk  pc L (.ref x :: .ref a :: st) u (zlet (sO u a fk (some x)) F) := by
  obtain ⟨hx, hb, hml, hown, hts, hr, hlk, hK, hI, hZ, hd1⟩ := C
  intro r u' hF H locs ls hP hS hl
  have hq := zcl_ok _ (List.mem_of_getElem? hc)
  obtain ⟨hin, ⟨ty0, hty⟩, hnm⟩ := hq
  refine va_put (v := .ref (as x)) hx hb hts hin ty0 hty hnm hown hK hP (zw_DA hI) hS a (zw_obj hs) hc fk hkN (hts _ hw) (fun _ h9 => h9) hfin hd rfl rfl (zf_len hk) hdg (fun H1 locs1 hP1 _ hS1 => ?_)
  rw [zw_set (u' := sO u a fk (some x)) hs (by show Sum.inr _ = Sum.inr _; rw [zfs_set hk (u' := sO u a fk (some x)) (by show Value.ref (as x) = va_rf ((gO (sO u a fk (some x)) a fk).map as); rw [gO_same]; rfl) (fun j kj h => zfield_O2 j kj h)]) (fun b S' h => zcell_O b S' h)] at hP1
  exact k _ r u' hF H1 locs1 ls hP1 hS1 hl
theorem G_putON (C : zCx p s m args meth c as dA D SH d nL own cc ret) {ci : Nat} {Cn : String} {T : u_T} {N : Nat} (fk : Nat) {a index : Nat} {ks : List Nat} {C2 : String} {F : zM → Option (α × zM)} (hs : SH[a]? = some (.inl (ci, ks))) (hc : zcl[ci]? = some (Cn, T, N)) (hk : ks[fk]? = some 2) (hkN : fk < N) (hw : Cond.fieldLink own index (T fk).1 (T fk).2.1 (T fk).2.2.1 ∈ zTb) (hfin : (T fk).2.2.2 = false) (hd : parseFieldDescriptor (T fk).2.2.1 = some (.object C2)) (hdg : decode cc pc = .ok (.putfield index, 3)) (k : ∀ v : zM, Go p l e s m args below meth c as dA D SH d nL Qk  (pc + 3) L st v (F v)) : Go p l e s m args below meth c as dA D SH d nL Qk  pc L (.null :: .ref a :: st) u (zlet (sO u a fk none) F) := by
  obtain ⟨hx, hb, hml, hown, hts, hr, hlk, hK, hI, hZ, hd1⟩ := C
  intro r u' hF H locs ls hP hS hl
  have hq := zcl_ok _ (List.mem_of_getElem? hc)
  obtain ⟨hin, ⟨ty0, hty⟩, hnm⟩ := hq
  refine va_put (v := .null) hx hb hts hin ty0 hty hnm hown hK hP (zw_DA hI) hS a (zw_obj hs) hc fk hkN (hts _ hw) (fun _ h9 => h9) hfin hd rfl rfl (zf_len hk) hdg (fun H1 locs1 hP1 _ hS1 => ?_)
  rw [zw_set (u' := sO u a fk none) hs (by show Sum.inr _ = Sum.inr _; rw [zfs_set hk (u' := sO u a fk none) (by show Value.null = va_rf ((gO (sO u a fk none) a fk).map as); rw [gO_same]; rfl) (fun j kj h => zfield_O2 j kj h)]) (fun b S' h => zcell_O b S' h)] at hP1
  exact k _ r u' hF H1 locs1 ls hP1 hS1 hl
theorem G_iald (C : zCx p s m args meth c as dA D SH d nL own cc ret) {a n b sd : Nat} {i : Int32} (hs : SH[a]? = some (.inr (0, n, b, sd))) (hdg : decode cc pc = .ok (.iaload, 1)) (k : inB i n = true → Go p l e s m args below meth c as dA D SH d nL Qk  (pc + 1) L (.int (gI u a i.toNatClampNeg) :: st) u F) : Go p l e s m args below meth c as dA D SH d nL Qk  pc L (.int i :: .ref a :: st) u (zck (inB i n) F) := by
  obtain ⟨hx, hb, hml, hown, hts, hr, hlk, hK, hI, hZ, hd1⟩ := C
  intro r u' hF H locs ls hP hS hl
  obtain ⟨h1, hF⟩ := zck_some hF
  exact va_iald hx hb hK hP a 0 (zw_arr hs) rfl (inB_in h1) hdg (k h1 r u' hF H locs ls hP hS hl)
theorem G_zald (C : zCx p s m args meth c as dA D SH d nL own cc ret) {a n b sd : Nat} {i : Int32} (hs : SH[a]? = some (.inr (1, n, b, sd))) (hdg : decode cc pc = .ok (.baload, 1)) (k : inB i n = true → Go p l e s m args below meth c as dA D SH d nL Qk  (pc + 1) L (.int (gI u a i.toNatClampNeg) :: st) u F) : Go p l e s m args below meth c as dA D SH d nL Qk  pc L (.int i :: .ref a :: st) u (zck (inB i n) F) := by
  obtain ⟨hx, hb, hml, hown, hts, hr, hlk, hK, hI, hZ, hd1⟩ := C
  intro r u' hF H locs ls hP hS hl
  obtain ⟨h1, hF⟩ := zck_some hF
  exact va_zald hx hb hK hP a 1 (zw_arr hs) rfl (inB_in h1) hdg (k h1 r u' hF H locs ls hP hS hl)
theorem G_bald (C : zCx p s m args meth c as dA D SH d nL own cc ret) {a n b sd : Nat} {i : Int32} (hs : SH[a]? = some (.inr (2, n, b, sd))) (hdg : decode cc pc = .ok (.baload, 1)) (k : inB i n = true → Go p l e s m args below meth c as dA D SH d nL Qk  (pc + 1) L (.int (gI u a i.toNatClampNeg) :: st) u F) : Go p l e s m args below meth c as dA D SH d nL Qk  pc L (.int i :: .ref a :: st) u (zck (inB i n) F) := by
  obtain ⟨hx, hb, hml, hown, hts, hr, hlk, hK, hI, hZ, hd1⟩ := C
  intro r u' hF H locs ls hP hS hl
  obtain ⟨h1, hF⟩ := zck_some hF
  exact va_bald hx hb hK hP a 2 (zw_arr hs) rfl (inB_in h1) hdg (k h1 r u' hF H locs ls hP hS hl)
theorem G_lald (C : zCx p s m args meth c as dA D SH d nL own cc ret) {a n b sd : Nat} {i : Int32} (hs : SH[a]? = some (.inr (3, n, b, sd))) (hdg : decode cc pc = .ok (.laload, 1)) (k : inB i n = true → Go p l e s m args below meth c as dA D SH d nL Qk  (pc + 1) L (.long (gJ u a i.toNatClampNeg) :: st) u F) : Go p l e s m args below meth c as dA D SH d nL Qk  pc L (.int i :: .ref a :: st) u (zck (inB i n) F) := by
  obtain ⟨hx, hb, hml, hown, hts, hr, hlk, hK, hI, hZ, hd1⟩ := C
  intro r u' hF H locs ls hP hS hl
  obtain ⟨h1, hF⟩ := zck_some hF
  exact va_lald hx hb hK hP a 3 (zw_arr hs) rfl (inB_in h1) hdg (k h1 r u' hF H locs ls hP hS hl)
theorem G_aald4 (C : zCx p s m args meth c as dA D SH d nL own cc ret) {a n b sd : Nat} {i : Int32} (hs : SH[a]? = some (.inr (4, n, b, sd))) (hdg : decode cc pc = .ok (.aaload, 1)) (k : inB i n = true → Go p l e s m args below meth c as dA D SH d nL Qk  (pc + 1) L (.ref (b + sd * i.toNatClampNeg) :: st) u F) : Go p l e s m args below meth c as dA D SH d nL Qk  pc L (.int i :: .ref a :: st) u (zck (inB i n) F) := by
  obtain ⟨hx, hb, hml, hown, hts, hr, hlk, hK, hI, hZ, hd1⟩ := C
  intro r u' hF H locs ls hP hS hl
  obtain ⟨h1, hF⟩ := zck_some hF
  exact va_aldq hx hb hK hP a 4 (zw_arr hs) rfl (inB_in h1) hdg (k h1 r u' hF H locs ls hP hS hl)
theorem G_aald5 (C : zCx p s m args meth c as dA D SH d nL own cc ret) {a n b sd : Nat} {i : Int32} (hs : SH[a]? = some (.inr (5, n, b, sd))) (hdg : decode cc pc = .ok (.aaload, 1)) (k : inB i n = true → Go p l e s m args below meth c as dA D SH d nL Qk  (pc + 1) L (.ref (b + sd * i.toNatClampNeg) :: st) u F) : Go p l e s m args below meth c as dA D SH d nL Qk  pc L (.int i :: .ref a :: st) u (zck (inB i n) F) := by
  obtain ⟨hx, hb, hml, hown, hts, hr, hlk, hK, hI, hZ, hd1⟩ := C
  intro r u' hF H locs ls hP hS hl
  obtain ⟨h1, hF⟩ := zck_some hF
  have hin := inB_in h1
  have hlt : i.toNatClampNeg < n := Nat.not_le.mp fun q => hin (Or.inr q)
  have ha : (zw as dA SH u)[a]? = some (as a, .inl (dA 5, n, .inr (.inr (.inr (.inr (fun j => some (as (b + sd * j)))))))) := zw_arr hs
  exact W.aald (v := va_rf (some (as (b + sd * i.toNatClampNeg)))) (ty := .array .long) hx hb (hP a _ ha) ((hK.2 5 _ rfl).1 n (fun j => va_rf (some (as (b + sd * j))))) rfl (fun q => by cases q) (by show ¬ (i < 0 ∨ (arrV _ _ _).slots.size ≤ _); rw [arrV_size]; exact hin) (by show (arrV (dA 5) n (fun j => va_rf (some (as (b + sd * j))))).slots[_]? = _; rw [arrV_read _ _ hlt]) rfl rfl hdg (k h1 r u' hF H locs ls hP hS hl)
theorem G_iast (C : zCx p s m args meth c as dA D SH d nL own cc ret) {a n b sd : Nat} {i : Int32} {x : Int32} {F : zM → Option (α × zM)} (hs : SH[a]? = some (.inr (0, n, b, sd))) (hdg : decode cc pc = .ok (.iastore, 1)) (k : inB i n = true → ∀ v : zM, Go p l e s m args below meth c as dA D SH d nL Qk  (pc + 1) L st v (F v)) : Go p l e s m args below meth c as dA D SH d nL Qk  pc L (.int x :: .int i :: .ref a :: st) u (zck (inB i n) (zlet (sI u a i.toNatClampNeg x) F)) := by
  obtain ⟨hx, hb, hml, hown, hts, hr, hlk, hK, hI, hZ, hd1⟩ := C
  intro r u' hF H locs ls hP hS hl
  obtain ⟨h1, hF⟩ := zck_some hF
  refine va_iast hx hb hK hP (zw_DA hI) hS a 0 (zw_arr hs) rfl (inB_in h1) hdg (fun H1 locs1 hP1 _ hS1 => ?_)
  rw [zw_set (u' := sI u a i.toNatClampNeg x) hs (by show Sum.inl (_, _, Sum.inl _) = Sum.inl (_, _, Sum.inl (gI (sI u a i.toNatClampNeg x) a)); rw [gI_upd]) (fun b S' h => zcell_I b S' h)] at hP1
  exact k h1 _ r u' hF H1 locs1 ls hP1 hS1 hl
theorem G_zast (C : zCx p s m args meth c as dA D SH d nL own cc ret) {a n b sd : Nat} {i : Int32} {x : Int32} {F : zM → Option (α × zM)} (hs : SH[a]? = some (.inr (1, n, b, sd))) (hdg : decode cc pc = .ok (.bastore, 1)) (k : inB i n = true → ∀ v : zM, Go p l e s m args below meth c as dA D SH d nL Qk  (pc + 1) L st v (F v)) : Go p l e s m args below meth c as dA D SH d nL Qk  pc L (.int x :: .int i :: .ref a :: st) u (zck (inB i n) (zlet (sI u a i.toNatClampNeg (vp_nar .boolean x)) F)) := by
  obtain ⟨hx, hb, hml, hown, hts, hr, hlk, hK, hI, hZ, hd1⟩ := C
  intro r u' hF H locs ls hP hS hl
  obtain ⟨h1, hF⟩ := zck_some hF
  refine va_zast hx hb hK hP (zw_DA hI) hS a 1 (zw_arr hs) rfl (inB_in h1) hdg (fun H1 locs1 hP1 _ hS1 => ?_)
  rw [zw_set (u' := sI u a i.toNatClampNeg (vp_nar .boolean x)) hs (by show Sum.inl (_, _, Sum.inl _) = Sum.inl (_, _, Sum.inl (gI (sI u a i.toNatClampNeg (vp_nar .boolean x)) a)); rw [gI_upd]) (fun b S' h => zcell_I b S' h)] at hP1
  exact k h1 _ r u' hF H1 locs1 ls hP1 hS1 hl
theorem G_bast (C : zCx p s m args meth c as dA D SH d nL own cc ret) {a n b sd : Nat} {i : Int32} {x : Int32} {F : zM → Option (α × zM)} (hs : SH[a]? = some (.inr (2, n, b, sd))) (hdg : decode cc pc = .ok (.bastore, 1)) (k : inB i n = true → ∀ v : zM, Go p l e s m args below meth c as dA D SH d nL Qk  (pc + 1) L st v (F v)) : Go p l e s m args below meth c as dA D SH d nL Qk  pc L (.int x :: .int i :: .ref a :: st) u (zck (inB i n) (zlet (sI u a i.toNatClampNeg (vp_nar .byte x)) F)) := by
  obtain ⟨hx, hb, hml, hown, hts, hr, hlk, hK, hI, hZ, hd1⟩ := C
  intro r u' hF H locs ls hP hS hl
  obtain ⟨h1, hF⟩ := zck_some hF
  refine va_bast hx hb hK hP (zw_DA hI) hS a 2 (zw_arr hs) rfl (inB_in h1) hdg (fun H1 locs1 hP1 _ hS1 => ?_)
  rw [zw_set (u' := sI u a i.toNatClampNeg (vp_nar .byte x)) hs (by show Sum.inl (_, _, Sum.inl _) = Sum.inl (_, _, Sum.inl (gI (sI u a i.toNatClampNeg (vp_nar .byte x)) a)); rw [gI_upd]) (fun b S' h => zcell_I b S' h)] at hP1
  exact k h1 _ r u' hF H1 locs1 ls hP1 hS1 hl
theorem G_last (C : zCx p s m args meth c as dA D SH d nL own cc ret) {a n b sd : Nat} {i : Int32} {x : Int64} {F : zM → Option (α × zM)} (hs : SH[a]? = some (.inr (3, n, b, sd))) (hdg : decode cc pc = .ok (.lastore, 1)) (k : inB i n = true → ∀ v : zM, Go p l e s m args below meth c as dA D SH d nL Qk  (pc + 1) L st v (F v)) : Go p l e s m args below meth c as dA D SH d nL Qk  pc L (.long x :: .int i :: .ref a :: st) u (zck (inB i n) (zlet (sJ u a i.toNatClampNeg x) F)) := by
  obtain ⟨hx, hb, hml, hown, hts, hr, hlk, hK, hI, hZ, hd1⟩ := C
  intro r u' hF H locs ls hP hS hl
  obtain ⟨h1, hF⟩ := zck_some hF
  refine va_last hx hb hK hP (zw_DA hI) hS a 3 (zw_arr hs) rfl (inB_in h1) hdg (fun H1 locs1 hP1 _ hS1 => ?_)
  rw [zw_set (u' := sJ u a i.toNatClampNeg x) hs (by show Sum.inl (_, _, Sum.inr (Sum.inl _)) = Sum.inl (_, _, Sum.inr (Sum.inl (gJ (sJ u a i.toNatClampNeg x) a))); rw [gJ_upd]) (fun b S' h => zcell_J b S' h)] at hP1
  exact k h1 _ r u' hF H1 locs1 ls hP1 hS1 hl
theorem G_alen (t0 : Nat) {ty : FieldType} (C : zCx p s m args meth c as dA D SH d nL own cc ret) {a n b sd : Nat} {v : Int32} (hs : SH[a]? = some (.inr (t0, n, b, sd))) (ht : (zty dA)[t0]? = some (dA t0, ty)) (hn : (zarr as u a n b sd t0).1 = n) (hv : Int32.ofNat n = v) (hdg : decode cc pc = .ok (.arraylength, 1)) (k : Go p l e s m args below meth c as dA D SH d nL Qk  (pc + 1) L (.int v :: st) u F) : Go p l e s m args below meth c as dA D SH d nL Qk  pc L (.ref a :: st) u F := by
  obtain ⟨hx, hb, hml, hown, hts, hr, hlk, hK, hI, hZ, hd1⟩ := C
  intro r u' hF H locs ls hP hS hl
  exact va_alen hx hb hK hP a t0 (zw_arr hs) ht (by rw [← hv]; exact congrArg Int32.ofNat hn) hdg (k r u' hF H locs ls hP hS hl)
def zsv (k : Nat) (i : Int32) : Int32 := match zSA[k]? with
  | some q => q.2.2.getD i.toNatClampNeg 0
  | none => 0
theorem G_getsA (C : zCx p s m args meth c as dA D SH d nL own cc ret) {q : String × String × List Int32} (sk : Nat) {index : Nat} (hq : zSA[sk]? = some q) (hw : Cond.fieldLink own index q.1 q.2.1 "[I" ∈ zTb) (hdg : decode cc pc = .ok (.getstatic index, 3)) (k : Go p l e s m args below meth c as dA D SH d nL Qk  (pc + 3) L (.ref (1000 + sk) :: st) u F) : Go p l e s m args below meth c as dA D SH d nL Qk  pc L st u F := by
  obtain ⟨hx, hb, hml, hown, hts, hr, hlk, hK, hI, hZ, hd1⟩ := C
  intro r u' hF H locs ls hP hS hl
  exact va_gets hx hb (hZ.2.2.2.1 sk q hq).1 hS hown (hts _ hw) (fun _ h9 => h9) hdg (k r u' hF H locs ls hP hS hl)
theorem G_getsN (C : zCx p s m args meth c as dA D SH d nL own cc ret) {q : String × String × List Int32} (sk : Nat) {index : Nat} {host : String} (hq : zSA[sk]? = some q) (hw : Cond.fieldLinkNest own index q.1 q.2.1 "[I" host ∈ zNest) (hdg : decode cc pc = .ok (.getstatic index, 3)) (k : Go p l e s m args below meth c as dA D SH d nL Qk  (pc + 3) L (.ref (1000 + sk) :: st) u F) : Go p l e s m args below meth c as dA D SH d nL Qk  pc L st u F := by
  obtain ⟨hx, hb, hml, hown, hts, hr, hlk, hK, hI, hZ, hd1⟩ := C
  intro r u' hF H locs ls hP hS hl
  exact va_getsN hx hb (hZ.2.2.2.1 sk q hq).1 hS hown (zn_use hw (hZ.1 _ hw)) (fun _ h9 => h9) hdg (k r u' hF H locs ls hP hS hl)
theorem G_tld (C : zCx p s m args meth c as dA D SH d nL own cc ret) {q : String × String × List Int32} (sk : Nat) {i : Int32} (hq : zSA[sk]? = some q) (hdg : decode cc pc = .ok (.iaload, 1)) (k : inB i q.2.2.length = true → Go p l e s m args below meth c as dA D SH d nL Qk  (pc + 1) L (.int (zsv sk i) :: st) u F) : Go p l e s m args below meth c as dA D SH d nL Qk  pc L (.int i :: .ref (1000 + sk) :: st) u (zck (inB i q.2.2.length) F) := by
  obtain ⟨hx, hb, hml, hown, hts, hr, hlk, hK, hI, hZ, hd1⟩ := C
  intro r u' hF H locs ls hP hS hl
  obtain ⟨h1, hF⟩ := zck_some hF
  exact va_ti hx hb (hZ.2.2.2.1 sk q hq).2 hS (inB_in h1) (v := .int (zsv sk i)) (by unfold zsv; rw [hq]) hdg (k h1 r u' hF H locs ls hP hS hl)
theorem G_tlen (C : zCx p s m args meth c as dA D SH d nL own cc ret) {q : String × String × List Int32} (sk : Nat) {v : Int32} (hq : zSA[sk]? = some q) (hv : Int32.ofNat q.2.2.length = v) (hdg : decode cc pc = .ok (.arraylength, 1)) (k : Go p l e s m args below meth c as dA D SH d nL Qk  (pc + 1) L (.int v :: st) u F) : Go p l e s m args below meth c as dA D SH d nL Qk  pc L (.ref (1000 + sk) :: st) u F := by
  obtain ⟨hx, hb, hml, hown, hts, hr, hlk, hK, hI, hZ, hd1⟩ := C
  intro r u' hF H locs ls hP hS hl
  exact va_tlen hx hb (hZ.2.2.2.1 sk q hq).2 hS hv hdg (k r u' hF H locs ls hP hS hl)
theorem zsum8 {st : List Value} (h : (st.map fun v => v.category).sum ≤ 8) : ((st.map (zr as)).map fun v => v.category).sum ≤ 8 := by
  have e : (st.map (zr as)).map (fun v => v.category) = st.map fun v => v.category := by
    rw [List.map_map]
    apply List.map_congr_left
    intro v _
    exact zr_cat as v
  rw [e]
  exact h
theorem G_mmax (C : zCx p s m args meth c as dA D SH d nL own cc ret) {index : Nat} {x y : Int32} (h1 : Cond.methodLink own index Lib.Math.max.name ∈ zTb) (h2 : Cond.static Lib.Math.max.name ∈ zTb) (h3 : Cond.initialized "java/lang/Math" ∈ zTb) (h4 : Cond.code Lib.Math.max.name Lib.Math.max.code 2 (some .int) ∈ zTb) (h8 : (st.map fun v => v.category).sum ≤ 8) (hdg : decode cc pc = .ok (.invokestatic index, 3)) (k : Go p l e s m args below meth c as dA D SH d nL Qk  (pc + 3) L (.int (if x < y then y else x) :: st) u F) : Go p l e s m args below meth c as dA D SH d nL Qk  pc L (.int y :: .int x :: st) u F := by
  obtain ⟨hx, hb, hml, hown, hts, hr, hlk, hK, hI, hZ, hd1⟩ := C
  intro r u' hF H locs ls hP hS hl
  exact va_mmax hx hb (hml.trans hl.1.symm) hown (hts _ h1) (hts _ h2) (hts _ h3) (hts _ h4) hd1 (by have := zsum8 (as := as) h8; show _ ≤ 64 * d; omega) (Nat.zero_le _) (Nat.zero_le _) hdg (k r u' hF H locs ls hP hS hl)
theorem G_mmin (C : zCx p s m args meth c as dA D SH d nL own cc ret) {index : Nat} {x y : Int32} (h1 : Cond.methodLink own index Lib.Math.min.name ∈ zTb) (h2 : Cond.static Lib.Math.min.name ∈ zTb) (h3 : Cond.initialized "java/lang/Math" ∈ zTb) (h4 : Cond.code Lib.Math.min.name Lib.Math.min.code 2 (some .int) ∈ zTb) (h8 : (st.map fun v => v.category).sum ≤ 8) (hdg : decode cc pc = .ok (.invokestatic index, 3)) (k : Go p l e s m args below meth c as dA D SH d nL Qk  (pc + 3) L (.int (if y < x then y else x) :: st) u F) : Go p l e s m args below meth c as dA D SH d nL Qk  pc L (.int y :: .int x :: st) u F := by
  obtain ⟨hx, hb, hml, hown, hts, hr, hlk, hK, hI, hZ, hd1⟩ := C
  intro r u' hF H locs ls hP hS hl
  exact va_mmin hx hb (hml.trans hl.1.symm) hown (hts _ h1) (hts _ h2) (hts _ h3) (hts _ h4) hd1 (by have := zsum8 (as := as) h8; show _ ≤ 64 * d; omega) (Nat.zero_le _) (Nat.zero_le _) hdg (k r u' hF H locs ls hP hS hl)
end GoMem
end
section
/-! ===== copies, calls, ends ===== -/
section GoCalls
variable {p : Program} {l : Launch} {e : Env} {s : State} {m : MethodId} {args : Array Value} {below : List Frame} {meth : Method} {c : Code} {as : Nat → Nat} {dA : Nat → ClassId} {D : va_G} {SH : List zS} {d nL : Nat} {α : Type} {Qk : (Nat → Nat) → (Nat → ClassId) → va_G → List zS → Nat → α → zM → Array Value → State → Outcome → State → Prop}
variable {own : String} {cc : ByteArray} {ret : Option FieldType} {pc : Nat} {L : List (Nat × Value)} {st : List Value} {u : zM} {F : Option (α × zM)}
theorem G_copyI (C : zCx p s m args meth c as dA D SH d nL own cc ret) {a b n0 n1 p0 p1 q0 q1 index : Nat} {sp dp n : Int32} {F : zM → Option (α × zM)} (hs0 : SH[a]? = some (.inr (0, n0, p0, q0))) (hs1 : SH[b]? = some (.inr (0, n1, p1, q1))) (w1 : Cond.methodLink own index arraycopyName ∈ zTb) (w2 : Cond.native arraycopyName ∈ zTb) (w3 : Cond.static arraycopyName ∈ zTb) (w4 : Cond.initialized "java/lang/System" ∈ zTb) (h8 : (st.map fun v => v.category).sum ≤ 8) (hdg : decode cc pc = .ok (.invokestatic index, 3)) (k : cpB sp dp n n0 n1 = true → ∀ v : zM, Go p l e s m args below meth c as dA D SH d nL Qk  (pc + 3) L st v (F v)) : Go p l e s m args below meth c as dA D SH d nL Qk  pc L (.int n :: .int dp :: .ref b :: .int sp :: .ref a :: st) u (zck (cpB sp dp n n0 n1) (zlet (cpI u a sp.toNatClampNeg b dp.toNatClampNeg n.toNatClampNeg) F)) := by
  obtain ⟨hx, hb, hml, hown, hts, hr, hlk, hK, hI, hZ, hd1⟩ := C
  intro r u' hF H locs ls hP hS hl
  obtain ⟨g0, hF⟩ := zck_some hF
  obtain ⟨g1, g2, g3, g4, g5⟩ := of_decide_eq_true g0
  refine va_copyi hx hb (hml.trans hl.1.symm) hown (hts _ w1) (hts _ w2) (hts _ w3) (hts _ w4) hK hP (zw_DA hI) hS a b 0 0 (zw_arr hs0) (zw_arr hs1) rfl rfl rfl g1 g2 g3 g4 g5 (fun _ _ => rfl) ?hf ?hh hdg (fun H1 locs1 hP1 _ hS1 => ?kk)
  case kk =>
    rw [zw_set (u' := cpI u a sp.toNatClampNeg b dp.toNatClampNeg n.toNatClampNeg) hs1 (by show Sum.inl (_, _, Sum.inl _) = Sum.inl (_, _, Sum.inl (gI (cpI u a sp.toNatClampNeg b dp.toNatClampNeg n.toNatClampNeg) b)); rw [gI_cp]) (fun q S' h => zcell_cpI q S' h)] at hP1
    exact k g0 _ r u' hF H1 locs1 ls hP1 hS1 hl
  case hf => exact hd1
  case hh =>
    have h1 : nativeFrameWords "java/lang/System" "arraycopy" 5 ≤ 40 := by decide +kernel
    have h2 := zsum8 (as := as) h8
    show _ ≤ 64 * d
    omega
theorem G_copyJ (C : zCx p s m args meth c as dA D SH d nL own cc ret) {a b n0 n1 p0 p1 q0 q1 index : Nat} {sp dp n : Int32} {F : zM → Option (α × zM)} (hs0 : SH[a]? = some (.inr (3, n0, p0, q0))) (hs1 : SH[b]? = some (.inr (3, n1, p1, q1))) (w1 : Cond.methodLink own index arraycopyName ∈ zTb) (w2 : Cond.native arraycopyName ∈ zTb) (w3 : Cond.static arraycopyName ∈ zTb) (w4 : Cond.initialized "java/lang/System" ∈ zTb) (h8 : (st.map fun v => v.category).sum ≤ 8) (hdg : decode cc pc = .ok (.invokestatic index, 3)) (k : cpB sp dp n n0 n1 = true → ∀ v : zM, Go p l e s m args below meth c as dA D SH d nL Qk  (pc + 3) L st v (F v)) : Go p l e s m args below meth c as dA D SH d nL Qk  pc L (.int n :: .int dp :: .ref b :: .int sp :: .ref a :: st) u (zck (cpB sp dp n n0 n1) (zlet (cpJ u a sp.toNatClampNeg b dp.toNatClampNeg n.toNatClampNeg) F)) := by
  obtain ⟨hx, hb, hml, hown, hts, hr, hlk, hK, hI, hZ, hd1⟩ := C
  intro r u' hF H locs ls hP hS hl
  obtain ⟨g0, hF⟩ := zck_some hF
  obtain ⟨g1, g2, g3, g4, g5⟩ := of_decide_eq_true g0
  refine va_copyl hx hb (hml.trans hl.1.symm) hown (hts _ w1) (hts _ w2) (hts _ w3) (hts _ w4) hK hP (zw_DA hI) hS a b 3 3 (zw_arr hs0) (zw_arr hs1) rfl rfl rfl g1 g2 g3 g4 g5 (fun _ _ => rfl) ?hf ?hh hdg (fun H1 locs1 hP1 _ hS1 => ?kk)
  case kk =>
    rw [zw_set (u' := cpJ u a sp.toNatClampNeg b dp.toNatClampNeg n.toNatClampNeg) hs1 (by show Sum.inl (_, _, Sum.inr (Sum.inl _)) = Sum.inl (_, _, Sum.inr (Sum.inl (gJ (cpJ u a sp.toNatClampNeg b dp.toNatClampNeg n.toNatClampNeg) b))); rw [gJ_cp]) (fun q S' h => zcell_cpJ q S' h)] at hP1
    exact k g0 _ r u' hF H1 locs1 ls hP1 hS1 hl
  case hf => exact hd1
  case hh =>
    have h1 : nativeFrameWords "java/lang/System" "arraycopy" 5 ≤ 40 := by decide +kernel
    have h2 := zsum8 (as := as) h8
    show _ ≤ 64 * d
    omega
theorem G_iret (C : zCx p s m args meth c as dA D SH d nL own cc (some .int)) {x : Int32} (hdg : decode cc pc = .ok (.ireturn, 1)) : Go p l e s m args below meth c as dA D SH d nL zQi pc L [.int x] u (some (x, u)) := by
  obtain ⟨hx, hb, hml, hown, hts, hr, hlk, hK, hI, hZ, hd1⟩ := C
  intro r u' hF H locs ls hP hS hl
  cases hF
  exact W.iret hx hb hr (fun t ht hW => ⟨⟨x, u, rfl, ⟨rfl, rfl⟩, by rw [ht]; exact hP, hK.moved hW.alike⟩, hS.F ht⟩) hS.2.2 hdg hlk
theorem G_lret (C : zCx p s m args meth c as dA D SH d nL own cc (some .long)) {x : Int64} (hdg : decode cc pc = .ok (.lreturn, 1)) : Go p l e s m args below meth c as dA D SH d nL zQl pc L [.long x] u (some (x, u)) := by
  obtain ⟨hx, hb, hml, hown, hts, hr, hlk, hK, hI, hZ, hd1⟩ := C
  intro r u' hF H locs ls hP hS hl
  cases hF
  exact W.lret hx hb hr (fun t ht hW => ⟨⟨x, u, rfl, ⟨rfl, rfl⟩, by rw [ht]; exact hP, hK.moved hW.alike⟩, hS.F ht⟩) hS.2.2 hdg hlk
def z01 (x : Int32) : Bool := x == 0 || x == 1
theorem z01_nar {x : Int32} (h : z01 x = true) : narrow .boolean (.int x) = .int x := by
  unfold z01 at h
  rw [Bool.or_eq_true, beq_iff_eq, beq_iff_eq] at h
  rcases h with h | h <;> subst h <;> rfl
theorem G_zret {ty : FieldType} (C : zCx p s m args meth c as dA D SH d nL own cc (some ty)) {x : Int32} (hn : narrow ty (.int x) = .int x) (hdg : decode cc pc = .ok (.ireturn, 1)) : Go p l e s m args below meth c as dA D SH d nL zQi pc L [.int x] u (some (x, u)) := by
  obtain ⟨hx, hb, hml, hown, hts, hr, hlk, hK, hI, hZ, hd1⟩ := C
  intro r u' hF H locs ls hP hS hl
  cases hF
  exact W.zret hx hb hr hn (fun t ht hW => ⟨⟨x, u, rfl, ⟨rfl, rfl⟩, by rw [ht]; exact hP, hK.moved hW.alike⟩, hS.F ht⟩) hS.2.2 hdg hlk
theorem G_vret (C : zCx p s m args meth c as dA D SH d nL own cc none) (hdg : decode cc pc = .ok (.return_, 1)) : Go p l e s m args below meth c as dA D SH d nL zQv pc L [] u (some ((), u)) := by
  obtain ⟨hx, hb, hml, hown, hts, hr, hlk, hK, hI, hZ, hd1⟩ := C
  intro r u' hF H locs ls hP hS hl
  cases hF
  exact W.vret hx hb hr (fun t ht hW => ⟨⟨u, rfl, rfl, by rw [ht]; exact hP, hK.moved hW.alike⟩, hS.F ht⟩) hS.2.2 hdg hlk
theorem G_aret {Cr : String} (C : zCx p s m args meth c as dA D SH d nL own cc (some (.object Cr))) {x : Nat} (hdg : decode cc pc = .ok (.areturn, 1)) : Go p l e s m args below meth c as dA D SH d nL zQr pc L [.ref x] u (some (x, u)) := by
  obtain ⟨hx, hb, hml, hown, hts, hr, hlk, hK, hI, hZ, hd1⟩ := C
  intro r u' hF H locs ls hP hS hl
  cases hF
  exact W.aret hx hb hr (Or.inl ⟨_, rfl⟩) (Or.inr ⟨_, rfl⟩) (fun t ht hW => ⟨⟨u, as x, rfl, rfl, rfl, by rw [ht]; exact hP, hK.moved hW.alike⟩, hS.F ht⟩) hS.2.2 hdg hlk
theorem zPre_blind {dd : Nat → Nat} {av : List Value} {sz : Nat} : FrameBlind (va_Pc av (zPre dd dA D SH u sz)) := fun a U g mk q => by
  obtain ⟨q0, q1, q2, q3, q4, q5⟩ := q
  exact ⟨q0, q1, q2, q3.moved (u := U) (U := U.calling g mk a) (Vm.Alike.refl U.vm), q4, q5.same (u := U) (U := U.calling g mk a) rfl rfl⟩
theorem zA_in {n sz : Nat} {H : Heap} (hs : sz ≤ H.size) : ∀ q, zA as n H.size q → zA as n sz q := fun q h => h.elim Or.inl (fun h => Or.inr (Nat.le_trans hs h))
theorem zPre_at {H : Heap} {locs : List Loc} {U : State} (hK : va_K D zcl (zty dA) s) (hI : zInj as SH.length) (hZ : zSt as (zA as SH.length s.heap.size) s) (hP : va_P D zcl (zw as dA SH u) H) (hS : va_S (zA as SH.length s.heap.size) s.heap H locs) (hU : U.heap = H) (hW : s.WarmedH U.vm) : zPre as dA D SH u H.size U :=
  ⟨by rw [hU], by rw [hU]; exact hP, hK.moved hW.alike, hI, hZ.call hU hW hS (zA_in hS.1)⟩
theorem zmapA {As st : List Value} {v : Value} : (As.reverse ++ v :: st).map (zr as) = (As.map (zr as)).reverse ++ zr as v :: st.map (zr as) := by
  rw [List.map_append, List.map_reverse]
  rfl
theorem zmapS {As st : List Value} : (As.reverse ++ st).map (zr as) = (As.map (zr as)).reverse ++ st.map (zr as) := by
  rw [List.map_append, List.map_reverse]
theorem zcwV (n : Nat) {y : MethodName} {bytes : ByteArray} {maxL index d' : Nat} {rt : Option FieldType} {own : String} (hts : ∀ w ∈ zTb, w.before args s = true) (hR : d' + 1 ≤ d) (w1 : Cond.methodLink own index y ∈ zTb) (w2 : Cond.instanceMethod y ∈ zTb) (w3 : Cond.selects y.cls y y ∈ zTb) (w4 : Cond.initialized y.cls ∈ zTb) (w5 : Cond.code y bytes maxL rt ∈ zTb) (hm : maxL ≤ 45)
    (hd : y.cls ≠ "java/lang/invoke/MethodHandle" ∧ y.cls ≠ "java/lang/invoke/VarHandle" ∧ (parseMethodDescriptor y.desc).map (fun d => d.parameters.length) = some n) : CallW (zRm d) s args own y.cls index y bytes maxL rt (.code y bytes maxL rt :: zTb) (zRm d') 0 0 n :=
  cwV n hts (zgood_of (fun w hw => by
    unfold wsV at hw
    rcases List.mem_append.mp hw with h | h
    · simp only [List.mem_cons, List.not_mem_nil, or_false] at h
      rcases h with h | h | h | h <;> subst h <;> assumption
    · rcases List.mem_cons.mp h with h | h
      · subst h; exact w5
      · exact h)) rfl rfl rfl ⟨rfl, hd⟩ ⟨hR, by show 8 + (maxL + 11) + 64 * d' ≤ 64 * d; omega⟩
theorem zcwS (n : Nat) {y : MethodName} {bytes : ByteArray} {maxL index d' : Nat} {rt : Option FieldType} {own : String} (hts : ∀ w ∈ zTb, w.before args s = true) (hR : d' + 1 ≤ d) (w1 : Cond.methodLink own index y ∈ zTb) (w2 : Cond.static y ∈ zTb) (w4 : Cond.initialized y.cls ∈ zTb) (w5 : Cond.code y bytes maxL rt ∈ zTb) (hm : maxL ≤ 45)
    (hd : y.cls ≠ "java/lang/invoke/MethodHandle" ∧ y.cls ≠ "java/lang/invoke/VarHandle" ∧ (parseMethodDescriptor y.desc).map (fun d => d.parameters.length) = some n) : CallB (zRm d) s args own index y bytes maxL rt (.code y bytes maxL rt :: zTb) (zRm d') 0 0 n ∧ (Cond.static y).before args s = true :=
  ⟨callB_of n hts (zgood_of (fun w hw => by
    rcases List.mem_cons.mp hw with h | h
    · subst h; exact w5
    · exact h)) rfl rfl rfl (hts _ w4) (hts _ w1) hd ⟨hR, by show 8 + (maxL + 11) + 64 * d' ≤ 64 * d; omega⟩, hts _ w2⟩
theorem zcwN (n : Nat) {y : MethodName} {bytes : ByteArray} {maxL index d' : Nat} {rt : Option FieldType} {own host : String} (hts : ∀ w ∈ zTb, w.before args s = true) (hR : d' + 1 ≤ d) (w1 : va_Nw (.methodLinkNest own index y host) s) (w2 : Cond.static y ∈ zTb) (w4 : Cond.initialized y.cls ∈ zTb) (w5 : Cond.code y bytes maxL rt ∈ zTb) (hm : maxL ≤ 45)
    (hd : y.cls ≠ "java/lang/invoke/MethodHandle" ∧ y.cls ≠ "java/lang/invoke/VarHandle" ∧ (parseMethodDescriptor y.desc).map (fun d => d.parameters.length) = some n) : va_CN (zRm d) s args own index y host bytes maxL rt (.code y bytes maxL rt :: zTb) (zRm d') 0 0 n ∧ (Cond.static y).before args s = true ∧ True :=
  ⟨va_cnB n hts (zgood_of (fun w hw => by
    rcases List.mem_cons.mp hw with h | h
    · subst h; exact w5
    · exact h)) rfl rfl rfl w1 (hts _ w4) hd ⟨hR, by show 8 + (maxL + 11) + 64 * d' ≤ 64 * d; omega⟩, hts _ w2, trivial⟩
theorem G_callVi (C : zCx p s m args meth c as dA D SH d nL own cc ret) {y : MethodName} {bytes : ByteArray} {maxL index d' : Nat} {rt : Option FieldType} {As : List Value} {stk : List Value} {Fc : Option (Int32 × zM)} {K : Int32 → zM → Option (α × zM)} {a ci : Nat} {ks : List Nat} {T : u_T} {N : Nat} (hM : zMet zQi SH y bytes maxL rt d' (.ref a :: As) u Fc) (hR : d' + 1 ≤ d) (hstk : stk = As.reverse ++ .ref a :: st) (w1 : Cond.methodLink own index y ∈ zTb) (w2 : Cond.instanceMethod y ∈ zTb) (w3 : Cond.selects y.cls y y ∈ zTb) (w4 : Cond.initialized y.cls ∈ zTb) (w5 : Cond.code y bytes maxL rt ∈ zTb) (hm : maxL ≤ 45) (hdsc : y.cls ≠ "java/lang/invoke/MethodHandle" ∧ y.cls ≠ "java/lang/invoke/VarHandle" ∧ (parseMethodDescriptor y.desc).map (fun d => d.parameters.length) = some As.length) (hs : SH[a]? = some (.inl (ci, ks))) (hc : zcl[ci]? = some (y.cls, T, N)) (h8 : (st.map fun v => v.category).sum ≤ 8) (hdg : decode cc pc = .ok (.invokevirtual index, 3)) (k : ∀ (x : Int32) (v : zM), Go p l e s m args below meth c as dA D SH d nL Qk (pc + 3) L (.int x :: st) v (K x v)) : Go p l e s m args below meth c as dA D SH d nL Qk pc L stk u (zb Fc K) := by
  obtain ⟨hx, hb, hml, hown, hts, hr, hlk, hK, hI, hZ, hd1⟩ := C
  intro r u' hF H locs ls hP hS hl
  obtain ⟨x0, u0, hFc, hF⟩ := zb_some hF
  have hm0 := hM x0 u0 hFc l as dA D H.size
  have hA0 := zA_in (as := as) (n := SH.length) hS.1
  refine va_calli (va_runV (As := As.map (zr as)) (rest := st.map (zr as)) ⟨hx, hb, hml, hown, hts⟩ hm0 (zcwV As.length hts hR w1 w2 w3 w4 w5 hm hdsc) ⟨zPre_blind, va_recv hK hP hc (zw_obj hs), fun U hU hW => ⟨rfl, zPre_at hK hI hZ hP hS hU hW⟩⟩ rfl (List.length_map _) hl.1 (by rw [hstk]; exact zmapA) (lv_room (zsum8 h8)) hdg ⟨Nat.zero_le _, Nat.zero_le _⟩) hS (fun q _ h => hA0 q h) hA0 (fun r0 v0 t H1 locs1 ht hvm hw hB hz1 hk1 hS1 => ?_)
  obtain ⟨rfl, rfl⟩ := hw
  obtain ⟨hP1, hK1⟩ := hB
  rw [ht] at hP1
  exact k r0 v0 r u' hF H1 locs1 ls hP1 hS1 hl
theorem G_callSi (C : zCx p s m args meth c as dA D SH d nL own cc ret) {y : MethodName} {bytes : ByteArray} {maxL index d' : Nat} {rt : Option FieldType} {As : List Value} {stk : List Value} {Fc : Option (Int32 × zM)} {K : Int32 → zM → Option (α × zM)} (hM : zMet zQi SH y bytes maxL rt d' As u Fc) (hR : d' + 1 ≤ d) (hstk : stk = As.reverse ++ st) (w1 : Cond.methodLink own index y ∈ zTb) (w2 : Cond.static y ∈ zTb) (w4 : Cond.initialized y.cls ∈ zTb) (w5 : Cond.code y bytes maxL rt ∈ zTb) (hm : maxL ≤ 45) (hdsc : y.cls ≠ "java/lang/invoke/MethodHandle" ∧ y.cls ≠ "java/lang/invoke/VarHandle" ∧ (parseMethodDescriptor y.desc).map (fun d => d.parameters.length) = some As.length) (h8 : (st.map fun v => v.category).sum ≤ 8) (hdg : decode cc pc = .ok (.invokestatic index, 3)) (k : ∀ (x : Int32) (v : zM), Go p l e s m args below meth c as dA D SH d nL Qk (pc + 3) L (.int x :: st) v (K x v)) : Go p l e s m args below meth c as dA D SH d nL Qk pc L stk u (zb Fc K) := by
  obtain ⟨hx, hb, hml, hown, hts, hr, hlk, hK, hI, hZ, hd1⟩ := C
  intro r u' hF H locs ls hP hS hl
  obtain ⟨x0, u0, hFc, hF⟩ := zb_some hF
  have hm0 := hM x0 u0 hFc l as dA D H.size
  have hA0 := zA_in (as := as) (n := SH.length) hS.1
  refine va_calli (va_runS (As := As.map (zr as)) (rest := st.map (zr as)) ⟨hx, hb, hml, hown, hts⟩ hm0 (zcwS As.length hts hR w1 w2 w4 w5 hm hdsc) ⟨zPre_blind, fun U hU hW => ⟨rfl, zPre_at hK hI hZ hP hS hU hW⟩⟩ rfl (List.length_map _) hl.1 (by rw [hstk]; exact zmapS) (lv_room (zsum8 h8)) hdg ⟨Nat.zero_le _, Nat.zero_le _⟩) hS (fun q _ h => hA0 q h) hA0 (fun r0 v0 t H1 locs1 ht hvm hw hB hz1 hk1 hS1 => ?_)
  obtain ⟨rfl, rfl⟩ := hw
  obtain ⟨hP1, hK1⟩ := hB
  rw [ht] at hP1
  exact k r0 v0 r u' hF H1 locs1 ls hP1 hS1 hl
theorem G_callNi (C : zCx p s m args meth c as dA D SH d nL own cc ret) {y : MethodName} {bytes : ByteArray} {maxL index d' : Nat} {rt : Option FieldType} {As : List Value} {stk : List Value} {Fc : Option (Int32 × zM)} {K : Int32 → zM → Option (α × zM)} {host : String} (hM : zMet zQi SH y bytes maxL rt d' As u Fc) (hR : d' + 1 ≤ d) (hstk : stk = As.reverse ++ st) (w1 : Cond.methodLinkNest own index y host ∈ zNest) (w2 : Cond.static y ∈ zTb) (w4 : Cond.initialized y.cls ∈ zTb) (w5 : Cond.code y bytes maxL rt ∈ zTb) (hm : maxL ≤ 45) (hdsc : y.cls ≠ "java/lang/invoke/MethodHandle" ∧ y.cls ≠ "java/lang/invoke/VarHandle" ∧ (parseMethodDescriptor y.desc).map (fun d => d.parameters.length) = some As.length) (h8 : (st.map fun v => v.category).sum ≤ 8) (hdg : decode cc pc = .ok (.invokestatic index, 3)) (k : ∀ (x : Int32) (v : zM), Go p l e s m args below meth c as dA D SH d nL Qk (pc + 3) L (.int x :: st) v (K x v)) : Go p l e s m args below meth c as dA D SH d nL Qk pc L stk u (zb Fc K) := by
  obtain ⟨hx, hb, hml, hown, hts, hr, hlk, hK, hI, hZ, hd1⟩ := C
  intro r u' hF H locs ls hP hS hl
  obtain ⟨x0, u0, hFc, hF⟩ := zb_some hF
  have hm0 := hM x0 u0 hFc l as dA D H.size
  have hA0 := zA_in (as := as) (n := SH.length) hS.1
  refine va_calli (va_runSN (As := As.map (zr as)) (rest := st.map (zr as)) ⟨hx, hb, hml, hown, hts⟩ hm0 (zcwN As.length hts hR (hZ.1 _ w1) w2 w4 w5 hm hdsc) ⟨zPre_blind, fun U hU hW => ⟨rfl, zPre_at hK hI hZ hP hS hU hW⟩⟩ rfl (List.length_map _) hl.1 (by rw [hstk]; exact zmapS) (lv_room (zsum8 h8)) hdg ⟨Nat.zero_le _, Nat.zero_le _⟩) hS (fun q _ h => hA0 q h) hA0 (fun r0 v0 t H1 locs1 ht hvm hw hB hz1 hk1 hS1 => ?_)
  obtain ⟨rfl, rfl⟩ := hw
  obtain ⟨hP1, hK1⟩ := hB
  rw [ht] at hP1
  exact k r0 v0 r u' hF H1 locs1 ls hP1 hS1 hl
theorem G_callVl (C : zCx p s m args meth c as dA D SH d nL own cc ret) {y : MethodName} {bytes : ByteArray} {maxL index d' : Nat} {rt : Option FieldType} {As : List Value} {stk : List Value} {Fc : Option (Int64 × zM)} {K : Int64 → zM → Option (α × zM)} {a ci : Nat} {ks : List Nat} {T : u_T} {N : Nat} (hM : zMet zQl SH y bytes maxL rt d' (.ref a :: As) u Fc) (hR : d' + 1 ≤ d) (hstk : stk = As.reverse ++ .ref a :: st) (w1 : Cond.methodLink own index y ∈ zTb) (w2 : Cond.instanceMethod y ∈ zTb) (w3 : Cond.selects y.cls y y ∈ zTb) (w4 : Cond.initialized y.cls ∈ zTb) (w5 : Cond.code y bytes maxL rt ∈ zTb) (hm : maxL ≤ 45) (hdsc : y.cls ≠ "java/lang/invoke/MethodHandle" ∧ y.cls ≠ "java/lang/invoke/VarHandle" ∧ (parseMethodDescriptor y.desc).map (fun d => d.parameters.length) = some As.length) (hs : SH[a]? = some (.inl (ci, ks))) (hc : zcl[ci]? = some (y.cls, T, N)) (h8 : (st.map fun v => v.category).sum ≤ 8) (hdg : decode cc pc = .ok (.invokevirtual index, 3)) (k : ∀ (x : Int64) (v : zM), Go p l e s m args below meth c as dA D SH d nL Qk (pc + 3) L (.long x :: st) v (K x v)) : Go p l e s m args below meth c as dA D SH d nL Qk pc L stk u (zb Fc K) := by
  obtain ⟨hx, hb, hml, hown, hts, hr, hlk, hK, hI, hZ, hd1⟩ := C
  intro r u' hF H locs ls hP hS hl
  obtain ⟨x0, u0, hFc, hF⟩ := zb_some hF
  have hm0 := hM x0 u0 hFc l as dA D H.size
  have hA0 := zA_in (as := as) (n := SH.length) hS.1
  refine va_calll (va_runV (As := As.map (zr as)) (rest := st.map (zr as)) ⟨hx, hb, hml, hown, hts⟩ hm0 (zcwV As.length hts hR w1 w2 w3 w4 w5 hm hdsc) ⟨zPre_blind, va_recv hK hP hc (zw_obj hs), fun U hU hW => ⟨rfl, zPre_at hK hI hZ hP hS hU hW⟩⟩ rfl (List.length_map _) hl.1 (by rw [hstk]; exact zmapA) (lv_room (zsum8 h8)) hdg ⟨Nat.zero_le _, Nat.zero_le _⟩) hS (fun q _ h => hA0 q h) hA0 (fun r0 v0 t H1 locs1 ht hvm hw hB hz1 hk1 hS1 => ?_)
  obtain ⟨rfl, rfl⟩ := hw
  obtain ⟨hP1, hK1⟩ := hB
  rw [ht] at hP1
  exact k r0 v0 r u' hF H1 locs1 ls hP1 hS1 hl
theorem G_callSl (C : zCx p s m args meth c as dA D SH d nL own cc ret) {y : MethodName} {bytes : ByteArray} {maxL index d' : Nat} {rt : Option FieldType} {As : List Value} {stk : List Value} {Fc : Option (Int64 × zM)} {K : Int64 → zM → Option (α × zM)} (hM : zMet zQl SH y bytes maxL rt d' As u Fc) (hR : d' + 1 ≤ d) (hstk : stk = As.reverse ++ st) (w1 : Cond.methodLink own index y ∈ zTb) (w2 : Cond.static y ∈ zTb) (w4 : Cond.initialized y.cls ∈ zTb) (w5 : Cond.code y bytes maxL rt ∈ zTb) (hm : maxL ≤ 45) (hdsc : y.cls ≠ "java/lang/invoke/MethodHandle" ∧ y.cls ≠ "java/lang/invoke/VarHandle" ∧ (parseMethodDescriptor y.desc).map (fun d => d.parameters.length) = some As.length) (h8 : (st.map fun v => v.category).sum ≤ 8) (hdg : decode cc pc = .ok (.invokestatic index, 3)) (k : ∀ (x : Int64) (v : zM), Go p l e s m args below meth c as dA D SH d nL Qk (pc + 3) L (.long x :: st) v (K x v)) : Go p l e s m args below meth c as dA D SH d nL Qk pc L stk u (zb Fc K) := by
  obtain ⟨hx, hb, hml, hown, hts, hr, hlk, hK, hI, hZ, hd1⟩ := C
  intro r u' hF H locs ls hP hS hl
  obtain ⟨x0, u0, hFc, hF⟩ := zb_some hF
  have hm0 := hM x0 u0 hFc l as dA D H.size
  have hA0 := zA_in (as := as) (n := SH.length) hS.1
  refine va_calll (va_runS (As := As.map (zr as)) (rest := st.map (zr as)) ⟨hx, hb, hml, hown, hts⟩ hm0 (zcwS As.length hts hR w1 w2 w4 w5 hm hdsc) ⟨zPre_blind, fun U hU hW => ⟨rfl, zPre_at hK hI hZ hP hS hU hW⟩⟩ rfl (List.length_map _) hl.1 (by rw [hstk]; exact zmapS) (lv_room (zsum8 h8)) hdg ⟨Nat.zero_le _, Nat.zero_le _⟩) hS (fun q _ h => hA0 q h) hA0 (fun r0 v0 t H1 locs1 ht hvm hw hB hz1 hk1 hS1 => ?_)
  obtain ⟨rfl, rfl⟩ := hw
  obtain ⟨hP1, hK1⟩ := hB
  rw [ht] at hP1
  exact k r0 v0 r u' hF H1 locs1 ls hP1 hS1 hl
theorem G_callVv (C : zCx p s m args meth c as dA D SH d nL own cc ret) {y : MethodName} {bytes : ByteArray} {maxL index d' : Nat} {rt : Option FieldType} {As : List Value} {stk : List Value} {Fc : Option (Unit × zM)} {K : Unit → zM → Option (α × zM)} {a ci : Nat} {ks : List Nat} {T : u_T} {N : Nat} (hM : zMet zQv SH y bytes maxL rt d' (.ref a :: As) u Fc) (hR : d' + 1 ≤ d) (hstk : stk = As.reverse ++ .ref a :: st) (w1 : Cond.methodLink own index y ∈ zTb) (w2 : Cond.instanceMethod y ∈ zTb) (w3 : Cond.selects y.cls y y ∈ zTb) (w4 : Cond.initialized y.cls ∈ zTb) (w5 : Cond.code y bytes maxL rt ∈ zTb) (hm : maxL ≤ 45) (hdsc : y.cls ≠ "java/lang/invoke/MethodHandle" ∧ y.cls ≠ "java/lang/invoke/VarHandle" ∧ (parseMethodDescriptor y.desc).map (fun d => d.parameters.length) = some As.length) (hs : SH[a]? = some (.inl (ci, ks))) (hc : zcl[ci]? = some (y.cls, T, N)) (h8 : (st.map fun v => v.category).sum ≤ 8) (hdg : decode cc pc = .ok (.invokevirtual index, 3)) (k : ∀ (x : Unit) (v : zM), Go p l e s m args below meth c as dA D SH d nL Qk (pc + 3) L st v (K x v)) : Go p l e s m args below meth c as dA D SH d nL Qk pc L stk u (zb Fc K) := by
  obtain ⟨hx, hb, hml, hown, hts, hr, hlk, hK, hI, hZ, hd1⟩ := C
  intro r u' hF H locs ls hP hS hl
  obtain ⟨x0, u0, hFc, hF⟩ := zb_some hF
  have hm0 := hM x0 u0 hFc l as dA D H.size
  have hA0 := zA_in (as := as) (n := SH.length) hS.1
  refine va_callv (va_runV (As := As.map (zr as)) (rest := st.map (zr as)) ⟨hx, hb, hml, hown, hts⟩ hm0 (zcwV As.length hts hR w1 w2 w3 w4 w5 hm hdsc) ⟨zPre_blind, va_recv hK hP hc (zw_obj hs), fun U hU hW => ⟨rfl, zPre_at hK hI hZ hP hS hU hW⟩⟩ rfl (List.length_map _) hl.1 (by rw [hstk]; exact zmapA) (lv_room (zsum8 h8)) hdg ⟨Nat.zero_le _, Nat.zero_le _⟩) hS (fun q _ h => hA0 q h) hA0 (fun v0 t H1 locs1 ht hvm hw hB hz1 hk1 hS1 => ?_)
  cases x0
  subst hw
  obtain ⟨hP1, hK1⟩ := hB
  rw [ht] at hP1
  exact k () v0 r u' hF H1 locs1 ls hP1 hS1 hl
theorem G_callSv (C : zCx p s m args meth c as dA D SH d nL own cc ret) {y : MethodName} {bytes : ByteArray} {maxL index d' : Nat} {rt : Option FieldType} {As : List Value} {stk : List Value} {Fc : Option (Unit × zM)} {K : Unit → zM → Option (α × zM)} (hM : zMet zQv SH y bytes maxL rt d' As u Fc) (hR : d' + 1 ≤ d) (hstk : stk = As.reverse ++ st) (w1 : Cond.methodLink own index y ∈ zTb) (w2 : Cond.static y ∈ zTb) (w4 : Cond.initialized y.cls ∈ zTb) (w5 : Cond.code y bytes maxL rt ∈ zTb) (hm : maxL ≤ 45) (hdsc : y.cls ≠ "java/lang/invoke/MethodHandle" ∧ y.cls ≠ "java/lang/invoke/VarHandle" ∧ (parseMethodDescriptor y.desc).map (fun d => d.parameters.length) = some As.length) (h8 : (st.map fun v => v.category).sum ≤ 8) (hdg : decode cc pc = .ok (.invokestatic index, 3)) (k : ∀ (x : Unit) (v : zM), Go p l e s m args below meth c as dA D SH d nL Qk (pc + 3) L st v (K x v)) : Go p l e s m args below meth c as dA D SH d nL Qk pc L stk u (zb Fc K) := by
  obtain ⟨hx, hb, hml, hown, hts, hr, hlk, hK, hI, hZ, hd1⟩ := C
  intro r u' hF H locs ls hP hS hl
  obtain ⟨x0, u0, hFc, hF⟩ := zb_some hF
  have hm0 := hM x0 u0 hFc l as dA D H.size
  have hA0 := zA_in (as := as) (n := SH.length) hS.1
  refine va_callv (va_runS (As := As.map (zr as)) (rest := st.map (zr as)) ⟨hx, hb, hml, hown, hts⟩ hm0 (zcwS As.length hts hR w1 w2 w4 w5 hm hdsc) ⟨zPre_blind, fun U hU hW => ⟨rfl, zPre_at hK hI hZ hP hS hU hW⟩⟩ rfl (List.length_map _) hl.1 (by rw [hstk]; exact zmapS) (lv_room (zsum8 h8)) hdg ⟨Nat.zero_le _, Nat.zero_le _⟩) hS (fun q _ h => hA0 q h) hA0 (fun v0 t H1 locs1 ht hvm hw hB hz1 hk1 hS1 => ?_)
  cases x0
  subst hw
  obtain ⟨hP1, hK1⟩ := hB
  rw [ht] at hP1
  exact k () v0 r u' hF H1 locs1 ls hP1 hS1 hl
theorem G_callNv (C : zCx p s m args meth c as dA D SH d nL own cc ret) {y : MethodName} {bytes : ByteArray} {maxL index d' : Nat} {rt : Option FieldType} {As : List Value} {stk : List Value} {Fc : Option (Unit × zM)} {K : Unit → zM → Option (α × zM)} {host : String} (hM : zMet zQv SH y bytes maxL rt d' As u Fc) (hR : d' + 1 ≤ d) (hstk : stk = As.reverse ++ st) (w1 : Cond.methodLinkNest own index y host ∈ zNest) (w2 : Cond.static y ∈ zTb) (w4 : Cond.initialized y.cls ∈ zTb) (w5 : Cond.code y bytes maxL rt ∈ zTb) (hm : maxL ≤ 45) (hdsc : y.cls ≠ "java/lang/invoke/MethodHandle" ∧ y.cls ≠ "java/lang/invoke/VarHandle" ∧ (parseMethodDescriptor y.desc).map (fun d => d.parameters.length) = some As.length) (h8 : (st.map fun v => v.category).sum ≤ 8) (hdg : decode cc pc = .ok (.invokestatic index, 3)) (k : ∀ (x : Unit) (v : zM), Go p l e s m args below meth c as dA D SH d nL Qk (pc + 3) L st v (K x v)) : Go p l e s m args below meth c as dA D SH d nL Qk pc L stk u (zb Fc K) := by
  obtain ⟨hx, hb, hml, hown, hts, hr, hlk, hK, hI, hZ, hd1⟩ := C
  intro r u' hF H locs ls hP hS hl
  obtain ⟨x0, u0, hFc, hF⟩ := zb_some hF
  have hm0 := hM x0 u0 hFc l as dA D H.size
  have hA0 := zA_in (as := as) (n := SH.length) hS.1
  refine va_callv (va_runSN (As := As.map (zr as)) (rest := st.map (zr as)) ⟨hx, hb, hml, hown, hts⟩ hm0 (zcwN As.length hts hR (hZ.1 _ w1) w2 w4 w5 hm hdsc) ⟨zPre_blind, fun U hU hW => ⟨rfl, zPre_at hK hI hZ hP hS hU hW⟩⟩ rfl (List.length_map _) hl.1 (by rw [hstk]; exact zmapS) (lv_room (zsum8 h8)) hdg ⟨Nat.zero_le _, Nat.zero_le _⟩) hS (fun q _ h => hA0 q h) hA0 (fun v0 t H1 locs1 ht hvm hw hB hz1 hk1 hS1 => ?_)
  cases x0
  subst hw
  obtain ⟨hP1, hK1⟩ := hB
  rw [ht] at hP1
  exact k () v0 r u' hF H1 locs1 ls hP1 hS1 hl
theorem G_callVr (C : zCx p s m args meth c as dA D SH d nL own cc ret) {y : MethodName} {bytes : ByteArray} {maxL index d' : Nat} {rt : Option FieldType} {As : List Value} {stk : List Value} {Fc : Option (Nat × zM)} {K : Nat → zM → Option (α × zM)} {a ci : Nat} {ks : List Nat} {T : u_T} {N : Nat} (hM : zMet zQr SH y bytes maxL rt d' (.ref a :: As) u Fc) (hR : d' + 1 ≤ d) (hstk : stk = As.reverse ++ .ref a :: st) (w1 : Cond.methodLink own index y ∈ zTb) (w2 : Cond.instanceMethod y ∈ zTb) (w3 : Cond.selects y.cls y y ∈ zTb) (w4 : Cond.initialized y.cls ∈ zTb) (w5 : Cond.code y bytes maxL rt ∈ zTb) (hm : maxL ≤ 45) (hdsc : y.cls ≠ "java/lang/invoke/MethodHandle" ∧ y.cls ≠ "java/lang/invoke/VarHandle" ∧ (parseMethodDescriptor y.desc).map (fun d => d.parameters.length) = some As.length) (hs : SH[a]? = some (.inl (ci, ks))) (hc : zcl[ci]? = some (y.cls, T, N)) (h8 : (st.map fun v => v.category).sum ≤ 8) (hdg : decode cc pc = .ok (.invokevirtual index, 3)) (k : ∀ (x : Nat) (v : zM), Go p l e s m args below meth c as dA D SH d nL Qk (pc + 3) L (.ref x :: st) v (K x v)) : Go p l e s m args below meth c as dA D SH d nL Qk pc L stk u (zb Fc K) := by
  obtain ⟨hx, hb, hml, hown, hts, hr, hlk, hK, hI, hZ, hd1⟩ := C
  intro r u' hF H locs ls hP hS hl
  obtain ⟨x0, u0, hFc, hF⟩ := zb_some hF
  have hm0 := hM x0 u0 hFc l as dA D H.size
  have hA0 := zA_in (as := as) (n := SH.length) hS.1
  refine va_callr (va_runV (As := As.map (zr as)) (rest := st.map (zr as)) ⟨hx, hb, hml, hown, hts⟩ hm0 (zcwV As.length hts hR w1 w2 w3 w4 w5 hm hdsc) ⟨zPre_blind, va_recv hK hP hc (zw_obj hs), fun U hU hW => ⟨rfl, zPre_at hK hI hZ hP hS hU hW⟩⟩ rfl (List.length_map _) hl.1 (by rw [hstk]; exact zmapA) (lv_room (zsum8 h8)) hdg ⟨Nat.zero_le _, Nat.zero_le _⟩) hS (fun q _ h => hA0 q h) hA0 (fun v0 ra t H1 locs1 ht hvm hw hB hz1 hk1 hS1 => ?_)
  subst hw
  obtain ⟨rfl, hB⟩ := hB
  obtain ⟨hP1, hK1⟩ := hB
  rw [ht] at hP1
  exact k x0 v0 r u' hF H1 locs1 ls hP1 hS1 hl
theorem G_callSr (C : zCx p s m args meth c as dA D SH d nL own cc ret) {y : MethodName} {bytes : ByteArray} {maxL index d' : Nat} {rt : Option FieldType} {As : List Value} {stk : List Value} {Fc : Option (Nat × zM)} {K : Nat → zM → Option (α × zM)} (hM : zMet zQr SH y bytes maxL rt d' As u Fc) (hR : d' + 1 ≤ d) (hstk : stk = As.reverse ++ st) (w1 : Cond.methodLink own index y ∈ zTb) (w2 : Cond.static y ∈ zTb) (w4 : Cond.initialized y.cls ∈ zTb) (w5 : Cond.code y bytes maxL rt ∈ zTb) (hm : maxL ≤ 45) (hdsc : y.cls ≠ "java/lang/invoke/MethodHandle" ∧ y.cls ≠ "java/lang/invoke/VarHandle" ∧ (parseMethodDescriptor y.desc).map (fun d => d.parameters.length) = some As.length) (h8 : (st.map fun v => v.category).sum ≤ 8) (hdg : decode cc pc = .ok (.invokestatic index, 3)) (k : ∀ (x : Nat) (v : zM), Go p l e s m args below meth c as dA D SH d nL Qk (pc + 3) L (.ref x :: st) v (K x v)) : Go p l e s m args below meth c as dA D SH d nL Qk pc L stk u (zb Fc K) := by
  obtain ⟨hx, hb, hml, hown, hts, hr, hlk, hK, hI, hZ, hd1⟩ := C
  intro r u' hF H locs ls hP hS hl
  obtain ⟨x0, u0, hFc, hF⟩ := zb_some hF
  have hm0 := hM x0 u0 hFc l as dA D H.size
  have hA0 := zA_in (as := as) (n := SH.length) hS.1
  refine va_callr (va_runS (As := As.map (zr as)) (rest := st.map (zr as)) ⟨hx, hb, hml, hown, hts⟩ hm0 (zcwS As.length hts hR w1 w2 w4 w5 hm hdsc) ⟨zPre_blind, fun U hU hW => ⟨rfl, zPre_at hK hI hZ hP hS hU hW⟩⟩ rfl (List.length_map _) hl.1 (by rw [hstk]; exact zmapS) (lv_room (zsum8 h8)) hdg ⟨Nat.zero_le _, Nat.zero_le _⟩) hS (fun q _ h => hA0 q h) hA0 (fun v0 ra t H1 locs1 ht hvm hw hB hz1 hk1 hS1 => ?_)
  subst hw
  obtain ⟨rfl, hB⟩ := hB
  obtain ⟨hP1, hK1⟩ := hB
  rw [ht] at hP1
  exact k x0 v0 r u' hF H1 locs1 ls hP1 hS1 hl
theorem zMet_of {α : Type} {Qk : (Nat → Nat) → (Nat → ClassId) → va_G → List zS → Nat → α → zM → Array Value → State → Outcome → State → Prop} {y : MethodName} {bytes : ByteArray} {maxL : Nat} {rt : Option FieldType} {av : List Value} {F : Option (α × zM)} (hy : plainName y.cls = true) (hlen : ∀ as : Nat → Nat, (lg_sl (av.map (zr as))).length ≤ maxL) (hw5 : Cond.code y bytes maxL rt ∈ zTb) (hd1 : 1 ≤ d)
    (body : ∀ (p : Program) (l : Launch) (e : Env) (s : State) (m : MethodId) (args : Array Value) (below : List Frame) (meth : Method) (c : Code) (as : Nat → Nat) (dA : Nat → ClassId) (D : va_G), zCx p s m args meth c as dA D SH d maxL y.cls bytes rt → Go p l e s m args below meth c as dA D SH d maxL Qk 0 (lv_args 0 av) [] u F) : zMet Qk SH y bytes maxL rt d av u F := by
  intro r u' hF l as dA D sz
  refine Met.ofW (cc := bytes) (maxL := maxL) (ret := rt) hy rfl ?_
  intro p e s m args below meth c s₁ B hml hv
  obtain ⟨rfl, hsz, hP, hK, hI, hZ⟩ := hv
  subst hsz
  have hts0 := atoms_spec (ws := .code y bytes maxL rt :: zTb) B.pre
  have hts : ∀ w ∈ zTb, w.before ((av.map (zr as)).toArray) s = true := fun w hw => hts0 w (List.mem_cons_of_mem _ hw)
  have hown : s.vm.findClass y.cls = some m.cls := findClass_of_methodNamed B.named
  have hl := lv_entry (av.map (zr as)) (n := maxL) (hlen as)
  rw [lg_entry_eq]
  generalize (lg_sl (av.map (zr as)) ++ List.replicate (maxL - (lg_sl (av.map (zr as))).length) Slot.unset).toArray = ls at hl ⊢
  have hl2 : lv_has ls maxL (zL as (lv_args 0 av)) := by
    have hz : ∀ (i : Nat) (av : List Value), lv_args i (av.map (zr as)) = zL as (lv_args i av) := by
      intro i av
      induction av generalizing i with
      | nil => rfl
      | cons v vs ih =>
        show (i, zr as v) :: lv_args (if (zr as v).category = 2 then i + 2 else i + 1) (vs.map (zr as)) = (i, zr as v) :: zL as (lv_args (if v.category = 2 then i + 2 else i + 1) vs)
        rw [zr_cat, ih]
    rw [← hz]
    exact hl
  exact body p l e s m _ below meth c as dA D ⟨B.exec, B.bytes, hml, hown, hts, B.returns, B.notSynchronized, hK, hI, hZ, hd1⟩ r u' hF s.heap [] ls hP va_S.rf hl2
end GoCalls
end
