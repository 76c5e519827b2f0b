section
-- ===== PART A: goes FIRST, ahead of the names: the tables' words, and 'selects' of the private methods out of them =====
/-- a private method of a class that the tables say can be made, by its rows of tables_1 -/
def lw_okq (q : MethodName × Nat) : Prop := (q.1.cls ≠ "java/lang/invoke/MethodHandle" ∧ q.1.cls ≠ "java/lang/invoke/VarHandle") ∧ Cond.instantiable q.1.cls q.2 ∈ tables_1 ∧ Cond.privateMethod q.1 ∈ tables_1 ∧ Cond.instanceMethod q.1 ∈ tables_1
theorem lw_p0 : lw_okq (⟨"StruckWhile$Town", "setLetters", "(II)V"⟩, 15) := ⟨⟨by decide +kernel, by decide +kernel⟩, List.mem_of_getElem? (i := 34) (by decide +kernel), List.mem_of_getElem? (i := 336) (by decide +kernel), List.mem_of_getElem? (i := 337) (by decide +kernel)⟩
theorem lw_p1 : lw_okq (⟨"StruckWhile$Reader", "readsClause", "()Z"⟩, 4) := ⟨⟨by decide +kernel, by decide +kernel⟩, List.mem_of_getElem? (i := 181) (by decide +kernel), List.mem_of_getElem? (i := 440) (by decide +kernel), List.mem_of_getElem? (i := 441) (by decide +kernel)⟩
theorem lw_p2 : lw_okq (⟨"StruckWhile$Reader", "sees", "(C)Z"⟩, 4) := ⟨⟨by decide +kernel, by decide +kernel⟩, List.mem_of_getElem? (i := 181) (by decide +kernel), List.mem_of_getElem? (i := 444) (by decide +kernel), List.mem_of_getElem? (i := 445) (by decide +kernel)⟩
theorem lw_p3 : lw_okq (⟨"StruckWhile$Reader", "takesWord", "(Ljava/lang/String;)Z"⟩, 4) := ⟨⟨by decide +kernel, by decide +kernel⟩, List.mem_of_getElem? (i := 181) (by decide +kernel), List.mem_of_getElem? (i := 449) (by decide +kernel), List.mem_of_getElem? (i := 450) (by decide +kernel)⟩
theorem lw_p4 : lw_okq (⟨"StruckWhile$Reader", "takes", "(C)Z"⟩, 4) := ⟨⟨by decide +kernel, by decide +kernel⟩, List.mem_of_getElem? (i := 181) (by decide +kernel), List.mem_of_getElem? (i := 501) (by decide +kernel), List.mem_of_getElem? (i := 502) (by decide +kernel)⟩
theorem lw_p5 : lw_okq (⟨"StruckWhile$Reader", "readsHeat", "(I)Z"⟩, 4) := ⟨⟨by decide +kernel, by decide +kernel⟩, List.mem_of_getElem? (i := 181) (by decide +kernel), List.mem_of_getElem? (i := 505) (by decide +kernel), List.mem_of_getElem? (i := 506) (by decide +kernel)⟩
theorem lw_p6 : lw_okq (⟨"StruckWhile$Reader", "takeNumber", "()I"⟩, 4) := ⟨⟨by decide +kernel, by decide +kernel⟩, List.mem_of_getElem? (i := 181) (by decide +kernel), List.mem_of_getElem? (i := 509) (by decide +kernel), List.mem_of_getElem? (i := 510) (by decide +kernel)⟩
theorem lw_p7 : lw_okq (⟨"StruckWhile$Reader", "readsEither", "(I)Z"⟩, 4) := ⟨⟨by decide +kernel, by decide +kernel⟩, List.mem_of_getElem? (i := 181) (by decide +kernel), List.mem_of_getElem? (i := 514) (by decide +kernel), List.mem_of_getElem? (i := 515) (by decide +kernel)⟩
theorem lw_p8 : lw_okq (⟨"StruckWhile$Reader", "readsBoth", "(I)Z"⟩, 4) := ⟨⟨by decide +kernel, by decide +kernel⟩, List.mem_of_getElem? (i := 181) (by decide +kernel), List.mem_of_getElem? (i := 518) (by decide +kernel), List.mem_of_getElem? (i := 519) (by decide +kernel)⟩
theorem lw_p9 : lw_okq (⟨"StruckWhile$Reader", "readsFactor", "(I)Z"⟩, 4) := ⟨⟨by decide +kernel, by decide +kernel⟩, List.mem_of_getElem? (i := 181) (by decide +kernel), List.mem_of_getElem? (i := 522) (by decide +kernel), List.mem_of_getElem? (i := 523) (by decide +kernel)⟩
theorem lw_p10 : lw_okq (⟨"StruckWhile$Reader", "readsTest", "()Z"⟩, 4) := ⟨⟨by decide +kernel, by decide +kernel⟩, List.mem_of_getElem? (i := 181) (by decide +kernel), List.mem_of_getElem? (i := 526) (by decide +kernel), List.mem_of_getElem? (i := 527) (by decide +kernel)⟩
theorem lw_p11 : lw_okq (⟨"StruckWhile$Reader", "takeOneOf", "(Ljava/lang/String;)I"⟩, 4) := ⟨⟨by decide +kernel, by decide +kernel⟩, List.mem_of_getElem? (i := 181) (by decide +kernel), List.mem_of_getElem? (i := 531) (by decide +kernel), List.mem_of_getElem? (i := 532) (by decide +kernel)⟩
theorem lw_p12 : lw_okq (⟨"StruckWhile$Ahead", "setRow", "(II)V"⟩, 6) := ⟨⟨by decide +kernel, by decide +kernel⟩, List.mem_of_getElem? (i := 153) (by decide +kernel), List.mem_of_getElem? (i := 653) (by decide +kernel), List.mem_of_getElem? (i := 654) (by decide +kernel)⟩
theorem lw_p13 : lw_okq (⟨"StruckWhile$Ahead", "countDoneInTime", "(II)I"⟩, 6) := ⟨⟨by decide +kernel, by decide +kernel⟩, List.mem_of_getElem? (i := 153) (by decide +kernel), List.mem_of_getElem? (i := 657) (by decide +kernel), List.mem_of_getElem? (i := 658) (by decide +kernel)⟩
theorem lw_p14 : lw_okq (⟨"StruckWhile$Ahead", "firstUndone", "(II)I"⟩, 6) := ⟨⟨by decide +kernel, by decide +kernel⟩, List.mem_of_getElem? (i := 153) (by decide +kernel), List.mem_of_getElem? (i := 668) (by decide +kernel), List.mem_of_getElem? (i := 669) (by decide +kernel)⟩
theorem lw_p15 : lw_okq (⟨"StruckWhile$Ahead", "warm", "(II)V"⟩, 6) := ⟨⟨by decide +kernel, by decide +kernel⟩, List.mem_of_getElem? (i := 153) (by decide +kernel), List.mem_of_getElem? (i := 686) (by decide +kernel), List.mem_of_getElem? (i := 687) (by decide +kernel)⟩
def lw_privs_1 : List (MethodName × Nat) := [(⟨"StruckWhile$Town", "setLetters", "(II)V"⟩, 15), (⟨"StruckWhile$Reader", "readsClause", "()Z"⟩, 4), (⟨"StruckWhile$Reader", "sees", "(C)Z"⟩, 4), (⟨"StruckWhile$Reader", "takesWord", "(Ljava/lang/String;)Z"⟩, 4), (⟨"StruckWhile$Reader", "takes", "(C)Z"⟩, 4), (⟨"StruckWhile$Reader", "readsHeat", "(I)Z"⟩, 4), (⟨"StruckWhile$Reader", "takeNumber", "()I"⟩, 4), (⟨"StruckWhile$Reader", "readsEither", "(I)Z"⟩, 4), (⟨"StruckWhile$Reader", "readsBoth", "(I)Z"⟩, 4), (⟨"StruckWhile$Reader", "readsFactor", "(I)Z"⟩, 4), (⟨"StruckWhile$Reader", "readsTest", "()Z"⟩, 4), (⟨"StruckWhile$Reader", "takeOneOf", "(Ljava/lang/String;)I"⟩, 4), (⟨"StruckWhile$Ahead", "setRow", "(II)V"⟩, 6), (⟨"StruckWhile$Ahead", "countDoneInTime", "(II)I"⟩, 6), (⟨"StruckWhile$Ahead", "firstUndone", "(II)I"⟩, 6), (⟨"StruckWhile$Ahead", "warm", "(II)V"⟩, 6)]
theorem lw_r1 : ∀ q ∈ lw_privs_1, lw_okq q := List.forall_mem_cons.mpr ⟨lw_p0, List.forall_mem_cons.mpr ⟨lw_p1, List.forall_mem_cons.mpr ⟨lw_p2, List.forall_mem_cons.mpr ⟨lw_p3, List.forall_mem_cons.mpr ⟨lw_p4, List.forall_mem_cons.mpr ⟨lw_p5, List.forall_mem_cons.mpr ⟨lw_p6, List.forall_mem_cons.mpr ⟨lw_p7, List.forall_mem_cons.mpr ⟨lw_p8, List.forall_mem_cons.mpr ⟨lw_p9, List.forall_mem_cons.mpr ⟨lw_p10, List.forall_mem_cons.mpr ⟨lw_p11, List.forall_mem_cons.mpr ⟨lw_p12, List.forall_mem_cons.mpr ⟨lw_p13, List.forall_mem_cons.mpr ⟨lw_p14, List.forall_mem_cons.mpr ⟨lw_p15, fun _ h => absurd h List.not_mem_nil⟩⟩⟩⟩⟩⟩⟩⟩⟩⟩⟩⟩⟩⟩⟩⟩
theorem lw_p16 : lw_okq (⟨"StruckWhile$Ahead", "isAllSeenSo", "()Z"⟩, 6) := ⟨⟨by decide +kernel, by decide +kernel⟩, List.mem_of_getElem? (i := 153) (by decide +kernel), List.mem_of_getElem? (i := 717) (by decide +kernel), List.mem_of_getElem? (i := 718) (by decide +kernel)⟩
theorem lw_p17 : lw_okq (⟨"StruckWhile$Ahead", "goPlanned", "(II)V"⟩, 6) := ⟨⟨by decide +kernel, by decide +kernel⟩, List.mem_of_getElem? (i := 153) (by decide +kernel), List.mem_of_getElem? (i := 758) (by decide +kernel), List.mem_of_getElem? (i := 759) (by decide +kernel)⟩
theorem lw_p18 : lw_okq (⟨"StruckWhile$Acts", "run", "(IIII)I"⟩, 5) := ⟨⟨by decide +kernel, by decide +kernel⟩, List.mem_of_getElem? (i := 205) (by decide +kernel), List.mem_of_getElem? (i := 808) (by decide +kernel), List.mem_of_getElem? (i := 809) (by decide +kernel)⟩
theorem lw_p19 : lw_okq (⟨"StruckWhile$Acts", "note", "(I)V"⟩, 5) := ⟨⟨by decide +kernel, by decide +kernel⟩, List.mem_of_getElem? (i := 205) (by decide +kernel), List.mem_of_getElem? (i := 820) (by decide +kernel), List.mem_of_getElem? (i := 821) (by decide +kernel)⟩
theorem lw_p20 : lw_okq (⟨"StruckWhileModel", "in", "(III)Z"⟩, 78) := ⟨⟨by decide +kernel, by decide +kernel⟩, List.mem_of_getElem? (i := 873) (by decide +kernel), List.mem_of_getElem? (i := 1118) (by decide +kernel), List.mem_of_getElem? (i := 1119) (by decide +kernel)⟩
theorem lw_p21 : lw_okq (⟨"StruckWhileModel", "isHeat", "(I)Z"⟩, 78) := ⟨⟨by decide +kernel, by decide +kernel⟩, List.mem_of_getElem? (i := 873) (by decide +kernel), List.mem_of_getElem? (i := 1122) (by decide +kernel), List.mem_of_getElem? (i := 1123) (by decide +kernel)⟩
theorem lw_p22 : lw_okq (⟨"StruckWhileModel", "isOne", "(I)Z"⟩, 78) := ⟨⟨by decide +kernel, by decide +kernel⟩, List.mem_of_getElem? (i := 873) (by decide +kernel), List.mem_of_getElem? (i := 1130) (by decide +kernel), List.mem_of_getElem? (i := 1131) (by decide +kernel)⟩
theorem lw_p23 : lw_okq (⟨"StruckWhileModel", "has", "(II)Z"⟩, 78) := ⟨⟨by decide +kernel, by decide +kernel⟩, List.mem_of_getElem? (i := 873) (by decide +kernel), List.mem_of_getElem? (i := 1138) (by decide +kernel), List.mem_of_getElem? (i := 1139) (by decide +kernel)⟩
theorem lw_p24 : lw_okq (⟨"StruckWhileModel", "goes", "(IZ)V"⟩, 78) := ⟨⟨by decide +kernel, by decide +kernel⟩, List.mem_of_getElem? (i := 873) (by decide +kernel), List.mem_of_getElem? (i := 1142) (by decide +kernel), List.mem_of_getElem? (i := 1143) (by decide +kernel)⟩
theorem lw_p25 : lw_okq (⟨"StruckWhileModel", "isWork", "(I)Z"⟩, 78) := ⟨⟨by decide +kernel, by decide +kernel⟩, List.mem_of_getElem? (i := 873) (by decide +kernel), List.mem_of_getElem? (i := 1154) (by decide +kernel), List.mem_of_getElem? (i := 1155) (by decide +kernel)⟩
theorem lw_p26 : lw_okq (⟨"StruckWhileModel", "goesText", "(I)Z"⟩, 78) := ⟨⟨by decide +kernel, by decide +kernel⟩, List.mem_of_getElem? (i := 873) (by decide +kernel), List.mem_of_getElem? (i := 1170) (by decide +kernel), List.mem_of_getElem? (i := 1171) (by decide +kernel)⟩
theorem lw_p27 : lw_okq (⟨"StruckWhileModel", "takesClause", "(I)Z"⟩, 78) := ⟨⟨by decide +kernel, by decide +kernel⟩, List.mem_of_getElem? (i := 873) (by decide +kernel), List.mem_of_getElem? (i := 1174) (by decide +kernel), List.mem_of_getElem? (i := 1175) (by decide +kernel)⟩
theorem lw_p28 : lw_okq (⟨"StruckWhileModel", "takesHead", "(I)Z"⟩, 78) := ⟨⟨by decide +kernel, by decide +kernel⟩, List.mem_of_getElem? (i := 873) (by decide +kernel), List.mem_of_getElem? (i := 1178) (by decide +kernel), List.mem_of_getElem? (i := 1179) (by decide +kernel)⟩
theorem lw_p29 : lw_okq (⟨"StruckWhileModel", "next", "()I"⟩, 78) := ⟨⟨by decide +kernel, by decide +kernel⟩, List.mem_of_getElem? (i := 873) (by decide +kernel), List.mem_of_getElem? (i := 1182) (by decide +kernel), List.mem_of_getElem? (i := 1183) (by decide +kernel)⟩
theorem lw_p30 : lw_okq (⟨"StruckWhileModel", "takesWord", "(II)Z"⟩, 78) := ⟨⟨by decide +kernel, by decide +kernel⟩, List.mem_of_getElem? (i := 873) (by decide +kernel), List.mem_of_getElem? (i := 1186) (by decide +kernel), List.mem_of_getElem? (i := 1187) (by decide +kernel)⟩
theorem lw_p31 : lw_okq (⟨"StruckWhileModel", "takes", "(I)Z"⟩, 78) := ⟨⟨by decide +kernel, by decide +kernel⟩, List.mem_of_getElem? (i := 873) (by decide +kernel), List.mem_of_getElem? (i := 1190) (by decide +kernel), List.mem_of_getElem? (i := 1191) (by decide +kernel)⟩
def lw_privs_2 : List (MethodName × Nat) := [(⟨"StruckWhile$Ahead", "isAllSeenSo", "()Z"⟩, 6), (⟨"StruckWhile$Ahead", "goPlanned", "(II)V"⟩, 6), (⟨"StruckWhile$Acts", "run", "(IIII)I"⟩, 5), (⟨"StruckWhile$Acts", "note", "(I)V"⟩, 5), (⟨"StruckWhileModel", "in", "(III)Z"⟩, 78), (⟨"StruckWhileModel", "isHeat", "(I)Z"⟩, 78), (⟨"StruckWhileModel", "isOne", "(I)Z"⟩, 78), (⟨"StruckWhileModel", "has", "(II)Z"⟩, 78), (⟨"StruckWhileModel", "goes", "(IZ)V"⟩, 78), (⟨"StruckWhileModel", "isWork", "(I)Z"⟩, 78), (⟨"StruckWhileModel", "goesText", "(I)Z"⟩, 78), (⟨"StruckWhileModel", "takesClause", "(I)Z"⟩, 78), (⟨"StruckWhileModel", "takesHead", "(I)Z"⟩, 78), (⟨"StruckWhileModel", "next", "()I"⟩, 78), (⟨"StruckWhileModel", "takesWord", "(II)Z"⟩, 78), (⟨"StruckWhileModel", "takes", "(I)Z"⟩, 78)]
theorem lw_r2 : ∀ q ∈ lw_privs_2, lw_okq q := List.forall_mem_cons.mpr ⟨lw_p16, List.forall_mem_cons.mpr ⟨lw_p17, List.forall_mem_cons.mpr ⟨lw_p18, List.forall_mem_cons.mpr ⟨lw_p19, List.forall_mem_cons.mpr ⟨lw_p20, List.forall_mem_cons.mpr ⟨lw_p21, List.forall_mem_cons.mpr ⟨lw_p22, List.forall_mem_cons.mpr ⟨lw_p23, List.forall_mem_cons.mpr ⟨lw_p24, List.forall_mem_cons.mpr ⟨lw_p25, List.forall_mem_cons.mpr ⟨lw_p26, List.forall_mem_cons.mpr ⟨lw_p27, List.forall_mem_cons.mpr ⟨lw_p28, List.forall_mem_cons.mpr ⟨lw_p29, List.forall_mem_cons.mpr ⟨lw_p30, List.forall_mem_cons.mpr ⟨lw_p31, fun _ h => absurd h List.not_mem_nil⟩⟩⟩⟩⟩⟩⟩⟩⟩⟩⟩⟩⟩⟩⟩⟩
theorem lw_p32 : lw_okq (⟨"StruckWhileModel", "takesNumber", "()Z"⟩, 78) := ⟨⟨by decide +kernel, by decide +kernel⟩, List.mem_of_getElem? (i := 873) (by decide +kernel), List.mem_of_getElem? (i := 1194) (by decide +kernel), List.mem_of_getElem? (i := 1195) (by decide +kernel)⟩
theorem lw_p33 : lw_okq (⟨"StruckWhileModel", "isDigit", "()Z"⟩, 78) := ⟨⟨by decide +kernel, by decide +kernel⟩, List.mem_of_getElem? (i := 873) (by decide +kernel), List.mem_of_getElem? (i := 1198) (by decide +kernel), List.mem_of_getElem? (i := 1199) (by decide +kernel)⟩
theorem lw_p34 : lw_okq (⟨"StruckWhileModel", "takesE", "(I)Z"⟩, 78) := ⟨⟨by decide +kernel, by decide +kernel⟩, List.mem_of_getElem? (i := 873) (by decide +kernel), List.mem_of_getElem? (i := 1202) (by decide +kernel), List.mem_of_getElem? (i := 1203) (by decide +kernel)⟩
theorem lw_p35 : lw_okq (⟨"StruckWhileModel", "takesTest", "()Z"⟩, 78) := ⟨⟨by decide +kernel, by decide +kernel⟩, List.mem_of_getElem? (i := 873) (by decide +kernel), List.mem_of_getElem? (i := 1206) (by decide +kernel), List.mem_of_getElem? (i := 1207) (by decide +kernel)⟩
theorem lw_p36 : lw_okq (⟨"StruckWhileModel", "place", "(I)I"⟩, 78) := ⟨⟨by decide +kernel, by decide +kernel⟩, List.mem_of_getElem? (i := 873) (by decide +kernel), List.mem_of_getElem? (i := 1210) (by decide +kernel), List.mem_of_getElem? (i := 1211) (by decide +kernel)⟩
theorem lw_p37 : lw_okq (⟨"StruckWhileModel", "emits", "(I)V"⟩, 78) := ⟨⟨by decide +kernel, by decide +kernel⟩, List.mem_of_getElem? (i := 873) (by decide +kernel), List.mem_of_getElem? (i := 1214) (by decide +kernel), List.mem_of_getElem? (i := 1215) (by decide +kernel)⟩
theorem lw_p38 : lw_okq (⟨"StruckWhileModel", "whole", "()V"⟩, 78) := ⟨⟨by decide +kernel, by decide +kernel⟩, List.mem_of_getElem? (i := 873) (by decide +kernel), List.mem_of_getElem? (i := 1218) (by decide +kernel), List.mem_of_getElem? (i := 1219) (by decide +kernel)⟩
theorem lw_p39 : lw_okq (⟨"StruckWhileModel", "settle", "(I)V"⟩, 78) := ⟨⟨by decide +kernel, by decide +kernel⟩, List.mem_of_getElem? (i := 873) (by decide +kernel), List.mem_of_getElem? (i := 1222) (by decide +kernel), List.mem_of_getElem? (i := 1223) (by decide +kernel)⟩
theorem lw_p40 : lw_okq (⟨"StruckWhileModel", "rise", "(I)I"⟩, 78) := ⟨⟨by decide +kernel, by decide +kernel⟩, List.mem_of_getElem? (i := 873) (by decide +kernel), List.mem_of_getElem? (i := 1230) (by decide +kernel), List.mem_of_getElem? (i := 1231) (by decide +kernel)⟩
theorem lw_p41 : lw_okq (⟨"StruckWhileModel", "sum", "(I)I"⟩, 78) := ⟨⟨by decide +kernel, by decide +kernel⟩, List.mem_of_getElem? (i := 873) (by decide +kernel), List.mem_of_getElem? (i := 1234) (by decide +kernel), List.mem_of_getElem? (i := 1235) (by decide +kernel)⟩
theorem lw_p42 : lw_okq (⟨"StruckWhileModel", "begin", "()I"⟩, 78) := ⟨⟨by decide +kernel, by decide +kernel⟩, List.mem_of_getElem? (i := 873) (by decide +kernel), List.mem_of_getElem? (i := 1238) (by decide +kernel), List.mem_of_getElem? (i := 1239) (by decide +kernel)⟩
theorem lw_p43 : lw_okq (⟨"StruckWhileModel", "behind", "()I"⟩, 78) := ⟨⟨by decide +kernel, by decide +kernel⟩, List.mem_of_getElem? (i := 873) (by decide +kernel), List.mem_of_getElem? (i := 1242) (by decide +kernel), List.mem_of_getElem? (i := 1243) (by decide +kernel)⟩
theorem lw_p44 : lw_okq (⟨"StruckWhileModel", "holds", "(II)Z"⟩, 78) := ⟨⟨by decide +kernel, by decide +kernel⟩, List.mem_of_getElem? (i := 873) (by decide +kernel), List.mem_of_getElem? (i := 1246) (by decide +kernel), List.mem_of_getElem? (i := 1247) (by decide +kernel)⟩
theorem lw_p45 : lw_okq (⟨"StruckWhileModel", "factOf", "(II)I"⟩, 78) := ⟨⟨by decide +kernel, by decide +kernel⟩, List.mem_of_getElem? (i := 873) (by decide +kernel), List.mem_of_getElem? (i := 1250) (by decide +kernel), List.mem_of_getElem? (i := 1251) (by decide +kernel)⟩
theorem lw_p46 : lw_okq (⟨"StruckWhileModel", "beside", "(II)I"⟩, 78) := ⟨⟨by decide +kernel, by decide +kernel⟩, List.mem_of_getElem? (i := 873) (by decide +kernel), List.mem_of_getElem? (i := 1254) (by decide +kernel), List.mem_of_getElem? (i := 1255) (by decide +kernel)⟩
theorem lw_p47 : lw_okq (⟨"StruckWhileModel", "spark", "()I"⟩, 78) := ⟨⟨by decide +kernel, by decide +kernel⟩, List.mem_of_getElem? (i := 873) (by decide +kernel), List.mem_of_getElem? (i := 1262) (by decide +kernel), List.mem_of_getElem? (i := 1263) (by decide +kernel)⟩
def lw_privs_3 : List (MethodName × Nat) := [(⟨"StruckWhileModel", "takesNumber", "()Z"⟩, 78), (⟨"StruckWhileModel", "isDigit", "()Z"⟩, 78), (⟨"StruckWhileModel", "takesE", "(I)Z"⟩, 78), (⟨"StruckWhileModel", "takesTest", "()Z"⟩, 78), (⟨"StruckWhileModel", "place", "(I)I"⟩, 78), (⟨"StruckWhileModel", "emits", "(I)V"⟩, 78), (⟨"StruckWhileModel", "whole", "()V"⟩, 78), (⟨"StruckWhileModel", "settle", "(I)V"⟩, 78), (⟨"StruckWhileModel", "rise", "(I)I"⟩, 78), (⟨"StruckWhileModel", "sum", "(I)I"⟩, 78), (⟨"StruckWhileModel", "begin", "()I"⟩, 78), (⟨"StruckWhileModel", "behind", "()I"⟩, 78), (⟨"StruckWhileModel", "holds", "(II)Z"⟩, 78), (⟨"StruckWhileModel", "factOf", "(II)I"⟩, 78), (⟨"StruckWhileModel", "beside", "(II)I"⟩, 78), (⟨"StruckWhileModel", "spark", "()I"⟩, 78)]
theorem lw_r3 : ∀ q ∈ lw_privs_3, lw_okq q := List.forall_mem_cons.mpr ⟨lw_p32, List.forall_mem_cons.mpr ⟨lw_p33, List.forall_mem_cons.mpr ⟨lw_p34, List.forall_mem_cons.mpr ⟨lw_p35, List.forall_mem_cons.mpr ⟨lw_p36, List.forall_mem_cons.mpr ⟨lw_p37, List.forall_mem_cons.mpr ⟨lw_p38, List.forall_mem_cons.mpr ⟨lw_p39, List.forall_mem_cons.mpr ⟨lw_p40, List.forall_mem_cons.mpr ⟨lw_p41, List.forall_mem_cons.mpr ⟨lw_p42, List.forall_mem_cons.mpr ⟨lw_p43, List.forall_mem_cons.mpr ⟨lw_p44, List.forall_mem_cons.mpr ⟨lw_p45, List.forall_mem_cons.mpr ⟨lw_p46, List.forall_mem_cons.mpr ⟨lw_p47, fun _ h => absurd h List.not_mem_nil⟩⟩⟩⟩⟩⟩⟩⟩⟩⟩⟩⟩⟩⟩⟩⟩
theorem lw_p48 : lw_okq (⟨"StruckWhileModel", "doneSet", "()I"⟩, 78) := ⟨⟨by decide +kernel, by decide +kernel⟩, List.mem_of_getElem? (i := 873) (by decide +kernel), List.mem_of_getElem? (i := 1266) (by decide +kernel), List.mem_of_getElem? (i := 1267) (by decide +kernel)⟩
theorem lw_p49 : lw_okq (⟨"StruckWhileModel", "isDone", "(I)Z"⟩, 78) := ⟨⟨by decide +kernel, by decide +kernel⟩, List.mem_of_getElem? (i := 873) (by decide +kernel), List.mem_of_getElem? (i := 1270) (by decide +kernel), List.mem_of_getElem? (i := 1271) (by decide +kernel)⟩
theorem lw_p50 : lw_okq (⟨"StruckWhileModel", "hottest", "()I"⟩, 78) := ⟨⟨by decide +kernel, by decide +kernel⟩, List.mem_of_getElem? (i := 873) (by decide +kernel), List.mem_of_getElem? (i := 1274) (by decide +kernel), List.mem_of_getElem? (i := 1275) (by decide +kernel)⟩
theorem lw_p51 : lw_okq (⟨"StruckWhileModel", "allHeat", "()I"⟩, 78) := ⟨⟨by decide +kernel, by decide +kernel⟩, List.mem_of_getElem? (i := 873) (by decide +kernel), List.mem_of_getElem? (i := 1278) (by decide +kernel), List.mem_of_getElem? (i := 1279) (by decide +kernel)⟩
theorem lw_p52 : lw_okq (⟨"StruckWhileModel", "isMinutes", "(I)Z"⟩, 78) := ⟨⟨by decide +kernel, by decide +kernel⟩, List.mem_of_getElem? (i := 873) (by decide +kernel), List.mem_of_getElem? (i := 1286) (by decide +kernel), List.mem_of_getElem? (i := 1287) (by decide +kernel)⟩
theorem lw_p53 : lw_okq (⟨"StruckWhileModel", "goMinutes", "(I)V"⟩, 78) := ⟨⟨by decide +kernel, by decide +kernel⟩, List.mem_of_getElem? (i := 873) (by decide +kernel), List.mem_of_getElem? (i := 1290) (by decide +kernel), List.mem_of_getElem? (i := 1291) (by decide +kernel)⟩
theorem lw_p54 : lw_okq (⟨"StruckWhileModel", "goMinute", "()V"⟩, 78) := ⟨⟨by decide +kernel, by decide +kernel⟩, List.mem_of_getElem? (i := 873) (by decide +kernel), List.mem_of_getElem? (i := 1294) (by decide +kernel), List.mem_of_getElem? (i := 1295) (by decide +kernel)⟩
theorem lw_p55 : lw_okq (⟨"StruckWhileModel", "held", "(I)I"⟩, 78) := ⟨⟨by decide +kernel, by decide +kernel⟩, List.mem_of_getElem? (i := 873) (by decide +kernel), List.mem_of_getElem? (i := 1298) (by decide +kernel), List.mem_of_getElem? (i := 1299) (by decide +kernel)⟩
theorem lw_p56 : lw_okq (⟨"StruckWhileModel", "least", "(II)I"⟩, 78) := ⟨⟨by decide +kernel, by decide +kernel⟩, List.mem_of_getElem? (i := 873) (by decide +kernel), List.mem_of_getElem? (i := 1302) (by decide +kernel), List.mem_of_getElem? (i := 1303) (by decide +kernel)⟩
theorem lw_p57 : lw_okq (⟨"StruckWhileModel", "ready", "(I)I"⟩, 78) := ⟨⟨by decide +kernel, by decide +kernel⟩, List.mem_of_getElem? (i := 873) (by decide +kernel), List.mem_of_getElem? (i := 1310) (by decide +kernel), List.mem_of_getElem? (i := 1311) (by decide +kernel)⟩
theorem lw_p58 : lw_okq (⟨"StruckWhileModel", "save", "()V"⟩, 78) := ⟨⟨by decide +kernel, by decide +kernel⟩, List.mem_of_getElem? (i := 873) (by decide +kernel), List.mem_of_getElem? (i := 1314) (by decide +kernel), List.mem_of_getElem? (i := 1315) (by decide +kernel)⟩
theorem lw_p59 : lw_okq (⟨"StruckWhileModel", "putBack", "()V"⟩, 78) := ⟨⟨by decide +kernel, by decide +kernel⟩, List.mem_of_getElem? (i := 873) (by decide +kernel), List.mem_of_getElem? (i := 1318) (by decide +kernel), List.mem_of_getElem? (i := 1319) (by decide +kernel)⟩
theorem lw_p60 : lw_okq (⟨"StruckWhileModel", "layLine", "(I)Z"⟩, 78) := ⟨⟨by decide +kernel, by decide +kernel⟩, List.mem_of_getElem? (i := 873) (by decide +kernel), List.mem_of_getElem? (i := 1330) (by decide +kernel), List.mem_of_getElem? (i := 1331) (by decide +kernel)⟩
theorem lw_p61 : lw_okq (⟨"StruckWhileModel", "doneInTime", "(I)I"⟩, 78) := ⟨⟨by decide +kernel, by decide +kernel⟩, List.mem_of_getElem? (i := 873) (by decide +kernel), List.mem_of_getElem? (i := 1334) (by decide +kernel), List.mem_of_getElem? (i := 1335) (by decide +kernel)⟩
theorem lw_p62 : lw_okq (⟨"StruckWhileModel", "firstOfLine", "()I"⟩, 78) := ⟨⟨by decide +kernel, by decide +kernel⟩, List.mem_of_getElem? (i := 873) (by decide +kernel), List.mem_of_getElem? (i := 1338) (by decide +kernel), List.mem_of_getElem? (i := 1339) (by decide +kernel)⟩
theorem lw_p63 : lw_okq (⟨"StruckWhileModel", "hottestIf", "(II)I"⟩, 78) := ⟨⟨by decide +kernel, by decide +kernel⟩, List.mem_of_getElem? (i := 873) (by decide +kernel), List.mem_of_getElem? (i := 1346) (by decide +kernel), List.mem_of_getElem? (i := 1347) (by decide +kernel)⟩
def lw_privs_4 : List (MethodName × Nat) := [(⟨"StruckWhileModel", "doneSet", "()I"⟩, 78), (⟨"StruckWhileModel", "isDone", "(I)Z"⟩, 78), (⟨"StruckWhileModel", "hottest", "()I"⟩, 78), (⟨"StruckWhileModel", "allHeat", "()I"⟩, 78), (⟨"StruckWhileModel", "isMinutes", "(I)Z"⟩, 78), (⟨"StruckWhileModel", "goMinutes", "(I)V"⟩, 78), (⟨"StruckWhileModel", "goMinute", "()V"⟩, 78), (⟨"StruckWhileModel", "held", "(I)I"⟩, 78), (⟨"StruckWhileModel", "least", "(II)I"⟩, 78), (⟨"StruckWhileModel", "ready", "(I)I"⟩, 78), (⟨"StruckWhileModel", "save", "()V"⟩, 78), (⟨"StruckWhileModel", "putBack", "()V"⟩, 78), (⟨"StruckWhileModel", "layLine", "(I)Z"⟩, 78), (⟨"StruckWhileModel", "doneInTime", "(I)I"⟩, 78), (⟨"StruckWhileModel", "firstOfLine", "()I"⟩, 78), (⟨"StruckWhileModel", "hottestIf", "(II)I"⟩, 78)]
theorem lw_r4 : ∀ q ∈ lw_privs_4, lw_okq q := List.forall_mem_cons.mpr ⟨lw_p48, List.forall_mem_cons.mpr ⟨lw_p49, List.forall_mem_cons.mpr ⟨lw_p50, List.forall_mem_cons.mpr ⟨lw_p51, List.forall_mem_cons.mpr ⟨lw_p52, List.forall_mem_cons.mpr ⟨lw_p53, List.forall_mem_cons.mpr ⟨lw_p54, List.forall_mem_cons.mpr ⟨lw_p55, List.forall_mem_cons.mpr ⟨lw_p56, List.forall_mem_cons.mpr ⟨lw_p57, List.forall_mem_cons.mpr ⟨lw_p58, List.forall_mem_cons.mpr ⟨lw_p59, List.forall_mem_cons.mpr ⟨lw_p60, List.forall_mem_cons.mpr ⟨lw_p61, List.forall_mem_cons.mpr ⟨lw_p62, List.forall_mem_cons.mpr ⟨lw_p63, fun _ h => absurd h List.not_mem_nil⟩⟩⟩⟩⟩⟩⟩⟩⟩⟩⟩⟩⟩⟩⟩⟩
theorem lw_p64 : lw_okq (⟨"StruckWhileModel", "heats", "(II)I"⟩, 78) := ⟨⟨by decide +kernel, by decide +kernel⟩, List.mem_of_getElem? (i := 873) (by decide +kernel), List.mem_of_getElem? (i := 1358) (by decide +kernel), List.mem_of_getElem? (i := 1359) (by decide +kernel)⟩
theorem lw_p65 : lw_okq (⟨"StruckWhileModel", "isSeen", "()Z"⟩, 78) := ⟨⟨by decide +kernel, by decide +kernel⟩, List.mem_of_getElem? (i := 873) (by decide +kernel), List.mem_of_getElem? (i := 1362) (by decide +kernel), List.mem_of_getElem? (i := 1363) (by decide +kernel)⟩
theorem lw_p66 : lw_okq (⟨"StruckWhileModel", "canBe", "(II)I"⟩, 78) := ⟨⟨by decide +kernel, by decide +kernel⟩, List.mem_of_getElem? (i := 873) (by decide +kernel), List.mem_of_getElem? (i := 1366) (by decide +kernel), List.mem_of_getElem? (i := 1367) (by decide +kernel)⟩
theorem lw_p67 : lw_okq (⟨"StruckWhileModel", "isHotIf", "(III)Z"⟩, 78) := ⟨⟨by decide +kernel, by decide +kernel⟩, List.mem_of_getElem? (i := 873) (by decide +kernel), List.mem_of_getElem? (i := 1375) (by decide +kernel), List.mem_of_getElem? (i := 1376) (by decide +kernel)⟩
theorem lw_p68 : lw_okq (⟨"StruckWhileModel", "lowest", "(III)J"⟩, 78) := ⟨⟨by decide +kernel, by decide +kernel⟩, List.mem_of_getElem? (i := 873) (by decide +kernel), List.mem_of_getElem? (i := 1379) (by decide +kernel), List.mem_of_getElem? (i := 1380) (by decide +kernel)⟩
theorem lw_p69 : lw_okq (⟨"StruckWhileModel", "divisor", "(II)I"⟩, 78) := ⟨⟨by decide +kernel, by decide +kernel⟩, List.mem_of_getElem? (i := 873) (by decide +kernel), List.mem_of_getElem? (i := 1383) (by decide +kernel), List.mem_of_getElem? (i := 1384) (by decide +kernel)⟩
theorem lw_p70 : lw_okq (⟨"StruckWhileModel", "goPlan", "(II)V"⟩, 78) := ⟨⟨by decide +kernel, by decide +kernel⟩, List.mem_of_getElem? (i := 873) (by decide +kernel), List.mem_of_getElem? (i := 1399) (by decide +kernel), List.mem_of_getElem? (i := 1400) (by decide +kernel)⟩
theorem lw_p71 : lw_okq (⟨"StruckWhileModel", "isTape", "(I)Z"⟩, 78) := ⟨⟨by decide +kernel, by decide +kernel⟩, List.mem_of_getElem? (i := 873) (by decide +kernel), List.mem_of_getElem? (i := 1415) (by decide +kernel), List.mem_of_getElem? (i := 1416) (by decide +kernel)⟩
theorem lw_p72 : lw_okq (⟨"StruckWhileModel", "glowsAct", "(II)I"⟩, 78) := ⟨⟨by decide +kernel, by decide +kernel⟩, List.mem_of_getElem? (i := 873) (by decide +kernel), List.mem_of_getElem? (i := 1431) (by decide +kernel), List.mem_of_getElem? (i := 1432) (by decide +kernel)⟩
theorem lw_p73 : lw_okq (⟨"StruckWhileModel", "body", "(I)V"⟩, 78) := ⟨⟨by decide +kernel, by decide +kernel⟩, List.mem_of_getElem? (i := 873) (by decide +kernel), List.mem_of_getElem? (i := 1435) (by decide +kernel), List.mem_of_getElem? (i := 1436) (by decide +kernel)⟩
theorem lw_p74 : lw_okq (⟨"StruckWhileModel", "oneGlows", "(II)I"⟩, 78) := ⟨⟨by decide +kernel, by decide +kernel⟩, List.mem_of_getElem? (i := 873) (by decide +kernel), List.mem_of_getElem? (i := 1439) (by decide +kernel), List.mem_of_getElem? (i := 1440) (by decide +kernel)⟩
theorem lw_p75 : lw_okq (⟨"StruckWhileModel", "ringsAct", "(II)I"⟩, 78) := ⟨⟨by decide +kernel, by decide +kernel⟩, List.mem_of_getElem? (i := 873) (by decide +kernel), List.mem_of_getElem? (i := 1443) (by decide +kernel), List.mem_of_getElem? (i := 1444) (by decide +kernel)⟩
theorem lw_p76 : lw_okq (⟨"StruckWhileModel", "bankerRings", "(II)I"⟩, 78) := ⟨⟨by decide +kernel, by decide +kernel⟩, List.mem_of_getElem? (i := 873) (by decide +kernel), List.mem_of_getElem? (i := 1447) (by decide +kernel), List.mem_of_getElem? (i := 1448) (by decide +kernel)⟩
theorem lw_p77 : lw_okq (⟨"StruckWhileModel", "oneRings", "(II)I"⟩, 78) := ⟨⟨by decide +kernel, by decide +kernel⟩, List.mem_of_getElem? (i := 873) (by decide +kernel), List.mem_of_getElem? (i := 1451) (by decide +kernel), List.mem_of_getElem? (i := 1452) (by decide +kernel)⟩
theorem lw_p78 : lw_okq (⟨"StruckWhileModel", "tellsAct", "(II)I"⟩, 78) := ⟨⟨by decide +kernel, by decide +kernel⟩, List.mem_of_getElem? (i := 873) (by decide +kernel), List.mem_of_getElem? (i := 1455) (by decide +kernel), List.mem_of_getElem? (i := 1456) (by decide +kernel)⟩
theorem lw_p79 : lw_okq (⟨"StruckWhileModel", "oneTells", "(II)I"⟩, 78) := ⟨⟨by decide +kernel, by decide +kernel⟩, List.mem_of_getElem? (i := 873) (by decide +kernel), List.mem_of_getElem? (i := 1459) (by decide +kernel), List.mem_of_getElem? (i := 1460) (by decide +kernel)⟩
def lw_privs_5 : List (MethodName × Nat) := [(⟨"StruckWhileModel", "heats", "(II)I"⟩, 78), (⟨"StruckWhileModel", "isSeen", "()Z"⟩, 78), (⟨"StruckWhileModel", "canBe", "(II)I"⟩, 78), (⟨"StruckWhileModel", "isHotIf", "(III)Z"⟩, 78), (⟨"StruckWhileModel", "lowest", "(III)J"⟩, 78), (⟨"StruckWhileModel", "divisor", "(II)I"⟩, 78), (⟨"StruckWhileModel", "goPlan", "(II)V"⟩, 78), (⟨"StruckWhileModel", "isTape", "(I)Z"⟩, 78), (⟨"StruckWhileModel", "glowsAct", "(II)I"⟩, 78), (⟨"StruckWhileModel", "body", "(I)V"⟩, 78), (⟨"StruckWhileModel", "oneGlows", "(II)I"⟩, 78), (⟨"StruckWhileModel", "ringsAct", "(II)I"⟩, 78), (⟨"StruckWhileModel", "bankerRings", "(II)I"⟩, 78), (⟨"StruckWhileModel", "oneRings", "(II)I"⟩, 78), (⟨"StruckWhileModel", "tellsAct", "(II)I"⟩, 78), (⟨"StruckWhileModel", "oneTells", "(II)I"⟩, 78)]
theorem lw_r5 : ∀ q ∈ lw_privs_5, lw_okq q := List.forall_mem_cons.mpr ⟨lw_p64, List.forall_mem_cons.mpr ⟨lw_p65, List.forall_mem_cons.mpr ⟨lw_p66, List.forall_mem_cons.mpr ⟨lw_p67, List.forall_mem_cons.mpr ⟨lw_p68, List.forall_mem_cons.mpr ⟨lw_p69, List.forall_mem_cons.mpr ⟨lw_p70, List.forall_mem_cons.mpr ⟨lw_p71, List.forall_mem_cons.mpr ⟨lw_p72, List.forall_mem_cons.mpr ⟨lw_p73, List.forall_mem_cons.mpr ⟨lw_p74, List.forall_mem_cons.mpr ⟨lw_p75, List.forall_mem_cons.mpr ⟨lw_p76, List.forall_mem_cons.mpr ⟨lw_p77, List.forall_mem_cons.mpr ⟨lw_p78, List.forall_mem_cons.mpr ⟨lw_p79, fun _ h => absurd h List.not_mem_nil⟩⟩⟩⟩⟩⟩⟩⟩⟩⟩⟩⟩⟩⟩⟩⟩
theorem lw_p80 : lw_okq (⟨"StruckWhileModel", "narrow", "(IJ)J"⟩, 78) := ⟨⟨by decide +kernel, by decide +kernel⟩, List.mem_of_getElem? (i := 873) (by decide +kernel), List.mem_of_getElem? (i := 1483) (by decide +kernel), List.mem_of_getElem? (i := 1484) (by decide +kernel)⟩
def lw_privs_6 : List (MethodName × Nat) := [(⟨"StruckWhileModel", "narrow", "(IJ)J"⟩, 78)]
theorem lw_r6 : ∀ q ∈ lw_privs_6, lw_okq q := List.forall_mem_cons.mpr ⟨lw_p80, fun _ h => absurd h List.not_mem_nil⟩
def lw_privs : List (MethodName × Nat) := lw_privs_1 ++ (lw_privs_2 ++ (lw_privs_3 ++ (lw_privs_4 ++ (lw_privs_5 ++ (lw_privs_6)))))
def lw_tbl : List Cond := k2_sels lw_privs ++ tables_1
theorem lw_privs_ok : ∀ q ∈ lw_privs, lw_okq q := by
  show ∀ q ∈ lw_privs_1 ++ (lw_privs_2 ++ (lw_privs_3 ++ (lw_privs_4 ++ (lw_privs_5 ++ (lw_privs_6))))), lw_okq q
  exact List.forall_mem_append.mpr ⟨lw_r1, List.forall_mem_append.mpr ⟨lw_r2, List.forall_mem_append.mpr ⟨lw_r3, List.forall_mem_append.mpr ⟨lw_r4, List.forall_mem_append.mpr ⟨lw_r5, lw_r6⟩⟩⟩⟩⟩
end
section
/-- words of one list among another's, by their places -/
theorem zmem_of {big : List Cond} (ws : List Cond) (ps : List Nat) (hp : ws = ps.filterMap (fun i => big[i]?)) : ∀ w ∈ ws, w ∈ big := by
  intro w hw
  rw [hp] at hw
  obtain ⟨i, -, hi⟩ := List.mem_filterMap.mp hw
  exact List.mem_of_getElem? hi
theorem zw_at {big : List Cond} (i : Nat) {w : Cond} (h : big[i]? = some w) : w ∈ big := List.mem_of_getElem? h
/-- the words that travel by themselves -/
def zTb : List Cond := lw_tbl.filter goodWord
theorem zt_at (i : Nat) {w : Cond} (h : lw_tbl[i]? = some w) (hg : goodWord w = true) : w ∈ zTb := List.mem_filter.mpr ⟨List.mem_of_getElem? h, hg⟩
theorem zt_in {w : Cond} (h : w ∈ zTb) : w ∈ lw_tbl := (List.mem_filter.mp h).1
theorem zt_good {w : Cond} (h : w ∈ zTb) : goodWord w = true := (List.mem_filter.mp h).2
/-- words of one list among the travelling ones, by their places -/
theorem zmem_tb (ws : List Cond) (ps : List Nat) (hp : ws = ps.filterMap (fun i => lw_tbl[i]?)) (hg : ws.all goodWord = true) : ∀ w ∈ ws, w ∈ zTb := fun w hw => List.mem_filter.mpr ⟨zmem_of ws ps hp w hw, List.all_eq_true.mp hg w hw⟩
def RX0 : String := "StruckWhile$Acts"
def TX0 : u_T := fun k => match k with
  | 0 => ("StruckWhile$Acts", "ran", "I", false)
  | 1 => ("StruckWhile$Acts", "traced", "[I", true)
  | 2 => ("StruckWhile$Acts", "number", "I", false)
  | 3 => ("StruckWhile$Acts", "kind", "I", false)
  | _ => ("StruckWhile$Acts", "v", "I", false)
def tyX0 : Nat → FieldType := fun k => match k with
  | 0 => .int
  | 1 => .array .int
  | 2 => .int
  | 3 => .int
  | _ => .int
set_option maxRecDepth 100000 in
theorem nmX0 : ∀ a, a < 5 → ∀ b, b < 5 → a ≠ b → (TX0 a).2.1 ≠ (TX0 b).2.1 := by decide +kernel
theorem tyX0_ok : ∀ k, k < 5 → parseFieldDescriptor (TX0 k).2.2.1 = some (tyX0 k) := by decide +kernel
abbrev cX0_init : ByteArray := prog_2_method_1_code
def yX0_init : MethodName := ⟨RX0, "<init>", "()V"⟩
abbrev cX0_start : ByteArray := prog_2_method_2_code
def yX0_start : MethodName := ⟨RX0, "start", "(LStruckWhile$Town;III)I"⟩
abbrev cX0_run : ByteArray := prog_2_method_3_code
def yX0_run : MethodName := ⟨RX0, "run", "(IIII)I"⟩
abbrev cX0_bodyOf : ByteArray := prog_2_method_4_code
def yX0_bodyOf : MethodName := ⟨RX0, "bodyOf", "(II)I"⟩
abbrev cX0_note : ByteArray := prog_2_method_5_code
def yX0_note : MethodName := ⟨RX0, "note", "(I)V"⟩
def RX1 : String := "StruckWhile$Ahead"
def TX1 : u_T := fun k => match k with
  | 0 => ("StruckWhile$Ahead", "bestRow", "[I", true)
  | 1 => ("StruckWhile$Ahead", "now", "LStruckWhile$Town;", true)
  | 2 => ("StruckWhile$Ahead", "seen", "LStruckWhile$Sheet;", true)
  | 3 => ("StruckWhile$Ahead", "then", "LStruckWhile$Town;", true)
  | 4 => ("StruckWhile$Ahead", "row", "[I", true)
  | _ => ("StruckWhile$Ahead", "reached", "I", false)
def tyX1 : Nat → FieldType := fun k => match k with
  | 0 => .array .int
  | 1 => .object "StruckWhile$Town"
  | 2 => .object "StruckWhile$Sheet"
  | 3 => .object "StruckWhile$Town"
  | 4 => .array .int
  | _ => .int
set_option maxRecDepth 100000 in
theorem nmX1 : ∀ a, a < 6 → ∀ b, b < 6 → a ≠ b → (TX1 a).2.1 ≠ (TX1 b).2.1 := by decide +kernel
theorem tyX1_ok : ∀ k, k < 6 → parseFieldDescriptor (TX1 k).2.2.1 = some (tyX1 k) := by decide +kernel
abbrev cX1_init : ByteArray := prog_3_method_1_code
def yX1_init : MethodName := ⟨RX1, "<init>", "(LStruckWhile$Town;LStruckWhile$Sheet;)V"⟩
abbrev cX1_behind : ByteArray := prog_3_method_2_code
def yX1_behind : MethodName := ⟨RX1, "behind", "(I)LStruckWhile$Town;"⟩
abbrev cX1_minutesUntilDone : ByteArray := prog_3_method_3_code
def yX1_minutesUntilDone : MethodName := ⟨RX1, "minutesUntilDone", "(I)I"⟩
abbrev cX1_findBestRow : ByteArray := prog_3_method_4_code
def yX1_findBestRow : MethodName := ⟨RX1, "findBestRow", "(I)I"⟩
abbrev cX1_setRow : ByteArray := prog_3_method_5_code
def yX1_setRow : MethodName := ⟨RX1, "setRow", "(II)V"⟩
abbrev cX1_countDoneInTime : ByteArray := prog_3_method_6_code
def yX1_countDoneInTime : MethodName := ⟨RX1, "countDoneInTime", "(II)I"⟩
abbrev cX1_firstUndone : ByteArray := prog_3_method_7_code
def yX1_firstUndone : MethodName := ⟨RX1, "firstUndone", "(II)I"⟩
abbrev cX1_whomToTalkTo : ByteArray := prog_3_method_8_code
def yX1_whomToTalkTo : MethodName := ⟨RX1, "whomToTalkTo", "(I)I"⟩
abbrev cX1_hottestByTalk : ByteArray := prog_3_method_9_code
def yX1_hottestByTalk : MethodName := ⟨RX1, "hottestByTalk", "(II)I"⟩
abbrev cX1_warm : ByteArray := prog_3_method_10_code
def yX1_warm : MethodName := ⟨RX1, "warm", "(II)V"⟩
abbrev cX1_fitting : ByteArray := prog_3_method_11_code
def yX1_fitting : MethodName := ⟨RX1, "fitting", "(IZZ)I"⟩
abbrev cX1_isAllSeenSo : ByteArray := prog_3_method_12_code
def yX1_isAllSeenSo : MethodName := ⟨RX1, "isAllSeenSo", "()Z"⟩
abbrev cX1_countHot : ByteArray := prog_3_method_13_code
def yX1_countHot : MethodName := ⟨RX1, "countHot", "(II)I"⟩
abbrev cX1_behindPlan : ByteArray := prog_3_method_14_code
def yX1_behindPlan : MethodName := ⟨RX1, "behindPlan", "(LStruckWhile$Sheet;)LStruckWhile$Town;"⟩
abbrev cX1_goPlanned : ByteArray := prog_3_method_15_code
def yX1_goPlanned : MethodName := ⟨RX1, "goPlanned", "(II)V"⟩
def RX2 : String := "StruckWhile$Reader"
def TX2 : u_T := fun k => match k with
  | 0 => ("StruckWhile$Reader", "size", "I", false)
  | 1 => ("StruckWhile$Reader", "at", "I", false)
  | 2 => ("StruckWhile$Reader", "text", "[B", true)
  | _ => ("StruckWhile$Reader", "into", "LStruckWhile$Square;", false)
def tyX2 : Nat → FieldType := fun k => match k with
  | 0 => .int
  | 1 => .int
  | 2 => .array .byte
  | _ => .object "StruckWhile$Square"
set_option maxRecDepth 100000 in
theorem nmX2 : ∀ a, a < 4 → ∀ b, b < 4 → a ≠ b → (TX2 a).2.1 ≠ (TX2 b).2.1 := by decide +kernel
theorem tyX2_ok : ∀ k, k < 4 → parseFieldDescriptor (TX2 k).2.2.1 = some (tyX2 k) := by decide +kernel
abbrev cX2_init : ByteArray := prog_4_method_1_code
def yX2_init : MethodName := ⟨RX2, "<init>", "()V"⟩
abbrev cX2_add : ByteArray := prog_4_method_2_code
def yX2_add : MethodName := ⟨RX2, "add", "(B)I"⟩
abbrev cX2_empty : ByteArray := prog_4_method_3_code
def yX2_empty : MethodName := ⟨RX2, "empty", "()V"⟩
abbrev cX2_reads : ByteArray := prog_4_method_4_code
def yX2_reads : MethodName := ⟨RX2, "reads", "(LStruckWhile$Square;)Z"⟩
abbrev cX2_readsClause : ByteArray := prog_4_method_5_code
def yX2_readsClause : MethodName := ⟨RX2, "readsClause", "()Z"⟩
abbrev cX2_readsHeat : ByteArray := prog_4_method_6_code
def yX2_readsHeat : MethodName := ⟨RX2, "readsHeat", "(I)Z"⟩
abbrev cX2_readsEither : ByteArray := prog_4_method_7_code
def yX2_readsEither : MethodName := ⟨RX2, "readsEither", "(I)Z"⟩
abbrev cX2_readsBoth : ByteArray := prog_4_method_8_code
def yX2_readsBoth : MethodName := ⟨RX2, "readsBoth", "(I)Z"⟩
abbrev cX2_readsFactor : ByteArray := prog_4_method_9_code
def yX2_readsFactor : MethodName := ⟨RX2, "readsFactor", "(I)Z"⟩
abbrev cX2_readsTest : ByteArray := prog_4_method_10_code
def yX2_readsTest : MethodName := ⟨RX2, "readsTest", "()Z"⟩
abbrev cX2_takeNumber : ByteArray := prog_4_method_11_code
def yX2_takeNumber : MethodName := ⟨RX2, "takeNumber", "()I"⟩
abbrev cX2_takeOneOf : ByteArray := prog_4_method_12_code
def yX2_takeOneOf : MethodName := ⟨RX2, "takeOneOf", "(Ljava/lang/String;)I"⟩
abbrev cX2_takesWord : ByteArray := prog_4_method_13_code
def yX2_takesWord : MethodName := ⟨RX2, "takesWord", "(Ljava/lang/String;)Z"⟩
abbrev cX2_takes : ByteArray := prog_4_method_14_code
def yX2_takes : MethodName := ⟨RX2, "takes", "(C)Z"⟩
abbrev cX2_sees : ByteArray := prog_4_method_15_code
def yX2_sees : MethodName := ⟨RX2, "sees", "(C)Z"⟩
def RX3 : String := "StruckWhile$Sheet"
def TX3 : u_T := fun k => match k with
  | 0 => ("StruckWhile$Sheet", "first", "[I", true)
  | 1 => ("StruckWhile$Sheet", "second", "[I", true)
  | 2 => ("StruckWhile$Sheet", "third", "[I", true)
  | _ => ("StruckWhile$Sheet", "size", "I", false)
def tyX3 : Nat → FieldType := fun k => match k with
  | 0 => .array .int
  | 1 => .array .int
  | 2 => .array .int
  | _ => .int
set_option maxRecDepth 100000 in
theorem nmX3 : ∀ a, a < 4 → ∀ b, b < 4 → a ≠ b → (TX3 a).2.1 ≠ (TX3 b).2.1 := by decide +kernel
theorem tyX3_ok : ∀ k, k < 4 → parseFieldDescriptor (TX3 k).2.2.1 = some (tyX3 k) := by decide +kernel
abbrev cX3_init : ByteArray := prog_5_method_1_code
def yX3_init : MethodName := ⟨RX3, "<init>", "(I)V"⟩
abbrev cX3_isFull : ByteArray := prog_5_method_2_code
def yX3_isFull : MethodName := ⟨RX3, "isFull", "()Z"⟩
abbrev cX3_add : ByteArray := prog_5_method_3_code
def yX3_add : MethodName := ⟨RX3, "add", "(III)I"⟩
abbrev cX3_empty : ByteArray := prog_5_method_4_code
def yX3_empty : MethodName := ⟨RX3, "empty", "()I"⟩
abbrev cX3_become : ByteArray := prog_5_method_5_code
def yX3_become : MethodName := ⟨RX3, "become", "(LStruckWhile$Sheet;)V"⟩
def RX4 : String := "StruckWhile$Square"
def TX4 : u_T := fun k => match k with
  | 0 => ("StruckWhile$Square", "spark", "I", false)
  | 1 => ("StruckWhile$Square", "steps", "[I", true)
  | 2 => ("StruckWhile$Square", "stepCount", "I", false)
  | 3 => ("StruckWhile$Square", "heats", "[I", true)
  | _ => ("StruckWhile$Square", "heatCount", "I", false)
def tyX4 : Nat → FieldType := fun k => match k with
  | 0 => .int
  | 1 => .array .int
  | 2 => .int
  | 3 => .array .int
  | _ => .int
set_option maxRecDepth 100000 in
theorem nmX4 : ∀ a, a < 5 → ∀ b, b < 5 → a ≠ b → (TX4 a).2.1 ≠ (TX4 b).2.1 := by decide +kernel
theorem tyX4_ok : ∀ k, k < 5 → parseFieldDescriptor (TX4 k).2.2.1 = some (tyX4 k) := by decide +kernel
abbrev cX4_init : ByteArray := prog_6_method_1_code
def yX4_init : MethodName := ⟨RX4, "<init>", "()V"⟩
abbrev cX4_empty : ByteArray := prog_6_method_2_code
def yX4_empty : MethodName := ⟨RX4, "empty", "()V"⟩
abbrev cX4_addTest : ByteArray := prog_6_method_3_code
def yX4_addTest : MethodName := ⟨RX4, "addTest", "(III)V"⟩
abbrev cX4_addStep : ByteArray := prog_6_method_4_code
def yX4_addStep : MethodName := ⟨RX4, "addStep", "(I)V"⟩
abbrev cX4_addClause : ByteArray := prog_6_method_5_code
def yX4_addClause : MethodName := ⟨RX4, "addClause", "(I)V"⟩
abbrev cX4_sum : ByteArray := prog_6_method_6_code
def yX4_sum : MethodName := ⟨RX4, "sum", "([I)I"⟩
abbrev cX4_test : ByteArray := prog_6_method_7_code
def yX4_test : MethodName := ⟨RX4, "test", "(II)I"⟩
def RX5 : String := "StruckWhile$Tapes"
def TX5 : u_T := fun k => match k with
  | 0 => ("StruckWhile$Tapes", "sort", "[I", true)
  | 1 => ("StruckWhile$Tapes", "size", "[I", true)
  | _ => ("StruckWhile$Tapes", "items", "[[J", true)
def tyX5 : Nat → FieldType := fun k => match k with
  | 0 => .array .int
  | 1 => .array .int
  | _ => .array (.array .long)
set_option maxRecDepth 100000 in
theorem nmX5 : ∀ a, a < 3 → ∀ b, b < 3 → a ≠ b → (TX5 a).2.1 ≠ (TX5 b).2.1 := by decide +kernel
theorem tyX5_ok : ∀ k, k < 3 → parseFieldDescriptor (TX5 k).2.2.1 = some (tyX5 k) := by decide +kernel
abbrev cX5_init : ByteArray := prog_7_method_1_code
def yX5_init : MethodName := ⟨RX5, "<init>", "()V"⟩
abbrev cX5_has : ByteArray := prog_7_method_2_code
def yX5_has : MethodName := ⟨RX5, "has", "(I)Z"⟩
abbrev cX5_holds : ByteArray := prog_7_method_3_code
def yX5_holds : MethodName := ⟨RX5, "holds", "(I)Z"⟩
abbrev cX5_hasItems : ByteArray := prog_7_method_4_code
def yX5_hasItems : MethodName := ⟨RX5, "hasItems", "(III)Z"⟩
abbrev cX5_become : ByteArray := prog_7_method_5_code
def yX5_become : MethodName := ⟨RX5, "become", "(III)I"⟩
abbrev cX5_put : ByteArray := prog_7_method_6_code
def yX5_put : MethodName := ⟨RX5, "put", "(IIJ)I"⟩
abbrev cX5_cut : ByteArray := prog_7_method_7_code
def yX5_cut : MethodName := ⟨RX5, "cut", "(IJ)J"⟩
def RX6 : String := "StruckWhile$Town"
def TX6 : u_T := fun k => match k with
  | 0 => ("StruckWhile$Town", "people", "I", false)
  | 1 => ("StruckWhile$Town", "kind", "[I", true)
  | 2 => ("StruckWhile$Town", "v", "[I", true)
  | 3 => ("StruckWhile$Town", "heat", "[I", true)
  | 4 => ("StruckWhile$Town", "isAway", "[Z", true)
  | 5 => ("StruckWhile$Town", "rows", "[I", true)
  | 6 => ("StruckWhile$Town", "works", "I", false)
  | 7 => ("StruckWhile$Town", "needs", "[I", true)
  | 8 => ("StruckWhile$Town", "due", "[I", true)
  | 9 => ("StruckWhile$Town", "struck", "[I", true)
  | 10 => ("StruckWhile$Town", "onAnvil", "I", false)
  | 11 => ("StruckWhile$Town", "minute", "I", false)
  | 12 => ("StruckWhile$Town", "holding", "LStruckWhile$Square;", false)
  | 13 => ("StruckWhile$Town", "nextHeat", "[I", true)
  | _ => ("StruckWhile$Town", "letters", "[I", true)
def tyX6 : Nat → FieldType := fun k => match k with
  | 0 => .int
  | 1 => .array .int
  | 2 => .array .int
  | 3 => .array .int
  | 4 => .array .boolean
  | 5 => .array .int
  | 6 => .int
  | 7 => .array .int
  | 8 => .array .int
  | 9 => .array .int
  | 10 => .int
  | 11 => .int
  | 12 => .object "StruckWhile$Square"
  | 13 => .array .int
  | _ => .array .int
set_option maxRecDepth 100000 in
theorem nmX6 : ∀ a, a < 15 → ∀ b, b < 15 → a ≠ b → (TX6 a).2.1 ≠ (TX6 b).2.1 := by decide +kernel
theorem tyX6_ok : ∀ k, k < 15 → parseFieldDescriptor (TX6 k).2.2.1 = some (tyX6 k) := by decide +kernel
abbrev cX6_init : ByteArray := prog_8_method_1_code
def yX6_init : MethodName := ⟨RX6, "<init>", "()V"⟩
abbrev cX6_hasOne : ByteArray := prog_8_method_2_code
def yX6_hasOne : MethodName := ⟨RX6, "hasOne", "(I)Z"⟩
abbrev cX6_hasWork : ByteArray := prog_8_method_3_code
def yX6_hasWork : MethodName := ⟨RX6, "hasWork", "(I)Z"⟩
abbrev cX6_addOne : ByteArray := prog_8_method_4_code
def yX6_addOne : MethodName := ⟨RX6, "addOne", "(III)I"⟩
abbrev cX6_addWork : ByteArray := prog_8_method_5_code
def yX6_addWork : MethodName := ⟨RX6, "addWork", "(II)I"⟩
abbrev cX6_become : ByteArray := prog_8_method_6_code
def yX6_become : MethodName := ⟨RX6, "become", "(LStruckWhile$Town;)V"⟩
abbrev cX6_isHot : ByteArray := prog_8_method_7_code
def yX6_isHot : MethodName := ⟨RX6, "isHot", "(I)Z"⟩
abbrev cX6_isDone : ByteArray := prog_8_method_8_code
def yX6_isDone : MethodName := ⟨RX6, "isDone", "(I)Z"⟩
abbrev cX6_doneBits : ByteArray := prog_8_method_9_code
def yX6_doneBits : MethodName := ⟨RX6, "doneBits", "()I"⟩
abbrev cX6_heatOfAll : ByteArray := prog_8_method_10_code
def yX6_heatOfAll : MethodName := ⟨RX6, "heatOfAll", "()I"⟩
abbrev cX6_countHere : ByteArray := prog_8_method_11_code
def yX6_countHere : MethodName := ⟨RX6, "countHere", "()I"⟩
abbrev cX6_hottest : ByteArray := prog_8_method_12_code
def yX6_hottest : MethodName := ⟨RX6, "hottest", "()I"⟩
abbrev cX6_countBeside : ByteArray := prog_8_method_13_code
def yX6_countBeside : MethodName := ⟨RX6, "countBeside", "(II)I"⟩
abbrev cX6_spark : ByteArray := prog_8_method_14_code
def yX6_spark : MethodName := ⟨RX6, "spark", "()I"⟩
abbrev cX6_riseOf : ByteArray := prog_8_method_15_code
def yX6_riseOf : MethodName := ⟨RX6, "riseOf", "(I)I"⟩
abbrev cX6_setLetters : ByteArray := prog_8_method_16_code
def yX6_setLetters : MethodName := ⟨RX6, "setLetters", "(II)V"⟩
abbrev cX6_goOn : ByteArray := prog_8_method_17_code
def yX6_goOn : MethodName := ⟨RX6, "goOn", "(I)V"⟩
abbrev cX6_goOneMinute : ByteArray := prog_8_method_18_code
def yX6_goOneMinute : MethodName := ⟨RX6, "goOneMinute", "()V"⟩
def RX7 : String := "StruckWhile$Whole"
def TX7 : u_T := fun k => match k with
  | 0 => ("StruckWhile$Whole", "town", "LStruckWhile$Town;", true)
  | 1 => ("StruckWhile$Whole", "seen", "LStruckWhile$Sheet;", true)
  | 2 => ("StruckWhile$Whole", "plan", "LStruckWhile$Sheet;", true)
  | _ => ("StruckWhile$Whole", "book", "LStruckWhile$Sheet;", true)
def tyX7 : Nat → FieldType := fun k => match k with
  | 0 => .object "StruckWhile$Town"
  | 1 => .object "StruckWhile$Sheet"
  | 2 => .object "StruckWhile$Sheet"
  | _ => .object "StruckWhile$Sheet"
set_option maxRecDepth 100000 in
theorem nmX7 : ∀ a, a < 4 → ∀ b, b < 4 → a ≠ b → (TX7 a).2.1 ≠ (TX7 b).2.1 := by decide +kernel
theorem tyX7_ok : ∀ k, k < 4 → parseFieldDescriptor (TX7 k).2.2.1 = some (tyX7 k) := by decide +kernel
abbrev cX7_init : ByteArray := prog_9_method_1_code
def yX7_init : MethodName := ⟨RX7, "<init>", "()V"⟩
abbrev cX7_become : ByteArray := prog_9_method_2_code
def yX7_become : MethodName := ⟨RX7, "become", "(LStruckWhile$Whole;)V"⟩
def RX8 : String := "StruckWhile"
def TX8 : u_T := fun k => match k with
  | 0 => ("StruckWhile", "now", "LStruckWhile$Whole;", true)
  | 1 => ("StruckWhile", "image", "LStruckWhile$Whole;", true)
  | 2 => ("StruckWhile", "hasImage", "Z", false)
  | 3 => ("StruckWhile", "town", "LStruckWhile$Town;", true)
  | 4 => ("StruckWhile", "ahead", "LStruckWhile$Ahead;", true)
  | 5 => ("StruckWhile", "reader", "LStruckWhile$Reader;", true)
  | 6 => ("StruckWhile", "squares", "[LStruckWhile$Square;", true)
  | 7 => ("StruckWhile", "squareCount", "I", false)
  | 8 => ("StruckWhile", "acts", "LStruckWhile$Acts;", true)
  | _ => ("StruckWhile", "tapes", "LStruckWhile$Tapes;", true)
def tyX8 : Nat → FieldType := fun k => match k with
  | 0 => .object "StruckWhile$Whole"
  | 1 => .object "StruckWhile$Whole"
  | 2 => .boolean
  | 3 => .object "StruckWhile$Town"
  | 4 => .object "StruckWhile$Ahead"
  | 5 => .object "StruckWhile$Reader"
  | 6 => .array (.object "StruckWhile$Square")
  | 7 => .int
  | 8 => .object "StruckWhile$Acts"
  | _ => .object "StruckWhile$Tapes"
set_option maxRecDepth 100000 in
theorem nmX8 : ∀ a, a < 10 → ∀ b, b < 10 → a ≠ b → (TX8 a).2.1 ≠ (TX8 b).2.1 := by decide +kernel
theorem tyX8_ok : ∀ k, k < 10 → parseFieldDescriptor (TX8 k).2.2.1 = some (tyX8 k) := by decide +kernel
abbrev cX8_init : ByteArray := prog_1_method_1_code
def yX8_init : MethodName := ⟨RX8, "<init>", "()V"⟩
abbrev cX8_one : ByteArray := prog_1_method_2_code
def yX8_one : MethodName := ⟨RX8, "one", "(III)I"⟩
abbrev cX8_of : ByteArray := prog_1_method_3_code
def yX8_of : MethodName := ⟨RX8, "of", "(II)I"⟩
abbrev cX8_heat : ByteArray := prog_1_method_4_code
def yX8_heat : MethodName := ⟨RX8, "heat", "(II)I"⟩
abbrev cX8_away : ByteArray := prog_1_method_5_code
def yX8_away : MethodName := ⟨RX8, "away", "(IZ)I"⟩
abbrev cX8_work : ByteArray := prog_1_method_6_code
def yX8_work : MethodName := ⟨RX8, "work", "(II)I"⟩
abbrev cX8_piece : ByteArray := prog_1_method_7_code
def yX8_piece : MethodName := ⟨RX8, "piece", "(II)I"⟩
abbrev cX8_anvil : ByteArray := prog_1_method_8_code
def yX8_anvil : MethodName := ⟨RX8, "anvil", "(I)I"⟩
abbrev cX8_row : ByteArray := prog_1_method_9_code
def yX8_row : MethodName := ⟨RX8, "row", "(III)I"⟩
abbrev cX8_feed : ByteArray := prog_1_method_10_code
def yX8_feed : MethodName := ⟨RX8, "feed", "(I)I"⟩
abbrev cX8_square : ByteArray := prog_1_method_11_code
def yX8_square : MethodName := ⟨RX8, "square", "()I"⟩
abbrev cX8_told : ByteArray := prog_1_method_12_code
def yX8_told : MethodName := ⟨RX8, "told", "(I)I"⟩
abbrev cX8_pass : ByteArray := prog_1_method_13_code
def yX8_pass : MethodName := ⟨RX8, "pass", "(I)I"⟩
abbrev cX8_on : ByteArray := prog_1_method_14_code
def yX8_on : MethodName := ⟨RX8, "on", "(II)I"⟩
abbrev cX8_best : ByteArray := prog_1_method_15_code
def yX8_best : MethodName := ⟨RX8, "best", "(II)I"⟩
abbrev cX8_talk : ByteArray := prog_1_method_16_code
def yX8_talk : MethodName := ⟨RX8, "talk", "(II)I"⟩
abbrev cX8_see : ByteArray := prog_1_method_17_code
def yX8_see : MethodName := ⟨RX8, "see", "(IIZ)I"⟩
abbrev cX8_can : ByteArray := prog_1_method_18_code
def yX8_can : MethodName := ⟨RX8, "can", "(III)I"⟩
abbrev cX8_odds : ByteArray := prog_1_method_19_code
def yX8_odds : MethodName := ⟨RX8, "odds", "(III)J"⟩
abbrev cX8_mean : ByteArray := prog_1_method_20_code
def yX8_mean : MethodName := ⟨RX8, "mean", "(II)J"⟩
abbrev cX8_plan : ByteArray := prog_1_method_21_code
def yX8_plan : MethodName := ⟨RX8, "plan", "(II)I"⟩
abbrev cX8_ends : ByteArray := prog_1_method_22_code
def yX8_ends : MethodName := ⟨RX8, "ends", "(I)I"⟩
abbrev cX8_book : ByteArray := prog_1_method_23_code
def yX8_book : MethodName := ⟨RX8, "book", "(II)I"⟩
abbrev cX8_looked : ByteArray := prog_1_method_24_code
def yX8_looked : MethodName := ⟨RX8, "looked", "()I"⟩
abbrev cX8_judge : ByteArray := prog_1_method_25_code
def yX8_judge : MethodName := ⟨RX8, "judge", "(II)I"⟩
abbrev cX8_image : ByteArray := prog_1_method_26_code
def yX8_image : MethodName := ⟨RX8, "image", "()I"⟩
abbrev cX8_undo : ByteArray := prog_1_method_27_code
def yX8_undo : MethodName := ⟨RX8, "undo", "()I"⟩
abbrev cX8_act : ByteArray := prog_1_method_28_code
def yX8_act : MethodName := ⟨RX8, "act", "(III)I"⟩
abbrev cX8_trace : ByteArray := prog_1_method_29_code
def yX8_trace : MethodName := ⟨RX8, "trace", "(I)I"⟩
abbrev cX8_taken : ByteArray := prog_1_method_30_code
def yX8_taken : MethodName := ⟨RX8, "taken", "(II)I"⟩
abbrev cX8_count : ByteArray := prog_1_method_31_code
def yX8_count : MethodName := ⟨RX8, "count", "(I)I"⟩
abbrev cX8_tape : ByteArray := prog_1_method_32_code
def yX8_tape : MethodName := ⟨RX8, "tape", "(III)I"⟩
abbrev cX8_item : ByteArray := prog_1_method_33_code
def yX8_item : MethodName := ⟨RX8, "item", "(IIJ)I"⟩
abbrev cX8_read : ByteArray := prog_1_method_34_code
def yX8_read : MethodName := ⟨RX8, "read", "(II)J"⟩
abbrev cX8_shift : ByteArray := prog_1_method_35_code
def yX8_shift : MethodName := ⟨RX8, "shift", "(IIIII)I"⟩
abbrev cX8_isWithin : ByteArray := prog_1_method_36_code
def yX8_isWithin : MethodName := ⟨RX8, "isWithin", "(III)Z"⟩
abbrev cX8_asNumber : ByteArray := prog_1_method_37_code
def yX8_asNumber : MethodName := ⟨RX8, "asNumber", "(Z)I"⟩
abbrev cX8_orLacks : ByteArray := prog_1_method_38_code
def yX8_orLacks : MethodName := ⟨RX8, "orLacks", "(I)I"⟩
abbrev cX8_isOrIsUnder : ByteArray := prog_1_method_39_code
def yX8_isOrIsUnder : MethodName := ⟨RX8, "isOrIsUnder", "(II)Z"⟩
abbrev cX8_lowestTerms : ByteArray := prog_1_method_40_code
def yX8_lowestTerms : MethodName := ⟨RX8, "lowestTerms", "(III)J"⟩
def RX9 : String := "StruckWhileModel"
def TX9 : u_T := fun k => match k with
  | 0 => ("StruckWhileModel", "people", "I", false)
  | 1 => ("StruckWhileModel", "absent", "I", false)
  | 2 => ("StruckWhileModel", "works", "I", false)
  | 3 => ("StruckWhileModel", "lies", "I", false)
  | 4 => ("StruckWhileModel", "minute", "I", false)
  | 5 => ("StruckWhileModel", "kind", "[I", true)
  | 6 => ("StruckWhileModel", "v", "[I", true)
  | 7 => ("StruckWhileModel", "heat0", "[I", true)
  | 8 => ("StruckWhileModel", "rows", "[I", true)
  | 9 => ("StruckWhileModel", "needs", "[I", true)
  | 10 => ("StruckWhileModel", "due", "[I", true)
  | 11 => ("StruckWhileModel", "struck", "[I", true)
  | 12 => ("StruckWhileModel", "squares", "I", false)
  | 13 => ("StruckWhileModel", "the", "I", false)
  | 14 => ("StruckWhileModel", "fed", "I", false)
  | 15 => ("StruckWhileModel", "at", "I", false)
  | 16 => ("StruckWhileModel", "digits", "I", false)
  | 17 => ("StruckWhileModel", "text", "[I", true)
  | 18 => ("StruckWhileModel", "clauses", "[I", true)
  | 19 => ("StruckWhileModel", "word", "[I", true)
  | 20 => ("StruckWhileModel", "number", "[I", true)
  | 21 => ("StruckWhileModel", "from", "[I", true)
  | 22 => ("StruckWhileModel", "to", "[I", true)
  | 23 => ("StruckWhileModel", "sign", "[I", true)
  | 24 => ("StruckWhileModel", "waits", "[I", true)
  | 25 => ("StruckWhileModel", "signs", "I", false)
  | 26 => ("StruckWhileModel", "waiting", "I", false)
  | 27 => ("StruckWhileModel", "open", "I", false)
  | 28 => ("StruckWhileModel", "letters", "[I", true)
  | 29 => ("StruckWhileModel", "pile", "[Z", true)
  | 30 => ("StruckWhileModel", "then", "[I", true)
  | 31 => ("StruckWhileModel", "keptAbsent", "I", false)
  | 32 => ("StruckWhileModel", "keptLies", "I", false)
  | 33 => ("StruckWhileModel", "keptMinute", "I", false)
  | 34 => ("StruckWhileModel", "keptHeat", "[I", true)
  | 35 => ("StruckWhileModel", "keptStruck", "[I", true)
  | 36 => ("StruckWhileModel", "line", "[I", true)
  | 37 => ("StruckWhileModel", "bestLine", "[I", true)
  | 38 => ("StruckWhileModel", "seen", "I", false)
  | 39 => ("StruckWhileModel", "seenWho", "[I", true)
  | 40 => ("StruckWhileModel", "seenWhen", "[I", true)
  | 41 => ("StruckWhileModel", "seenHot", "[Z", true)
  | 42 => ("StruckWhileModel", "plans", "I", false)
  | 43 => ("StruckWhileModel", "books", "I", false)
  | 44 => ("StruckWhileModel", "planWhat", "[I", true)
  | 45 => ("StruckWhileModel", "planNumber", "[I", true)
  | 46 => ("StruckWhileModel", "bookWho", "[I", true)
  | 47 => ("StruckWhileModel", "bookHeat", "[I", true)
  | 48 => ("StruckWhileModel", "hasImage", "Z", false)
  | 49 => ("StruckWhileModel", "imageThe", "I", false)
  | 50 => ("StruckWhileModel", "imagePeople", "I", false)
  | 51 => ("StruckWhileModel", "imageAbsent", "I", false)
  | 52 => ("StruckWhileModel", "imageWorks", "I", false)
  | 53 => ("StruckWhileModel", "imageLies", "I", false)
  | 54 => ("StruckWhileModel", "imageMinute", "I", false)
  | 55 => ("StruckWhileModel", "imageSeen", "I", false)
  | 56 => ("StruckWhileModel", "imagePlans", "I", false)
  | 57 => ("StruckWhileModel", "imageBooks", "I", false)
  | 58 => ("StruckWhileModel", "imageKind", "[I", true)
  | 59 => ("StruckWhileModel", "imageV", "[I", true)
  | 60 => ("StruckWhileModel", "imageHeat", "[I", true)
  | 61 => ("StruckWhileModel", "imageRows", "[I", true)
  | 62 => ("StruckWhileModel", "imageNeeds", "[I", true)
  | 63 => ("StruckWhileModel", "imageDue", "[I", true)
  | 64 => ("StruckWhileModel", "imageStruck", "[I", true)
  | 65 => ("StruckWhileModel", "imageWho", "[I", true)
  | 66 => ("StruckWhileModel", "imageWhen", "[I", true)
  | 67 => ("StruckWhileModel", "imageWhat", "[I", true)
  | 68 => ("StruckWhileModel", "imageNumber", "[I", true)
  | 69 => ("StruckWhileModel", "imageBookWho", "[I", true)
  | 70 => ("StruckWhileModel", "imageBookHeat", "[I", true)
  | 71 => ("StruckWhileModel", "imageHot", "[Z", true)
  | 72 => ("StruckWhileModel", "ran", "I", false)
  | 73 => ("StruckWhileModel", "bodies", "[I", true)
  | 74 => ("StruckWhileModel", "sort", "[I", true)
  | 75 => ("StruckWhileModel", "length", "[I", true)
  | 76 => ("StruckWhileModel", "item", "[J", true)
  | _ => ("StruckWhileModel", "aside", "[J", true)
def tyX9 : Nat → FieldType := fun k => match k with
  | 0 => .int
  | 1 => .int
  | 2 => .int
  | 3 => .int
  | 4 => .int
  | 5 => .array .int
  | 6 => .array .int
  | 7 => .array .int
  | 8 => .array .int
  | 9 => .array .int
  | 10 => .array .int
  | 11 => .array .int
  | 12 => .int
  | 13 => .int
  | 14 => .int
  | 15 => .int
  | 16 => .int
  | 17 => .array .int
  | 18 => .array .int
  | 19 => .array .int
  | 20 => .array .int
  | 21 => .array .int
  | 22 => .array .int
  | 23 => .array .int
  | 24 => .array .int
  | 25 => .int
  | 26 => .int
  | 27 => .int
  | 28 => .array .int
  | 29 => .array .boolean
  | 30 => .array .int
  | 31 => .int
  | 32 => .int
  | 33 => .int
  | 34 => .array .int
  | 35 => .array .int
  | 36 => .array .int
  | 37 => .array .int
  | 38 => .int
  | 39 => .array .int
  | 40 => .array .int
  | 41 => .array .boolean
  | 42 => .int
  | 43 => .int
  | 44 => .array .int
  | 45 => .array .int
  | 46 => .array .int
  | 47 => .array .int
  | 48 => .boolean
  | 49 => .int
  | 50 => .int
  | 51 => .int
  | 52 => .int
  | 53 => .int
  | 54 => .int
  | 55 => .int
  | 56 => .int
  | 57 => .int
  | 58 => .array .int
  | 59 => .array .int
  | 60 => .array .int
  | 61 => .array .int
  | 62 => .array .int
  | 63 => .array .int
  | 64 => .array .int
  | 65 => .array .int
  | 66 => .array .int
  | 67 => .array .int
  | 68 => .array .int
  | 69 => .array .int
  | 70 => .array .int
  | 71 => .array .boolean
  | 72 => .int
  | 73 => .array .int
  | 74 => .array .int
  | 75 => .array .int
  | 76 => .array .long
  | _ => .array .long
set_option maxRecDepth 100000 in
theorem nmX9 : ∀ a, a < 78 → ∀ b, b < 78 → a ≠ b → (TX9 a).2.1 ≠ (TX9 b).2.1 := by decide +kernel
theorem tyX9_ok : ∀ k, k < 78 → parseFieldDescriptor (TX9 k).2.2.1 = some (tyX9 k) := by decide +kernel
abbrev cX9_init : ByteArray := prog_11_method_1_code
def yX9_init : MethodName := ⟨RX9, "<init>", "()V"⟩
abbrev cX9_in : ByteArray := prog_11_method_2_code
def yX9_in : MethodName := ⟨RX9, "in", "(III)Z"⟩
abbrev cX9_has : ByteArray := prog_11_method_3_code
def yX9_has : MethodName := ⟨RX9, "has", "(II)Z"⟩
abbrev cX9_least : ByteArray := prog_11_method_4_code
def yX9_least : MethodName := ⟨RX9, "least", "(II)I"⟩
abbrev cX9_held : ByteArray := prog_11_method_5_code
def yX9_held : MethodName := ⟨RX9, "held", "(I)I"⟩
abbrev cX9_isOne : ByteArray := prog_11_method_6_code
def yX9_isOne : MethodName := ⟨RX9, "isOne", "(I)Z"⟩
abbrev cX9_isWork : ByteArray := prog_11_method_7_code
def yX9_isWork : MethodName := ⟨RX9, "isWork", "(I)Z"⟩
abbrev cX9_isHeat : ByteArray := prog_11_method_8_code
def yX9_isHeat : MethodName := ⟨RX9, "isHeat", "(I)Z"⟩
abbrev cX9_isMinutes : ByteArray := prog_11_method_9_code
def yX9_isMinutes : MethodName := ⟨RX9, "isMinutes", "(I)Z"⟩
abbrev cX9_one : ByteArray := prog_11_method_10_code
def yX9_one : MethodName := ⟨RX9, "one", "(III)I"⟩
abbrev cX9_heat : ByteArray := prog_11_method_11_code
def yX9_heat : MethodName := ⟨RX9, "heat", "(II)I"⟩
abbrev cX9_goes : ByteArray := prog_11_method_12_code
def yX9_goes : MethodName := ⟨RX9, "goes", "(IZ)V"⟩
abbrev cX9_away : ByteArray := prog_11_method_13_code
def yX9_away : MethodName := ⟨RX9, "away", "(IZ)I"⟩
abbrev cX9_work : ByteArray := prog_11_method_14_code
def yX9_work : MethodName := ⟨RX9, "work", "(II)I"⟩
abbrev cX9_anvil : ByteArray := prog_11_method_15_code
def yX9_anvil : MethodName := ⟨RX9, "anvil", "(I)I"⟩
abbrev cX9_row : ByteArray := prog_11_method_16_code
def yX9_row : MethodName := ⟨RX9, "row", "(III)I"⟩
abbrev cX9_feed : ByteArray := prog_11_method_17_code
def yX9_feed : MethodName := ⟨RX9, "feed", "(I)I"⟩
abbrev cX9_next : ByteArray := prog_11_method_18_code
def yX9_next : MethodName := ⟨RX9, "next", "()I"⟩
abbrev cX9_takes : ByteArray := prog_11_method_19_code
def yX9_takes : MethodName := ⟨RX9, "takes", "(I)Z"⟩
abbrev cX9_takesWord : ByteArray := prog_11_method_20_code
def yX9_takesWord : MethodName := ⟨RX9, "takesWord", "(II)Z"⟩
abbrev cX9_isDigit : ByteArray := prog_11_method_21_code
def yX9_isDigit : MethodName := ⟨RX9, "isDigit", "()Z"⟩
abbrev cX9_takesNumber : ByteArray := prog_11_method_22_code
def yX9_takesNumber : MethodName := ⟨RX9, "takesNumber", "()Z"⟩
abbrev cX9_emits : ByteArray := prog_11_method_23_code
def yX9_emits : MethodName := ⟨RX9, "emits", "(I)V"⟩
abbrev cX9_whole : ByteArray := prog_11_method_24_code
def yX9_whole : MethodName := ⟨RX9, "whole", "()V"⟩
abbrev cX9_settle : ByteArray := prog_11_method_25_code
def yX9_settle : MethodName := ⟨RX9, "settle", "(I)V"⟩
abbrev cX9_place : ByteArray := prog_11_method_26_code
def yX9_place : MethodName := ⟨RX9, "place", "(I)I"⟩
abbrev cX9_takesTest : ByteArray := prog_11_method_27_code
def yX9_takesTest : MethodName := ⟨RX9, "takesTest", "()Z"⟩
abbrev cX9_takesE : ByteArray := prog_11_method_28_code
def yX9_takesE : MethodName := ⟨RX9, "takesE", "(I)Z"⟩
abbrev cX9_takesHead : ByteArray := prog_11_method_29_code
def yX9_takesHead : MethodName := ⟨RX9, "takesHead", "(I)Z"⟩
abbrev cX9_takesClause : ByteArray := prog_11_method_30_code
def yX9_takesClause : MethodName := ⟨RX9, "takesClause", "(I)Z"⟩
abbrev cX9_goesText : ByteArray := prog_11_method_31_code
def yX9_goesText : MethodName := ⟨RX9, "goesText", "(I)Z"⟩
abbrev cX9_square : ByteArray := prog_11_method_32_code
def yX9_square : MethodName := ⟨RX9, "square", "()I"⟩
abbrev cX9_begin : ByteArray := prog_11_method_33_code
def yX9_begin : MethodName := ⟨RX9, "begin", "()I"⟩
abbrev cX9_behind : ByteArray := prog_11_method_34_code
def yX9_behind : MethodName := ⟨RX9, "behind", "()I"⟩
abbrev cX9_spark : ByteArray := prog_11_method_35_code
def yX9_spark : MethodName := ⟨RX9, "spark", "()I"⟩
abbrev cX9_beside : ByteArray := prog_11_method_36_code
def yX9_beside : MethodName := ⟨RX9, "beside", "(II)I"⟩
abbrev cX9_factOf : ByteArray := prog_11_method_37_code
def yX9_factOf : MethodName := ⟨RX9, "factOf", "(II)I"⟩
abbrev cX9_holds : ByteArray := prog_11_method_38_code
def yX9_holds : MethodName := ⟨RX9, "holds", "(II)Z"⟩
abbrev cX9_sum : ByteArray := prog_11_method_39_code
def yX9_sum : MethodName := ⟨RX9, "sum", "(I)I"⟩
abbrev cX9_rise : ByteArray := prog_11_method_40_code
def yX9_rise : MethodName := ⟨RX9, "rise", "(I)I"⟩
abbrev cX9_of : ByteArray := prog_11_method_41_code
def yX9_of : MethodName := ⟨RX9, "of", "(II)I"⟩
abbrev cX9_hottest : ByteArray := prog_11_method_42_code
def yX9_hottest : MethodName := ⟨RX9, "hottest", "()I"⟩
abbrev cX9_isDone : ByteArray := prog_11_method_43_code
def yX9_isDone : MethodName := ⟨RX9, "isDone", "(I)Z"⟩
abbrev cX9_doneSet : ByteArray := prog_11_method_44_code
def yX9_doneSet : MethodName := ⟨RX9, "doneSet", "()I"⟩
abbrev cX9_allHeat : ByteArray := prog_11_method_45_code
def yX9_allHeat : MethodName := ⟨RX9, "allHeat", "()I"⟩
abbrev cX9_told : ByteArray := prog_11_method_46_code
def yX9_told : MethodName := ⟨RX9, "told", "(I)I"⟩
abbrev cX9_goMinute : ByteArray := prog_11_method_47_code
def yX9_goMinute : MethodName := ⟨RX9, "goMinute", "()V"⟩
abbrev cX9_goMinutes : ByteArray := prog_11_method_48_code
def yX9_goMinutes : MethodName := ⟨RX9, "goMinutes", "(I)V"⟩
abbrev cX9_pass : ByteArray := prog_11_method_49_code
def yX9_pass : MethodName := ⟨RX9, "pass", "(I)I"⟩
abbrev cX9_save : ByteArray := prog_11_method_50_code
def yX9_save : MethodName := ⟨RX9, "save", "()V"⟩
abbrev cX9_putBack : ByteArray := prog_11_method_51_code
def yX9_putBack : MethodName := ⟨RX9, "putBack", "()V"⟩
abbrev cX9_ready : ByteArray := prog_11_method_52_code
def yX9_ready : MethodName := ⟨RX9, "ready", "(I)I"⟩
abbrev cX9_piece : ByteArray := prog_11_method_53_code
def yX9_piece : MethodName := ⟨RX9, "piece", "(II)I"⟩
abbrev cX9_on : ByteArray := prog_11_method_54_code
def yX9_on : MethodName := ⟨RX9, "on", "(II)I"⟩
abbrev cX9_layLine : ByteArray := prog_11_method_55_code
def yX9_layLine : MethodName := ⟨RX9, "layLine", "(I)Z"⟩
abbrev cX9_firstOfLine : ByteArray := prog_11_method_56_code
def yX9_firstOfLine : MethodName := ⟨RX9, "firstOfLine", "()I"⟩
abbrev cX9_doneInTime : ByteArray := prog_11_method_57_code
def yX9_doneInTime : MethodName := ⟨RX9, "doneInTime", "(I)I"⟩
abbrev cX9_best : ByteArray := prog_11_method_58_code
def yX9_best : MethodName := ⟨RX9, "best", "(II)I"⟩
abbrev cX9_hottestIf : ByteArray := prog_11_method_59_code
def yX9_hottestIf : MethodName := ⟨RX9, "hottestIf", "(II)I"⟩
abbrev cX9_talk : ByteArray := prog_11_method_60_code
def yX9_talk : MethodName := ⟨RX9, "talk", "(II)I"⟩
abbrev cX9_see : ByteArray := prog_11_method_61_code
def yX9_see : MethodName := ⟨RX9, "see", "(IIZ)I"⟩
abbrev cX9_isSeen : ByteArray := prog_11_method_62_code
def yX9_isSeen : MethodName := ⟨RX9, "isSeen", "()Z"⟩
abbrev cX9_heats : ByteArray := prog_11_method_63_code
def yX9_heats : MethodName := ⟨RX9, "heats", "(II)I"⟩
abbrev cX9_canBe : ByteArray := prog_11_method_64_code
def yX9_canBe : MethodName := ⟨RX9, "canBe", "(II)I"⟩
abbrev cX9_can : ByteArray := prog_11_method_65_code
def yX9_can : MethodName := ⟨RX9, "can", "(III)I"⟩
abbrev cX9_divisor : ByteArray := prog_11_method_66_code
def yX9_divisor : MethodName := ⟨RX9, "divisor", "(II)I"⟩
abbrev cX9_lowest : ByteArray := prog_11_method_67_code
def yX9_lowest : MethodName := ⟨RX9, "lowest", "(III)J"⟩
abbrev cX9_isHotIf : ByteArray := prog_11_method_68_code
def yX9_isHotIf : MethodName := ⟨RX9, "isHotIf", "(III)Z"⟩
abbrev cX9_odds : ByteArray := prog_11_method_69_code
def yX9_odds : MethodName := ⟨RX9, "odds", "(III)J"⟩
abbrev cX9_mean : ByteArray := prog_11_method_70_code
def yX9_mean : MethodName := ⟨RX9, "mean", "(II)J"⟩
abbrev cX9_plan : ByteArray := prog_11_method_71_code
def yX9_plan : MethodName := ⟨RX9, "plan", "(II)I"⟩
abbrev cX9_goPlan : ByteArray := prog_11_method_72_code
def yX9_goPlan : MethodName := ⟨RX9, "goPlan", "(II)V"⟩
abbrev cX9_ends : ByteArray := prog_11_method_73_code
def yX9_ends : MethodName := ⟨RX9, "ends", "(I)I"⟩
abbrev cX9_book : ByteArray := prog_11_method_74_code
def yX9_book : MethodName := ⟨RX9, "book", "(II)I"⟩
abbrev cX9_looked : ByteArray := prog_11_method_75_code
def yX9_looked : MethodName := ⟨RX9, "looked", "()I"⟩
abbrev cX9_judge : ByteArray := prog_11_method_76_code
def yX9_judge : MethodName := ⟨RX9, "judge", "(II)I"⟩
abbrev cX9_image : ByteArray := prog_11_method_77_code
def yX9_image : MethodName := ⟨RX9, "image", "()I"⟩
abbrev cX9_undo : ByteArray := prog_11_method_78_code
def yX9_undo : MethodName := ⟨RX9, "undo", "()I"⟩
abbrev cX9_body : ByteArray := prog_11_method_79_code
def yX9_body : MethodName := ⟨RX9, "body", "(I)V"⟩
abbrev cX9_oneGlows : ByteArray := prog_11_method_80_code
def yX9_oneGlows : MethodName := ⟨RX9, "oneGlows", "(II)I"⟩
abbrev cX9_glowsAct : ByteArray := prog_11_method_81_code
def yX9_glowsAct : MethodName := ⟨RX9, "glowsAct", "(II)I"⟩
abbrev cX9_oneRings : ByteArray := prog_11_method_82_code
def yX9_oneRings : MethodName := ⟨RX9, "oneRings", "(II)I"⟩
abbrev cX9_bankerRings : ByteArray := prog_11_method_83_code
def yX9_bankerRings : MethodName := ⟨RX9, "bankerRings", "(II)I"⟩
abbrev cX9_ringsAct : ByteArray := prog_11_method_84_code
def yX9_ringsAct : MethodName := ⟨RX9, "ringsAct", "(II)I"⟩
abbrev cX9_oneTells : ByteArray := prog_11_method_85_code
def yX9_oneTells : MethodName := ⟨RX9, "oneTells", "(II)I"⟩
abbrev cX9_tellsAct : ByteArray := prog_11_method_86_code
def yX9_tellsAct : MethodName := ⟨RX9, "tellsAct", "(II)I"⟩
abbrev cX9_act : ByteArray := prog_11_method_87_code
def yX9_act : MethodName := ⟨RX9, "act", "(III)I"⟩
abbrev cX9_trace : ByteArray := prog_11_method_88_code
def yX9_trace : MethodName := ⟨RX9, "trace", "(I)I"⟩
abbrev cX9_taken : ByteArray := prog_11_method_89_code
def yX9_taken : MethodName := ⟨RX9, "taken", "(II)I"⟩
abbrev cX9_count : ByteArray := prog_11_method_90_code
def yX9_count : MethodName := ⟨RX9, "count", "(I)I"⟩
abbrev cX9_isTape : ByteArray := prog_11_method_91_code
def yX9_isTape : MethodName := ⟨RX9, "isTape", "(I)Z"⟩
abbrev cX9_tape : ByteArray := prog_11_method_92_code
def yX9_tape : MethodName := ⟨RX9, "tape", "(III)I"⟩
abbrev cX9_narrow : ByteArray := prog_11_method_93_code
def yX9_narrow : MethodName := ⟨RX9, "narrow", "(IJ)J"⟩
abbrev cX9_item : ByteArray := prog_11_method_94_code
def yX9_item : MethodName := ⟨RX9, "item", "(IIJ)I"⟩
abbrev cX9_read : ByteArray := prog_11_method_95_code
def yX9_read : MethodName := ⟨RX9, "read", "(II)J"⟩
abbrev cX9_shift : ByteArray := prog_11_method_96_code
def yX9_shift : MethodName := ⟨RX9, "shift", "(IIIII)I"⟩
set_option maxRecDepth 100000 in
theorem inX0 : ∀ w ∈ u_ws RX0 TX0 5, w ∈ zTb := zmem_tb _ [298, 300, 302, 304, 306] (by decide +kernel) (by decide +kernel)
set_option maxRecDepth 100000 in
theorem inX1 : ∀ w ∈ u_ws RX1 TX1 6, w ∈ zTb := zmem_tb _ [248, 250, 252, 254, 256, 258] (by decide +kernel) (by decide +kernel)
set_option maxRecDepth 100000 in
theorem inX2 : ∀ w ∈ u_ws RX2 TX2 4, w ∈ zTb := zmem_tb _ [273, 275, 277, 279] (by decide +kernel) (by decide +kernel)
set_option maxRecDepth 100000 in
theorem inX3 : ∀ w ∈ u_ws RX3 TX3 4, w ∈ zTb := zmem_tb _ [207, 209, 211, 213] (by decide +kernel) (by decide +kernel)
set_option maxRecDepth 100000 in
theorem inX4 : ∀ w ∈ u_ws RX4 TX4 5, w ∈ zTb := zmem_tb _ [343, 345, 347, 349, 351] (by decide +kernel) (by decide +kernel)
set_option maxRecDepth 100000 in
theorem inX5 : ∀ w ∈ u_ws RX5 TX5 3, w ∈ zTb := zmem_tb _ [323, 325, 327] (by decide +kernel) (by decide +kernel)
set_option maxRecDepth 100000 in
theorem inX6 : ∀ w ∈ u_ws RX6 TX6 15, w ∈ zTb := zmem_tb _ [157, 159, 161, 163, 165, 167, 169, 171, 173, 175, 177, 179, 181, 183, 185] (by decide +kernel) (by decide +kernel)
set_option maxRecDepth 100000 in
theorem inX7 : ∀ w ∈ u_ws RX7 TX7 4, w ∈ zTb := zmem_tb _ [224, 226, 228, 230] (by decide +kernel) (by decide +kernel)
set_option maxRecDepth 100000 in
theorem inX8 : ∀ w ∈ u_ws RX8 TX8 10, w ∈ zTb := zmem_tb _ [364, 366, 368, 370, 372, 374, 376, 378, 380, 382] (by decide +kernel) (by decide +kernel)
set_option maxRecDepth 100000 in
theorem inX9 : ∀ w ∈ u_ws RX9 TX9 78, w ∈ zTb := zmem_tb _ [1037, 1039, 1041, 1043, 1045, 1047, 1049, 1051, 1053, 1055, 1057, 1059, 1061, 1063, 1065, 1067, 1069, 1071, 1073, 1075, 1077, 1079, 1081, 1083, 1085, 1087, 1089, 1091, 1093, 1095, 1097, 1099, 1101, 1103, 1105, 1107, 1109, 1111, 1113, 1115, 1117, 1119, 1121, 1123, 1125, 1127, 1129, 1131, 1133, 1135, 1137, 1139, 1141, 1143, 1145, 1147, 1149, 1151, 1153, 1155, 1157, 1159, 1161, 1163, 1165, 1167, 1169, 1171, 1173, 1175, 1177, 1179, 1181, 1183, 1185, 1187, 1189, 1191] (by decide +kernel) (by decide +kernel)
abbrev zcl : List vw_C := [(RX0, TX0, 5), (RX1, TX1, 6), (RX2, TX2, 4), (RX3, TX3, 4), (RX4, TX4, 5), (RX5, TX5, 3), (RX6, TX6, 15), (RX7, TX7, 4), (RX8, TX8, 10), (RX9, TX9, 78)]
def zclok (q : vw_C) : Prop := (∀ w ∈ u_ws q.1 q.2.1 q.2.2, w ∈ zTb) ∧ (∃ ty0 : Nat → FieldType, ∀ k, k < q.2.2 → parseFieldDescriptor (q.2.1 k).2.2.1 = some (ty0 k)) ∧ ∀ a, a < q.2.2 → ∀ b, b < q.2.2 → a ≠ b → (q.2.1 a).2.1 ≠ (q.2.1 b).2.1
theorem zcl_ok : ∀ q ∈ zcl, zclok q := List.forall_mem_cons.mpr ⟨⟨inX0, ⟨tyX0, tyX0_ok⟩, nmX0⟩, List.forall_mem_cons.mpr ⟨⟨inX1, ⟨tyX1, tyX1_ok⟩, nmX1⟩, List.forall_mem_cons.mpr ⟨⟨inX2, ⟨tyX2, tyX2_ok⟩, nmX2⟩, List.forall_mem_cons.mpr ⟨⟨inX3, ⟨tyX3, tyX3_ok⟩, nmX3⟩, List.forall_mem_cons.mpr ⟨⟨inX4, ⟨tyX4, tyX4_ok⟩, nmX4⟩, List.forall_mem_cons.mpr ⟨⟨inX5, ⟨tyX5, tyX5_ok⟩, nmX5⟩, List.forall_mem_cons.mpr ⟨⟨inX6, ⟨tyX6, tyX6_ok⟩, nmX6⟩, List.forall_mem_cons.mpr ⟨⟨inX7, ⟨tyX7, tyX7_ok⟩, nmX7⟩, List.forall_mem_cons.mpr ⟨⟨inX8, ⟨tyX8, tyX8_ok⟩, nmX8⟩, List.forall_mem_cons.mpr ⟨⟨inX9, ⟨tyX9, tyX9_ok⟩, nmX9⟩, fun _ h => absurd h List.not_mem_nil⟩⟩⟩⟩⟩⟩⟩⟩⟩⟩
end
section
/-! ===== the memory of a system as three functions, its shapes, and the machine's cells out of them ===== -/
abbrev zM : Type := (Nat → Nat → Int32) × (Nat → Nat → Int64) × (Nat → Nat → Option Nat)
def gI (u : zM) (a k : Nat) : Int32 := u.1 a k
def gJ (u : zM) (a k : Nat) : Int64 := u.2.1 a k
def gO (u : zM) (a k : Nat) : Option Nat := u.2.2 a k
def sI (u : zM) (a k : Nat) (x : Int32) : zM := (fun b j => if b = a ∧ j = k then x else u.1 b j, u.2.1, u.2.2)
def sJ (u : zM) (a k : Nat) (x : Int64) : zM := (u.1, fun b j => if b = a ∧ j = k then x else u.2.1 b j, u.2.2)
def sO (u : zM) (a k : Nat) (x : Option Nat) : zM := (u.1, u.2.1, fun b j => if b = a ∧ j = k then x else u.2.2 b j)
/-- an object: its class's number, its slots' kinds (0 an int, 1 a long, 2 a reference or null, j + 3 the cell j); an array: its kind (0 int, 1 boolean, 2 byte, 3 long, 4 and 5 of references), its length, where its references begin and in what steps -/
abbrev zS : Type := (Nat × List Nat) ⊕ (Nat × Nat × Nat × Nat)
def zr (as : Nat → Nat) : Value → Value
  | .ref k => .ref (as k)
  | v => v
def zfield (as : Nat → Nat) (u : zM) (a k : Nat) : Nat → Value
  | 0 => .int (gI u a k)
  | 1 => .long (gJ u a k)
  | 2 => va_rf ((gO u a k).map as)
  | j + 3 => .ref (as j)
def zarr (as : Nat → Nat) (u : zM) (a n b sd : Nat) : Nat → vp_A
  | 0 => (n, .inl (gI u a))
  | 1 => (n, .inl (gI u a))
  | 2 => (n, .inl (gI u a))
  | 3 => (n, .inr (.inl (gJ u a)))
  | _ => (n, .inr (.inr (.inr (.inr (fun j => some (as (b + sd * j)))))))
def zcell (as : Nat → Nat) (dA : Nat → ClassId) (u : zM) (a : Nat) : zS → va_E
  | .inl o => .inr (o.1, o.2.mapIdx (fun k kd => zfield as u a k kd))
  | .inr r => .inl (dA r.1, zarr as u a r.2.1 r.2.2.1 r.2.2.2 r.1)
def zw (as : Nat → Nat) (dA : Nat → ClassId) (SH : List zS) (u : zM) : va_W := SH.mapIdx (fun a S => (as a, zcell as dA u a S))
theorem zw_get {as : Nat → Nat} {dA : Nat → ClassId} {SH : List zS} {u : zM} {a : Nat} {S : zS} (h : SH[a]? = some S) : (zw as dA SH u)[a]? = some (as a, zcell as dA u a S) := by
  unfold zw
  rw [List.getElem?_mapIdx, h]
  rfl
theorem zw_has {as : Nat → Nat} {dA : Nat → ClassId} {SH : List zS} {u : zM} {a : Nat} {q : Nat × va_E} (h : (zw as dA SH u)[a]? = some q) : ∃ S, SH[a]? = some S ∧ q = (as a, zcell as dA u a S) := by
  unfold zw at h
  rw [List.getElem?_mapIdx] at h
  cases hS : SH[a]? with
  | none => rw [hS] at h; cases h
  | some S => rw [hS] at h; exact ⟨S, rfl, (Option.some.inj h).symm⟩
theorem zw_set {as : Nat → Nat} {dA : Nat → ClassId} {SH : List zS} {u u' : zM} {a : Nat} {S : zS} {e : va_E} (h : SH[a]? = some S) (he : e = zcell as dA u' a S) (ho : ∀ b S', b ≠ a → zcell as dA u' b S' = zcell as dA u b S') : (zw as dA SH u).set a (as a, e) = zw as dA SH u' := by
  apply List.ext_getElem?
  intro b
  rw [List.getElem?_set]
  by_cases hb : a = b
  · subst hb
    have hl : a < (zw as dA SH u).length := (List.getElem?_eq_some_iff.mp (zw_get h)).1
    rw [if_pos rfl, if_pos hl, zw_get h, he]
  · rw [if_neg hb]
    cases hS : SH[b]? with
    | none =>
      unfold zw
      rw [List.getElem?_mapIdx, List.getElem?_mapIdx, hS]
      rfl
    | some S' => rw [zw_get hS, zw_get hS, ho b S' (fun q => hb q.symm)]
theorem zfield_I {as : Nat → Nat} {u : zM} {a k : Nat} {x : Int32} {b j : Nat} (kd : Nat) (h : ¬ (b = a ∧ j = k)) : zfield as (sI u a k x) b j kd = zfield as u b j kd := by
  match kd with
  | 0 => show Value.int _ = Value.int _; unfold gI sI; dsimp only; rw [if_neg h]
  | 1 => rfl
  | 2 => rfl
  | _ + 3 => rfl
theorem zcell_I {as : Nat → Nat} {dA : Nat → ClassId} {u : zM} {a k : Nat} {x : Int32} (b : Nat) (S : zS) (h : b ≠ a) : zcell as dA (sI u a k x) b S = zcell as dA u b S := by
  cases S with
  | inl o =>
    have e : (fun j kd => zfield as (sI u a k x) b j kd) = fun j kd => zfield as u b j kd := by
      funext j kd
      exact zfield_I kd (fun q => h q.1)
    show Sum.inr (o.1, o.2.mapIdx (fun j kd => zfield as (sI u a k x) b j kd)) = Sum.inr (o.1, o.2.mapIdx (fun j kd => zfield as u b j kd))
    rw [e]
  | inr r =>
    show Sum.inl _ = Sum.inl _
    congr 2
    have e : gI (sI u a k x) b = gI u b := by funext j; unfold gI sI; dsimp only; rw [if_neg (fun q => h q.1)]
    obtain ⟨t, n, p, q⟩ := r
    dsimp only
    unfold zarr
    split <;> first | rw [e] | rfl
theorem zcell_J {as : Nat → Nat} {dA : Nat → ClassId} {u : zM} {a k : Nat} {x : Int64} (b : Nat) (S : zS) (h : b ≠ a) : zcell as dA (sJ u a k x) b S = zcell as dA u b S := by
  cases S with
  | inl o =>
    have e : (fun j kd => zfield as (sJ u a k x) b j kd) = fun j kd => zfield as u b j kd := by
      funext j kd
      match kd with
      | 0 => rfl
      | 1 => show Value.long _ = Value.long _; unfold gJ sJ; dsimp only; rw [if_neg (fun q => h q.1)]
      | 2 => rfl
      | _ + 3 => rfl
    show Sum.inr (o.1, o.2.mapIdx (fun j kd => zfield as (sJ u a k x) b j kd)) = Sum.inr (o.1, o.2.mapIdx (fun j kd => zfield as u b j kd))
    rw [e]
  | inr r =>
    show Sum.inl _ = Sum.inl _
    congr 2
    have e : gJ (sJ u a k x) b = gJ u b := by funext j; unfold gJ sJ; dsimp only; rw [if_neg (fun q => h q.1)]
    obtain ⟨t, n, p, q⟩ := r
    dsimp only
    unfold zarr
    split <;> first | rw [e] | rfl
theorem zcell_O {as : Nat → Nat} {dA : Nat → ClassId} {u : zM} {a k : Nat} {x : Option Nat} (b : Nat) (S : zS) (h : b ≠ a) : zcell as dA (sO u a k x) b S = zcell as dA u b S := by
  cases S with
  | inl o =>
    have e : (fun j kd => zfield as (sO u a k x) b j kd) = fun j kd => zfield as u b j kd := by
      funext j kd
      match kd with
      | 0 => rfl
      | 1 => rfl
      | 2 => show va_rf _ = va_rf _; unfold gO sO; dsimp only; rw [if_neg (fun q => h q.1)]
      | _ + 3 => rfl
    show Sum.inr (o.1, o.2.mapIdx (fun j kd => zfield as (sO u a k x) b j kd)) = Sum.inr (o.1, o.2.mapIdx (fun j kd => zfield as u b j kd))
    rw [e]
  | inr r => rfl
theorem zfs_set {as : Nat → Nat} {u u' : zM} {a k kd : Nat} {ks : List Nat} {v : Value} (hk : ks[k]? = some kd) (hv : v = zfield as u' a k kd) (ho : ∀ j kj, j ≠ k → zfield as u' a j kj = zfield as u a j kj) : (ks.mapIdx (fun j kj => zfield as u a j kj)).set k v = ks.mapIdx (fun j kj => zfield as u' a j kj) := by
  apply List.ext_getElem?
  intro j
  rw [List.getElem?_set]
  by_cases hj : k = j
  · subst hj
    have hl : k < (ks.mapIdx (fun j kj => zfield as u a j kj)).length := by rw [List.length_mapIdx]; exact (List.getElem?_eq_some_iff.mp hk).1
    rw [if_pos rfl, if_pos hl, List.getElem?_mapIdx, hk, hv]
    rfl
  · rw [if_neg hj, List.getElem?_mapIdx, List.getElem?_mapIdx]
    cases ks[j]? with
    | none => rfl
    | some kj => exact congrArg some (ho j kj (fun q => hj q.symm)).symm
/-- which cells a system may change -/
def zA (as : Nat → Nat) (n sz : Nat) : Nat → Prop := fun q => (∃ k : Nat, k < n ∧ q = as k) ∨ sz ≤ q
def zInj (as : Nat → Nat) (n : Nat) : Prop := ∀ i j : Nat, i < n → j < n → as i = as j → i = j
theorem zw_D {as : Nat → Nat} {dA : Nat → ClassId} {SH : List zS} {u : zM} {A : Nat → Prop} (hI : zInj as SH.length) (hA : ∀ k : Nat, k < SH.length → A (as k)) : va_D A (zw as dA SH u) := by
  refine ⟨fun i j p q hi hj e => ?_, fun k q hk => ?_⟩
  · obtain ⟨S, h1, rfl⟩ := zw_has hi
    obtain ⟨S', h2, rfl⟩ := zw_has hj
    exact hI i j (List.getElem?_eq_some_iff.mp h1).1 (List.getElem?_eq_some_iff.mp h2).1 e
  · obtain ⟨S, h1, rfl⟩ := zw_has hk
    exact hA k (List.getElem?_eq_some_iff.mp h1).1
theorem zw_DA {as : Nat → Nat} {dA : Nat → ClassId} {SH : List zS} {u : zM} {sz : Nat} (hI : zInj as SH.length) : va_D (zA as SH.length sz) (zw as dA SH u) := zw_D hI (fun k h => Or.inl ⟨k, h, rfl⟩)
/-- the kinds of arrays -/
def zty (dA : Nat → ClassId) : List (ClassId × FieldType) := [(dA 0, .int), (dA 1, .boolean), (dA 2, .byte), (dA 3, .long), (dA 4, .object "StruckWhile$Square"), (dA 5, .array .long)]
/-! ===== what stands outside: words of nests, static arrays, String constants ===== -/
def zIsNest : Cond → Bool
  | .methodLinkNest _ _ _ _ => true
  | .fieldLinkNest _ _ _ _ _ _ => true
  | _ => false
def zNest : List Cond := lw_tbl.filter zIsNest
theorem zn_at (i : Nat) {w : Cond} (h : lw_tbl[i]? = some w) (hg : zIsNest w = true) : w ∈ zNest := List.mem_filter.mpr ⟨List.mem_of_getElem? h, hg⟩
theorem zn_warm {w : Cond} (hw : w ∈ zNest) {s U : State} (hW : s.WarmedH U.vm) (h : va_Nw w s) : va_Nw w U := by
  have hk := (List.mem_filter.mp hw).2
  cases w <;> first | exact va_Nw.warmM hW h | exact va_Nw.warmF hW h | (cases hk)
theorem zn_same {w : Cond} (hw : w ∈ zNest) {u U : State} (hv : u.vm = U.vm) (h : va_Nw w u) : va_Nw w U := by
  have hk := (List.mem_filter.mp hw).2
  cases w <;> first | exact va_Nw.same rfl hv h | (cases hk)
theorem zn_use {w : Cond} (hw : w ∈ zNest) {a : Array Value} {U : State} (h : va_Nw w U) : w.before a U = true := by
  have hk := (List.mem_filter.mp hw).2
  cases w <;> first | exact va_Nw.use rfl h | (cases hk)
theorem zn_of {w : Cond} (hw : w ∈ zNest) {a : Array Value} {U : State} (h : w.before a U = true) : va_Nw w U := by
  have hk := (List.mem_filter.mp hw).2
  cases w <;> first | exact va_Nw.of rfl h | (cases hk)
/-- static arrays of ints: class, name, their numbers -/
def zSA : List (String × String × List Int32) := [("StruckWhile", "KIND_ABOVE", [-1, 0, 0, 0, 1, 2, 3]), ("StruckWhile$Acts", "BODIES", [10, 11, 12, 0, 20, 0, 30, 0, 0, 0, 0, 40, 50, 51, 0, 0, 0, 60, 71, 70, 0]), ("StruckWhile$Ahead", "ROWS_OF", [1, 1, 2, 6, 24])]
/-- String constants of the Reader: place, text, bytes -/
def zSK : List (Nat × String × List Int32) := [(42, "heat", [104, 101, 97, 116]), (81, "pkvhnm", [112, 107, 118, 104, 110, 109]), (87, "<=>", [60, 61, 62]), (52, "calm", [99, 97, 108, 109]), (54, "spark", [115, 112, 97, 114, 107])]
/-- what stands outside of all systems: the words of nests, static arrays (at 1000 ..), String constants (at 1010 ..), their bytes (at 1020 ..) -/
def zSt (as : Nat → Nat) (A : Nat → Prop) (U : State) : Prop :=
  (∀ w ∈ zNest, va_Nw w U) ∧ va_Z "java/lang/String" "COMPACT_STRINGS" "Z" (.int 1) A U U.heap ∧ va_Zq "jdk/internal/util/Preconditions" "SIOOBE_FORMATTER" "Ljava/util/function/BiFunction;" A U U.heap ∧
  (∀ (k : Nat) (q : String × String × List Int32), zSA[k]? = some q → va_Z q.1 q.2.1 "[I" (.ref (as (1000 + k))) A U U.heap ∧ va_T .int (as (1000 + k)) q.2.2.length (fun i => .int (q.2.2.getD i 0)) A U U.heap) ∧
  vk_S 5 (zSK.map (fun q => q.2.2.length)) (zSK.map (fun q => q.2.2)) (fun k => as (1010 + k)) (fun k => as (1020 + k)) A U U.heap ∧
  ∀ (k : Nat) (q : Nat × String × List Int32), zSK[k]? = some q → vk_R "StruckWhile$Reader" q.1 q.2.1 (as (1010 + k)) U
theorem zSt.same {as : Nat → Nat} {A : Nat → Prop} {u U : State} (hh : U.heap = u.heap) (hv : U.vm = u.vm) (h : zSt as A u) : zSt as A U := by
  have ha : u.vm.Alike U.vm := by rw [hv]; exact Vm.Alike.refl _
  obtain ⟨h1, h2, h3, h4, h5, h6⟩ := h
  refine ⟨fun w hw => zn_same hw hv.symm (h1 w hw), ?_, ?_, fun k q hk => ⟨?_, ?_⟩, ?_, fun k q hk => (h6 k q hk).same hv⟩ <;> rw [hh]
  · exact h2.moved ha
  · exact h3.moved ha
  · exact (h4 k q hk).1.moved ha
  · exact (h4 k q hk).2.moved ha
  · exact h5.moved ha
theorem zSt.call {as : Nat → Nat} {A B : Nat → Prop} {s U : State} {H : Heap} {locs : List Loc} (hU : U.heap = H) (hW : s.WarmedH U.vm) (hS : va_S A s.heap H locs) (hAB : ∀ q, B q → A q) (h : zSt as A s) : zSt as B U := by
  have ha : s.vm.Alike U.vm := hW.alike
  obtain ⟨h1, h2, h3, h4, h5, h6⟩ := h
  refine ⟨fun w hw => zn_warm hw hW (h1 w hw), ?_, ?_, fun k q hk => ⟨?_, ?_⟩, ?_, fun k q hk => (h6 k q hk).warm hW⟩ <;> rw [hU]
  · exact ((h2.kept hS.2.1).moved ha).narrow hAB
  · exact ((h3.kept hS.2.1).moved ha).narrow hAB
  · exact (((h4 k q hk).1.kept hS.2.1).moved ha).narrow hAB
  · exact (((h4 k q hk).2.kept hS.2.1).moved ha).narrow hAB
  · exact ((h5.kept hS.2.1).moved ha).narrow hAB
/-! ===== contracts ===== -/
def zRm (d : Nat) : Room := { frames := d, cells := 0, slots := 0, locals := 64 * d }
def zPre (as : Nat → Nat) (dA : Nat → ClassId) (D : va_G) (SH : List zS) (u : zM) (sz : Nat) (U : State) : Prop :=
  U.heap.size = sz ∧ va_P D zcl (zw as dA SH u) U.heap ∧ va_K D zcl (zty dA) U ∧ zInj as SH.length ∧ zSt as (zA as SH.length sz) U
def zPost (as : Nat → Nat) (dA : Nat → ClassId) (D : va_G) (SH : List zS) (u : zM) (t : State) : Prop := va_P D zcl (zw as dA SH u) t.heap ∧ va_K D zcl (zty dA) t
def zQi (as : Nat → Nat) (dA : Nat → ClassId) (D : va_G) (SH : List zS) (sz : Nat) (x : Int32) (u' : zM) : Array Value → State → Outcome → State → Prop :=
  va_Qi (fun (x' : Int32) (v : zM) => x' = x ∧ v = u') (fun v t => zPost as dA D SH v t) (zA as SH.length sz)
def zQl (as : Nat → Nat) (dA : Nat → ClassId) (D : va_G) (SH : List zS) (sz : Nat) (x : Int64) (u' : zM) : Array Value → State → Outcome → State → Prop :=
  va_Ql (fun (x' : Int64) (v : zM) => x' = x ∧ v = u') (fun v t => zPost as dA D SH v t) (zA as SH.length sz)
def zQv (as : Nat → Nat) (dA : Nat → ClassId) (D : va_G) (SH : List zS) (sz : Nat) (_ : Unit) (u' : zM) : Array Value → State → Outcome → State → Prop :=
  va_Qv (fun (v : zM) => v = u') (fun v t => zPost as dA D SH v t) (zA as SH.length sz)
/-- a reference that is answered: the cell's number -/
def zQr (as : Nat → Nat) (dA : Nat → ClassId) (D : va_G) (SH : List zS) (sz : Nat) (x : Nat) (u' : zM) : Array Value → State → Outcome → State → Prop :=
  va_Qr (fun (v : zM) => v = u') (fun v a t => a = as x ∧ zPost as dA D SH v t) (zA as SH.length sz)
def zMet {α : Type} (Qk : (Nat → Nat) → (Nat → ClassId) → va_G → List zS → Nat → α → zM → Array Value → State → Outcome → State → Prop) (SH : List zS) (y : MethodName) (bytes : ByteArray) (maxL : Nat) (rt : Option FieldType) (d : Nat) (av : List Value) (u : zM) (F : Option (α × zM)) : Prop :=
  ∀ (r : α) (u' : zM), F = some (r, u') → ∀ (l : Launch) (as : Nat → Nat) (dA : Nat → ClassId) (D : va_G) (sz : Nat), Met l y (.code y bytes maxL rt :: zTb) (zRm d) (va_Pc (av.map (zr as)) (zPre as dA D SH u sz)) (Qk as dA D SH sz r u') 0 0 (zA as SH.length sz)
/-- what holds in a method's frame -/
def zCx (p : Program) (s : State) (m : MethodId) (args : Array Value) (meth : Method) (c : Code) (as : Nat → Nat) (dA : Nat → ClassId) (D : va_G) (SH : List zS) (d : Nat) (nL : Nat) (own : String) (cc : ByteArray) (ret : Option FieldType) : Prop :=
  p.tables.exec = Jvm.exec ∧ c.code = cc ∧ c.maxLocals = nL ∧ s.vm.findClass own = some m.cls ∧ (∀ w ∈ zTb, w.before args s = true) ∧ meth.sig.returnType = ret ∧ meth.locks = false ∧ va_K D zcl (zty dA) s ∧ zInj as SH.length ∧ zSt as (zA as SH.length s.heap.size) s ∧ 1 ≤ d
def zL (as : Nat → Nat) (L : List (Nat × Value)) : List (Nat × Value) := L.map (fun q => (q.1, zr as q.2))
def Go (p : Program) (l : Launch) (e : Env) (s : State) (m : MethodId) (args : Array Value) (below : List Frame) (meth : Method) (c : Code) (as : Nat → Nat) (dA : Nat → ClassId) (D : va_G) (SH : List zS) (d : Nat) (nL : Nat) {α : Type} (Qk : (Nat → Nat) → (Nat → ClassId) → va_G → List zS → Nat → α → zM → Array Value → State → Outcome → State → Prop)
    (pc : Nat) (L : List (Nat × Value)) (st : List Value) (u : zM) (F : Option (α × zM)) : Prop :=
  ∀ (r : α) (u' : zM), F = some (r, u') → ∀ (H : Heap) (locs : List Loc) (ls : Array Slot), va_P D zcl (zw as dA SH u) H → va_S (zA as SH.length s.heap.size) s.heap H locs → lv_has ls nL (zL as L) →
    W p l e (zRm d) s m args below meth c H locs 0 0 (MQ below (Qk as dA D SH s.heap.size r u') args s 0 0 (zA as SH.length s.heap.size)) (F0 m pc ls (st.map (zr as)))
theorem zr_cat (as : Nat → Nat) (v : Value) : (zr as v).category = v.category := by cases v <;> rfl
theorem zL_at {as : Nat → Nat} {L : List (Nat × Value)} {k i : Nat} {v : Value} (h : L[k]? = some (i, v)) : (zL as L)[k]? = some (i, zr as v) := by
  unfold zL
  rw [List.getElem?_map, h]
  rfl
theorem zL_f1 (as : Nat → Nat) (i : Nat) : ∀ L : List (Nat × Value), (zL as L).filter (fun q => !(q.1 == i) && !(q.1 + 1 == i && q.2.category == 2)) = zL as (L.filter (fun q => !(q.1 == i) && !(q.1 + 1 == i && q.2.category == 2))) := by
  intro L
  unfold zL
  rw [List.filter_map]
  congr 1
  apply List.filter_congr
  intro q _
  show (!(q.1 == i) && !(q.1 + 1 == i && (zr as q.2).category == 2)) = _
  rw [zr_cat]
theorem zL_sub {as : Nat → Nat} {ls : Array Slot} {nL : Nat} {L L' : List (Nat × Value)} (h : lv_has ls nL (zL as L)) (ks : List Nat) (hl : lv_pick L ks = L') : lv_has ls nL (zL as L') := by
  refine lv_sub h ks ?_
  rw [← hl]
  unfold lv_pick zL
  rw [List.map_filterMap]
  congr 1
  funext k
  rw [List.getElem?_map]
end
section
/-! ===== one rule an instruction, over the memory ===== -/
section GoRules
variable {p : Program} {l : Launch} {e : Env} {s : State} {m : MethodId} {args : Array Value} {below : List Frame} {meth : Method} {c : Code} {as : Nat → Nat} {dA : Nat → ClassId} {D : va_G} {SH : List zS} {d nL : Nat} {α : Type} {Qk : (Nat → Nat) → (Nat → ClassId) → va_G → List zS → Nat → α → zM → Array Value → State → Outcome → State → Prop}
variable {own : String} {cc : ByteArray} {ret : Option FieldType} {pc : Nat} {L : List (Nat × Value)} {st : List Value} {u : zM} {F : Option (α × zM)}
def zck {β : Type} (b : Bool) (o : Option β) : Option β := if b = true then o else none
def zb {β γ : Type} (o : Option (β × zM)) (k : β → zM → Option γ) : Option γ := match o with
  | some q => k q.1 q.2
  | none => none
def zlet {γ : Type} (u : zM) (k : zM → Option γ) : Option γ := k u
def zlx {γ : Type} (x : Int32) (k : Int32 → Option γ) : Option γ := k x
def zly {γ : Type} (x : Int64) (k : Int64 → Option γ) : Option γ := k x
def zmo {γ : Type} (o : Option Nat) (k0 : Option γ) (k1 : Nat → Option γ) : Option γ := match o with
  | some x => k1 x
  | none => k0
def zrem (x y : Int32) : Int32 := x - x / y * y
def inB (i : Int32) (n : Nat) : Bool := decide (¬ (i < 0 ∨ n ≤ i.toNatClampNeg))
theorem inB_in {i : Int32} {n : Nat} (h : inB i n = true) : vp_in i n := by
  show ¬ (i < 0 ∨ n ≤ i.toNatClampNeg)
  unfold inB at h
  exact of_decide_eq_true h
theorem zck_some {β : Type} {b : Bool} {o : Option β} {r : β} (h : zck b o = some r) : b = true ∧ o = some r := by
  unfold zck at h
  split at h
  · exact ⟨by assumption, h⟩
  · cases h
theorem zb_some {β γ : Type} {o : Option (β × zM)} {k : β → zM → Option γ} {r : γ} (h : zb o k = some r) : ∃ x v, o = some (x, v) ∧ k x v = some r := by
  cases o with
  | none => cases h
  | some q => exact ⟨q.1, q.2, rfl, h⟩
theorem G_none : Go p l e s m args below meth c as dA D SH d nL Qk pc L st u none := fun _ _ h => by cases h
theorem G_ck {b : Bool} (k : b = true → Go p l e s m args below meth c as dA D SH d nL Qk pc L st u F) : Go p l e s m args below meth c as dA D SH d nL Qk pc L st u (zck b F) := fun r u' h => k (zck_some h).1 r u' (zck_some h).2
theorem G_if {P : Prop} [Decidable P] {F1 F2 : Option (α × zM)} (k1 : P → Go p l e s m args below meth c as dA D SH d nL Qk pc L st u F1) (k2 : ¬ P → Go p l e s m args below meth c as dA D SH d nL Qk pc L st u F2) : Go p l e s m args below meth c as dA D SH d nL Qk pc L st u (if P then F1 else F2) := by
  by_cases h : P
  · rw [if_pos h]; exact k1 h
  · rw [if_neg h]; exact k2 h
theorem G_topi {x : Int32} {F : Int32 → Option (α × zM)} (k : ∀ y : Int32, Go p l e s m args below meth c as dA D SH d nL Qk pc L (.int y :: st) u (F y)) : Go p l e s m args below meth c as dA D SH d nL Qk pc L (.int x :: st) u (zlx x F) := k x
theorem G_topl {x : Int64} {F : Int64 → Option (α × zM)} (k : ∀ y : Int64, Go p l e s m args below meth c as dA D SH d nL Qk pc L (.long y :: st) u (F y)) : Go p l e s m args below meth c as dA D SH d nL Qk pc L (.long x :: st) u (zly x F) := k x
theorem G_locals (ks : List Nat) {L' : List (Nat × Value)} (hl : lv_pick L ks = L') (k : Go p l e s m args below meth c as dA D SH d nL Qk pc L' st u F) : Go p l e s m args below meth c as dA D SH d nL Qk pc L st u F := fun r u' hF H locs ls hP hS h => k r u' hF H locs ls hP hS (zL_sub h ks hl)

theorem G_iconst (C : zCx p s m args meth c as dA D SH d nL own cc ret) {n : Int} {v : Int32} (hdg : decode cc pc = .ok (.iconst n, 1)) (hv : Int32.ofInt n = v) (k : Go p l e s m args below meth c as dA D SH d nL Qk  (pc + 1) L (.int v :: st) u F) : Go p l e s m args below meth c as dA D SH d nL Qk  pc L st u F := by
  obtain ⟨hx, hb, hml, hown, hts, hr, hlk, hK, hI, hZ, hd1⟩ := C
  intro r u' hF H locs ls hP hS hl
  exact lv_iconst hx hb hdg hv (k r u' hF H locs ls hP hS hl)
theorem G_bipush (C : zCx p s m args meth c as dA D SH d nL own cc ret) {n : Int} {v : Int32} (hdg : decode cc pc = .ok (.bipush n, 2)) (hv : (Int8.ofInt n).toInt32 = v) (k : Go p l e s m args below meth c as dA D SH d nL Qk  (pc + 2) L (.int v :: st) u F) : Go p l e s m args below meth c as dA D SH d nL Qk  pc L st u F := by
  obtain ⟨hx, hb, hml, hown, hts, hr, hlk, hK, hI, hZ, hd1⟩ := C
  intro r u' hF H locs ls hP hS hl
  exact lv_bipush hx hb hdg hv (k r u' hF H locs ls hP hS hl)
theorem G_sipush (C : zCx p s m args meth c as dA D SH d nL own cc ret) {n : Int} {v : Int32} (hdg : decode cc pc = .ok (.sipush n, 3)) (hv : (Int16.ofInt n).toInt32 = v) (k : Go p l e s m args below meth c as dA D SH d nL Qk  (pc + 3) L (.int v :: st) u F) : Go p l e s m args below meth c as dA D SH d nL Qk  pc L st u F := by
  obtain ⟨hx, hb, hml, hown, hts, hr, hlk, hK, hI, hZ, hd1⟩ := C
  intro r u' hF H locs ls hP hS hl
  exact lv_sipush hx hb hdg hv (k r u' hF H locs ls hP hS hl)
theorem G_lconst (C : zCx p s m args meth c as dA D SH d nL own cc ret) {n : Fin 2} {v : Int64} (hdg : decode cc pc = .ok (.lconst n, 1)) (hv : Int64.ofNat (n : Nat) = v) (k : Go p l e s m args below meth c as dA D SH d nL Qk  (pc + 1) L (.long v :: st) u F) : Go p l e s m args below meth c as dA D SH d nL Qk  pc L st u F := by
  obtain ⟨hx, hb, hml, hown, hts, hr, hlk, hK, hI, hZ, hd1⟩ := C
  intro r u' hF H locs ls hP hS hl
  exact lv_lconst hx hb hdg hv (k r u' hF H locs ls hP hS hl)
theorem G_ldc (C : zCx p s m args meth c as dA D SH d nL own cc ret) {index : Nat} {v : Int32} (hdg : decode cc pc = .ok (.ldc index, 2)) (hc : Cond.constant own index v ∈ zTb) (k : Go p l e s m args below meth c as dA D SH d nL Qk  (pc + 2) L (.int v :: st) u F) : Go p l e s m args below meth c as dA D SH d nL Qk  pc L st u F := by
  obtain ⟨hx, hb, hml, hown, hts, hr, hlk, hK, hI, hZ, hd1⟩ := C
  intro r u' hF H locs ls hP hS hl
  exact lv_ldc hx hb hown (hts _ hc) hdg (k r u' hF H locs ls hP hS hl)
theorem G_ldc2 (C : zCx p s m args meth c as dA D SH d nL own cc ret) {index : Nat} {v : Int64} (hdg : decode cc pc = .ok (.ldc2_w index, 3)) (hc : Cond.constantLong own index v ∈ zTb) (k : Go p l e s m args below meth c as dA D SH d nL Qk  (pc + 3) L (.long v :: st) u F) : Go p l e s m args below meth c as dA D SH d nL Qk  pc L st u F := by
  obtain ⟨hx, hb, hml, hown, hts, hr, hlk, hK, hI, hZ, hd1⟩ := C
  intro r u' hF H locs ls hP hS hl
  exact lv_ldc2 hx hb hown (hts _ hc) hdg (k r u' hF H locs ls hP hS hl)
theorem G_iadd (C : zCx p s m args meth c as dA D SH d nL own cc ret) {x y : Int32} (hdg : decode cc pc = .ok (.iadd, 1)) (k : Go p l e s m args below meth c as dA D SH d nL Qk  (pc + 1) L (.int (x + y) :: st) u F) : Go p l e s m args below meth c as dA D SH d nL Qk  pc L (.int y :: .int x :: st) u F := by
  obtain ⟨hx, hb, hml, hown, hts, hr, hlk, hK, hI, hZ, hd1⟩ := C
  intro r u' hF H locs ls hP hS hl
  exact lv_iadd hx hb hdg (k r u' hF H locs ls hP hS hl)
theorem G_isub (C : zCx p s m args meth c as dA D SH d nL own cc ret) {x y : Int32} (hdg : decode cc pc = .ok (.isub, 1)) (k : Go p l e s m args below meth c as dA D SH d nL Qk  (pc + 1) L (.int (x - y) :: st) u F) : Go p l e s m args below meth c as dA D SH d nL Qk  pc L (.int y :: .int x :: st) u F := by
  obtain ⟨hx, hb, hml, hown, hts, hr, hlk, hK, hI, hZ, hd1⟩ := C
  intro r u' hF H locs ls hP hS hl
  exact lv_isub hx hb hdg (k r u' hF H locs ls hP hS hl)
theorem G_imul (C : zCx p s m args meth c as dA D SH d nL own cc ret) {x y : Int32} (hdg : decode cc pc = .ok (.imul, 1)) (k : Go p l e s m args below meth c as dA D SH d nL Qk  (pc + 1) L (.int (x * y) :: st) u F) : Go p l e s m args below meth c as dA D SH d nL Qk  pc L (.int y :: .int x :: st) u F := by
  obtain ⟨hx, hb, hml, hown, hts, hr, hlk, hK, hI, hZ, hd1⟩ := C
  intro r u' hF H locs ls hP hS hl
  exact lv_imul hx hb hdg (k r u' hF H locs ls hP hS hl)
theorem G_iand (C : zCx p s m args meth c as dA D SH d nL own cc ret) {x y : Int32} (hdg : decode cc pc = .ok (.iand, 1)) (k : Go p l e s m args below meth c as dA D SH d nL Qk  (pc + 1) L (.int (x &&& y) :: st) u F) : Go p l e s m args below meth c as dA D SH d nL Qk  pc L (.int y :: .int x :: st) u F := by
  obtain ⟨hx, hb, hml, hown, hts, hr, hlk, hK, hI, hZ, hd1⟩ := C
  intro r u' hF H locs ls hP hS hl
  exact lv_iand hx hb hdg (k r u' hF H locs ls hP hS hl)
theorem G_ior (C : zCx p s m args meth c as dA D SH d nL own cc ret) {x y : Int32} (hdg : decode cc pc = .ok (.ior, 1)) (k : Go p l e s m args below meth c as dA D SH d nL Qk  (pc + 1) L (.int (x ||| y) :: st) u F) : Go p l e s m args below meth c as dA D SH d nL Qk  pc L (.int y :: .int x :: st) u F := by
  obtain ⟨hx, hb, hml, hown, hts, hr, hlk, hK, hI, hZ, hd1⟩ := C
  intro r u' hF H locs ls hP hS hl
  exact lv_ior hx hb hdg (k r u' hF H locs ls hP hS hl)
theorem G_ixor (C : zCx p s m args meth c as dA D SH d nL own cc ret) {x y : Int32} (hdg : decode cc pc = .ok (.ixor, 1)) (k : Go p l e s m args below meth c as dA D SH d nL Qk  (pc + 1) L (.int (x ^^^ y) :: st) u F) : Go p l e s m args below meth c as dA D SH d nL Qk  pc L (.int y :: .int x :: st) u F := by
  obtain ⟨hx, hb, hml, hown, hts, hr, hlk, hK, hI, hZ, hd1⟩ := C
  intro r u' hF H locs ls hP hS hl
  exact lv_ixor hx hb hdg (k r u' hF H locs ls hP hS hl)
theorem G_idiv (C : zCx p s m args meth c as dA D SH d nL own cc ret) {x y : Int32} (hdg : decode cc pc = .ok (.idiv, 1)) (hne : ¬ y = 0) (k : Go p l e s m args below meth c as dA D SH d nL Qk  (pc + 1) L (.int (x / y) :: st) u F) : Go p l e s m args below meth c as dA D SH d nL Qk  pc L (.int y :: .int x :: st) u F := by
  obtain ⟨hx, hb, hml, hown, hts, hr, hlk, hK, hI, hZ, hd1⟩ := C
  intro r u' hF H locs ls hP hS hl
  exact lv_idiv hx hb hdg hne (k r u' hF H locs ls hP hS hl)
theorem G_irem (C : zCx p s m args meth c as dA D SH d nL own cc ret) {x y : Int32} (hdg : decode cc pc = .ok (.irem, 1)) (hne : ¬ y = 0) (k : Go p l e s m args below meth c as dA D SH d nL Qk  (pc + 1) L (.int (zrem x y) :: st) u F) : Go p l e s m args below meth c as dA D SH d nL Qk  pc L (.int y :: .int x :: st) u F := by
  obtain ⟨hx, hb, hml, hown, hts, hr, hlk, hK, hI, hZ, hd1⟩ := C
  intro r u' hF H locs ls hP hS hl
  exact lv_irem hx hb hdg hne (k r u' hF H locs ls hP hS hl)
theorem G_ineg (C : zCx p s m args meth c as dA D SH d nL own cc ret) {x : Int32} (hdg : decode cc pc = .ok (.ineg, 1)) (k : Go p l e s m args below meth c as dA D SH d nL Qk  (pc + 1) L (.int (-x) :: st) u F) : Go p l e s m args below meth c as dA D SH d nL Qk  pc L (.int x :: st) u F := by
  obtain ⟨hx, hb, hml, hown, hts, hr, hlk, hK, hI, hZ, hd1⟩ := C
  intro r u' hF H locs ls hP hS hl
  exact lv_ineg hx hb hdg (k r u' hF H locs ls hP hS hl)
theorem G_ishl (C : zCx p s m args meth c as dA D SH d nL own cc ret) {x y : Int32} (hdg : decode cc pc = .ok (.ishl, 1)) (k : Go p l e s m args below meth c as dA D SH d nL Qk  (pc + 1) L (.int (x <<< (y &&& 31)) :: st) u F) : Go p l e s m args below meth c as dA D SH d nL Qk  pc L (.int y :: .int x :: st) u F := by
  obtain ⟨hx, hb, hml, hown, hts, hr, hlk, hK, hI, hZ, hd1⟩ := C
  intro r u' hF H locs ls hP hS hl
  exact lv_ishl hx hb hdg (k r u' hF H locs ls hP hS hl)
theorem G_ishr (C : zCx p s m args meth c as dA D SH d nL own cc ret) {x y : Int32} (hdg : decode cc pc = .ok (.ishr, 1)) (k : Go p l e s m args below meth c as dA D SH d nL Qk  (pc + 1) L (.int (x >>> (y &&& 31)) :: st) u F) : Go p l e s m args below meth c as dA D SH d nL Qk  pc L (.int y :: .int x :: st) u F := by
  obtain ⟨hx, hb, hml, hown, hts, hr, hlk, hK, hI, hZ, hd1⟩ := C
  intro r u' hF H locs ls hP hS hl
  exact lv_ishr hx hb hdg (k r u' hF H locs ls hP hS hl)
theorem G_iushr (C : zCx p s m args meth c as dA D SH d nL own cc ret) {x y : Int32} (hdg : decode cc pc = .ok (.iushr, 1)) (k : Go p l e s m args below meth c as dA D SH d nL Qk  (pc + 1) L (.int ((x.toUInt32 >>> (y.toUInt32 &&& Int32.toUInt32 31)).toInt32) :: st) u F) : Go p l e s m args below meth c as dA D SH d nL Qk  pc L (.int y :: .int x :: st) u F := by
  obtain ⟨hx, hb, hml, hown, hts, hr, hlk, hK, hI, hZ, hd1⟩ := C
  intro r u' hF H locs ls hP hS hl
  exact lv_iushr hx hb hdg rfl (k r u' hF H locs ls hP hS hl)
theorem G_ladd (C : zCx p s m args meth c as dA D SH d nL own cc ret) {x y : Int64} (hdg : decode cc pc = .ok (.ladd, 1)) (k : Go p l e s m args below meth c as dA D SH d nL Qk  (pc + 1) L (.long (x + y) :: st) u F) : Go p l e s m args below meth c as dA D SH d nL Qk  pc L (.long y :: .long x :: st) u F := by
  obtain ⟨hx, hb, hml, hown, hts, hr, hlk, hK, hI, hZ, hd1⟩ := C
  intro r u' hF H locs ls hP hS hl
  exact lv_ladd hx hb hdg (k r u' hF H locs ls hP hS hl)
theorem G_land (C : zCx p s m args meth c as dA D SH d nL own cc ret) {x y : Int64} (hdg : decode cc pc = .ok (.land, 1)) (k : Go p l e s m args below meth c as dA D SH d nL Qk  (pc + 1) L (.long (x &&& y) :: st) u F) : Go p l e s m args below meth c as dA D SH d nL Qk  pc L (.long y :: .long x :: st) u F := by
  obtain ⟨hx, hb, hml, hown, hts, hr, hlk, hK, hI, hZ, hd1⟩ := C
  intro r u' hF H locs ls hP hS hl
  exact lv_land hx hb hdg (k r u' hF H locs ls hP hS hl)
theorem G_lor (C : zCx p s m args meth c as dA D SH d nL own cc ret) {x y : Int64} (hdg : decode cc pc = .ok (.lor, 1)) (k : Go p l e s m args below meth c as dA D SH d nL Qk  (pc + 1) L (.long (x ||| y) :: st) u F) : Go p l e s m args below meth c as dA D SH d nL Qk  pc L (.long y :: .long x :: st) u F := by
  obtain ⟨hx, hb, hml, hown, hts, hr, hlk, hK, hI, hZ, hd1⟩ := C
  intro r u' hF H locs ls hP hS hl
  exact lv_lor hx hb hdg (k r u' hF H locs ls hP hS hl)
theorem G_lshl (C : zCx p s m args meth c as dA D SH d nL own cc ret) {x : Int64} {y : Int32} (hdg : decode cc pc = .ok (.lshl, 1)) (k : Go p l e s m args below meth c as dA D SH d nL Qk  (pc + 1) L (.long (x <<< (y.toInt64 &&& 63)) :: st) u F) : Go p l e s m args below meth c as dA D SH d nL Qk  pc L (.int y :: .long x :: st) u F := by
  obtain ⟨hx, hb, hml, hown, hts, hr, hlk, hK, hI, hZ, hd1⟩ := C
  intro r u' hF H locs ls hP hS hl
  exact lv_lshl hx hb hdg rfl (k r u' hF H locs ls hP hS hl)
theorem G_i2b (C : zCx p s m args meth c as dA D SH d nL own cc ret) {x : Int32} (hdg : decode cc pc = .ok (.i2b, 1)) (k : Go p l e s m args below meth c as dA D SH d nL Qk  (pc + 1) L (.int (x.toInt8.toInt32) :: st) u F) : Go p l e s m args below meth c as dA D SH d nL Qk  pc L (.int x :: st) u F := by
  obtain ⟨hx, hb, hml, hown, hts, hr, hlk, hK, hI, hZ, hd1⟩ := C
  intro r u' hF H locs ls hP hS hl
  exact lv_i2b hx hb hdg rfl (k r u' hF H locs ls hP hS hl)
theorem G_i2s (C : zCx p s m args meth c as dA D SH d nL own cc ret) {x : Int32} (hdg : decode cc pc = .ok (.i2s, 1)) (k : Go p l e s m args below meth c as dA D SH d nL Qk  (pc + 1) L (.int (x.toInt16.toInt32) :: st) u F) : Go p l e s m args below meth c as dA D SH d nL Qk  pc L (.int x :: st) u F := by
  obtain ⟨hx, hb, hml, hown, hts, hr, hlk, hK, hI, hZ, hd1⟩ := C
  intro r u' hF H locs ls hP hS hl
  exact lv_i2s hx hb hdg rfl (k r u' hF H locs ls hP hS hl)
theorem G_i2c (C : zCx p s m args meth c as dA D SH d nL own cc ret) {x : Int32} (hdg : decode cc pc = .ok (.i2c, 1)) (k : Go p l e s m args below meth c as dA D SH d nL Qk  (pc + 1) L (.int ((x.toUInt32 % 65536).toInt32) :: st) u F) : Go p l e s m args below meth c as dA D SH d nL Qk  pc L (.int x :: st) u F := by
  obtain ⟨hx, hb, hml, hown, hts, hr, hlk, hK, hI, hZ, hd1⟩ := C
  intro r u' hF H locs ls hP hS hl
  exact lv_i2c hx hb hdg rfl (k r u' hF H locs ls hP hS hl)
theorem G_i2l (C : zCx p s m args meth c as dA D SH d nL own cc ret) {x : Int32} (hdg : decode cc pc = .ok (.i2l, 1)) (k : Go p l e s m args below meth c as dA D SH d nL Qk  (pc + 1) L (.long x.toInt64 :: st) u F) : Go p l e s m args below meth c as dA D SH d nL Qk  pc L (.int x :: st) u F := by
  obtain ⟨hx, hb, hml, hown, hts, hr, hlk, hK, hI, hZ, hd1⟩ := C
  intro r u' hF H locs ls hP hS hl
  exact lv_i2l hx hb hdg rfl (k r u' hF H locs ls hP hS hl)
theorem G_l2i (C : zCx p s m args meth c as dA D SH d nL own cc ret) {x : Int64} (hdg : decode cc pc = .ok (.l2i, 1)) (k : Go p l e s m args below meth c as dA D SH d nL Qk  (pc + 1) L (.int x.toInt32 :: st) u F) : Go p l e s m args below meth c as dA D SH d nL Qk  pc L (.long x :: st) u F := by
  obtain ⟨hx, hb, hml, hown, hts, hr, hlk, hK, hI, hZ, hd1⟩ := C
  intro r u' hF H locs ls hP hS hl
  exact lv_l2i hx hb hdg rfl (k r u' hF H locs ls hP hS hl)
theorem G_lcmp (C : zCx p s m args meth c as dA D SH d nL own cc ret) {x y : Int64} (hdg : decode cc pc = .ok (.lcmp, 1)) (k : Go p l e s m args below meth c as dA D SH d nL Qk  (pc + 1) L (.int (lg_cmp x y) :: st) u F) : Go p l e s m args below meth c as dA D SH d nL Qk  pc L (.long y :: .long x :: st) u F := by
  obtain ⟨hx, hb, hml, hown, hts, hr, hlk, hK, hI, hZ, hd1⟩ := C
  intro r u' hF H locs ls hP hS hl
  exact W.lcmp hx hb hdg (k r u' hF H locs ls hP hS hl)
theorem G_dup (C : zCx p s m args meth c as dA D SH d nL own cc ret) {v : Value} (hdg : decode cc pc = .ok (.dup, 1)) (hv : v.category = 1) (k : Go p l e s m args below meth c as dA D SH d nL Qk  (pc + 1) L (v :: v :: st) u F) : Go p l e s m args below meth c as dA D SH d nL Qk  pc L (v :: st) u F := by
  obtain ⟨hx, hb, hml, hown, hts, hr, hlk, hK, hI, hZ, hd1⟩ := C
  intro r u' hF H locs ls hP hS hl
  exact lv_dup hx hb hdg ((zr_cat as v).trans hv) (k r u' hF H locs ls hP hS hl)
theorem G_dup2 (C : zCx p s m args meth c as dA D SH d nL own cc ret) {v w : Value} (hdg : decode cc pc = .ok (.dup2, 1)) (hv : v.category = 1) (hw : w.category = 1) (k : Go p l e s m args below meth c as dA D SH d nL Qk  (pc + 1) L (v :: w :: v :: w :: st) u F) : Go p l e s m args below meth c as dA D SH d nL Qk  pc L (v :: w :: st) u F := by
  obtain ⟨hx, hb, hml, hown, hts, hr, hlk, hK, hI, hZ, hd1⟩ := C
  intro r u' hF H locs ls hP hS hl
  exact lv_dup2_11 hx hb hdg ((zr_cat as v).trans hv) ((zr_cat as w).trans hw) (k r u' hF H locs ls hP hS hl)
theorem G_pop (C : zCx p s m args meth c as dA D SH d nL own cc ret) {v : Value} (hdg : decode cc pc = .ok (.pop, 1)) (hv : v.category = 1) (k : Go p l e s m args below meth c as dA D SH d nL Qk  (pc + 1) L st u F) : Go p l e s m args below meth c as dA D SH d nL Qk  pc L (v :: st) u F := by
  obtain ⟨hx, hb, hml, hown, hts, hr, hlk, hK, hI, hZ, hd1⟩ := C
  intro r u' hF H locs ls hP hS hl
  exact lv_pop hx hb hdg ((zr_cat as v).trans hv) (k r u' hF H locs ls hP hS hl)
theorem G_null (C : zCx p s m args meth c as dA D SH d nL own cc ret) (hdg : decode cc pc = .ok (.aconst_null, 1)) (k : Go p l e s m args below meth c as dA D SH d nL Qk  (pc + 1) L (.null :: st) u F) : Go p l e s m args below meth c as dA D SH d nL Qk  pc L st u F := by
  obtain ⟨hx, hb, hml, hown, hts, hr, hlk, hK, hI, hZ, hd1⟩ := C
  intro r u' hF H locs ls hP hS hl
  exact lv_null hx hb hdg (k r u' hF H locs ls hP hS hl)
theorem G_iload_n (C : zCx p s m args meth c as dA D SH d nL own cc ret) {n : Fin 4} {i : Nat} {x : Int32} (q : Nat) (hdg : decode cc pc = .ok (.iload_n n, 1)) (hi : (n : Nat) = i) (hq : L[q]? = some (i, .int x)) (k : Go p l e s m args below meth c as dA D SH d nL Qk  (pc + 1) L (.int x :: st) u F) : Go p l e s m args below meth c as dA D SH d nL Qk  pc L st u F := by
  obtain ⟨hx, hb, hml, hown, hts, hr, hlk, hK, hI, hZ, hd1⟩ := C
  intro r u' hF H locs ls hP hS hl
  exact lv_iload_n hx hb hdg hi (lv_at hl q (zL_at hq)) (k r u' hF H locs ls hP hS hl)
theorem G_iload (C : zCx p s m args meth c as dA D SH d nL own cc ret) {i : Nat} {x : Int32} (q : Nat) (hdg : decode cc pc = .ok (.iload i, 2)) (hq : L[q]? = some (i, .int x)) (k : Go p l e s m args below meth c as dA D SH d nL Qk  (pc + 2) L (.int x :: st) u F) : Go p l e s m args below meth c as dA D SH d nL Qk  pc L st u F := by
  obtain ⟨hx, hb, hml, hown, hts, hr, hlk, hK, hI, hZ, hd1⟩ := C
  intro r u' hF H locs ls hP hS hl
  exact lv_iload hx hb hdg (lv_at hl q (zL_at hq)) (k r u' hF H locs ls hP hS hl)
theorem G_lload_n (C : zCx p s m args meth c as dA D SH d nL own cc ret) {n : Fin 4} {i : Nat} {x : Int64} (q : Nat) (hdg : decode cc pc = .ok (.lload_n n, 1)) (hi : (n : Nat) = i) (hq : L[q]? = some (i, .long x)) (k : Go p l e s m args below meth c as dA D SH d nL Qk  (pc + 1) L (.long x :: st) u F) : Go p l e s m args below meth c as dA D SH d nL Qk  pc L st u F := by
  obtain ⟨hx, hb, hml, hown, hts, hr, hlk, hK, hI, hZ, hd1⟩ := C
  intro r u' hF H locs ls hP hS hl
  exact lv_lload_n hx hb hdg hi (lv_at hl q (zL_at hq)) (k r u' hF H locs ls hP hS hl)
theorem G_lload (C : zCx p s m args meth c as dA D SH d nL own cc ret) {i : Nat} {x : Int64} (q : Nat) (hdg : decode cc pc = .ok (.lload i, 2)) (hq : L[q]? = some (i, .long x)) (k : Go p l e s m args below meth c as dA D SH d nL Qk  (pc + 2) L (.long x :: st) u F) : Go p l e s m args below meth c as dA D SH d nL Qk  pc L st u F := by
  obtain ⟨hx, hb, hml, hown, hts, hr, hlk, hK, hI, hZ, hd1⟩ := C
  intro r u' hF H locs ls hP hS hl
  exact lv_lload hx hb hdg (lv_at hl q (zL_at hq)) (k r u' hF H locs ls hP hS hl)
theorem G_aload_n (C : zCx p s m args meth c as dA D SH d nL own cc ret) {n : Fin 4} {i : Nat} {x : Nat} (q : Nat) (hdg : decode cc pc = .ok (.aload_n n, 1)) (hi : (n : Nat) = i) (hq : L[q]? = some (i, .ref x)) (k : Go p l e s m args below meth c as dA D SH d nL Qk  (pc + 1) L (.ref x :: st) u F) : Go p l e s m args below meth c as dA D SH d nL Qk  pc L st u F := by
  obtain ⟨hx, hb, hml, hown, hts, hr, hlk, hK, hI, hZ, hd1⟩ := C
  intro r u' hF H locs ls hP hS hl
  exact lv_aload_n hx hb hdg hi (lv_at hl q (zL_at hq)) (k r u' hF H locs ls hP hS hl)
theorem G_aload (C : zCx p s m args meth c as dA D SH d nL own cc ret) {i : Nat} {x : Nat} (q : Nat) (hdg : decode cc pc = .ok (.aload i, 2)) (hq : L[q]? = some (i, .ref x)) (k : Go p l e s m args below meth c as dA D SH d nL Qk  (pc + 2) L (.ref x :: st) u F) : Go p l e s m args below meth c as dA D SH d nL Qk  pc L st u F := by
  obtain ⟨hx, hb, hml, hown, hts, hr, hlk, hK, hI, hZ, hd1⟩ := C
  intro r u' hF H locs ls hP hS hl
  exact lv_aload hx hb hdg (lv_at hl q (zL_at hq)) (k r u' hF H locs ls hP hS hl)
theorem G_istore_n (C : zCx p s m args meth c as dA D SH d nL own cc ret) {n : Fin 4} {i : Nat} {x : Int32} {L' : List (Nat × Value)} (hdg : decode cc pc = .ok (.istore_n n, 1)) (hi : (n : Nat) = i) (hn : i < nL) (hL : (i, Value.int x) :: (L.filter (fun q => !(q.1 == i) && !(q.1 + 1 == i && q.2.category == 2))) = L') (k : Go p l e s m args below meth c as dA D SH d nL Qk  (pc + 1) L' st u F) : Go p l e s m args below meth c as dA D SH d nL Qk  pc L (.int x :: st) u F := by
  obtain ⟨hx, hb, hml, hown, hts, hr, hlk, hK, hI, hZ, hd1⟩ := C
  intro r u' hF H locs ls hP hS hl
  subst hL
  exact lv_istore_n hx hb hdg hi hl hn (congrArg _ (zL_f1 as i L)) (fun ls' hl' => k r u' hF H locs ls' hP hS hl')
theorem G_istore (C : zCx p s m args meth c as dA D SH d nL own cc ret) {i : Nat} {x : Int32} {L' : List (Nat × Value)} (hdg : decode cc pc = .ok (.istore i, 2)) (hn : i < nL) (hL : (i, Value.int x) :: (L.filter (fun q => !(q.1 == i) && !(q.1 + 1 == i && q.2.category == 2))) = L') (k : Go p l e s m args below meth c as dA D SH d nL Qk  (pc + 2) L' st u F) : Go p l e s m args below meth c as dA D SH d nL Qk  pc L (.int x :: st) u F := by
  obtain ⟨hx, hb, hml, hown, hts, hr, hlk, hK, hI, hZ, hd1⟩ := C
  intro r u' hF H locs ls hP hS hl
  subst hL
  exact lv_istore hx hb hdg hl hn (congrArg _ (zL_f1 as i L)) (fun ls' hl' => k r u' hF H locs ls' hP hS hl')
theorem G_astore_n (C : zCx p s m args meth c as dA D SH d nL own cc ret) {n : Fin 4} {i : Nat} {x : Nat} {L' : List (Nat × Value)} (hdg : decode cc pc = .ok (.astore_n n, 1)) (hi : (n : Nat) = i) (hn : i < nL) (hL : (i, Value.ref x) :: (L.filter (fun q => !(q.1 == i) && !(q.1 + 1 == i && q.2.category == 2))) = L') (k : Go p l e s m args below meth c as dA D SH d nL Qk  (pc + 1) L' st u F) : Go p l e s m args below meth c as dA D SH d nL Qk  pc L (.ref x :: st) u F := by
  obtain ⟨hx, hb, hml, hown, hts, hr, hlk, hK, hI, hZ, hd1⟩ := C
  intro r u' hF H locs ls hP hS hl
  subst hL
  exact lv_astore_n hx hb hdg hi hl hn (congrArg _ (zL_f1 as i L)) (fun ls' hl' => k r u' hF H locs ls' hP hS hl')
theorem G_astore (C : zCx p s m args meth c as dA D SH d nL own cc ret) {i : Nat} {x : Nat} {L' : List (Nat × Value)} (hdg : decode cc pc = .ok (.astore i, 2)) (hn : i < nL) (hL : (i, Value.ref x) :: (L.filter (fun q => !(q.1 == i) && !(q.1 + 1 == i && q.2.category == 2))) = L') (k : Go p l e s m args below meth c as dA D SH d nL Qk  (pc + 2) L' st u F) : Go p l e s m args below meth c as dA D SH d nL Qk  pc L (.ref x :: st) u F := by
  obtain ⟨hx, hb, hml, hown, hts, hr, hlk, hK, hI, hZ, hd1⟩ := C
  intro r u' hF H locs ls hP hS hl
  subst hL
  exact lv_astore hx hb hdg hl hn (congrArg _ (zL_f1 as i L)) (fun ls' hl' => k r u' hF H locs ls' hP hS hl')
theorem G_iinc (C : zCx p s m args meth c as dA D SH d nL own cc ret) {i : Nat} {n : Int} {x v : Int32} {L' : List (Nat × Value)} (q : Nat) (hdg : decode cc pc = .ok (.iinc i n, 3)) (hq : L[q]? = some (i, .int x)) (hv : Int32.ofInt n = v) (hn : i < nL) (hL : (i, Value.int (x + v)) :: (L.filter (fun q => !(q.1 == i) && !(q.1 + 1 == i && q.2.category == 2))) = L') (k : Go p l e s m args below meth c as dA D SH d nL Qk  (pc + 3) L' st u F) : Go p l e s m args below meth c as dA D SH d nL Qk  pc L st u F := by
  obtain ⟨hx, hb, hml, hown, hts, hr, hlk, hK, hI, hZ, hd1⟩ := C
  intro r u' hF H locs ls hP hS hl
  subst hL; subst hv
  exact lv_iinc hx hb hdg hl (zL_at hq) rfl hn (congrArg _ (zL_f1 as i L)) (fun ls' hl' => k r u' hF H locs ls' hP hS hl')
theorem G_if_eq (C : zCx p s m args meth c as dA D SH d nL own cc ret) {x : Int32} {off : Int} {tgt : Nat} {F1 F2 : Option (α × zM)} (hdg : decode cc pc = .ok (.ifCond .eq off, 3)) (ht : (pc : Int) + off = (tgt : Int)) (k1 : (x = 0) → Go p l e s m args below meth c as dA D SH d nL Qk  tgt L st u F1) (k2 : ¬ (x = 0) → Go p l e s m args below meth c as dA D SH d nL Qk  (pc + 3) L st u F2) : Go p l e s m args below meth c as dA D SH d nL Qk  pc L (.int x :: st) u (if (x = 0) then F1 else F2) := by
  obtain ⟨hx, hb, hml, hown, hts, hr, hlk, hK, hI, hZ, hd1⟩ := C
  intro r u' hF H locs ls hP hS hl
  refine lv_if_eq hx hb hdg ht (fun h => ?_) (fun h => ?_)
  · exact k1 h r u' (by rw [if_pos h] at hF; exact hF) H locs ls hP hS hl
  · exact k2 h r u' (by rw [if_neg h] at hF; exact hF) H locs ls hP hS hl
theorem G_icmp_eq (C : zCx p s m args meth c as dA D SH d nL own cc ret) {x y : Int32} {off : Int} {tgt : Nat} {F1 F2 : Option (α × zM)} (hdg : decode cc pc = .ok (.if_icmp .eq off, 3)) (ht : (pc : Int) + off = (tgt : Int)) (k1 : (x = y) → Go p l e s m args below meth c as dA D SH d nL Qk  tgt L st u F1) (k2 : ¬ (x = y) → Go p l e s m args below meth c as dA D SH d nL Qk  (pc + 3) L st u F2) : Go p l e s m args below meth c as dA D SH d nL Qk  pc L (.int y :: .int x :: st) u (if (x = y) then F1 else F2) := by
  obtain ⟨hx, hb, hml, hown, hts, hr, hlk, hK, hI, hZ, hd1⟩ := C
  intro r u' hF H locs ls hP hS hl
  refine lv_icmp_eq hx hb hdg ht (fun h => ?_) (fun h => ?_)
  · exact k1 h r u' (by rw [if_pos h] at hF; exact hF) H locs ls hP hS hl
  · exact k2 h r u' (by rw [if_neg h] at hF; exact hF) H locs ls hP hS hl
theorem G_if_ne (C : zCx p s m args meth c as dA D SH d nL own cc ret) {x : Int32} {off : Int} {tgt : Nat} {F1 F2 : Option (α × zM)} (hdg : decode cc pc = .ok (.ifCond .ne off, 3)) (ht : (pc : Int) + off = (tgt : Int)) (k1 : ¬ (x = 0) → Go p l e s m args below meth c as dA D SH d nL Qk  tgt L st u F1) (k2 : (x = 0) → Go p l e s m args below meth c as dA D SH d nL Qk  (pc + 3) L st u F2) : Go p l e s m args below meth c as dA D SH d nL Qk  pc L (.int x :: st) u (if (x = 0) then F2 else F1) := by
  obtain ⟨hx, hb, hml, hown, hts, hr, hlk, hK, hI, hZ, hd1⟩ := C
  intro r u' hF H locs ls hP hS hl
  refine lv_if_ne hx hb hdg ht (fun h => ?_) (fun h => ?_)
  · exact k1 h r u' (by rw [if_neg h] at hF; exact hF) H locs ls hP hS hl
  · exact k2 h r u' (by rw [if_pos h] at hF; exact hF) H locs ls hP hS hl
theorem G_icmp_ne (C : zCx p s m args meth c as dA D SH d nL own cc ret) {x y : Int32} {off : Int} {tgt : Nat} {F1 F2 : Option (α × zM)} (hdg : decode cc pc = .ok (.if_icmp .ne off, 3)) (ht : (pc : Int) + off = (tgt : Int)) (k1 : ¬ (x = y) → Go p l e s m args below meth c as dA D SH d nL Qk  tgt L st u F1) (k2 : (x = y) → Go p l e s m args below meth c as dA D SH d nL Qk  (pc + 3) L st u F2) : Go p l e s m args below meth c as dA D SH d nL Qk  pc L (.int y :: .int x :: st) u (if (x = y) then F2 else F1) := by
  obtain ⟨hx, hb, hml, hown, hts, hr, hlk, hK, hI, hZ, hd1⟩ := C
  intro r u' hF H locs ls hP hS hl
  refine lv_icmp_ne hx hb hdg ht (fun h => ?_) (fun h => ?_)
  · exact k1 h r u' (by rw [if_neg h] at hF; exact hF) H locs ls hP hS hl
  · exact k2 h r u' (by rw [if_pos h] at hF; exact hF) H locs ls hP hS hl
theorem G_if_lt (C : zCx p s m args meth c as dA D SH d nL own cc ret) {x : Int32} {off : Int} {tgt : Nat} {F1 F2 : Option (α × zM)} (hdg : decode cc pc = .ok (.ifCond .lt off, 3)) (ht : (pc : Int) + off = (tgt : Int)) (k1 : (x < 0) → Go p l e s m args below meth c as dA D SH d nL Qk  tgt L st u F1) (k2 : ¬ (x < 0) → Go p l e s m args below meth c as dA D SH d nL Qk  (pc + 3) L st u F2) : Go p l e s m args below meth c as dA D SH d nL Qk  pc L (.int x :: st) u (if (x < 0) then F1 else F2) := by
  obtain ⟨hx, hb, hml, hown, hts, hr, hlk, hK, hI, hZ, hd1⟩ := C
  intro r u' hF H locs ls hP hS hl
  refine lv_if_lt hx hb hdg ht (fun h => ?_) (fun h => ?_)
  · exact k1 h r u' (by rw [if_pos h] at hF; exact hF) H locs ls hP hS hl
  · exact k2 h r u' (by rw [if_neg h] at hF; exact hF) H locs ls hP hS hl
theorem G_icmp_lt (C : zCx p s m args meth c as dA D SH d nL own cc ret) {x y : Int32} {off : Int} {tgt : Nat} {F1 F2 : Option (α × zM)} (hdg : decode cc pc = .ok (.if_icmp .lt off, 3)) (ht : (pc : Int) + off = (tgt : Int)) (k1 : (x < y) → Go p l e s m args below meth c as dA D SH d nL Qk  tgt L st u F1) (k2 : ¬ (x < y) → Go p l e s m args below meth c as dA D SH d nL Qk  (pc + 3) L st u F2) : Go p l e s m args below meth c as dA D SH d nL Qk  pc L (.int y :: .int x :: st) u (if (x < y) then F1 else F2) := by
  obtain ⟨hx, hb, hml, hown, hts, hr, hlk, hK, hI, hZ, hd1⟩ := C
  intro r u' hF H locs ls hP hS hl
  refine lv_icmp_lt hx hb hdg ht (fun h => ?_) (fun h => ?_)
  · exact k1 h r u' (by rw [if_pos h] at hF; exact hF) H locs ls hP hS hl
  · exact k2 h r u' (by rw [if_neg h] at hF; exact hF) H locs ls hP hS hl
theorem G_if_ge (C : zCx p s m args meth c as dA D SH d nL own cc ret) {x : Int32} {off : Int} {tgt : Nat} {F1 F2 : Option (α × zM)} (hdg : decode cc pc = .ok (.ifCond .ge off, 3)) (ht : (pc : Int) + off = (tgt : Int)) (k1 : (0 ≤ x) → Go p l e s m args below meth c as dA D SH d nL Qk  tgt L st u F1) (k2 : ¬ (0 ≤ x) → Go p l e s m args below meth c as dA D SH d nL Qk  (pc + 3) L st u F2) : Go p l e s m args below meth c as dA D SH d nL Qk  pc L (.int x :: st) u (if (0 ≤ x) then F1 else F2) := by
  obtain ⟨hx, hb, hml, hown, hts, hr, hlk, hK, hI, hZ, hd1⟩ := C
  intro r u' hF H locs ls hP hS hl
  refine lv_if_ge hx hb hdg ht (fun h => ?_) (fun h => ?_)
  · exact k1 h r u' (by rw [if_pos h] at hF; exact hF) H locs ls hP hS hl
  · exact k2 h r u' (by rw [if_neg h] at hF; exact hF) H locs ls hP hS hl
theorem G_icmp_ge (C : zCx p s m args meth c as dA D SH d nL own cc ret) {x y : Int32} {off : Int} {tgt : Nat} {F1 F2 : Option (α × zM)} (hdg : decode cc pc = .ok (.if_icmp .ge off, 3)) (ht : (pc : Int) + off = (tgt : Int)) (k1 : (y ≤ x) → Go p l e s m args below meth c as dA D SH d nL Qk  tgt L st u F1) (k2 : ¬ (y ≤ x) → Go p l e s m args below meth c as dA D SH d nL Qk  (pc + 3) L st u F2) : Go p l e s m args below meth c as dA D SH d nL Qk  pc L (.int y :: .int x :: st) u (if (y ≤ x) then F1 else F2) := by
  obtain ⟨hx, hb, hml, hown, hts, hr, hlk, hK, hI, hZ, hd1⟩ := C
  intro r u' hF H locs ls hP hS hl
  refine lv_icmp_ge hx hb hdg ht (fun h => ?_) (fun h => ?_)
  · exact k1 h r u' (by rw [if_pos h] at hF; exact hF) H locs ls hP hS hl
  · exact k2 h r u' (by rw [if_neg h] at hF; exact hF) H locs ls hP hS hl
theorem G_if_gt (C : zCx p s m args meth c as dA D SH d nL own cc ret) {x : Int32} {off : Int} {tgt : Nat} {F1 F2 : Option (α × zM)} (hdg : decode cc pc = .ok (.ifCond .gt off, 3)) (ht : (pc : Int) + off = (tgt : Int)) (k1 : (0 < x) → Go p l e s m args below meth c as dA D SH d nL Qk  tgt L st u F1) (k2 : ¬ (0 < x) → Go p l e s m args below meth c as dA D SH d nL Qk  (pc + 3) L st u F2) : Go p l e s m args below meth c as dA D SH d nL Qk  pc L (.int x :: st) u (if (0 < x) then F1 else F2) := by
  obtain ⟨hx, hb, hml, hown, hts, hr, hlk, hK, hI, hZ, hd1⟩ := C
  intro r u' hF H locs ls hP hS hl
  refine lv_if_gt hx hb hdg ht (fun h => ?_) (fun h => ?_)
  · exact k1 h r u' (by rw [if_pos h] at hF; exact hF) H locs ls hP hS hl
  · exact k2 h r u' (by rw [if_neg h] at hF; exact hF) H locs ls hP hS hl
theorem G_icmp_gt (C : zCx p s m args meth c as dA D SH d nL own cc ret) {x y : Int32} {off : Int} {tgt : Nat} {F1 F2 : Option (α × zM)} (hdg : decode cc pc = .ok (.if_icmp .gt off, 3)) (ht : (pc : Int) + off = (tgt : Int)) (k1 : (y < x) → Go p l e s m args below meth c as dA D SH d nL Qk  tgt L st u F1) (k2 : ¬ (y < x) → Go p l e s m args below meth c as dA D SH d nL Qk  (pc + 3) L st u F2) : Go p l e s m args below meth c as dA D SH d nL Qk  pc L (.int y :: .int x :: st) u (if (y < x) then F1 else F2) := by
  obtain ⟨hx, hb, hml, hown, hts, hr, hlk, hK, hI, hZ, hd1⟩ := C
  intro r u' hF H locs ls hP hS hl
  refine lv_icmp_gt hx hb hdg ht (fun h => ?_) (fun h => ?_)
  · exact k1 h r u' (by rw [if_pos h] at hF; exact hF) H locs ls hP hS hl
  · exact k2 h r u' (by rw [if_neg h] at hF; exact hF) H locs ls hP hS hl
theorem G_if_le (C : zCx p s m args meth c as dA D SH d nL own cc ret) {x : Int32} {off : Int} {tgt : Nat} {F1 F2 : Option (α × zM)} (hdg : decode cc pc = .ok (.ifCond .le off, 3)) (ht : (pc : Int) + off = (tgt : Int)) (k1 : (x ≤ 0) → Go p l e s m args below meth c as dA D SH d nL Qk  tgt L st u F1) (k2 : ¬ (x ≤ 0) → Go p l e s m args below meth c as dA D SH d nL Qk  (pc + 3) L st u F2) : Go p l e s m args below meth c as dA D SH d nL Qk  pc L (.int x :: st) u (if (x ≤ 0) then F1 else F2) := by
  obtain ⟨hx, hb, hml, hown, hts, hr, hlk, hK, hI, hZ, hd1⟩ := C
  intro r u' hF H locs ls hP hS hl
  refine lv_if_le hx hb hdg ht (fun h => ?_) (fun h => ?_)
  · exact k1 h r u' (by rw [if_pos h] at hF; exact hF) H locs ls hP hS hl
  · exact k2 h r u' (by rw [if_neg h] at hF; exact hF) H locs ls hP hS hl
theorem G_icmp_le (C : zCx p s m args meth c as dA D SH d nL own cc ret) {x y : Int32} {off : Int} {tgt : Nat} {F1 F2 : Option (α × zM)} (hdg : decode cc pc = .ok (.if_icmp .le off, 3)) (ht : (pc : Int) + off = (tgt : Int)) (k1 : (x ≤ y) → Go p l e s m args below meth c as dA D SH d nL Qk  tgt L st u F1) (k2 : ¬ (x ≤ y) → Go p l e s m args below meth c as dA D SH d nL Qk  (pc + 3) L st u F2) : Go p l e s m args below meth c as dA D SH d nL Qk  pc L (.int y :: .int x :: st) u (if (x ≤ y) then F1 else F2) := by
  obtain ⟨hx, hb, hml, hown, hts, hr, hlk, hK, hI, hZ, hd1⟩ := C
  intro r u' hF H locs ls hP hS hl
  refine lv_icmp_le hx hb hdg ht (fun h => ?_) (fun h => ?_)
  · exact k1 h r u' (by rw [if_pos h] at hF; exact hF) H locs ls hP hS hl
  · exact k2 h r u' (by rw [if_neg h] at hF; exact hF) H locs ls hP hS hl
theorem G_goto (C : zCx p s m args meth c as dA D SH d nL own cc ret) {off : Int} {tgt : Nat} (hdg : decode cc pc = .ok (.goto off, 3)) (ht : (pc : Int) + off = (tgt : Int)) (k : Go p l e s m args below meth c as dA D SH d nL Qk  tgt L st u F) : Go p l e s m args below meth c as dA D SH d nL Qk  pc L st u F := by
  obtain ⟨hx, hb, hml, hown, hts, hr, hlk, hK, hI, hZ, hd1⟩ := C
  intro r u' hF H locs ls hP hS hl
  exact lv_goto hx hb hdg ht (k r u' hF H locs ls hP hS hl)
theorem G_ifnull (C : zCx p s m args meth c as dA D SH d nL own cc ret) {x : Nat} {off : Int} (hdg : decode cc pc = .ok (.ifnull off, 3)) (k : Go p l e s m args below meth c as dA D SH d nL Qk  (pc + 3) L st u F) : Go p l e s m args below meth c as dA D SH d nL Qk  pc L (.ref x :: st) u F := by
  obtain ⟨hx, hb, hml, hown, hts, hr, hlk, hK, hI, hZ, hd1⟩ := C
  intro r u' hF H locs ls hP hS hl
  exact lv_ifnull hx hb hdg (k r u' hF H locs ls hP hS hl)
theorem G_ifnullN (C : zCx p s m args meth c as dA D SH d nL own cc ret) {off : Int} {tgt : Nat} (hdg : decode cc pc = .ok (.ifnull off, 3)) (ht : (pc : Int) + off = (tgt : Int)) (k : Go p l e s m args below meth c as dA D SH d nL Qk  tgt L st u F) : Go p l e s m args below meth c as dA D SH d nL Qk  pc L (.null :: st) u F := by
  obtain ⟨hx, hb, hml, hown, hts, hr, hlk, hK, hI, hZ, hd1⟩ := C
  intro r u' hF H locs ls hP hS hl
  exact lv_ifnullN hx hb hdg ht (k r u' hF H locs ls hP hS hl)
theorem G_ifnonnull (C : zCx p s m args meth c as dA D SH d nL own cc ret) {x : Nat} {off : Int} {tgt : Nat} (hdg : decode cc pc = .ok (.ifnonnull off, 3)) (ht : (pc : Int) + off = (tgt : Int)) (k : Go p l e s m args below meth c as dA D SH d nL Qk  tgt L st u F) : Go p l e s m args below meth c as dA D SH d nL Qk  pc L (.ref x :: st) u F := by
  obtain ⟨hx, hb, hml, hown, hts, hr, hlk, hK, hI, hZ, hd1⟩ := C
  intro r u' hF H locs ls hP hS hl
  exact lv_ifnonnull hx hb hdg ht (k r u' hF H locs ls hP hS hl)
theorem G_ifnonnullN (C : zCx p s m args meth c as dA D SH d nL own cc ret) {off : Int} (hdg : decode cc pc = .ok (.ifnonnull off, 3)) (k : Go p l e s m args below meth c as dA D SH d nL Qk  (pc + 3) L st u F) : Go p l e s m args below meth c as dA D SH d nL Qk  pc L (.null :: st) u F := by
  obtain ⟨hx, hb, hml, hown, hts, hr, hlk, hK, hI, hZ, hd1⟩ := C
  intro r u' hF H locs ls hP hS hl
  exact lv_ifnonnullN hx hb hdg (k r u' hF H locs ls hP hS hl)
theorem G_tsOut (C : zCx p s m args meth c as dA D SH d nL own cc ret) {dflt lo hi : Int} {offs : Array Int} {len : Nat} {x : Int32} {tgt : Nat} (hdg : decode cc pc = .ok (.tableswitch dflt lo hi offs, len)) (h : x.toInt < lo ∨ hi < x.toInt) (ht : (pc : Int) + dflt = (tgt : Int)) (k : Go p l e s m args below meth c as dA D SH d nL Qk  tgt L st u F) : Go p l e s m args below meth c as dA D SH d nL Qk  pc L (.int x :: st) u F := by
  obtain ⟨hx, hb, hml, hown, hts, hr, hlk, hK, hI, hZ, hd1⟩ := C
  intro r u' hF H locs ls hP hS hl
  exact lv_tableOut hx hb hdg h ht (k r u' hF H locs ls hP hS hl)
theorem G_tsIn (C : zCx p s m args meth c as dA D SH d nL own cc ret) {dflt lo hi : Int} {offs : Array Int} {len : Nat} {x v : Int32} {off : Int} {tgt : Nat} (hdg : decode cc pc = .ok (.tableswitch dflt lo hi offs, len)) (hv : x = v) (h1 : ¬ v.toInt < lo) (h2 : ¬ hi < v.toInt) (ho : offs[(v.toInt - lo).toNat]? = some off) (ht : (pc : Int) + off = (tgt : Int)) (k : Go p l e s m args below meth c as dA D SH d nL Qk  tgt L st u F) : Go p l e s m args below meth c as dA D SH d nL Qk  pc L (.int x :: st) u F := by
  obtain ⟨hx, hb, hml, hown, hts, hr, hlk, hK, hI, hZ, hd1⟩ := C
  intro r u' hF H locs ls hP hS hl
  subst hv
  exact lv_tableIn hx hb hdg h1 h2 ho ht (k r u' hF H locs ls hP hS hl)
theorem G_lsw (C : zCx p s m args meth c as dA D SH d nL own cc ret) {dflt : Int} {ps : Array (Int × Int)} {len : Nat} {x : Int32} {off : Int} {tgt : Nat} (hdg : decode cc pc = .ok (.lookupswitch dflt ps, len)) (hp : (ps.toList.zip (ps.toList.drop 1)).all (fun (a, next) => a.1 < next.1) = true) (ho : Op.lookupswitch.offset ps.toList dflt x.toInt = off) (ht : (pc : Int) + off = (tgt : Int)) (k : Go p l e s m args below meth c as dA D SH d nL Qk  tgt L st u F) : Go p l e s m args below meth c as dA D SH d nL Qk  pc L (.int x :: st) u F := by
  obtain ⟨hx, hb, hml, hown, hts, hr, hlk, hK, hI, hZ, hd1⟩ := C
  intro r u' hF H locs ls hP hS hl
  exact lv_lookup hx hb hdg hp ho ht (k r u' hF H locs ls hP hS hl)
end GoRules
end
section
/-! ===== fields, arrays, calls, ends ===== -/
section GoMem
variable {p : Program} {l : Launch} {e : Env} {s : State} {m : MethodId} {args : Array Value} {below : List Frame} {meth : Method} {c : Code} {as : Nat → Nat} {dA : Nat → ClassId} {D : va_G} {SH : List zS} {d nL : Nat} {α : Type} {Qk : (Nat → Nat) → (Nat → ClassId) → va_G → List zS → Nat → α → zM → Array Value → State → Outcome → State → Prop}
variable {own : String} {cc : ByteArray} {ret : Option FieldType} {pc : Nat} {L : List (Nat × Value)} {st : List Value} {u : zM} {F : Option (α × zM)}
theorem zgood_of {ws : List Cond} (h : ∀ w ∈ ws, w ∈ zTb) : GoodIn zTb ws := fun w hw => ⟨h w hw, good_of_word (zt_good (h w hw))⟩
theorem zw_obj {a ci : Nat} {ks : List Nat} (hs : SH[a]? = some (.inl (ci, ks))) : (zw as dA SH u)[a]? = some (as a, .inr (ci, ks.mapIdx (fun k kd => zfield as u a k kd))) := zw_get hs
theorem zw_arr {a : Nat} {r : Nat × Nat × Nat × Nat} (hs : SH[a]? = some (.inr r)) : (zw as dA SH u)[a]? = some (as a, .inl (dA r.1, zarr as u a r.2.1 r.2.2.1 r.2.2.2 r.1)) := zw_get hs
theorem zf_get {a k kd : Nat} {ks : List Nat} (hk : ks[k]? = some kd) : (ks.mapIdx (fun k kd => zfield as u a k kd))[k]? = some (zfield as u a k kd) := by
  rw [List.getElem?_mapIdx, hk]
  rfl
theorem zf_len {a k kd : Nat} {ks : List Nat} (hk : ks[k]? = some kd) : k < (ks.mapIdx (fun k kd => zfield as u a k kd)).length := by
  rw [List.length_mapIdx]
  exact (List.getElem?_eq_some_iff.mp hk).1
theorem zfield_I2 {a k : Nat} {x : Int32} (j kj : Nat) (h : j ≠ k) : zfield as (sI u a k x) a j kj = zfield as u a j kj := zfield_I kj (fun q => h q.2)
theorem zfield_O2 {a k : Nat} {x : Option Nat} (j kj : Nat) (h : j ≠ k) : zfield as (sO u a k x) a j kj = zfield as u a j kj := by
  match kj with
  | 0 => rfl
  | 1 => rfl
  | 2 => show va_rf _ = va_rf _; unfold gO sO; dsimp only; rw [if_neg (fun q => h q.2)]
  | _ + 3 => rfl
theorem gI_same {a k : Nat} {x : Int32} : gI (sI u a k x) a k = x := by unfold gI sI; dsimp only; rw [if_pos ⟨rfl, rfl⟩]
theorem gJ_same {a k : Nat} {x : Int64} : gJ (sJ u a k x) a k = x := by unfold gJ sJ; dsimp only; rw [if_pos ⟨rfl, rfl⟩]
theorem gO_same {a k : Nat} {x : Option Nat} : gO (sO u a k x) a k = x := by unfold gO sO; dsimp only; rw [if_pos ⟨rfl, rfl⟩]
theorem gI_upd {a k : Nat} {x : Int32} : gI (sI u a k x) a = upd (gI u a) k x := by
  funext j
  unfold gI sI upd
  dsimp only
  by_cases h : j = k
  · rw [if_pos ⟨rfl, h⟩, if_pos h]
  · rw [if_neg (fun q => h q.2), if_neg h]
theorem gJ_upd {a k : Nat} {x : Int64} : gJ (sJ u a k x) a = vp_updL (gJ u a) k x := by
  funext j
  unfold gJ sJ vp_updL
  dsimp only
  by_cases h : j = k
  · rw [if_pos ⟨rfl, h⟩, if_pos h]
  · rw [if_neg (fun q => h q.2), if_neg h]
/-- n numbers of one array come to another (or the same) -/
def cpI (u : zM) (a sp b dp n : Nat) : zM := (fun q j => if q = b ∧ dp ≤ j ∧ j < dp + n then u.1 a (sp + (j - dp)) else u.1 q j, u.2.1, u.2.2)
def cpJ (u : zM) (a sp b dp n : Nat) : zM := (u.1, fun q j => if q = b ∧ dp ≤ j ∧ j < dp + n then u.2.1 a (sp + (j - dp)) else u.2.1 q j, u.2.2)
def cpB (sp dp n : Int32) (n0 n1 : Nat) : Bool := decide (¬ sp < 0 ∧ ¬ dp < 0 ∧ ¬ n < 0 ∧ sp.toNatClampNeg + n.toNatClampNeg ≤ n0 ∧ dp.toNatClampNeg + n.toNatClampNeg ≤ n1)
theorem gI_cp {a sp b dp n : Nat} : gI (cpI u a sp b dp n) b = va_cpy (gI u a) (gI u b) sp dp n := by
  funext j
  unfold gI cpI va_cpy
  dsimp only
  by_cases h : dp ≤ j ∧ j < dp + n
  · rw [if_pos ⟨rfl, h⟩, if_pos h]
  · rw [if_neg (fun q => h q.2), if_neg h]
theorem gJ_cp {a sp b dp n : Nat} : gJ (cpJ u a sp b dp n) b = va_cpy (gJ u a) (gJ u b) sp dp n := by
  funext j
  unfold gJ cpJ va_cpy
  dsimp only
  by_cases h : dp ≤ j ∧ j < dp + n
  · rw [if_pos ⟨rfl, h⟩, if_pos h]
  · rw [if_neg (fun q => h q.2), if_neg h]
theorem zcell_cpI {a sp b dp n : Nat} (q : Nat) (S : zS) (h : q ≠ b) : zcell as dA (cpI u a sp b dp n) q S = zcell as dA u q S := by
  have e : gI (cpI u a sp b dp n) q = gI u q := by funext j; unfold gI cpI; dsimp only; rw [if_neg (fun z => h z.1)]
  cases S with
  | inl o =>
    have e2 : (fun j kd => zfield as (cpI u a sp b dp n) q j kd) = fun j kd => zfield as u q j kd := by
      funext j kd
      match kd with
      | 0 => show Value.int _ = Value.int _; rw [e]
      | 1 => rfl
      | 2 => rfl
      | _ + 3 => rfl
    show Sum.inr (o.1, o.2.mapIdx (fun j kd => zfield as (cpI u a sp b dp n) q j kd)) = Sum.inr (o.1, o.2.mapIdx (fun j kd => zfield as u q j kd))
    rw [e2]
  | inr r =>
    show Sum.inl _ = Sum.inl _
    congr 2
    obtain ⟨t, n, p, q⟩ := r
    dsimp only
    unfold zarr
    split <;> first | rw [e] | rfl
theorem zcell_cpJ {a sp b dp n : Nat} (q : Nat) (S : zS) (h : q ≠ b) : zcell as dA (cpJ u a sp b dp n) q S = zcell as dA u q S := by
  have e : gJ (cpJ u a sp b dp n) q = gJ u q := by funext j; unfold gJ cpJ; dsimp only; rw [if_neg (fun z => h z.1)]
  cases S with
  | inl o =>
    have e2 : (fun j kd => zfield as (cpJ u a sp b dp n) q j kd) = fun j kd => zfield as u q j kd := by
      funext j kd
      match kd with
      | 0 => rfl
      | 1 => show Value.long _ = Value.long _; rw [e]
      | 2 => rfl
      | _ + 3 => rfl
    show Sum.inr (o.1, o.2.mapIdx (fun j kd => zfield as (cpJ u a sp b dp n) q j kd)) = Sum.inr (o.1, o.2.mapIdx (fun j kd => zfield as u q j kd))
    rw [e2]
  | inr r =>
    show Sum.inl _ = Sum.inl _
    congr 2
    obtain ⟨t, n, p, q⟩ := r
    dsimp only
    unfold zarr
    split <;> first | rw [e] | rfl

theorem G_getI (C : zCx p s m args meth c as dA D SH d nL own cc ret) {ci : Nat} {Cn : String} {T : u_T} {N : Nat} (fk : Nat) {a index : Nat} {ks : List Nat} (hs : SH[a]? = some (.inl (ci, ks))) (hc : zcl[ci]? = some (Cn, T, N)) (hk : ks[fk]? = some 0) (hkN : fk < N) (hw : Cond.fieldLink own index (T fk).1 (T fk).2.1 (T fk).2.2.1 ∈ zTb) (hdg : decode cc pc = .ok (.getfield index, 3)) (k : Go p l e s m args below meth c as dA D SH d nL Qk  (pc + 3) L (.int (gI u a fk) :: st) u F) : Go p l e s m args below meth c as dA D SH d nL Qk  pc L (.ref a :: st) u F := by
  obtain ⟨hx, hb, hml, hown, hts, hr, hlk, hK, hI, hZ, hd1⟩ := C
  intro r u' hF H locs ls hP hS hl
  have hq := zcl_ok _ (List.mem_of_getElem? hc)
  obtain ⟨hin, ⟨ty0, hty⟩, hnm⟩ := hq
  exact va_get hx hb hts hin hown hK hP a (zw_obj hs) hc fk hkN (hts _ hw) (fun _ h9 => h9) (zf_get hk) hdg (k r u' hF H locs ls hP hS hl)
theorem G_getR (C : zCx p s m args meth c as dA D SH d nL own cc ret) {ci : Nat} {Cn : String} {T : u_T} {N : Nat} (fk : Nat) {a index : Nat} {ks : List Nat} {j : Nat} (hs : SH[a]? = some (.inl (ci, ks))) (hc : zcl[ci]? = some (Cn, T, N)) (hk : ks[fk]? = some (j + 3)) (hkN : fk < N) (hw : Cond.fieldLink own index (T fk).1 (T fk).2.1 (T fk).2.2.1 ∈ zTb) (hdg : decode cc pc = .ok (.getfield index, 3)) (k : Go p l e s m args below meth c as dA D SH d nL Qk  (pc + 3) L (.ref j :: st) u F) : Go p l e s m args below meth c as dA D SH d nL Qk  pc L (.ref a :: st) u F := by
  obtain ⟨hx, hb, hml, hown, hts, hr, hlk, hK, hI, hZ, hd1⟩ := C
  intro r u' hF H locs ls hP hS hl
  have hq := zcl_ok _ (List.mem_of_getElem? hc)
  obtain ⟨hin, ⟨ty0, hty⟩, hnm⟩ := hq
  exact va_get hx hb hts hin hown hK hP a (zw_obj hs) hc fk hkN (hts _ hw) (fun _ h9 => h9) (zf_get hk) hdg (k r u' hF H locs ls hP hS hl)
theorem G_getO (C : zCx p s m args meth c as dA D SH d nL own cc ret) {ci : Nat} {Cn : String} {T : u_T} {N : Nat} (fk : Nat) {a index : Nat} {ks : List Nat} {k0 : Option (α × zM)} {k1 : Nat → Option (α × zM)} (hs : SH[a]? = some (.inl (ci, ks))) (hc : zcl[ci]? = some (Cn, T, N)) (hk : ks[fk]? = some 2) (hkN : fk < N) (hw : Cond.fieldLink own index (T fk).1 (T fk).2.1 (T fk).2.2.1 ∈ zTb) (hdg : decode cc pc = .ok (.getfield index, 3)) (h0 : gO u a fk = none → Go p l e s m args below meth c as dA D SH d nL Qk  (pc + 3) L (.null :: st) u k0) (h1 : ∀ x : Nat, gO u a fk = some x → Go p l e s m args below meth c as dA D SH d nL Qk  (pc + 3) L (.ref x :: st) u (k1 x)) : Go p l e s m args below meth c as dA D SH d nL Qk  pc L (.ref a :: st) u (zmo (gO u a fk) k0 k1) := by
  obtain ⟨hx, hb, hml, hown, hts, hr, hlk, hK, hI, hZ, hd1⟩ := C
  intro r u' hF H locs ls hP hS hl
  have hq := zcl_ok _ (List.mem_of_getElem? hc)
  obtain ⟨hin, ⟨ty0, hty⟩, hnm⟩ := hq
  refine va_get hx hb hts hin hown hK hP a (zw_obj hs) hc fk hkN (hts _ hw) (fun _ h9 => h9) (zf_get hk) hdg ?_
  show W p l e (zRm d) s m args below meth c H locs 0 0 _ (F0 m (pc + 3) ls (va_rf ((gO u a fk).map as) :: st.map (zr as)))
  cases ho : gO u a fk with
  | none => rw [ho] at hF; exact h0 ho r u' hF H locs ls hP hS hl
  | some x => rw [ho] at hF; exact h1 x ho r u' hF H locs ls hP hS hl
theorem G_putI (C : zCx p s m args meth c as dA D SH d nL own cc ret) {ci : Nat} {Cn : String} {T : u_T} {N : Nat} (fk : Nat) {a index : Nat} {ks : List Nat} {ty : FieldType} {x : Int32} {F : zM → Option (α × zM)} (hs : SH[a]? = some (.inl (ci, ks))) (hc : zcl[ci]? = some (Cn, T, N)) (hk : ks[fk]? = some 0) (hkN : fk < N) (hw : Cond.fieldLink own index (T fk).1 (T fk).2.1 (T fk).2.2.1 ∈ zTb) (hfin : (T fk).2.2.2 = false) (hd : parseFieldDescriptor (T fk).2.2.1 = some ty) (hn : narrow ty (.int x) = .int x) (hfit : fits ty (.int x) = true) (hdg : decode cc pc = .ok (.putfield index, 3)) (k : ∀ v : zM, Go p l e s m args below meth c as dA D SH d nL Qk  (pc + 3) L st v (F v)) : Go p l e s m args below meth c as dA D SH d nL Qk  pc L (.int x :: .ref a :: st) u (zlet (sI u a fk x) F) := by
  obtain ⟨hx, hb, hml, hown, hts, hr, hlk, hK, hI, hZ, hd1⟩ := C
  intro r u' hF H locs ls hP hS hl
  have hq := zcl_ok _ (List.mem_of_getElem? hc)
  obtain ⟨hin, ⟨ty0, hty⟩, hnm⟩ := hq
  refine va_put hx hb hts hin ty0 hty hnm hown hK hP (zw_DA hI) hS a (zw_obj hs) hc fk hkN (hts _ hw) (fun _ h9 => h9) hfin hd hn hfit (zf_len hk) hdg (fun H1 locs1 hP1 _ hS1 => ?_)
  rw [zw_set (u' := sI u a fk x) hs (by show Sum.inr _ = Sum.inr _; rw [zfs_set hk (u' := sI u a fk x) (by show Value.int x = Value.int (gI (sI u a fk x) a fk); rw [gI_same]) (fun j kj h => zfield_I2 j kj h)]) (fun b S' h => zcell_I b S' h)] at hP1
  exact k _ r u' hF H1 locs1 ls hP1 hS1 hl
theorem G_putO (C : zCx p s m args meth c as dA D SH d nL own cc ret) {ci : Nat} {Cn : String} {T : u_T} {N : Nat} (fk : Nat) {a index : Nat} {ks : List Nat} {C2 : String} {x : Nat} {F : zM → Option (α × zM)} (hs : SH[a]? = some (.inl (ci, ks))) (hc : zcl[ci]? = some (Cn, T, N)) (hk : ks[fk]? = some 2) (hkN : fk < N) (hw : Cond.fieldLink own index (T fk).1 (T fk).2.1 (T fk).2.2.1 ∈ zTb) (hfin : (T fk).2.2.2 = false) (hd : parseFieldDescriptor (T fk).2.2.1 = some (.object C2)) (hdg : decode cc pc = .ok (.putfield index, 3)) (k : ∀ v : zM, Go p l e s m args below meth c as dA D SH d nL Qk  (pc + 3) L st v (F v)) : Go p l e s m args below meth c as dA D SH d nL Qk  pc L (.ref x :: .ref a :: st) u (zlet (sO u a fk (some x)) F) := by
  obtain ⟨hx, hb, hml, hown, hts, hr, hlk, hK, hI, hZ, hd1⟩ := C
  intro r u' hF H locs ls hP hS hl
  have hq := zcl_ok _ (List.mem_of_getElem? hc)
  obtain ⟨hin, ⟨ty0, hty⟩, hnm⟩ := hq
  refine va_put (v := .ref (as x)) hx hb hts hin ty0 hty hnm hown hK hP (zw_DA hI) hS a (zw_obj hs) hc fk hkN (hts _ hw) (fun _ h9 => h9) hfin hd rfl rfl (zf_len hk) hdg (fun H1 locs1 hP1 _ hS1 => ?_)
  rw [zw_set (u' := sO u a fk (some x)) hs (by show Sum.inr _ = Sum.inr _; rw [zfs_set hk (u' := sO u a fk (some x)) (by show Value.ref (as x) = va_rf ((gO (sO u a fk (some x)) a fk).map as); rw [gO_same]; rfl) (fun j kj h => zfield_O2 j kj h)]) (fun b S' h => zcell_O b S' h)] at hP1
  exact k _ r u' hF H1 locs1 ls hP1 hS1 hl
theorem G_putON (C : zCx p s m args meth c as dA D SH d nL own cc ret) {ci : Nat} {Cn : String} {T : u_T} {N : Nat} (fk : Nat) {a index : Nat} {ks : List Nat} {C2 : String} {F : zM → Option (α × zM)} (hs : SH[a]? = some (.inl (ci, ks))) (hc : zcl[ci]? = some (Cn, T, N)) (hk : ks[fk]? = some 2) (hkN : fk < N) (hw : Cond.fieldLink own index (T fk).1 (T fk).2.1 (T fk).2.2.1 ∈ zTb) (hfin : (T fk).2.2.2 = false) (hd : parseFieldDescriptor (T fk).2.2.1 = some (.object C2)) (hdg : decode cc pc = .ok (.putfield index, 3)) (k : ∀ v : zM, Go p l e s m args below meth c as dA D SH d nL Qk  (pc + 3) L st v (F v)) : Go p l e s m args below meth c as dA D SH d nL Qk  pc L (.null :: .ref a :: st) u (zlet (sO u a fk none) F) := by
  obtain ⟨hx, hb, hml, hown, hts, hr, hlk, hK, hI, hZ, hd1⟩ := C
  intro r u' hF H locs ls hP hS hl
  have hq := zcl_ok _ (List.mem_of_getElem? hc)
  obtain ⟨hin, ⟨ty0, hty⟩, hnm⟩ := hq
  refine va_put (v := .null) hx hb hts hin ty0 hty hnm hown hK hP (zw_DA hI) hS a (zw_obj hs) hc fk hkN (hts _ hw) (fun _ h9 => h9) hfin hd rfl rfl (zf_len hk) hdg (fun H1 locs1 hP1 _ hS1 => ?_)
  rw [zw_set (u' := sO u a fk none) hs (by show Sum.inr _ = Sum.inr _; rw [zfs_set hk (u' := sO u a fk none) (by show Value.null = va_rf ((gO (sO u a fk none) a fk).map as); rw [gO_same]; rfl) (fun j kj h => zfield_O2 j kj h)]) (fun b S' h => zcell_O b S' h)] at hP1
  exact k _ r u' hF H1 locs1 ls hP1 hS1 hl
theorem G_iald (C : zCx p s m args meth c as dA D SH d nL own cc ret) {a n b sd : Nat} {i : Int32} (hs : SH[a]? = some (.inr (0, n, b, sd))) (hdg : decode cc pc = .ok (.iaload, 1)) (k : inB i n = true → Go p l e s m args below meth c as dA D SH d nL Qk  (pc + 1) L (.int (gI u a i.toNatClampNeg) :: st) u F) : Go p l e s m args below meth c as dA D SH d nL Qk  pc L (.int i :: .ref a :: st) u (zck (inB i n) F) := by
  obtain ⟨hx, hb, hml, hown, hts, hr, hlk, hK, hI, hZ, hd1⟩ := C
  intro r u' hF H locs ls hP hS hl
  obtain ⟨h1, hF⟩ := zck_some hF
  exact va_iald hx hb hK hP a 0 (zw_arr hs) rfl (inB_in h1) hdg (k h1 r u' hF H locs ls hP hS hl)
theorem G_zald (C : zCx p s m args meth c as dA D SH d nL own cc ret) {a n b sd : Nat} {i : Int32} (hs : SH[a]? = some (.inr (1, n, b, sd))) (hdg : decode cc pc = .ok (.baload, 1)) (k : inB i n = true → Go p l e s m args below meth c as dA D SH d nL Qk  (pc + 1) L (.int (gI u a i.toNatClampNeg) :: st) u F) : Go p l e s m args below meth c as dA D SH d nL Qk  pc L (.int i :: .ref a :: st) u (zck (inB i n) F) := by
  obtain ⟨hx, hb, hml, hown, hts, hr, hlk, hK, hI, hZ, hd1⟩ := C
  intro r u' hF H locs ls hP hS hl
  obtain ⟨h1, hF⟩ := zck_some hF
  exact va_zald hx hb hK hP a 1 (zw_arr hs) rfl (inB_in h1) hdg (k h1 r u' hF H locs ls hP hS hl)
theorem G_bald (C : zCx p s m args meth c as dA D SH d nL own cc ret) {a n b sd : Nat} {i : Int32} (hs : SH[a]? = some (.inr (2, n, b, sd))) (hdg : decode cc pc = .ok (.baload, 1)) (k : inB i n = true → Go p l e s m args below meth c as dA D SH d nL Qk  (pc + 1) L (.int (gI u a i.toNatClampNeg) :: st) u F) : Go p l e s m args below meth c as dA D SH d nL Qk  pc L (.int i :: .ref a :: st) u (zck (inB i n) F) := by
  obtain ⟨hx, hb, hml, hown, hts, hr, hlk, hK, hI, hZ, hd1⟩ := C
  intro r u' hF H locs ls hP hS hl
  obtain ⟨h1, hF⟩ := zck_some hF
  exact va_bald hx hb hK hP a 2 (zw_arr hs) rfl (inB_in h1) hdg (k h1 r u' hF H locs ls hP hS hl)
theorem G_lald (C : zCx p s m args meth c as dA D SH d nL own cc ret) {a n b sd : Nat} {i : Int32} (hs : SH[a]? = some (.inr (3, n, b, sd))) (hdg : decode cc pc = .ok (.laload, 1)) (k : inB i n = true → Go p l e s m args below meth c as dA D SH d nL Qk  (pc + 1) L (.long (gJ u a i.toNatClampNeg) :: st) u F) : Go p l e s m args below meth c as dA D SH d nL Qk  pc L (.int i :: .ref a :: st) u (zck (inB i n) F) := by
  obtain ⟨hx, hb, hml, hown, hts, hr, hlk, hK, hI, hZ, hd1⟩ := C
  intro r u' hF H locs ls hP hS hl
  obtain ⟨h1, hF⟩ := zck_some hF
  exact va_lald hx hb hK hP a 3 (zw_arr hs) rfl (inB_in h1) hdg (k h1 r u' hF H locs ls hP hS hl)
theorem G_aald4 (C : zCx p s m args meth c as dA D SH d nL own cc ret) {a n b sd : Nat} {i : Int32} (hs : SH[a]? = some (.inr (4, n, b, sd))) (hdg : decode cc pc = .ok (.aaload, 1)) (k : inB i n = true → Go p l e s m args below meth c as dA D SH d nL Qk  (pc + 1) L (.ref (b + sd * i.toNatClampNeg) :: st) u F) : Go p l e s m args below meth c as dA D SH d nL Qk  pc L (.int i :: .ref a :: st) u (zck (inB i n) F) := by
  obtain ⟨hx, hb, hml, hown, hts, hr, hlk, hK, hI, hZ, hd1⟩ := C
  intro r u' hF H locs ls hP hS hl
  obtain ⟨h1, hF⟩ := zck_some hF
  exact va_aldq hx hb hK hP a 4 (zw_arr hs) rfl (inB_in h1) hdg (k h1 r u' hF H locs ls hP hS hl)
theorem G_aald5 (C : zCx p s m args meth c as dA D SH d nL own cc ret) {a n b sd : Nat} {i : Int32} (hs : SH[a]? = some (.inr (5, n, b, sd))) (hdg : decode cc pc = .ok (.aaload, 1)) (k : inB i n = true → Go p l e s m args below meth c as dA D SH d nL Qk  (pc + 1) L (.ref (b + sd * i.toNatClampNeg) :: st) u F) : Go p l e s m args below meth c as dA D SH d nL Qk  pc L (.int i :: .ref a :: st) u (zck (inB i n) F) := by
  obtain ⟨hx, hb, hml, hown, hts, hr, hlk, hK, hI, hZ, hd1⟩ := C
  intro r u' hF H locs ls hP hS hl
  obtain ⟨h1, hF⟩ := zck_some hF
  have hin := inB_in h1
  have hlt : i.toNatClampNeg < n := Nat.not_le.mp fun q => hin (Or.inr q)
  have ha : (zw as dA SH u)[a]? = some (as a, .inl (dA 5, n, .inr (.inr (.inr (.inr (fun j => some (as (b + sd * j)))))))) := zw_arr hs
  exact W.aald (v := va_rf (some (as (b + sd * i.toNatClampNeg)))) (ty := .array .long) hx hb (hP a _ ha) ((hK.2 5 _ rfl).1 n (fun j => va_rf (some (as (b + sd * j))))) rfl (fun q => by cases q) (by show ¬ (i < 0 ∨ (arrV _ _ _).slots.size ≤ _); rw [arrV_size]; exact hin) (by show (arrV (dA 5) n (fun j => va_rf (some (as (b + sd * j))))).slots[_]? = _; rw [arrV_read _ _ hlt]) rfl rfl hdg (k h1 r u' hF H locs ls hP hS hl)
theorem G_iast (C : zCx p s m args meth c as dA D SH d nL own cc ret) {a n b sd : Nat} {i : Int32} {x : Int32} {F : zM → Option (α × zM)} (hs : SH[a]? = some (.inr (0, n, b, sd))) (hdg : decode cc pc = .ok (.iastore, 1)) (k : inB i n = true → ∀ v : zM, Go p l e s m args below meth c as dA D SH d nL Qk  (pc + 1) L st v (F v)) : Go p l e s m args below meth c as dA D SH d nL Qk  pc L (.int x :: .int i :: .ref a :: st) u (zck (inB i n) (zlet (sI u a i.toNatClampNeg x) F)) := by
  obtain ⟨hx, hb, hml, hown, hts, hr, hlk, hK, hI, hZ, hd1⟩ := C
  intro r u' hF H locs ls hP hS hl
  obtain ⟨h1, hF⟩ := zck_some hF
  refine va_iast hx hb hK hP (zw_DA hI) hS a 0 (zw_arr hs) rfl (inB_in h1) hdg (fun H1 locs1 hP1 _ hS1 => ?_)
  rw [zw_set (u' := sI u a i.toNatClampNeg x) hs (by show Sum.inl (_, _, Sum.inl _) = Sum.inl (_, _, Sum.inl (gI (sI u a i.toNatClampNeg x) a)); rw [gI_upd]) (fun b S' h => zcell_I b S' h)] at hP1
  exact k h1 _ r u' hF H1 locs1 ls hP1 hS1 hl
theorem G_zast (C : zCx p s m args meth c as dA D SH d nL own cc ret) {a n b sd : Nat} {i : Int32} {x : Int32} {F : zM → Option (α × zM)} (hs : SH[a]? = some (.inr (1, n, b, sd))) (hdg : decode cc pc = .ok (.bastore, 1)) (k : inB i n = true → ∀ v : zM, Go p l e s m args below meth c as dA D SH d nL Qk  (pc + 1) L st v (F v)) : Go p l e s m args below meth c as dA D SH d nL Qk  pc L (.int x :: .int i :: .ref a :: st) u (zck (inB i n) (zlet (sI u a i.toNatClampNeg (vp_nar .boolean x)) F)) := by
  obtain ⟨hx, hb, hml, hown, hts, hr, hlk, hK, hI, hZ, hd1⟩ := C
  intro r u' hF H locs ls hP hS hl
  obtain ⟨h1, hF⟩ := zck_some hF
  refine va_zast hx hb hK hP (zw_DA hI) hS a 1 (zw_arr hs) rfl (inB_in h1) hdg (fun H1 locs1 hP1 _ hS1 => ?_)
  rw [zw_set (u' := sI u a i.toNatClampNeg (vp_nar .boolean x)) hs (by show Sum.inl (_, _, Sum.inl _) = Sum.inl (_, _, Sum.inl (gI (sI u a i.toNatClampNeg (vp_nar .boolean x)) a)); rw [gI_upd]) (fun b S' h => zcell_I b S' h)] at hP1
  exact k h1 _ r u' hF H1 locs1 ls hP1 hS1 hl
theorem G_bast (C : zCx p s m args meth c as dA D SH d nL own cc ret) {a n b sd : Nat} {i : Int32} {x : Int32} {F : zM → Option (α × zM)} (hs : SH[a]? = some (.inr (2, n, b, sd))) (hdg : decode cc pc = .ok (.bastore, 1)) (k : inB i n = true → ∀ v : zM, Go p l e s m args below meth c as dA D SH d nL Qk  (pc + 1) L st v (F v)) : Go p l e s m args below meth c as dA D SH d nL Qk  pc L (.int x :: .int i :: .ref a :: st) u (zck (inB i n) (zlet (sI u a i.toNatClampNeg (vp_nar .byte x)) F)) := by
  obtain ⟨hx, hb, hml, hown, hts, hr, hlk, hK, hI, hZ, hd1⟩ := C
  intro r u' hF H locs ls hP hS hl
  obtain ⟨h1, hF⟩ := zck_some hF
  refine va_bast hx hb hK hP (zw_DA hI) hS a 2 (zw_arr hs) rfl (inB_in h1) hdg (fun H1 locs1 hP1 _ hS1 => ?_)
  rw [zw_set (u' := sI u a i.toNatClampNeg (vp_nar .byte x)) hs (by show Sum.inl (_, _, Sum.inl _) = Sum.inl (_, _, Sum.inl (gI (sI u a i.toNatClampNeg (vp_nar .byte x)) a)); rw [gI_upd]) (fun b S' h => zcell_I b S' h)] at hP1
  exact k h1 _ r u' hF H1 locs1 ls hP1 hS1 hl
theorem G_last (C : zCx p s m args meth c as dA D SH d nL own cc ret) {a n b sd : Nat} {i : Int32} {x : Int64} {F : zM → Option (α × zM)} (hs : SH[a]? = some (.inr (3, n, b, sd))) (hdg : decode cc pc = .ok (.lastore, 1)) (k : inB i n = true → ∀ v : zM, Go p l e s m args below meth c as dA D SH d nL Qk  (pc + 1) L st v (F v)) : Go p l e s m args below meth c as dA D SH d nL Qk  pc L (.long x :: .int i :: .ref a :: st) u (zck (inB i n) (zlet (sJ u a i.toNatClampNeg x) F)) := by
  obtain ⟨hx, hb, hml, hown, hts, hr, hlk, hK, hI, hZ, hd1⟩ := C
  intro r u' hF H locs ls hP hS hl
  obtain ⟨h1, hF⟩ := zck_some hF
  refine va_last hx hb hK hP (zw_DA hI) hS a 3 (zw_arr hs) rfl (inB_in h1) hdg (fun H1 locs1 hP1 _ hS1 => ?_)
  rw [zw_set (u' := sJ u a i.toNatClampNeg x) hs (by show Sum.inl (_, _, Sum.inr (Sum.inl _)) = Sum.inl (_, _, Sum.inr (Sum.inl (gJ (sJ u a i.toNatClampNeg x) a))); rw [gJ_upd]) (fun b S' h => zcell_J b S' h)] at hP1
  exact k h1 _ r u' hF H1 locs1 ls hP1 hS1 hl
theorem G_alen (t0 : Nat) {ty : FieldType} (C : zCx p s m args meth c as dA D SH d nL own cc ret) {a n b sd : Nat} {v : Int32} (hs : SH[a]? = some (.inr (t0, n, b, sd))) (ht : (zty dA)[t0]? = some (dA t0, ty)) (hn : (zarr as u a n b sd t0).1 = n) (hv : Int32.ofNat n = v) (hdg : decode cc pc = .ok (.arraylength, 1)) (k : Go p l e s m args below meth c as dA D SH d nL Qk  (pc + 1) L (.int v :: st) u F) : Go p l e s m args below meth c as dA D SH d nL Qk  pc L (.ref a :: st) u F := by
  obtain ⟨hx, hb, hml, hown, hts, hr, hlk, hK, hI, hZ, hd1⟩ := C
  intro r u' hF H locs ls hP hS hl
  exact va_alen hx hb hK hP a t0 (zw_arr hs) ht (by rw [← hv]; exact congrArg Int32.ofNat hn) hdg (k r u' hF H locs ls hP hS hl)
def zsv (k : Nat) (i : Int32) : Int32 := match zSA[k]? with
  | some q => q.2.2.getD i.toNatClampNeg 0
  | none => 0
theorem G_getsA (C : zCx p s m args meth c as dA D SH d nL own cc ret) {q : String × String × List Int32} (sk : Nat) {index : Nat} (hq : zSA[sk]? = some q) (hw : Cond.fieldLink own index q.1 q.2.1 "[I" ∈ zTb) (hdg : decode cc pc = .ok (.getstatic index, 3)) (k : Go p l e s m args below meth c as dA D SH d nL Qk  (pc + 3) L (.ref (1000 + sk) :: st) u F) : Go p l e s m args below meth c as dA D SH d nL Qk  pc L st u F := by
  obtain ⟨hx, hb, hml, hown, hts, hr, hlk, hK, hI, hZ, hd1⟩ := C
  intro r u' hF H locs ls hP hS hl
  exact va_gets hx hb (hZ.2.2.2.1 sk q hq).1 hS hown (hts _ hw) (fun _ h9 => h9) hdg (k r u' hF H locs ls hP hS hl)
theorem G_getsN (C : zCx p s m args meth c as dA D SH d nL own cc ret) {q : String × String × List Int32} (sk : Nat) {index : Nat} {host : String} (hq : zSA[sk]? = some q) (hw : Cond.fieldLinkNest own index q.1 q.2.1 "[I" host ∈ zNest) (hdg : decode cc pc = .ok (.getstatic index, 3)) (k : Go p l e s m args below meth c as dA D SH d nL Qk  (pc + 3) L (.ref (1000 + sk) :: st) u F) : Go p l e s m args below meth c as dA D SH d nL Qk  pc L st u F := by
  obtain ⟨hx, hb, hml, hown, hts, hr, hlk, hK, hI, hZ, hd1⟩ := C
  intro r u' hF H locs ls hP hS hl
  exact va_getsN hx hb (hZ.2.2.2.1 sk q hq).1 hS hown (zn_use hw (hZ.1 _ hw)) (fun _ h9 => h9) hdg (k r u' hF H locs ls hP hS hl)
theorem G_tld (C : zCx p s m args meth c as dA D SH d nL own cc ret) {q : String × String × List Int32} (sk : Nat) {i : Int32} (hq : zSA[sk]? = some q) (hdg : decode cc pc = .ok (.iaload, 1)) (k : inB i q.2.2.length = true → Go p l e s m args below meth c as dA D SH d nL Qk  (pc + 1) L (.int (zsv sk i) :: st) u F) : Go p l e s m args below meth c as dA D SH d nL Qk  pc L (.int i :: .ref (1000 + sk) :: st) u (zck (inB i q.2.2.length) F) := by
  obtain ⟨hx, hb, hml, hown, hts, hr, hlk, hK, hI, hZ, hd1⟩ := C
  intro r u' hF H locs ls hP hS hl
  obtain ⟨h1, hF⟩ := zck_some hF
  exact va_ti hx hb (hZ.2.2.2.1 sk q hq).2 hS (inB_in h1) (v := .int (zsv sk i)) (by unfold zsv; rw [hq]) hdg (k h1 r u' hF H locs ls hP hS hl)
theorem G_tlen (C : zCx p s m args meth c as dA D SH d nL own cc ret) {q : String × String × List Int32} (sk : Nat) {v : Int32} (hq : zSA[sk]? = some q) (hv : Int32.ofNat q.2.2.length = v) (hdg : decode cc pc = .ok (.arraylength, 1)) (k : Go p l e s m args below meth c as dA D SH d nL Qk  (pc + 1) L (.int v :: st) u F) : Go p l e s m args below meth c as dA D SH d nL Qk  pc L (.ref (1000 + sk) :: st) u F := by
  obtain ⟨hx, hb, hml, hown, hts, hr, hlk, hK, hI, hZ, hd1⟩ := C
  intro r u' hF H locs ls hP hS hl
  exact va_tlen hx hb (hZ.2.2.2.1 sk q hq).2 hS hv hdg (k r u' hF H locs ls hP hS hl)
theorem zsum8 {st : List Value} (h : (st.map fun v => v.category).sum ≤ 8) : ((st.map (zr as)).map fun v => v.category).sum ≤ 8 := by
  have e : (st.map (zr as)).map (fun v => v.category) = st.map fun v => v.category := by
    rw [List.map_map]
    apply List.map_congr_left
    intro v _
    exact zr_cat as v
  rw [e]
  exact h
theorem G_mmax (C : zCx p s m args meth c as dA D SH d nL own cc ret) {index : Nat} {x y : Int32} (h1 : Cond.methodLink own index Lib.Math.max.name ∈ zTb) (h2 : Cond.static Lib.Math.max.name ∈ zTb) (h3 : Cond.initialized "java/lang/Math" ∈ zTb) (h4 : Cond.code Lib.Math.max.name Lib.Math.max.code 2 (some .int) ∈ zTb) (h8 : (st.map fun v => v.category).sum ≤ 8) (hdg : decode cc pc = .ok (.invokestatic index, 3)) (k : Go p l e s m args below meth c as dA D SH d nL Qk  (pc + 3) L (.int (if x < y then y else x) :: st) u F) : Go p l e s m args below meth c as dA D SH d nL Qk  pc L (.int y :: .int x :: st) u F := by
  obtain ⟨hx, hb, hml, hown, hts, hr, hlk, hK, hI, hZ, hd1⟩ := C
  intro r u' hF H locs ls hP hS hl
  exact va_mmax hx hb (hml.trans hl.1.symm) hown (hts _ h1) (hts _ h2) (hts _ h3) (hts _ h4) hd1 (by have := zsum8 (as := as) h8; show _ ≤ 64 * d; omega) (Nat.zero_le _) (Nat.zero_le _) hdg (k r u' hF H locs ls hP hS hl)
theorem G_mmin (C : zCx p s m args meth c as dA D SH d nL own cc ret) {index : Nat} {x y : Int32} (h1 : Cond.methodLink own index Lib.Math.min.name ∈ zTb) (h2 : Cond.static Lib.Math.min.name ∈ zTb) (h3 : Cond.initialized "java/lang/Math" ∈ zTb) (h4 : Cond.code Lib.Math.min.name Lib.Math.min.code 2 (some .int) ∈ zTb) (h8 : (st.map fun v => v.category).sum ≤ 8) (hdg : decode cc pc = .ok (.invokestatic index, 3)) (k : Go p l e s m args below meth c as dA D SH d nL Qk  (pc + 3) L (.int (if y < x then y else x) :: st) u F) : Go p l e s m args below meth c as dA D SH d nL Qk  pc L (.int y :: .int x :: st) u F := by
  obtain ⟨hx, hb, hml, hown, hts, hr, hlk, hK, hI, hZ, hd1⟩ := C
  intro r u' hF H locs ls hP hS hl
  exact va_mmin hx hb (hml.trans hl.1.symm) hown (hts _ h1) (hts _ h2) (hts _ h3) (hts _ h4) hd1 (by have := zsum8 (as := as) h8; show _ ≤ 64 * d; omega) (Nat.zero_le _) (Nat.zero_le _) hdg (k r u' hF H locs ls hP hS hl)
end GoMem
end
section
/-! ===== copies, calls, ends ===== -/
section GoCalls
variable {p : Program} {l : Launch} {e : Env} {s : State} {m : MethodId} {args : Array Value} {below : List Frame} {meth : Method} {c : Code} {as : Nat → Nat} {dA : Nat → ClassId} {D : va_G} {SH : List zS} {d nL : Nat} {α : Type} {Qk : (Nat → Nat) → (Nat → ClassId) → va_G → List zS → Nat → α → zM → Array Value → State → Outcome → State → Prop}
variable {own : String} {cc : ByteArray} {ret : Option FieldType} {pc : Nat} {L : List (Nat × Value)} {st : List Value} {u : zM} {F : Option (α × zM)}
theorem G_copyI (C : zCx p s m args meth c as dA D SH d nL own cc ret) {a b n0 n1 p0 p1 q0 q1 index : Nat} {sp dp n : Int32} {F : zM → Option (α × zM)} (hs0 : SH[a]? = some (.inr (0, n0, p0, q0))) (hs1 : SH[b]? = some (.inr (0, n1, p1, q1))) (w1 : Cond.methodLink own index arraycopyName ∈ zTb) (w2 : Cond.native arraycopyName ∈ zTb) (w3 : Cond.static arraycopyName ∈ zTb) (w4 : Cond.initialized "java/lang/System" ∈ zTb) (h8 : (st.map fun v => v.category).sum ≤ 8) (hdg : decode cc pc = .ok (.invokestatic index, 3)) (k : cpB sp dp n n0 n1 = true → ∀ v : zM, Go p l e s m args below meth c as dA D SH d nL Qk  (pc + 3) L st v (F v)) : Go p l e s m args below meth c as dA D SH d nL Qk  pc L (.int n :: .int dp :: .ref b :: .int sp :: .ref a :: st) u (zck (cpB sp dp n n0 n1) (zlet (cpI u a sp.toNatClampNeg b dp.toNatClampNeg n.toNatClampNeg) F)) := by
  obtain ⟨hx, hb, hml, hown, hts, hr, hlk, hK, hI, hZ, hd1⟩ := C
  intro r u' hF H locs ls hP hS hl
  obtain ⟨g0, hF⟩ := zck_some hF
  obtain ⟨g1, g2, g3, g4, g5⟩ := of_decide_eq_true g0
  refine va_copyi hx hb (hml.trans hl.1.symm) hown (hts _ w1) (hts _ w2) (hts _ w3) (hts _ w4) hK hP (zw_DA hI) hS a b 0 0 (zw_arr hs0) (zw_arr hs1) rfl rfl rfl g1 g2 g3 g4 g5 (fun _ _ => rfl) ?hf ?hh hdg (fun H1 locs1 hP1 _ hS1 => ?kk)
  case kk =>
    rw [zw_set (u' := cpI u a sp.toNatClampNeg b dp.toNatClampNeg n.toNatClampNeg) hs1 (by show Sum.inl (_, _, Sum.inl _) = Sum.inl (_, _, Sum.inl (gI (cpI u a sp.toNatClampNeg b dp.toNatClampNeg n.toNatClampNeg) b)); rw [gI_cp]) (fun q S' h => zcell_cpI q S' h)] at hP1
    exact k g0 _ r u' hF H1 locs1 ls hP1 hS1 hl
  case hf => exact hd1
  case hh =>
    have h1 : nativeFrameWords "java/lang/System" "arraycopy" 5 ≤ 40 := by decide +kernel
    have h2 := zsum8 (as := as) h8
    show _ ≤ 64 * d
    omega
theorem G_copyJ (C : zCx p s m args meth c as dA D SH d nL own cc ret) {a b n0 n1 p0 p1 q0 q1 index : Nat} {sp dp n : Int32} {F : zM → Option (α × zM)} (hs0 : SH[a]? = some (.inr (3, n0, p0, q0))) (hs1 : SH[b]? = some (.inr (3, n1, p1, q1))) (w1 : Cond.methodLink own index arraycopyName ∈ zTb) (w2 : Cond.native arraycopyName ∈ zTb) (w3 : Cond.static arraycopyName ∈ zTb) (w4 : Cond.initialized "java/lang/System" ∈ zTb) (h8 : (st.map fun v => v.category).sum ≤ 8) (hdg : decode cc pc = .ok (.invokestatic index, 3)) (k : cpB sp dp n n0 n1 = true → ∀ v : zM, Go p l e s m args below meth c as dA D SH d nL Qk  (pc + 3) L st v (F v)) : Go p l e s m args below meth c as dA D SH d nL Qk  pc L (.int n :: .int dp :: .ref b :: .int sp :: .ref a :: st) u (zck (cpB sp dp n n0 n1) (zlet (cpJ u a sp.toNatClampNeg b dp.toNatClampNeg n.toNatClampNeg) F)) := by
  obtain ⟨hx, hb, hml, hown, hts, hr, hlk, hK, hI, hZ, hd1⟩ := C
  intro r u' hF H locs ls hP hS hl
  obtain ⟨g0, hF⟩ := zck_some hF
  obtain ⟨g1, g2, g3, g4, g5⟩ := of_decide_eq_true g0
  refine va_copyl hx hb (hml.trans hl.1.symm) hown (hts _ w1) (hts _ w2) (hts _ w3) (hts _ w4) hK hP (zw_DA hI) hS a b 3 3 (zw_arr hs0) (zw_arr hs1) rfl rfl rfl g1 g2 g3 g4 g5 (fun _ _ => rfl) ?hf ?hh hdg (fun H1 locs1 hP1 _ hS1 => ?kk)
  case kk =>
    rw [zw_set (u' := cpJ u a sp.toNatClampNeg b dp.toNatClampNeg n.toNatClampNeg) hs1 (by show Sum.inl (_, _, Sum.inr (Sum.inl _)) = Sum.inl (_, _, Sum.inr (Sum.inl (gJ (cpJ u a sp.toNatClampNeg b dp.toNatClampNeg n.toNatClampNeg) b))); rw [gJ_cp]) (fun q S' h => zcell_cpJ q S' h)] at hP1
    exact k g0 _ r u' hF H1 locs1 ls hP1 hS1 hl
  case hf => exact hd1
  case hh =>
    have h1 : nativeFrameWords "java/lang/System" "arraycopy" 5 ≤ 40 := by decide +kernel
    have h2 := zsum8 (as := as) h8
    show _ ≤ 64 * d
    omega
theorem G_iret (C : zCx p s m args meth c as dA D SH d nL own cc (some .int)) {x : Int32} (hdg : decode cc pc = .ok (.ireturn, 1)) : Go p l e s m args below meth c as dA D SH d nL zQi pc L [.int x] u (some (x, u)) := by
  obtain ⟨hx, hb, hml, hown, hts, hr, hlk, hK, hI, hZ, hd1⟩ := C
  intro r u' hF H locs ls hP hS hl
  cases hF
  exact W.iret hx hb hr (fun t ht hW => ⟨⟨x, u, rfl, ⟨rfl, rfl⟩, by rw [ht]; exact hP, hK.moved hW.alike⟩, hS.F ht⟩) hS.2.2 hdg hlk
theorem G_lret (C : zCx p s m args meth c as dA D SH d nL own cc (some .long)) {x : Int64} (hdg : decode cc pc = .ok (.lreturn, 1)) : Go p l e s m args below meth c as dA D SH d nL zQl pc L [.long x] u (some (x, u)) := by
  obtain ⟨hx, hb, hml, hown, hts, hr, hlk, hK, hI, hZ, hd1⟩ := C
  intro r u' hF H locs ls hP hS hl
  cases hF
  exact W.lret hx hb hr (fun t ht hW => ⟨⟨x, u, rfl, ⟨rfl, rfl⟩, by rw [ht]; exact hP, hK.moved hW.alike⟩, hS.F ht⟩) hS.2.2 hdg hlk
def z01 (x : Int32) : Bool := x == 0 || x == 1
theorem z01_nar {x : Int32} (h : z01 x = true) : narrow .boolean (.int x) = .int x := by
  unfold z01 at h
  rw [Bool.or_eq_true, beq_iff_eq, beq_iff_eq] at h
  rcases h with h | h <;> subst h <;> rfl
theorem G_zret {ty : FieldType} (C : zCx p s m args meth c as dA D SH d nL own cc (some ty)) {x : Int32} (hn : narrow ty (.int x) = .int x) (hdg : decode cc pc = .ok (.ireturn, 1)) : Go p l e s m args below meth c as dA D SH d nL zQi pc L [.int x] u (some (x, u)) := by
  obtain ⟨hx, hb, hml, hown, hts, hr, hlk, hK, hI, hZ, hd1⟩ := C
  intro r u' hF H locs ls hP hS hl
  cases hF
  exact W.zret hx hb hr hn (fun t ht hW => ⟨⟨x, u, rfl, ⟨rfl, rfl⟩, by rw [ht]; exact hP, hK.moved hW.alike⟩, hS.F ht⟩) hS.2.2 hdg hlk
theorem G_vret (C : zCx p s m args meth c as dA D SH d nL own cc none) (hdg : decode cc pc = .ok (.return_, 1)) : Go p l e s m args below meth c as dA D SH d nL zQv pc L [] u (some ((), u)) := by
  obtain ⟨hx, hb, hml, hown, hts, hr, hlk, hK, hI, hZ, hd1⟩ := C
  intro r u' hF H locs ls hP hS hl
  cases hF
  exact W.vret hx hb hr (fun t ht hW => ⟨⟨u, rfl, rfl, by rw [ht]; exact hP, hK.moved hW.alike⟩, hS.F ht⟩) hS.2.2 hdg hlk
theorem G_aret {Cr : String} (C : zCx p s m args meth c as dA D SH d nL own cc (some (.object Cr))) {x : Nat} (hdg : decode cc pc = .ok (.areturn, 1)) : Go p l e s m args below meth c as dA D SH d nL zQr pc L [.ref x] u (some (x, u)) := by
  obtain ⟨hx, hb, hml, hown, hts, hr, hlk, hK, hI, hZ, hd1⟩ := C
  intro r u' hF H locs ls hP hS hl
  cases hF
  exact W.aret hx hb hr (Or.inl ⟨_, rfl⟩) (Or.inr ⟨_, rfl⟩) (fun t ht hW => ⟨⟨u, as x, rfl, rfl, rfl, by rw [ht]; exact hP, hK.moved hW.alike⟩, hS.F ht⟩) hS.2.2 hdg hlk
/-- the words of a method that is called on an object; of a static one -/
def zWv (y : MethodName) (bytes : ByteArray) (maxL : Nat) (rt : Option FieldType) (n : Nat) : Prop := Cond.instanceMethod y ∈ zTb ∧ Cond.selects y.cls y y ∈ zTb ∧ Cond.initialized y.cls ∈ zTb ∧ Cond.code y bytes maxL rt ∈ zTb ∧ maxL ≤ 45 ∧ (y.cls ≠ "java/lang/invoke/MethodHandle" ∧ y.cls ≠ "java/lang/invoke/VarHandle" ∧ (parseMethodDescriptor y.desc).map (fun d => d.parameters.length) = some n)
def zWs (y : MethodName) (bytes : ByteArray) (maxL : Nat) (rt : Option FieldType) (n : Nat) : Prop := Cond.static y ∈ zTb ∧ Cond.initialized y.cls ∈ zTb ∧ Cond.code y bytes maxL rt ∈ zTb ∧ maxL ≤ 45 ∧ (y.cls ≠ "java/lang/invoke/MethodHandle" ∧ y.cls ≠ "java/lang/invoke/VarHandle" ∧ (parseMethodDescriptor y.desc).map (fun d => d.parameters.length) = some n)
theorem zPre_blind {dd : Nat → Nat} {av : List Value} {sz : Nat} : FrameBlind (va_Pc av (zPre dd dA D SH u sz)) := fun a U g mk q => by
  obtain ⟨q0, q1, q2, q3, q4, q5⟩ := q
  exact ⟨q0, q1, q2, q3.moved (u := U) (U := U.calling g mk a) (Vm.Alike.refl U.vm), q4, q5.same (u := U) (U := U.calling g mk a) rfl rfl⟩
theorem zA_in {n sz : Nat} {H : Heap} (hs : sz ≤ H.size) : ∀ q, zA as n H.size q → zA as n sz q := fun q h => h.elim Or.inl (fun h => Or.inr (Nat.le_trans hs h))
theorem zPre_at {H : Heap} {locs : List Loc} {U : State} (hK : va_K D zcl (zty dA) s) (hI : zInj as SH.length) (hZ : zSt as (zA as SH.length s.heap.size) s) (hP : va_P D zcl (zw as dA SH u) H) (hS : va_S (zA as SH.length s.heap.size) s.heap H locs) (hU : U.heap = H) (hW : s.WarmedH U.vm) : zPre as dA D SH u H.size U :=
  ⟨by rw [hU], by rw [hU]; exact hP, hK.moved hW.alike, hI, hZ.call hU hW hS (zA_in hS.1)⟩
theorem zmapA {As st : List Value} {v : Value} : (As.reverse ++ v :: st).map (zr as) = (As.map (zr as)).reverse ++ zr as v :: st.map (zr as) := by
  rw [List.map_append, List.map_reverse]
  rfl
theorem zmapS {As st : List Value} : (As.reverse ++ st).map (zr as) = (As.map (zr as)).reverse ++ st.map (zr as) := by
  rw [List.map_append, List.map_reverse]
theorem zcwV (n : Nat) {y : MethodName} {bytes : ByteArray} {maxL index d' : Nat} {rt : Option FieldType} {own : String} (hts : ∀ w ∈ zTb, w.before args s = true) (hR : d' + 1 ≤ d) (w1 : Cond.methodLink own index y ∈ zTb) (w2 : Cond.instanceMethod y ∈ zTb) (w3 : Cond.selects y.cls y y ∈ zTb) (w4 : Cond.initialized y.cls ∈ zTb) (w5 : Cond.code y bytes maxL rt ∈ zTb) (hm : maxL ≤ 45)
    (hd : y.cls ≠ "java/lang/invoke/MethodHandle" ∧ y.cls ≠ "java/lang/invoke/VarHandle" ∧ (parseMethodDescriptor y.desc).map (fun d => d.parameters.length) = some n) : CallW (zRm d) s args own y.cls index y bytes maxL rt (.code y bytes maxL rt :: zTb) (zRm d') 0 0 n :=
  cwV n hts (zgood_of (fun w hw => by
    unfold wsV at hw
    rcases List.mem_append.mp hw with h | h
    · simp only [List.mem_cons, List.not_mem_nil, or_false] at h
      rcases h with h | h | h | h <;> subst h <;> assumption
    · rcases List.mem_cons.mp h with h | h
      · subst h; exact w5
      · exact h)) rfl rfl rfl ⟨rfl, hd⟩ ⟨hR, by show 8 + (maxL + 11) + 64 * d' ≤ 64 * d; omega⟩
theorem zcwS (n : Nat) {y : MethodName} {bytes : ByteArray} {maxL index d' : Nat} {rt : Option FieldType} {own : String} (hts : ∀ w ∈ zTb, w.before args s = true) (hR : d' + 1 ≤ d) (w1 : Cond.methodLink own index y ∈ zTb) (w2 : Cond.static y ∈ zTb) (w4 : Cond.initialized y.cls ∈ zTb) (w5 : Cond.code y bytes maxL rt ∈ zTb) (hm : maxL ≤ 45)
    (hd : y.cls ≠ "java/lang/invoke/MethodHandle" ∧ y.cls ≠ "java/lang/invoke/VarHandle" ∧ (parseMethodDescriptor y.desc).map (fun d => d.parameters.length) = some n) : CallB (zRm d) s args own index y bytes maxL rt (.code y bytes maxL rt :: zTb) (zRm d') 0 0 n ∧ (Cond.static y).before args s = true :=
  ⟨callB_of n hts (zgood_of (fun w hw => by
    rcases List.mem_cons.mp hw with h | h
    · subst h; exact w5
    · exact h)) rfl rfl rfl (hts _ w4) (hts _ w1) hd ⟨hR, by show 8 + (maxL + 11) + 64 * d' ≤ 64 * d; omega⟩, hts _ w2⟩
theorem zcwN (n : Nat) {y : MethodName} {bytes : ByteArray} {maxL index d' : Nat} {rt : Option FieldType} {own host : String} (hts : ∀ w ∈ zTb, w.before args s = true) (hR : d' + 1 ≤ d) (w1 : va_Nw (.methodLinkNest own index y host) s) (w2 : Cond.static y ∈ zTb) (w4 : Cond.initialized y.cls ∈ zTb) (w5 : Cond.code y bytes maxL rt ∈ zTb) (hm : maxL ≤ 45)
    (hd : y.cls ≠ "java/lang/invoke/MethodHandle" ∧ y.cls ≠ "java/lang/invoke/VarHandle" ∧ (parseMethodDescriptor y.desc).map (fun d => d.parameters.length) = some n) : va_CN (zRm d) s args own index y host bytes maxL rt (.code y bytes maxL rt :: zTb) (zRm d') 0 0 n ∧ (Cond.static y).before args s = true ∧ True :=
  ⟨va_cnB n hts (zgood_of (fun w hw => by
    rcases List.mem_cons.mp hw with h | h
    · subst h; exact w5
    · exact h)) rfl rfl rfl w1 (hts _ w4) hd ⟨hR, by show 8 + (maxL + 11) + 64 * d' ≤ 64 * d; omega⟩, hts _ w2, trivial⟩
theorem G_callVi (C : zCx p s m args meth c as dA D SH d nL own cc ret) {y : MethodName} {bytes : ByteArray} {maxL index d' : Nat} {rt : Option FieldType} {As : List Value} {stk : List Value} {Fc : Option (Int32 × zM)} {K : Int32 → zM → Option (α × zM)} {a ci : Nat} {ks : List Nat} {T : u_T} {N : Nat} (hM : zMet zQi SH y bytes maxL rt d' (.ref a :: As) u Fc) (hR : d' + 1 ≤ d) (hstk : stk = As.reverse ++ .ref a :: st) (w1 : Cond.methodLink own index y ∈ zTb) (hw : zWv y bytes maxL rt As.length) (hs : SH[a]? = some (.inl (ci, ks))) (hc : zcl[ci]? = some (y.cls, T, N)) (h8 : (st.map fun v => v.category).sum ≤ 8) (hdg : decode cc pc = .ok (.invokevirtual index, 3)) (k : ∀ (x : Int32) (v : zM), Go p l e s m args below meth c as dA D SH d nL Qk (pc + 3) L (.int x :: st) v (K x v)) : Go p l e s m args below meth c as dA D SH d nL Qk pc L stk u (zb Fc K) := by
  obtain ⟨hx, hb, hml, hown, hts, hr, hlk, hK, hI, hZ, hd1⟩ := C
  obtain ⟨w2, w3, w4, w5, hm, hdsc⟩ := hw
  intro r u' hF H locs ls hP hS hl
  obtain ⟨x0, u0, hFc, hF⟩ := zb_some hF
  have hm0 := hM x0 u0 hFc l as dA D H.size
  have hA0 := zA_in (as := as) (n := SH.length) hS.1
  refine va_calli (va_runV (As := As.map (zr as)) (rest := st.map (zr as)) ⟨hx, hb, hml, hown, hts⟩ hm0 (zcwV As.length hts hR w1 w2 w3 w4 w5 hm hdsc) ⟨zPre_blind, va_recv hK hP hc (zw_obj hs), fun U hU hW => ⟨rfl, zPre_at hK hI hZ hP hS hU hW⟩⟩ rfl (List.length_map _) hl.1 (by rw [hstk]; exact zmapA) (lv_room (zsum8 h8)) hdg ⟨Nat.zero_le _, Nat.zero_le _⟩) hS (fun q _ h => hA0 q h) hA0 (fun r0 v0 t H1 locs1 ht hvm hw hB hz1 hk1 hS1 => ?_)
  obtain ⟨rfl, rfl⟩ := hw
  obtain ⟨hP1, hK1⟩ := hB
  rw [ht] at hP1
  exact k r0 v0 r u' hF H1 locs1 ls hP1 hS1 hl
theorem G_callSi (C : zCx p s m args meth c as dA D SH d nL own cc ret) {y : MethodName} {bytes : ByteArray} {maxL index d' : Nat} {rt : Option FieldType} {As : List Value} {stk : List Value} {Fc : Option (Int32 × zM)} {K : Int32 → zM → Option (α × zM)} (hM : zMet zQi SH y bytes maxL rt d' As u Fc) (hR : d' + 1 ≤ d) (hstk : stk = As.reverse ++ st) (w1 : Cond.methodLink own index y ∈ zTb) (hw : zWs y bytes maxL rt As.length) (h8 : (st.map fun v => v.category).sum ≤ 8) (hdg : decode cc pc = .ok (.invokestatic index, 3)) (k : ∀ (x : Int32) (v : zM), Go p l e s m args below meth c as dA D SH d nL Qk (pc + 3) L (.int x :: st) v (K x v)) : Go p l e s m args below meth c as dA D SH d nL Qk pc L stk u (zb Fc K) := by
  obtain ⟨hx, hb, hml, hown, hts, hr, hlk, hK, hI, hZ, hd1⟩ := C
  obtain ⟨w2, w4, w5, hm, hdsc⟩ := hw
  intro r u' hF H locs ls hP hS hl
  obtain ⟨x0, u0, hFc, hF⟩ := zb_some hF
  have hm0 := hM x0 u0 hFc l as dA D H.size
  have hA0 := zA_in (as := as) (n := SH.length) hS.1
  refine va_calli (va_runS (As := As.map (zr as)) (rest := st.map (zr as)) ⟨hx, hb, hml, hown, hts⟩ hm0 (zcwS As.length hts hR w1 w2 w4 w5 hm hdsc) ⟨zPre_blind, fun U hU hW => ⟨rfl, zPre_at hK hI hZ hP hS hU hW⟩⟩ rfl (List.length_map _) hl.1 (by rw [hstk]; exact zmapS) (lv_room (zsum8 h8)) hdg ⟨Nat.zero_le _, Nat.zero_le _⟩) hS (fun q _ h => hA0 q h) hA0 (fun r0 v0 t H1 locs1 ht hvm hw hB hz1 hk1 hS1 => ?_)
  obtain ⟨rfl, rfl⟩ := hw
  obtain ⟨hP1, hK1⟩ := hB
  rw [ht] at hP1
  exact k r0 v0 r u' hF H1 locs1 ls hP1 hS1 hl
theorem G_callNi (C : zCx p s m args meth c as dA D SH d nL own cc ret) {y : MethodName} {bytes : ByteArray} {maxL index d' : Nat} {rt : Option FieldType} {As : List Value} {stk : List Value} {Fc : Option (Int32 × zM)} {K : Int32 → zM → Option (α × zM)} {host : String} (hM : zMet zQi SH y bytes maxL rt d' As u Fc) (hR : d' + 1 ≤ d) (hstk : stk = As.reverse ++ st) (w1 : Cond.methodLinkNest own index y host ∈ zNest) (hw : zWs y bytes maxL rt As.length) (h8 : (st.map fun v => v.category).sum ≤ 8) (hdg : decode cc pc = .ok (.invokestatic index, 3)) (k : ∀ (x : Int32) (v : zM), Go p l e s m args below meth c as dA D SH d nL Qk (pc + 3) L (.int x :: st) v (K x v)) : Go p l e s m args below meth c as dA D SH d nL Qk pc L stk u (zb Fc K) := by
  obtain ⟨hx, hb, hml, hown, hts, hr, hlk, hK, hI, hZ, hd1⟩ := C
  obtain ⟨w2, w4, w5, hm, hdsc⟩ := hw
  intro r u' hF H locs ls hP hS hl
  obtain ⟨x0, u0, hFc, hF⟩ := zb_some hF
  have hm0 := hM x0 u0 hFc l as dA D H.size
  have hA0 := zA_in (as := as) (n := SH.length) hS.1
  refine va_calli (va_runSN (As := As.map (zr as)) (rest := st.map (zr as)) ⟨hx, hb, hml, hown, hts⟩ hm0 (zcwN As.length hts hR (hZ.1 _ w1) w2 w4 w5 hm hdsc) ⟨zPre_blind, fun U hU hW => ⟨rfl, zPre_at hK hI hZ hP hS hU hW⟩⟩ rfl (List.length_map _) hl.1 (by rw [hstk]; exact zmapS) (lv_room (zsum8 h8)) hdg ⟨Nat.zero_le _, Nat.zero_le _⟩) hS (fun q _ h => hA0 q h) hA0 (fun r0 v0 t H1 locs1 ht hvm hw hB hz1 hk1 hS1 => ?_)
  obtain ⟨rfl, rfl⟩ := hw
  obtain ⟨hP1, hK1⟩ := hB
  rw [ht] at hP1
  exact k r0 v0 r u' hF H1 locs1 ls hP1 hS1 hl
theorem G_callVl (C : zCx p s m args meth c as dA D SH d nL own cc ret) {y : MethodName} {bytes : ByteArray} {maxL index d' : Nat} {rt : Option FieldType} {As : List Value} {stk : List Value} {Fc : Option (Int64 × zM)} {K : Int64 → zM → Option (α × zM)} {a ci : Nat} {ks : List Nat} {T : u_T} {N : Nat} (hM : zMet zQl SH y bytes maxL rt d' (.ref a :: As) u Fc) (hR : d' + 1 ≤ d) (hstk : stk = As.reverse ++ .ref a :: st) (w1 : Cond.methodLink own index y ∈ zTb) (hw : zWv y bytes maxL rt As.length) (hs : SH[a]? = some (.inl (ci, ks))) (hc : zcl[ci]? = some (y.cls, T, N)) (h8 : (st.map fun v => v.category).sum ≤ 8) (hdg : decode cc pc = .ok (.invokevirtual index, 3)) (k : ∀ (x : Int64) (v : zM), Go p l e s m args below meth c as dA D SH d nL Qk (pc + 3) L (.long x :: st) v (K x v)) : Go p l e s m args below meth c as dA D SH d nL Qk pc L stk u (zb Fc K) := by
  obtain ⟨hx, hb, hml, hown, hts, hr, hlk, hK, hI, hZ, hd1⟩ := C
  obtain ⟨w2, w3, w4, w5, hm, hdsc⟩ := hw
  intro r u' hF H locs ls hP hS hl
  obtain ⟨x0, u0, hFc, hF⟩ := zb_some hF
  have hm0 := hM x0 u0 hFc l as dA D H.size
  have hA0 := zA_in (as := as) (n := SH.length) hS.1
  refine va_calll (va_runV (As := As.map (zr as)) (rest := st.map (zr as)) ⟨hx, hb, hml, hown, hts⟩ hm0 (zcwV As.length hts hR w1 w2 w3 w4 w5 hm hdsc) ⟨zPre_blind, va_recv hK hP hc (zw_obj hs), fun U hU hW => ⟨rfl, zPre_at hK hI hZ hP hS hU hW⟩⟩ rfl (List.length_map _) hl.1 (by rw [hstk]; exact zmapA) (lv_room (zsum8 h8)) hdg ⟨Nat.zero_le _, Nat.zero_le _⟩) hS (fun q _ h => hA0 q h) hA0 (fun r0 v0 t H1 locs1 ht hvm hw hB hz1 hk1 hS1 => ?_)
  obtain ⟨rfl, rfl⟩ := hw
  obtain ⟨hP1, hK1⟩ := hB
  rw [ht] at hP1
  exact k r0 v0 r u' hF H1 locs1 ls hP1 hS1 hl
theorem G_callSl (C : zCx p s m args meth c as dA D SH d nL own cc ret) {y : MethodName} {bytes : ByteArray} {maxL index d' : Nat} {rt : Option FieldType} {As : List Value} {stk : List Value} {Fc : Option (Int64 × zM)} {K : Int64 → zM → Option (α × zM)} (hM : zMet zQl SH y bytes maxL rt d' As u Fc) (hR : d' + 1 ≤ d) (hstk : stk = As.reverse ++ st) (w1 : Cond.methodLink own index y ∈ zTb) (hw : zWs y bytes maxL rt As.length) (h8 : (st.map fun v => v.category).sum ≤ 8) (hdg : decode cc pc = .ok (.invokestatic index, 3)) (k : ∀ (x : Int64) (v : zM), Go p l e s m args below meth c as dA D SH d nL Qk (pc + 3) L (.long x :: st) v (K x v)) : Go p l e s m args below meth c as dA D SH d nL Qk pc L stk u (zb Fc K) := by
  obtain ⟨hx, hb, hml, hown, hts, hr, hlk, hK, hI, hZ, hd1⟩ := C
  obtain ⟨w2, w4, w5, hm, hdsc⟩ := hw
  intro r u' hF H locs ls hP hS hl
  obtain ⟨x0, u0, hFc, hF⟩ := zb_some hF
  have hm0 := hM x0 u0 hFc l as dA D H.size
  have hA0 := zA_in (as := as) (n := SH.length) hS.1
  refine va_calll (va_runS (As := As.map (zr as)) (rest := st.map (zr as)) ⟨hx, hb, hml, hown, hts⟩ hm0 (zcwS As.length hts hR w1 w2 w4 w5 hm hdsc) ⟨zPre_blind, fun U hU hW => ⟨rfl, zPre_at hK hI hZ hP hS hU hW⟩⟩ rfl (List.length_map _) hl.1 (by rw [hstk]; exact zmapS) (lv_room (zsum8 h8)) hdg ⟨Nat.zero_le _, Nat.zero_le _⟩) hS (fun q _ h => hA0 q h) hA0 (fun r0 v0 t H1 locs1 ht hvm hw hB hz1 hk1 hS1 => ?_)
  obtain ⟨rfl, rfl⟩ := hw
  obtain ⟨hP1, hK1⟩ := hB
  rw [ht] at hP1
  exact k r0 v0 r u' hF H1 locs1 ls hP1 hS1 hl
theorem G_callVv (C : zCx p s m args meth c as dA D SH d nL own cc ret) {y : MethodName} {bytes : ByteArray} {maxL index d' : Nat} {rt : Option FieldType} {As : List Value} {stk : List Value} {Fc : Option (Unit × zM)} {K : Unit → zM → Option (α × zM)} {a ci : Nat} {ks : List Nat} {T : u_T} {N : Nat} (hM : zMet zQv SH y bytes maxL rt d' (.ref a :: As) u Fc) (hR : d' + 1 ≤ d) (hstk : stk = As.reverse ++ .ref a :: st) (w1 : Cond.methodLink own index y ∈ zTb) (hw : zWv y bytes maxL rt As.length) (hs : SH[a]? = some (.inl (ci, ks))) (hc : zcl[ci]? = some (y.cls, T, N)) (h8 : (st.map fun v => v.category).sum ≤ 8) (hdg : decode cc pc = .ok (.invokevirtual index, 3)) (k : ∀ (x : Unit) (v : zM), Go p l e s m args below meth c as dA D SH d nL Qk (pc + 3) L st v (K x v)) : Go p l e s m args below meth c as dA D SH d nL Qk pc L stk u (zb Fc K) := by
  obtain ⟨hx, hb, hml, hown, hts, hr, hlk, hK, hI, hZ, hd1⟩ := C
  obtain ⟨w2, w3, w4, w5, hm, hdsc⟩ := hw
  intro r u' hF H locs ls hP hS hl
  obtain ⟨x0, u0, hFc, hF⟩ := zb_some hF
  have hm0 := hM x0 u0 hFc l as dA D H.size
  have hA0 := zA_in (as := as) (n := SH.length) hS.1
  refine va_callv (va_runV (As := As.map (zr as)) (rest := st.map (zr as)) ⟨hx, hb, hml, hown, hts⟩ hm0 (zcwV As.length hts hR w1 w2 w3 w4 w5 hm hdsc) ⟨zPre_blind, va_recv hK hP hc (zw_obj hs), fun U hU hW => ⟨rfl, zPre_at hK hI hZ hP hS hU hW⟩⟩ rfl (List.length_map _) hl.1 (by rw [hstk]; exact zmapA) (lv_room (zsum8 h8)) hdg ⟨Nat.zero_le _, Nat.zero_le _⟩) hS (fun q _ h => hA0 q h) hA0 (fun v0 t H1 locs1 ht hvm hw hB hz1 hk1 hS1 => ?_)
  cases x0
  subst hw
  obtain ⟨hP1, hK1⟩ := hB
  rw [ht] at hP1
  exact k () v0 r u' hF H1 locs1 ls hP1 hS1 hl
theorem G_callSv (C : zCx p s m args meth c as dA D SH d nL own cc ret) {y : MethodName} {bytes : ByteArray} {maxL index d' : Nat} {rt : Option FieldType} {As : List Value} {stk : List Value} {Fc : Option (Unit × zM)} {K : Unit → zM → Option (α × zM)} (hM : zMet zQv SH y bytes maxL rt d' As u Fc) (hR : d' + 1 ≤ d) (hstk : stk = As.reverse ++ st) (w1 : Cond.methodLink own index y ∈ zTb) (hw : zWs y bytes maxL rt As.length) (h8 : (st.map fun v => v.category).sum ≤ 8) (hdg : decode cc pc = .ok (.invokestatic index, 3)) (k : ∀ (x : Unit) (v : zM), Go p l e s m args below meth c as dA D SH d nL Qk (pc + 3) L st v (K x v)) : Go p l e s m args below meth c as dA D SH d nL Qk pc L stk u (zb Fc K) := by
  obtain ⟨hx, hb, hml, hown, hts, hr, hlk, hK, hI, hZ, hd1⟩ := C
  obtain ⟨w2, w4, w5, hm, hdsc⟩ := hw
  intro r u' hF H locs ls hP hS hl
  obtain ⟨x0, u0, hFc, hF⟩ := zb_some hF
  have hm0 := hM x0 u0 hFc l as dA D H.size
  have hA0 := zA_in (as := as) (n := SH.length) hS.1
  refine va_callv (va_runS (As := As.map (zr as)) (rest := st.map (zr as)) ⟨hx, hb, hml, hown, hts⟩ hm0 (zcwS As.length hts hR w1 w2 w4 w5 hm hdsc) ⟨zPre_blind, fun U hU hW => ⟨rfl, zPre_at hK hI hZ hP hS hU hW⟩⟩ rfl (List.length_map _) hl.1 (by rw [hstk]; exact zmapS) (lv_room (zsum8 h8)) hdg ⟨Nat.zero_le _, Nat.zero_le _⟩) hS (fun q _ h => hA0 q h) hA0 (fun v0 t H1 locs1 ht hvm hw hB hz1 hk1 hS1 => ?_)
  cases x0
  subst hw
  obtain ⟨hP1, hK1⟩ := hB
  rw [ht] at hP1
  exact k () v0 r u' hF H1 locs1 ls hP1 hS1 hl
theorem G_callNv (C : zCx p s m args meth c as dA D SH d nL own cc ret) {y : MethodName} {bytes : ByteArray} {maxL index d' : Nat} {rt : Option FieldType} {As : List Value} {stk : List Value} {Fc : Option (Unit × zM)} {K : Unit → zM → Option (α × zM)} {host : String} (hM : zMet zQv SH y bytes maxL rt d' As u Fc) (hR : d' + 1 ≤ d) (hstk : stk = As.reverse ++ st) (w1 : Cond.methodLinkNest own index y host ∈ zNest) (hw : zWs y bytes maxL rt As.length) (h8 : (st.map fun v => v.category).sum ≤ 8) (hdg : decode cc pc = .ok (.invokestatic index, 3)) (k : ∀ (x : Unit) (v : zM), Go p l e s m args below meth c as dA D SH d nL Qk (pc + 3) L st v (K x v)) : Go p l e s m args below meth c as dA D SH d nL Qk pc L stk u (zb Fc K) := by
  obtain ⟨hx, hb, hml, hown, hts, hr, hlk, hK, hI, hZ, hd1⟩ := C
  obtain ⟨w2, w4, w5, hm, hdsc⟩ := hw
  intro r u' hF H locs ls hP hS hl
  obtain ⟨x0, u0, hFc, hF⟩ := zb_some hF
  have hm0 := hM x0 u0 hFc l as dA D H.size
  have hA0 := zA_in (as := as) (n := SH.length) hS.1
  refine va_callv (va_runSN (As := As.map (zr as)) (rest := st.map (zr as)) ⟨hx, hb, hml, hown, hts⟩ hm0 (zcwN As.length hts hR (hZ.1 _ w1) w2 w4 w5 hm hdsc) ⟨zPre_blind, fun U hU hW => ⟨rfl, zPre_at hK hI hZ hP hS hU hW⟩⟩ rfl (List.length_map _) hl.1 (by rw [hstk]; exact zmapS) (lv_room (zsum8 h8)) hdg ⟨Nat.zero_le _, Nat.zero_le _⟩) hS (fun q _ h => hA0 q h) hA0 (fun v0 t H1 locs1 ht hvm hw hB hz1 hk1 hS1 => ?_)
  cases x0
  subst hw
  obtain ⟨hP1, hK1⟩ := hB
  rw [ht] at hP1
  exact k () v0 r u' hF H1 locs1 ls hP1 hS1 hl
theorem G_callVr (C : zCx p s m args meth c as dA D SH d nL own cc ret) {y : MethodName} {bytes : ByteArray} {maxL index d' : Nat} {rt : Option FieldType} {As : List Value} {stk : List Value} {Fc : Option (Nat × zM)} {K : Nat → zM → Option (α × zM)} {a ci : Nat} {ks : List Nat} {T : u_T} {N : Nat} (hM : zMet zQr SH y bytes maxL rt d' (.ref a :: As) u Fc) (hR : d' + 1 ≤ d) (hstk : stk = As.reverse ++ .ref a :: st) (w1 : Cond.methodLink own index y ∈ zTb) (hw : zWv y bytes maxL rt As.length) (hs : SH[a]? = some (.inl (ci, ks))) (hc : zcl[ci]? = some (y.cls, T, N)) (h8 : (st.map fun v => v.category).sum ≤ 8) (hdg : decode cc pc = .ok (.invokevirtual index, 3)) (k : ∀ (x : Nat) (v : zM), Go p l e s m args below meth c as dA D SH d nL Qk (pc + 3) L (.ref x :: st) v (K x v)) : Go p l e s m args below meth c as dA D SH d nL Qk pc L stk u (zb Fc K) := by
  obtain ⟨hx, hb, hml, hown, hts, hr, hlk, hK, hI, hZ, hd1⟩ := C
  obtain ⟨w2, w3, w4, w5, hm, hdsc⟩ := hw
  intro r u' hF H locs ls hP hS hl
  obtain ⟨x0, u0, hFc, hF⟩ := zb_some hF
  have hm0 := hM x0 u0 hFc l as dA D H.size
  have hA0 := zA_in (as := as) (n := SH.length) hS.1
  refine va_callr (va_runV (As := As.map (zr as)) (rest := st.map (zr as)) ⟨hx, hb, hml, hown, hts⟩ hm0 (zcwV As.length hts hR w1 w2 w3 w4 w5 hm hdsc) ⟨zPre_blind, va_recv hK hP hc (zw_obj hs), fun U hU hW => ⟨rfl, zPre_at hK hI hZ hP hS hU hW⟩⟩ rfl (List.length_map _) hl.1 (by rw [hstk]; exact zmapA) (lv_room (zsum8 h8)) hdg ⟨Nat.zero_le _, Nat.zero_le _⟩) hS (fun q _ h => hA0 q h) hA0 (fun v0 ra t H1 locs1 ht hvm hw hB hz1 hk1 hS1 => ?_)
  subst hw
  obtain ⟨rfl, hB⟩ := hB
  obtain ⟨hP1, hK1⟩ := hB
  rw [ht] at hP1
  exact k x0 v0 r u' hF H1 locs1 ls hP1 hS1 hl
theorem G_callSr (C : zCx p s m args meth c as dA D SH d nL own cc ret) {y : MethodName} {bytes : ByteArray} {maxL index d' : Nat} {rt : Option FieldType} {As : List Value} {stk : List Value} {Fc : Option (Nat × zM)} {K : Nat → zM → Option (α × zM)} (hM : zMet zQr SH y bytes maxL rt d' As u Fc) (hR : d' + 1 ≤ d) (hstk : stk = As.reverse ++ st) (w1 : Cond.methodLink own index y ∈ zTb) (hw : zWs y bytes maxL rt As.length) (h8 : (st.map fun v => v.category).sum ≤ 8) (hdg : decode cc pc = .ok (.invokestatic index, 3)) (k : ∀ (x : Nat) (v : zM), Go p l e s m args below meth c as dA D SH d nL Qk (pc + 3) L (.ref x :: st) v (K x v)) : Go p l e s m args below meth c as dA D SH d nL Qk pc L stk u (zb Fc K) := by
  obtain ⟨hx, hb, hml, hown, hts, hr, hlk, hK, hI, hZ, hd1⟩ := C
  obtain ⟨w2, w4, w5, hm, hdsc⟩ := hw
  intro r u' hF H locs ls hP hS hl
  obtain ⟨x0, u0, hFc, hF⟩ := zb_some hF
  have hm0 := hM x0 u0 hFc l as dA D H.size
  have hA0 := zA_in (as := as) (n := SH.length) hS.1
  refine va_callr (va_runS (As := As.map (zr as)) (rest := st.map (zr as)) ⟨hx, hb, hml, hown, hts⟩ hm0 (zcwS As.length hts hR w1 w2 w4 w5 hm hdsc) ⟨zPre_blind, fun U hU hW => ⟨rfl, zPre_at hK hI hZ hP hS hU hW⟩⟩ rfl (List.length_map _) hl.1 (by rw [hstk]; exact zmapS) (lv_room (zsum8 h8)) hdg ⟨Nat.zero_le _, Nat.zero_le _⟩) hS (fun q _ h => hA0 q h) hA0 (fun v0 ra t H1 locs1 ht hvm hw hB hz1 hk1 hS1 => ?_)
  subst hw
  obtain ⟨rfl, hB⟩ := hB
  obtain ⟨hP1, hK1⟩ := hB
  rw [ht] at hP1
  exact k x0 v0 r u' hF H1 locs1 ls hP1 hS1 hl
theorem zMet_of {α : Type} {Qk : (Nat → Nat) → (Nat → ClassId) → va_G → List zS → Nat → α → zM → Array Value → State → Outcome → State → Prop} {y : MethodName} {bytes : ByteArray} {maxL : Nat} {rt : Option FieldType} {av : List Value} {F : Option (α × zM)} (hy : plainName y.cls = true) (hlen : ∀ as : Nat → Nat, (lg_sl (av.map (zr as))).length ≤ maxL) (hw5 : Cond.code y bytes maxL rt ∈ zTb) (hd1 : 1 ≤ d)
    (body : ∀ (p : Program) (l : Launch) (e : Env) (s : State) (m : MethodId) (args : Array Value) (below : List Frame) (meth : Method) (c : Code) (as : Nat → Nat) (dA : Nat → ClassId) (D : va_G), zCx p s m args meth c as dA D SH d maxL y.cls bytes rt → Go p l e s m args below meth c as dA D SH d maxL Qk 0 (lv_args 0 av) [] u F) : zMet Qk SH y bytes maxL rt d av u F := by
  intro r u' hF l as dA D sz
  refine Met.ofW (cc := bytes) (maxL := maxL) (ret := rt) hy rfl ?_
  intro p e s m args below meth c s₁ B hml hv
  obtain ⟨rfl, hsz, hP, hK, hI, hZ⟩ := hv
  subst hsz
  have hts0 := atoms_spec (ws := .code y bytes maxL rt :: zTb) B.pre
  have hts : ∀ w ∈ zTb, w.before ((av.map (zr as)).toArray) s = true := fun w hw => hts0 w (List.mem_cons_of_mem _ hw)
  have hown : s.vm.findClass y.cls = some m.cls := findClass_of_methodNamed B.named
  have hl := lv_entry (av.map (zr as)) (n := maxL) (hlen as)
  rw [lg_entry_eq]
  generalize (lg_sl (av.map (zr as)) ++ List.replicate (maxL - (lg_sl (av.map (zr as))).length) Slot.unset).toArray = ls at hl ⊢
  have hl2 : lv_has ls maxL (zL as (lv_args 0 av)) := by
    have hz : ∀ (i : Nat) (av : List Value), lv_args i (av.map (zr as)) = zL as (lv_args i av) := by
      intro i av
      induction av generalizing i with
      | nil => rfl
      | cons v vs ih =>
        show (i, zr as v) :: lv_args (if (zr as v).category = 2 then i + 2 else i + 1) (vs.map (zr as)) = (i, zr as v) :: zL as (lv_args (if v.category = 2 then i + 2 else i + 1) vs)
        rw [zr_cat, ih]
    rw [← hz]
    exact hl
  exact body p l e s m _ below meth c as dA D ⟨B.exec, B.bytes, hml, hown, hts, B.returns, B.notSynchronized, hK, hI, hZ, hd1⟩ r u' hF s.heap [] ls hP va_S.rf hl2
end GoCalls
end
section
/-! ===== words of the tables, by their places ===== -/
theorem wwX0_start : zWv yX0_start cX0_start 5 ((some FieldType.int)) 4 := ⟨zt_at 885 (by decide +kernel) rfl, zt_at 886 (by decide +kernel) rfl, zt_at 88 (by decide +kernel) rfl, zt_at 887 (by decide +kernel) rfl, by decide, ⟨by decide +kernel, by decide +kernel, by decide +kernel⟩⟩
theorem wwX0_run : zWv yX0_run cX0_run 8 ((some FieldType.int)) 4 := ⟨zt_at 890 (by decide +kernel) rfl, zt_at 18 (by decide +kernel) rfl, zt_at 88 (by decide +kernel) rfl, zt_at 891 (by decide +kernel) rfl, by decide, ⟨by decide +kernel, by decide +kernel, by decide +kernel⟩⟩
theorem wwX0_bodyOf : zWs yX0_bodyOf cX0_bodyOf 5 ((some FieldType.int)) 2 := ⟨zt_at 893 (by decide +kernel) rfl, zt_at 88 (by decide +kernel) rfl, zt_at 894 (by decide +kernel) rfl, by decide, ⟨by decide +kernel, by decide +kernel, by decide +kernel⟩⟩
theorem wwX0_note : zWv yX0_note cX0_note 2 (none) 1 := ⟨zt_at 902 (by decide +kernel) rfl, zt_at 19 (by decide +kernel) rfl, zt_at 88 (by decide +kernel) rfl, zt_at 903 (by decide +kernel) rfl, by decide, ⟨by decide +kernel, by decide +kernel, by decide +kernel⟩⟩
theorem wwX1_behind : zWv yX1_behind cX1_behind 2 ((some (FieldType.object "StruckWhile$Town"))) 1 := ⟨zt_at 718 (by decide +kernel) rfl, zt_at 719 (by decide +kernel) rfl, zt_at 86 (by decide +kernel) rfl, zt_at 720 (by decide +kernel) rfl, by decide, ⟨by decide +kernel, by decide +kernel, by decide +kernel⟩⟩
theorem wwX1_minutesUntilDone : zWv yX1_minutesUntilDone cX1_minutesUntilDone 3 ((some FieldType.int)) 1 := ⟨zt_at 458 (by decide +kernel) rfl, zt_at 459 (by decide +kernel) rfl, zt_at 86 (by decide +kernel) rfl, zt_at 460 (by decide +kernel) rfl, by decide, ⟨by decide +kernel, by decide +kernel, by decide +kernel⟩⟩
theorem wwX1_findBestRow : zWv yX1_findBestRow cX1_findBestRow 7 ((some FieldType.int)) 1 := ⟨zt_at 727 (by decide +kernel) rfl, zt_at 728 (by decide +kernel) rfl, zt_at 86 (by decide +kernel) rfl, zt_at 729 (by decide +kernel) rfl, by decide, ⟨by decide +kernel, by decide +kernel, by decide +kernel⟩⟩
theorem wwX1_setRow : zWv yX1_setRow cX1_setRow 9 (none) 2 := ⟨zt_at 735 (by decide +kernel) rfl, zt_at 12 (by decide +kernel) rfl, zt_at 86 (by decide +kernel) rfl, zt_at 736 (by decide +kernel) rfl, by decide, ⟨by decide +kernel, by decide +kernel, by decide +kernel⟩⟩
theorem wwX1_countDoneInTime : zWv yX1_countDoneInTime cX1_countDoneInTime 7 ((some FieldType.int)) 2 := ⟨zt_at 739 (by decide +kernel) rfl, zt_at 13 (by decide +kernel) rfl, zt_at 86 (by decide +kernel) rfl, zt_at 740 (by decide +kernel) rfl, by decide, ⟨by decide +kernel, by decide +kernel, by decide +kernel⟩⟩
theorem wwX1_firstUndone : zWv yX1_firstUndone cX1_firstUndone 4 ((some FieldType.int)) 2 := ⟨zt_at 750 (by decide +kernel) rfl, zt_at 14 (by decide +kernel) rfl, zt_at 86 (by decide +kernel) rfl, zt_at 751 (by decide +kernel) rfl, by decide, ⟨by decide +kernel, by decide +kernel, by decide +kernel⟩⟩
theorem wwX1_whomToTalkTo : zWv yX1_whomToTalkTo cX1_whomToTalkTo 6 ((some FieldType.int)) 1 := ⟨zt_at 759 (by decide +kernel) rfl, zt_at 760 (by decide +kernel) rfl, zt_at 86 (by decide +kernel) rfl, zt_at 761 (by decide +kernel) rfl, by decide, ⟨by decide +kernel, by decide +kernel, by decide +kernel⟩⟩
theorem wwX1_hottestByTalk : zWv yX1_hottestByTalk cX1_hottestByTalk 4 ((some FieldType.int)) 2 := ⟨zt_at 763 (by decide +kernel) rfl, zt_at 764 (by decide +kernel) rfl, zt_at 86 (by decide +kernel) rfl, zt_at 765 (by decide +kernel) rfl, by decide, ⟨by decide +kernel, by decide +kernel, by decide +kernel⟩⟩
theorem wwX1_warm : zWv yX1_warm cX1_warm 3 (none) 2 := ⟨zt_at 768 (by decide +kernel) rfl, zt_at 15 (by decide +kernel) rfl, zt_at 86 (by decide +kernel) rfl, zt_at 769 (by decide +kernel) rfl, by decide, ⟨by decide +kernel, by decide +kernel, by decide +kernel⟩⟩
theorem wwX1_fitting : zWv yX1_fitting cX1_fitting 8 ((some FieldType.int)) 3 := ⟨zt_at 794 (by decide +kernel) rfl, zt_at 795 (by decide +kernel) rfl, zt_at 86 (by decide +kernel) rfl, zt_at 796 (by decide +kernel) rfl, by decide, ⟨by decide +kernel, by decide +kernel, by decide +kernel⟩⟩
theorem wwX1_isAllSeenSo : zWv yX1_isAllSeenSo cX1_isAllSeenSo 4 ((some FieldType.boolean)) 0 := ⟨zt_at 799 (by decide +kernel) rfl, zt_at 16 (by decide +kernel) rfl, zt_at 86 (by decide +kernel) rfl, zt_at 800 (by decide +kernel) rfl, by decide, ⟨by decide +kernel, by decide +kernel, by decide +kernel⟩⟩
theorem wwX1_countHot : zWv yX1_countHot cX1_countHot 5 ((some FieldType.int)) 2 := ⟨zt_at 812 (by decide +kernel) rfl, zt_at 813 (by decide +kernel) rfl, zt_at 86 (by decide +kernel) rfl, zt_at 814 (by decide +kernel) rfl, by decide, ⟨by decide +kernel, by decide +kernel, by decide +kernel⟩⟩
theorem wwX1_behindPlan : zWv yX1_behindPlan cX1_behindPlan 3 ((some (FieldType.object "StruckWhile$Town"))) 1 := ⟨zt_at 835 (by decide +kernel) rfl, zt_at 836 (by decide +kernel) rfl, zt_at 86 (by decide +kernel) rfl, zt_at 837 (by decide +kernel) rfl, by decide, ⟨by decide +kernel, by decide +kernel, by decide +kernel⟩⟩
theorem wwX1_goPlanned : zWv yX1_goPlanned cX1_goPlanned 3 (none) 2 := ⟨zt_at 840 (by decide +kernel) rfl, zt_at 17 (by decide +kernel) rfl, zt_at 86 (by decide +kernel) rfl, zt_at 841 (by decide +kernel) rfl, by decide, ⟨by decide +kernel, by decide +kernel, by decide +kernel⟩⟩
theorem wwX2_add : zWv yX2_add cX2_add 2 ((some FieldType.int)) 1 := ⟨zt_at 505 (by decide +kernel) rfl, zt_at 506 (by decide +kernel) rfl, zt_at 87 (by decide +kernel) rfl, zt_at 507 (by decide +kernel) rfl, by decide, ⟨by decide +kernel, by decide +kernel, by decide +kernel⟩⟩
theorem wwX2_empty : zWv yX2_empty cX2_empty 1 (none) 0 := ⟨zt_at 687 (by decide +kernel) rfl, zt_at 688 (by decide +kernel) rfl, zt_at 87 (by decide +kernel) rfl, zt_at 689 (by decide +kernel) rfl, by decide, ⟨by decide +kernel, by decide +kernel, by decide +kernel⟩⟩
theorem wwX2_reads : zWv yX2_reads cX2_reads 3 ((some FieldType.boolean)) 1 := ⟨zt_at 513 (by decide +kernel) rfl, zt_at 514 (by decide +kernel) rfl, zt_at 87 (by decide +kernel) rfl, zt_at 515 (by decide +kernel) rfl, by decide, ⟨by decide +kernel, by decide +kernel, by decide +kernel⟩⟩
theorem wwX2_readsClause : zWv yX2_readsClause cX2_readsClause 2 ((some FieldType.boolean)) 0 := ⟨zt_at 522 (by decide +kernel) rfl, zt_at 1 (by decide +kernel) rfl, zt_at 87 (by decide +kernel) rfl, zt_at 523 (by decide +kernel) rfl, by decide, ⟨by decide +kernel, by decide +kernel, by decide +kernel⟩⟩
theorem wwX2_readsHeat : zWv yX2_readsHeat cX2_readsHeat 3 ((some FieldType.boolean)) 1 := ⟨zt_at 587 (by decide +kernel) rfl, zt_at 5 (by decide +kernel) rfl, zt_at 87 (by decide +kernel) rfl, zt_at 588 (by decide +kernel) rfl, by decide, ⟨by decide +kernel, by decide +kernel, by decide +kernel⟩⟩
theorem wwX2_readsEither : zWv yX2_readsEither cX2_readsEither 3 ((some FieldType.boolean)) 1 := ⟨zt_at 596 (by decide +kernel) rfl, zt_at 7 (by decide +kernel) rfl, zt_at 87 (by decide +kernel) rfl, zt_at 597 (by decide +kernel) rfl, by decide, ⟨by decide +kernel, by decide +kernel, by decide +kernel⟩⟩
theorem wwX2_readsBoth : zWv yX2_readsBoth cX2_readsBoth 3 ((some FieldType.boolean)) 1 := ⟨zt_at 600 (by decide +kernel) rfl, zt_at 8 (by decide +kernel) rfl, zt_at 87 (by decide +kernel) rfl, zt_at 601 (by decide +kernel) rfl, by decide, ⟨by decide +kernel, by decide +kernel, by decide +kernel⟩⟩
theorem wwX2_readsFactor : zWv yX2_readsFactor cX2_readsFactor 2 ((some FieldType.boolean)) 1 := ⟨zt_at 604 (by decide +kernel) rfl, zt_at 9 (by decide +kernel) rfl, zt_at 87 (by decide +kernel) rfl, zt_at 605 (by decide +kernel) rfl, by decide, ⟨by decide +kernel, by decide +kernel, by decide +kernel⟩⟩
theorem wwX2_readsTest : zWv yX2_readsTest cX2_readsTest 4 ((some FieldType.boolean)) 0 := ⟨zt_at 608 (by decide +kernel) rfl, zt_at 10 (by decide +kernel) rfl, zt_at 87 (by decide +kernel) rfl, zt_at 609 (by decide +kernel) rfl, by decide, ⟨by decide +kernel, by decide +kernel, by decide +kernel⟩⟩
theorem wwX2_takeNumber : zWv yX2_takeNumber cX2_takeNumber 3 ((some FieldType.int)) 0 := ⟨zt_at 591 (by decide +kernel) rfl, zt_at 6 (by decide +kernel) rfl, zt_at 87 (by decide +kernel) rfl, zt_at 592 (by decide +kernel) rfl, by decide, ⟨by decide +kernel, by decide +kernel, by decide +kernel⟩⟩
theorem wwX2_takeOneOf : zWv yX2_takeOneOf cX2_takeOneOf 3 ((some FieldType.int)) 1 := ⟨zt_at 613 (by decide +kernel) rfl, zt_at 11 (by decide +kernel) rfl, zt_at 87 (by decide +kernel) rfl, zt_at 614 (by decide +kernel) rfl, by decide, ⟨by decide +kernel, by decide +kernel, by decide +kernel⟩⟩
theorem wwX2_takesWord : zWv yX2_takesWord cX2_takesWord 3 ((some FieldType.boolean)) 1 := ⟨zt_at 531 (by decide +kernel) rfl, zt_at 3 (by decide +kernel) rfl, zt_at 87 (by decide +kernel) rfl, zt_at 532 (by decide +kernel) rfl, by decide, ⟨by decide +kernel, by decide +kernel, by decide +kernel⟩⟩
theorem wwX2_takes : zWv yX2_takes cX2_takes 3 ((some FieldType.boolean)) 1 := ⟨zt_at 583 (by decide +kernel) rfl, zt_at 4 (by decide +kernel) rfl, zt_at 87 (by decide +kernel) rfl, zt_at 584 (by decide +kernel) rfl, by decide, ⟨by decide +kernel, by decide +kernel, by decide +kernel⟩⟩
theorem wwX2_sees : zWv yX2_sees cX2_sees 2 ((some FieldType.boolean)) 1 := ⟨zt_at 526 (by decide +kernel) rfl, zt_at 2 (by decide +kernel) rfl, zt_at 87 (by decide +kernel) rfl, zt_at 527 (by decide +kernel) rfl, by decide, ⟨by decide +kernel, by decide +kernel, by decide +kernel⟩⟩
theorem wwX3_isFull : zWv yX3_isFull cX3_isFull 1 ((some FieldType.boolean)) 0 := ⟨zt_at 781 (by decide +kernel) rfl, zt_at 782 (by decide +kernel) rfl, zt_at 85 (by decide +kernel) rfl, zt_at 783 (by decide +kernel) rfl, by decide, ⟨by decide +kernel, by decide +kernel, by decide +kernel⟩⟩
theorem wwX3_add : zWv yX3_add cX3_add 4 ((some FieldType.int)) 3 := ⟨zt_at 785 (by decide +kernel) rfl, zt_at 786 (by decide +kernel) rfl, zt_at 85 (by decide +kernel) rfl, zt_at 787 (by decide +kernel) rfl, by decide, ⟨by decide +kernel, by decide +kernel, by decide +kernel⟩⟩
theorem wwX3_empty : zWv yX3_empty cX3_empty 1 ((some FieldType.int)) 0 := ⟨zt_at 777 (by decide +kernel) rfl, zt_at 778 (by decide +kernel) rfl, zt_at 85 (by decide +kernel) rfl, zt_at 779 (by decide +kernel) rfl, by decide, ⟨by decide +kernel, by decide +kernel, by decide +kernel⟩⟩
theorem wwX3_become : zWv yX3_become cX3_become 3 (none) 1 := ⟨zt_at 873 (by decide +kernel) rfl, zt_at 874 (by decide +kernel) rfl, zt_at 85 (by decide +kernel) rfl, zt_at 875 (by decide +kernel) rfl, by decide, ⟨by decide +kernel, by decide +kernel, by decide +kernel⟩⟩
theorem wwX4_empty : zWv yX4_empty cX4_empty 1 (none) 0 := ⟨zt_at 517 (by decide +kernel) rfl, zt_at 518 (by decide +kernel) rfl, zt_at 90 (by decide +kernel) rfl, zt_at 519 (by decide +kernel) rfl, by decide, ⟨by decide +kernel, by decide +kernel, by decide +kernel⟩⟩
theorem wwX4_addTest : zWv yX4_addTest cX4_addTest 4 (none) 3 := ⟨zt_at 672 (by decide +kernel) rfl, zt_at 673 (by decide +kernel) rfl, zt_at 90 (by decide +kernel) rfl, zt_at 674 (by decide +kernel) rfl, by decide, ⟨by decide +kernel, by decide +kernel, by decide +kernel⟩⟩
theorem wwX4_addStep : zWv yX4_addStep cX4_addStep 2 (none) 1 := ⟨zt_at 676 (by decide +kernel) rfl, zt_at 677 (by decide +kernel) rfl, zt_at 90 (by decide +kernel) rfl, zt_at 678 (by decide +kernel) rfl, by decide, ⟨by decide +kernel, by decide +kernel, by decide +kernel⟩⟩
theorem wwX4_addClause : zWv yX4_addClause cX4_addClause 2 (none) 1 := ⟨zt_at 681 (by decide +kernel) rfl, zt_at 682 (by decide +kernel) rfl, zt_at 90 (by decide +kernel) rfl, zt_at 683 (by decide +kernel) rfl, by decide, ⟨by decide +kernel, by decide +kernel, by decide +kernel⟩⟩
theorem wwX4_sum : zWv yX4_sum cX4_sum 8 ((some FieldType.int)) 1 := ⟨zt_at 421 (by decide +kernel) rfl, zt_at 422 (by decide +kernel) rfl, zt_at 90 (by decide +kernel) rfl, zt_at 423 (by decide +kernel) rfl, by decide, ⟨by decide +kernel, by decide +kernel, by decide +kernel⟩⟩
theorem wwX4_test : zWs yX4_test cX4_test 3 ((some FieldType.int)) 2 := ⟨zt_at 425 (by decide +kernel) rfl, zt_at 90 (by decide +kernel) rfl, zt_at 426 (by decide +kernel) rfl, by decide, ⟨by decide +kernel, by decide +kernel, by decide +kernel⟩⟩
theorem wwX5_has : zWv yX5_has cX5_has 2 ((some FieldType.boolean)) 1 := ⟨zt_at 856 (by decide +kernel) rfl, zt_at 857 (by decide +kernel) rfl, zt_at 89 (by decide +kernel) rfl, zt_at 858 (by decide +kernel) rfl, by decide, ⟨by decide +kernel, by decide +kernel, by decide +kernel⟩⟩
theorem wwX5_holds : zWv yX5_holds cX5_holds 2 ((some FieldType.boolean)) 1 := ⟨zt_at 860 (by decide +kernel) rfl, zt_at 861 (by decide +kernel) rfl, zt_at 89 (by decide +kernel) rfl, zt_at 862 (by decide +kernel) rfl, by decide, ⟨by decide +kernel, by decide +kernel, by decide +kernel⟩⟩
theorem wwX5_hasItems : zWv yX5_hasItems cX5_hasItems 4 ((some FieldType.boolean)) 3 := ⟨zt_at 933 (by decide +kernel) rfl, zt_at 934 (by decide +kernel) rfl, zt_at 89 (by decide +kernel) rfl, zt_at 935 (by decide +kernel) rfl, by decide, ⟨by decide +kernel, by decide +kernel, by decide +kernel⟩⟩
theorem wwX5_become : zWv yX5_become cX5_become 5 ((some FieldType.int)) 3 := ⟨zt_at 925 (by decide +kernel) rfl, zt_at 926 (by decide +kernel) rfl, zt_at 89 (by decide +kernel) rfl, zt_at 927 (by decide +kernel) rfl, by decide, ⟨by decide +kernel, by decide +kernel, by decide +kernel⟩⟩
theorem wwX5_put : zWv yX5_put cX5_put 5 ((some FieldType.int)) 3 := ⟨zt_at 937 (by decide +kernel) rfl, zt_at 938 (by decide +kernel) rfl, zt_at 89 (by decide +kernel) rfl, zt_at 939 (by decide +kernel) rfl, by decide, ⟨by decide +kernel, by decide +kernel, by decide +kernel⟩⟩
theorem wwX5_cut : zWs yX5_cut cX5_cut 3 ((some FieldType.long)) 2 := ⟨zt_at 941 (by decide +kernel) rfl, zt_at 89 (by decide +kernel) rfl, zt_at 942 (by decide +kernel) rfl, by decide, ⟨by decide +kernel, by decide +kernel, by decide +kernel⟩⟩
theorem wwX6_hasOne : zWv yX6_hasOne cX6_hasOne 2 ((some FieldType.boolean)) 1 := ⟨zt_at 401 (by decide +kernel) rfl, zt_at 402 (by decide +kernel) rfl, zt_at 84 (by decide +kernel) rfl, zt_at 403 (by decide +kernel) rfl, by decide, ⟨by decide +kernel, by decide +kernel, by decide +kernel⟩⟩
theorem wwX6_hasWork : zWv yX6_hasWork cX6_hasWork 2 ((some FieldType.boolean)) 1 := ⟨zt_at 449 (by decide +kernel) rfl, zt_at 450 (by decide +kernel) rfl, zt_at 84 (by decide +kernel) rfl, zt_at 451 (by decide +kernel) rfl, by decide, ⟨by decide +kernel, by decide +kernel, by decide +kernel⟩⟩
theorem wwX6_addOne : zWv yX6_addOne cX6_addOne 6 ((some FieldType.int)) 3 := ⟨zt_at 393 (by decide +kernel) rfl, zt_at 394 (by decide +kernel) rfl, zt_at 84 (by decide +kernel) rfl, zt_at 395 (by decide +kernel) rfl, by decide, ⟨by decide +kernel, by decide +kernel, by decide +kernel⟩⟩
theorem wwX6_addWork : zWv yX6_addWork cX6_addWork 4 ((some FieldType.int)) 2 := ⟨zt_at 441 (by decide +kernel) rfl, zt_at 442 (by decide +kernel) rfl, zt_at 84 (by decide +kernel) rfl, zt_at 443 (by decide +kernel) rfl, by decide, ⟨by decide +kernel, by decide +kernel, by decide +kernel⟩⟩
theorem wwX6_become : zWv yX6_become cX6_become 3 (none) 1 := ⟨zt_at 462 (by decide +kernel) rfl, zt_at 463 (by decide +kernel) rfl, zt_at 84 (by decide +kernel) rfl, zt_at 464 (by decide +kernel) rfl, by decide, ⟨by decide +kernel, by decide +kernel, by decide +kernel⟩⟩
theorem wwX6_isHot : zWv yX6_isHot cX6_isHot 2 ((some FieldType.boolean)) 1 := ⟨zt_at 803 (by decide +kernel) rfl, zt_at 804 (by decide +kernel) rfl, zt_at 84 (by decide +kernel) rfl, zt_at 805 (by decide +kernel) rfl, by decide, ⟨by decide +kernel, by decide +kernel, by decide +kernel⟩⟩
theorem wwX6_isDone : zWv yX6_isDone cX6_isDone 2 ((some FieldType.boolean)) 1 := ⟨zt_at 453 (by decide +kernel) rfl, zt_at 454 (by decide +kernel) rfl, zt_at 84 (by decide +kernel) rfl, zt_at 455 (by decide +kernel) rfl, by decide, ⟨by decide +kernel, by decide +kernel, by decide +kernel⟩⟩
theorem wwX6_doneBits : zWv yX6_doneBits cX6_doneBits 3 ((some FieldType.int)) 0 := ⟨zt_at 696 (by decide +kernel) rfl, zt_at 697 (by decide +kernel) rfl, zt_at 84 (by decide +kernel) rfl, zt_at 698 (by decide +kernel) rfl, by decide, ⟨by decide +kernel, by decide +kernel, by decide +kernel⟩⟩
theorem wwX6_heatOfAll : zWv yX6_heatOfAll cX6_heatOfAll 3 ((some FieldType.int)) 0 := ⟨zt_at 701 (by decide +kernel) rfl, zt_at 702 (by decide +kernel) rfl, zt_at 84 (by decide +kernel) rfl, zt_at 703 (by decide +kernel) rfl, by decide, ⟨by decide +kernel, by decide +kernel, by decide +kernel⟩⟩
theorem wwX6_countHere : zWv yX6_countHere cX6_countHere 3 ((some FieldType.int)) 0 := ⟨zt_at 816 (by decide +kernel) rfl, zt_at 817 (by decide +kernel) rfl, zt_at 84 (by decide +kernel) rfl, zt_at 818 (by decide +kernel) rfl, by decide, ⟨by decide +kernel, by decide +kernel, by decide +kernel⟩⟩
theorem wwX6_hottest : zWv yX6_hottest cX6_hottest 3 ((some FieldType.int)) 0 := ⟨zt_at 475 (by decide +kernel) rfl, zt_at 476 (by decide +kernel) rfl, zt_at 84 (by decide +kernel) rfl, zt_at 477 (by decide +kernel) rfl, by decide, ⟨by decide +kernel, by decide +kernel, by decide +kernel⟩⟩
theorem wwX6_countBeside : zWv yX6_countBeside cX6_countBeside 4 ((some FieldType.int)) 2 := ⟨zt_at 412 (by decide +kernel) rfl, zt_at 413 (by decide +kernel) rfl, zt_at 84 (by decide +kernel) rfl, zt_at 414 (by decide +kernel) rfl, by decide, ⟨by decide +kernel, by decide +kernel, by decide +kernel⟩⟩
theorem wwX6_spark : zWv yX6_spark cX6_spark 1 ((some FieldType.int)) 0 := ⟨zt_at 479 (by decide +kernel) rfl, zt_at 480 (by decide +kernel) rfl, zt_at 84 (by decide +kernel) rfl, zt_at 481 (by decide +kernel) rfl, by decide, ⟨by decide +kernel, by decide +kernel, by decide +kernel⟩⟩
theorem wwX6_riseOf : zWv yX6_riseOf cX6_riseOf 6 ((some FieldType.int)) 1 := ⟨zt_at 408 (by decide +kernel) rfl, zt_at 409 (by decide +kernel) rfl, zt_at 84 (by decide +kernel) rfl, zt_at 410 (by decide +kernel) rfl, by decide, ⟨by decide +kernel, by decide +kernel, by decide +kernel⟩⟩
theorem wwX6_setLetters : zWv yX6_setLetters cX6_setLetters 3 (none) 2 := ⟨zt_at 418 (by decide +kernel) rfl, zt_at 0 (by decide +kernel) rfl, zt_at 84 (by decide +kernel) rfl, zt_at 419 (by decide +kernel) rfl, by decide, ⟨by decide +kernel, by decide +kernel, by decide +kernel⟩⟩
theorem wwX6_goOn : zWv yX6_goOn cX6_goOn 3 (none) 1 := ⟨zt_at 709 (by decide +kernel) rfl, zt_at 710 (by decide +kernel) rfl, zt_at 84 (by decide +kernel) rfl, zt_at 711 (by decide +kernel) rfl, by decide, ⟨by decide +kernel, by decide +kernel, by decide +kernel⟩⟩
theorem wwX6_goOneMinute : zWv yX6_goOneMinute cX6_goOneMinute 5 (none) 0 := ⟨zt_at 470 (by decide +kernel) rfl, zt_at 471 (by decide +kernel) rfl, zt_at 84 (by decide +kernel) rfl, zt_at 472 (by decide +kernel) rfl, by decide, ⟨by decide +kernel, by decide +kernel, by decide +kernel⟩⟩
theorem wwX7_become : zWv yX7_become cX7_become 2 (none) 1 := ⟨zt_at 868 (by decide +kernel) rfl, zt_at 869 (by decide +kernel) rfl, zt_at 83 (by decide +kernel) rfl, zt_at 870 (by decide +kernel) rfl, by decide, ⟨by decide +kernel, by decide +kernel, by decide +kernel⟩⟩
theorem wwX8_one : zWv yX8_one cX8_one 4 ((some FieldType.int)) 3 := ⟨zt_at 386 (by decide +kernel) rfl, zt_at 387 (by decide +kernel) rfl, zt_at 82 (by decide +kernel) rfl, zt_at 388 (by decide +kernel) rfl, by decide, ⟨by decide +kernel, by decide +kernel, by decide +kernel⟩⟩
theorem wwX8_of : zWv yX8_of cX8_of 3 ((some FieldType.int)) 2 := ⟨zt_at 397 (by decide +kernel) rfl, zt_at 398 (by decide +kernel) rfl, zt_at 82 (by decide +kernel) rfl, zt_at 399 (by decide +kernel) rfl, by decide, ⟨by decide +kernel, by decide +kernel, by decide +kernel⟩⟩
theorem wwX8_heat : zWv yX8_heat cX8_heat 4 ((some FieldType.int)) 2 := ⟨zt_at 429 (by decide +kernel) rfl, zt_at 430 (by decide +kernel) rfl, zt_at 82 (by decide +kernel) rfl, zt_at 431 (by decide +kernel) rfl, by decide, ⟨by decide +kernel, by decide +kernel, by decide +kernel⟩⟩
theorem wwX8_away : zWv yX8_away cX8_away 4 ((some FieldType.int)) 2 := ⟨zt_at 433 (by decide +kernel) rfl, zt_at 434 (by decide +kernel) rfl, zt_at 82 (by decide +kernel) rfl, zt_at 435 (by decide +kernel) rfl, by decide, ⟨by decide +kernel, by decide +kernel, by decide +kernel⟩⟩
theorem wwX8_work : zWv yX8_work cX8_work 3 ((some FieldType.int)) 2 := ⟨zt_at 437 (by decide +kernel) rfl, zt_at 438 (by decide +kernel) rfl, zt_at 82 (by decide +kernel) rfl, zt_at 439 (by decide +kernel) rfl, by decide, ⟨by decide +kernel, by decide +kernel, by decide +kernel⟩⟩
theorem wwX8_piece : zWv yX8_piece cX8_piece 3 ((some FieldType.int)) 2 := ⟨zt_at 445 (by decide +kernel) rfl, zt_at 446 (by decide +kernel) rfl, zt_at 82 (by decide +kernel) rfl, zt_at 447 (by decide +kernel) rfl, by decide, ⟨by decide +kernel, by decide +kernel, by decide +kernel⟩⟩
theorem wwX8_anvil : zWv yX8_anvil cX8_anvil 3 ((some FieldType.int)) 1 := ⟨zt_at 490 (by decide +kernel) rfl, zt_at 491 (by decide +kernel) rfl, zt_at 82 (by decide +kernel) rfl, zt_at 492 (by decide +kernel) rfl, by decide, ⟨by decide +kernel, by decide +kernel, by decide +kernel⟩⟩
theorem wwX8_row : zWv yX8_row cX8_row 6 ((some FieldType.int)) 3 := ⟨zt_at 497 (by decide +kernel) rfl, zt_at 498 (by decide +kernel) rfl, zt_at 82 (by decide +kernel) rfl, zt_at 499 (by decide +kernel) rfl, by decide, ⟨by decide +kernel, by decide +kernel, by decide +kernel⟩⟩
theorem wwX8_feed : zWv yX8_feed cX8_feed 2 ((some FieldType.int)) 1 := ⟨zt_at 501 (by decide +kernel) rfl, zt_at 502 (by decide +kernel) rfl, zt_at 82 (by decide +kernel) rfl, zt_at 503 (by decide +kernel) rfl, by decide, ⟨by decide +kernel, by decide +kernel, by decide +kernel⟩⟩
theorem wwX8_square : zWv yX8_square cX8_square 3 ((some FieldType.int)) 0 := ⟨zt_at 509 (by decide +kernel) rfl, zt_at 510 (by decide +kernel) rfl, zt_at 82 (by decide +kernel) rfl, zt_at 511 (by decide +kernel) rfl, by decide, ⟨by decide +kernel, by decide +kernel, by decide +kernel⟩⟩
theorem wwX8_told : zWv yX8_told cX8_told 2 ((some FieldType.int)) 1 := ⟨zt_at 691 (by decide +kernel) rfl, zt_at 692 (by decide +kernel) rfl, zt_at 82 (by decide +kernel) rfl, zt_at 693 (by decide +kernel) rfl, by decide, ⟨by decide +kernel, by decide +kernel, by decide +kernel⟩⟩
theorem wwX8_pass : zWv yX8_pass cX8_pass 2 ((some FieldType.int)) 1 := ⟨zt_at 705 (by decide +kernel) rfl, zt_at 706 (by decide +kernel) rfl, zt_at 82 (by decide +kernel) rfl, zt_at 707 (by decide +kernel) rfl, by decide, ⟨by decide +kernel, by decide +kernel, by decide +kernel⟩⟩
theorem wwX8_on : zWv yX8_on cX8_on 6 ((some FieldType.int)) 2 := ⟨zt_at 714 (by decide +kernel) rfl, zt_at 715 (by decide +kernel) rfl, zt_at 82 (by decide +kernel) rfl, zt_at 716 (by decide +kernel) rfl, by decide, ⟨by decide +kernel, by decide +kernel, by decide +kernel⟩⟩
theorem wwX8_best : zWv yX8_best cX8_best 4 ((some FieldType.int)) 2 := ⟨zt_at 723 (by decide +kernel) rfl, zt_at 724 (by decide +kernel) rfl, zt_at 82 (by decide +kernel) rfl, zt_at 725 (by decide +kernel) rfl, by decide, ⟨by decide +kernel, by decide +kernel, by decide +kernel⟩⟩
theorem wwX8_talk : zWv yX8_talk cX8_talk 4 ((some FieldType.int)) 2 := ⟨zt_at 755 (by decide +kernel) rfl, zt_at 756 (by decide +kernel) rfl, zt_at 82 (by decide +kernel) rfl, zt_at 757 (by decide +kernel) rfl, by decide, ⟨by decide +kernel, by decide +kernel, by decide +kernel⟩⟩
theorem wwX8_see : zWv yX8_see cX8_see 4 ((some FieldType.int)) 3 := ⟨zt_at 773 (by decide +kernel) rfl, zt_at 774 (by decide +kernel) rfl, zt_at 82 (by decide +kernel) rfl, zt_at 775 (by decide +kernel) rfl, by decide, ⟨by decide +kernel, by decide +kernel, by decide +kernel⟩⟩
theorem wwX8_can : zWv yX8_can cX8_can 4 ((some FieldType.int)) 3 := ⟨zt_at 790 (by decide +kernel) rfl, zt_at 791 (by decide +kernel) rfl, zt_at 82 (by decide +kernel) rfl, zt_at 792 (by decide +kernel) rfl, by decide, ⟨by decide +kernel, by decide +kernel, by decide +kernel⟩⟩
theorem wwX8_odds : zWv yX8_odds cX8_odds 4 ((some FieldType.long)) 3 := ⟨zt_at 807 (by decide +kernel) rfl, zt_at 808 (by decide +kernel) rfl, zt_at 82 (by decide +kernel) rfl, zt_at 809 (by decide +kernel) rfl, by decide, ⟨by decide +kernel, by decide +kernel, by decide +kernel⟩⟩
theorem wwX8_mean : zWv yX8_mean cX8_mean 3 ((some FieldType.long)) 2 := ⟨zt_at 823 (by decide +kernel) rfl, zt_at 824 (by decide +kernel) rfl, zt_at 82 (by decide +kernel) rfl, zt_at 825 (by decide +kernel) rfl, by decide, ⟨by decide +kernel, by decide +kernel, by decide +kernel⟩⟩
theorem wwX8_plan : zWv yX8_plan cX8_plan 4 ((some FieldType.int)) 2 := ⟨zt_at 827 (by decide +kernel) rfl, zt_at 828 (by decide +kernel) rfl, zt_at 82 (by decide +kernel) rfl, zt_at 829 (by decide +kernel) rfl, by decide, ⟨by decide +kernel, by decide +kernel, by decide +kernel⟩⟩
theorem wwX8_ends : zWv yX8_ends cX8_ends 3 ((some FieldType.int)) 1 := ⟨zt_at 831 (by decide +kernel) rfl, zt_at 832 (by decide +kernel) rfl, zt_at 82 (by decide +kernel) rfl, zt_at 833 (by decide +kernel) rfl, by decide, ⟨by decide +kernel, by decide +kernel, by decide +kernel⟩⟩
theorem wwX8_book : zWv yX8_book cX8_book 3 ((some FieldType.int)) 2 := ⟨zt_at 844 (by decide +kernel) rfl, zt_at 845 (by decide +kernel) rfl, zt_at 82 (by decide +kernel) rfl, zt_at 846 (by decide +kernel) rfl, by decide, ⟨by decide +kernel, by decide +kernel, by decide +kernel⟩⟩
theorem wwX8_looked : zWv yX8_looked cX8_looked 4 ((some FieldType.int)) 0 := ⟨zt_at 848 (by decide +kernel) rfl, zt_at 849 (by decide +kernel) rfl, zt_at 82 (by decide +kernel) rfl, zt_at 850 (by decide +kernel) rfl, by decide, ⟨by decide +kernel, by decide +kernel, by decide +kernel⟩⟩
theorem wwX8_judge : zWv yX8_judge cX8_judge 4 ((some FieldType.int)) 2 := ⟨zt_at 852 (by decide +kernel) rfl, zt_at 853 (by decide +kernel) rfl, zt_at 82 (by decide +kernel) rfl, zt_at 854 (by decide +kernel) rfl, by decide, ⟨by decide +kernel, by decide +kernel, by decide +kernel⟩⟩
theorem wwX8_image : zWv yX8_image cX8_image 1 ((some FieldType.int)) 0 := ⟨zt_at 864 (by decide +kernel) rfl, zt_at 865 (by decide +kernel) rfl, zt_at 82 (by decide +kernel) rfl, zt_at 866 (by decide +kernel) rfl, by decide, ⟨by decide +kernel, by decide +kernel, by decide +kernel⟩⟩
theorem wwX8_undo : zWv yX8_undo cX8_undo 1 ((some FieldType.int)) 0 := ⟨zt_at 877 (by decide +kernel) rfl, zt_at 878 (by decide +kernel) rfl, zt_at 82 (by decide +kernel) rfl, zt_at 879 (by decide +kernel) rfl, by decide, ⟨by decide +kernel, by decide +kernel, by decide +kernel⟩⟩
theorem wwX8_act : zWv yX8_act cX8_act 4 ((some FieldType.int)) 3 := ⟨zt_at 881 (by decide +kernel) rfl, zt_at 882 (by decide +kernel) rfl, zt_at 82 (by decide +kernel) rfl, zt_at 883 (by decide +kernel) rfl, by decide, ⟨by decide +kernel, by decide +kernel, by decide +kernel⟩⟩
theorem wwX8_trace : zWv yX8_trace cX8_trace 2 ((some FieldType.int)) 1 := ⟨zt_at 905 (by decide +kernel) rfl, zt_at 906 (by decide +kernel) rfl, zt_at 82 (by decide +kernel) rfl, zt_at 907 (by decide +kernel) rfl, by decide, ⟨by decide +kernel, by decide +kernel, by decide +kernel⟩⟩
theorem wwX8_taken : zWv yX8_taken cX8_taken 3 ((some FieldType.int)) 2 := ⟨zt_at 909 (by decide +kernel) rfl, zt_at 910 (by decide +kernel) rfl, zt_at 82 (by decide +kernel) rfl, zt_at 911 (by decide +kernel) rfl, by decide, ⟨by decide +kernel, by decide +kernel, by decide +kernel⟩⟩
theorem wwX8_count : zWv yX8_count cX8_count 2 ((some FieldType.int)) 1 := ⟨zt_at 917 (by decide +kernel) rfl, zt_at 918 (by decide +kernel) rfl, zt_at 82 (by decide +kernel) rfl, zt_at 919 (by decide +kernel) rfl, by decide, ⟨by decide +kernel, by decide +kernel, by decide +kernel⟩⟩
theorem wwX8_tape : zWv yX8_tape cX8_tape 4 ((some FieldType.int)) 3 := ⟨zt_at 921 (by decide +kernel) rfl, zt_at 922 (by decide +kernel) rfl, zt_at 82 (by decide +kernel) rfl, zt_at 923 (by decide +kernel) rfl, by decide, ⟨by decide +kernel, by decide +kernel, by decide +kernel⟩⟩
theorem wwX8_item : zWv yX8_item cX8_item 5 ((some FieldType.int)) 3 := ⟨zt_at 929 (by decide +kernel) rfl, zt_at 930 (by decide +kernel) rfl, zt_at 82 (by decide +kernel) rfl, zt_at 931 (by decide +kernel) rfl, by decide, ⟨by decide +kernel, by decide +kernel, by decide +kernel⟩⟩
theorem wwX8_read : zWv yX8_read cX8_read 3 ((some FieldType.long)) 2 := ⟨zt_at 945 (by decide +kernel) rfl, zt_at 946 (by decide +kernel) rfl, zt_at 82 (by decide +kernel) rfl, zt_at 947 (by decide +kernel) rfl, by decide, ⟨by decide +kernel, by decide +kernel, by decide +kernel⟩⟩
theorem wwX8_shift : zWv yX8_shift cX8_shift 6 ((some FieldType.int)) 5 := ⟨zt_at 949 (by decide +kernel) rfl, zt_at 950 (by decide +kernel) rfl, zt_at 82 (by decide +kernel) rfl, zt_at 951 (by decide +kernel) rfl, by decide, ⟨by decide +kernel, by decide +kernel, by decide +kernel⟩⟩
theorem wwX8_isWithin : zWs yX8_isWithin cX8_isWithin 3 ((some FieldType.boolean)) 3 := ⟨zt_at 390 (by decide +kernel) rfl, zt_at 82 (by decide +kernel) rfl, zt_at 391 (by decide +kernel) rfl, by decide, ⟨by decide +kernel, by decide +kernel, by decide +kernel⟩⟩
theorem wwX8_asNumber : zWs yX8_asNumber cX8_asNumber 1 ((some FieldType.int)) 1 := ⟨zt_at 405 (by decide +kernel) rfl, zt_at 82 (by decide +kernel) rfl, zt_at 406 (by decide +kernel) rfl, by decide, ⟨by decide +kernel, by decide +kernel, by decide +kernel⟩⟩
theorem wwX8_orLacks : zWs yX8_orLacks cX8_orLacks 1 ((some FieldType.int)) 1 := ⟨zt_at 494 (by decide +kernel) rfl, zt_at 82 (by decide +kernel) rfl, zt_at 495 (by decide +kernel) rfl, by decide, ⟨by decide +kernel, by decide +kernel, by decide +kernel⟩⟩
theorem wwX8_isOrIsUnder : zWs yX8_isOrIsUnder cX8_isOrIsUnder 4 ((some FieldType.boolean)) 2 := ⟨zt_at 913 (by decide +kernel) rfl, zt_at 82 (by decide +kernel) rfl, zt_at 914 (by decide +kernel) rfl, by decide, ⟨by decide +kernel, by decide +kernel, by decide +kernel⟩⟩
theorem wwX8_lowestTerms : zWs yX8_lowestTerms cX8_lowestTerms 4 ((some FieldType.long)) 3 := ⟨zt_at 820 (by decide +kernel) rfl, zt_at 82 (by decide +kernel) rfl, zt_at 821 (by decide +kernel) rfl, by decide, ⟨by decide +kernel, by decide +kernel, by decide +kernel⟩⟩
theorem wwX9_in : zWv yX9_in cX9_in 4 ((some FieldType.boolean)) 3 := ⟨zt_at 1200 (by decide +kernel) rfl, zt_at 20 (by decide +kernel) rfl, zt_at 91 (by decide +kernel) rfl, zt_at 1201 (by decide +kernel) rfl, by decide, ⟨by decide +kernel, by decide +kernel, by decide +kernel⟩⟩
theorem wwX9_has : zWv yX9_has cX9_has 3 ((some FieldType.boolean)) 2 := ⟨zt_at 1220 (by decide +kernel) rfl, zt_at 23 (by decide +kernel) rfl, zt_at 91 (by decide +kernel) rfl, zt_at 1221 (by decide +kernel) rfl, by decide, ⟨by decide +kernel, by decide +kernel, by decide +kernel⟩⟩
theorem wwX9_least : zWv yX9_least cX9_least 3 ((some FieldType.int)) 2 := ⟨zt_at 1384 (by decide +kernel) rfl, zt_at 56 (by decide +kernel) rfl, zt_at 91 (by decide +kernel) rfl, zt_at 1385 (by decide +kernel) rfl, by decide, ⟨by decide +kernel, by decide +kernel, by decide +kernel⟩⟩
theorem wwX9_held : zWv yX9_held cX9_held 2 ((some FieldType.int)) 1 := ⟨zt_at 1380 (by decide +kernel) rfl, zt_at 55 (by decide +kernel) rfl, zt_at 91 (by decide +kernel) rfl, zt_at 1381 (by decide +kernel) rfl, by decide, ⟨by decide +kernel, by decide +kernel, by decide +kernel⟩⟩
theorem wwX9_isOne : zWv yX9_isOne cX9_isOne 2 ((some FieldType.boolean)) 1 := ⟨zt_at 1212 (by decide +kernel) rfl, zt_at 22 (by decide +kernel) rfl, zt_at 91 (by decide +kernel) rfl, zt_at 1213 (by decide +kernel) rfl, by decide, ⟨by decide +kernel, by decide +kernel, by decide +kernel⟩⟩
theorem wwX9_isWork : zWv yX9_isWork cX9_isWork 2 ((some FieldType.boolean)) 1 := ⟨zt_at 1236 (by decide +kernel) rfl, zt_at 25 (by decide +kernel) rfl, zt_at 91 (by decide +kernel) rfl, zt_at 1237 (by decide +kernel) rfl, by decide, ⟨by decide +kernel, by decide +kernel, by decide +kernel⟩⟩
theorem wwX9_isHeat : zWv yX9_isHeat cX9_isHeat 2 ((some FieldType.boolean)) 1 := ⟨zt_at 1204 (by decide +kernel) rfl, zt_at 21 (by decide +kernel) rfl, zt_at 91 (by decide +kernel) rfl, zt_at 1205 (by decide +kernel) rfl, by decide, ⟨by decide +kernel, by decide +kernel, by decide +kernel⟩⟩
theorem wwX9_isMinutes : zWv yX9_isMinutes cX9_isMinutes 2 ((some FieldType.boolean)) 1 := ⟨zt_at 1368 (by decide +kernel) rfl, zt_at 52 (by decide +kernel) rfl, zt_at 91 (by decide +kernel) rfl, zt_at 1369 (by decide +kernel) rfl, by decide, ⟨by decide +kernel, by decide +kernel, by decide +kernel⟩⟩
theorem wwX9_one : zWv yX9_one cX9_one 5 ((some FieldType.int)) 3 := ⟨zt_at 1195 (by decide +kernel) rfl, zt_at 1196 (by decide +kernel) rfl, zt_at 91 (by decide +kernel) rfl, zt_at 1197 (by decide +kernel) rfl, by decide, ⟨by decide +kernel, by decide +kernel, by decide +kernel⟩⟩
theorem wwX9_heat : zWv yX9_heat cX9_heat 4 ((some FieldType.int)) 2 := ⟨zt_at 1207 (by decide +kernel) rfl, zt_at 1208 (by decide +kernel) rfl, zt_at 91 (by decide +kernel) rfl, zt_at 1209 (by decide +kernel) rfl, by decide, ⟨by decide +kernel, by decide +kernel, by decide +kernel⟩⟩
theorem wwX9_goes : zWv yX9_goes cX9_goes 3 (none) 2 := ⟨zt_at 1224 (by decide +kernel) rfl, zt_at 24 (by decide +kernel) rfl, zt_at 91 (by decide +kernel) rfl, zt_at 1225 (by decide +kernel) rfl, by decide, ⟨by decide +kernel, by decide +kernel, by decide +kernel⟩⟩
theorem wwX9_away : zWv yX9_away cX9_away 4 ((some FieldType.int)) 2 := ⟨zt_at 1215 (by decide +kernel) rfl, zt_at 1216 (by decide +kernel) rfl, zt_at 91 (by decide +kernel) rfl, zt_at 1217 (by decide +kernel) rfl, by decide, ⟨by decide +kernel, by decide +kernel, by decide +kernel⟩⟩
theorem wwX9_work : zWv yX9_work cX9_work 3 ((some FieldType.int)) 2 := ⟨zt_at 1227 (by decide +kernel) rfl, zt_at 1228 (by decide +kernel) rfl, zt_at 91 (by decide +kernel) rfl, zt_at 1229 (by decide +kernel) rfl, by decide, ⟨by decide +kernel, by decide +kernel, by decide +kernel⟩⟩
theorem wwX9_anvil : zWv yX9_anvil cX9_anvil 3 ((some FieldType.int)) 1 := ⟨zt_at 1231 (by decide +kernel) rfl, zt_at 1232 (by decide +kernel) rfl, zt_at 91 (by decide +kernel) rfl, zt_at 1233 (by decide +kernel) rfl, by decide, ⟨by decide +kernel, by decide +kernel, by decide +kernel⟩⟩
theorem wwX9_row : zWv yX9_row cX9_row 5 ((some FieldType.int)) 3 := ⟨zt_at 1239 (by decide +kernel) rfl, zt_at 1240 (by decide +kernel) rfl, zt_at 91 (by decide +kernel) rfl, zt_at 1241 (by decide +kernel) rfl, by decide, ⟨by decide +kernel, by decide +kernel, by decide +kernel⟩⟩
theorem wwX9_feed : zWv yX9_feed cX9_feed 2 ((some FieldType.int)) 1 := ⟨zt_at 1243 (by decide +kernel) rfl, zt_at 1244 (by decide +kernel) rfl, zt_at 91 (by decide +kernel) rfl, zt_at 1245 (by decide +kernel) rfl, by decide, ⟨by decide +kernel, by decide +kernel, by decide +kernel⟩⟩
theorem wwX9_next : zWv yX9_next cX9_next 1 ((some FieldType.int)) 0 := ⟨zt_at 1264 (by decide +kernel) rfl, zt_at 29 (by decide +kernel) rfl, zt_at 91 (by decide +kernel) rfl, zt_at 1265 (by decide +kernel) rfl, by decide, ⟨by decide +kernel, by decide +kernel, by decide +kernel⟩⟩
theorem wwX9_takes : zWv yX9_takes cX9_takes 2 ((some FieldType.boolean)) 1 := ⟨zt_at 1272 (by decide +kernel) rfl, zt_at 31 (by decide +kernel) rfl, zt_at 91 (by decide +kernel) rfl, zt_at 1273 (by decide +kernel) rfl, by decide, ⟨by decide +kernel, by decide +kernel, by decide +kernel⟩⟩
theorem wwX9_takesWord : zWv yX9_takesWord cX9_takesWord 4 ((some FieldType.boolean)) 2 := ⟨zt_at 1268 (by decide +kernel) rfl, zt_at 30 (by decide +kernel) rfl, zt_at 91 (by decide +kernel) rfl, zt_at 1269 (by decide +kernel) rfl, by decide, ⟨by decide +kernel, by decide +kernel, by decide +kernel⟩⟩
theorem wwX9_isDigit : zWv yX9_isDigit cX9_isDigit 1 ((some FieldType.boolean)) 0 := ⟨zt_at 1280 (by decide +kernel) rfl, zt_at 33 (by decide +kernel) rfl, zt_at 91 (by decide +kernel) rfl, zt_at 1281 (by decide +kernel) rfl, by decide, ⟨by decide +kernel, by decide +kernel, by decide +kernel⟩⟩
theorem wwX9_takesNumber : zWv yX9_takesNumber cX9_takesNumber 2 ((some FieldType.boolean)) 0 := ⟨zt_at 1276 (by decide +kernel) rfl, zt_at 32 (by decide +kernel) rfl, zt_at 91 (by decide +kernel) rfl, zt_at 1277 (by decide +kernel) rfl, by decide, ⟨by decide +kernel, by decide +kernel, by decide +kernel⟩⟩
theorem wwX9_emits : zWv yX9_emits cX9_emits 2 (none) 1 := ⟨zt_at 1296 (by decide +kernel) rfl, zt_at 37 (by decide +kernel) rfl, zt_at 91 (by decide +kernel) rfl, zt_at 1297 (by decide +kernel) rfl, by decide, ⟨by decide +kernel, by decide +kernel, by decide +kernel⟩⟩
theorem wwX9_whole : zWv yX9_whole cX9_whole 1 (none) 0 := ⟨zt_at 1300 (by decide +kernel) rfl, zt_at 38 (by decide +kernel) rfl, zt_at 91 (by decide +kernel) rfl, zt_at 1301 (by decide +kernel) rfl, by decide, ⟨by decide +kernel, by decide +kernel, by decide +kernel⟩⟩
theorem wwX9_settle : zWv yX9_settle cX9_settle 2 (none) 1 := ⟨zt_at 1304 (by decide +kernel) rfl, zt_at 39 (by decide +kernel) rfl, zt_at 91 (by decide +kernel) rfl, zt_at 1305 (by decide +kernel) rfl, by decide, ⟨by decide +kernel, by decide +kernel, by decide +kernel⟩⟩
theorem wwX9_place : zWv yX9_place cX9_place 2 ((some FieldType.int)) 1 := ⟨zt_at 1292 (by decide +kernel) rfl, zt_at 36 (by decide +kernel) rfl, zt_at 91 (by decide +kernel) rfl, zt_at 1293 (by decide +kernel) rfl, by decide, ⟨by decide +kernel, by decide +kernel, by decide +kernel⟩⟩
theorem wwX9_takesTest : zWv yX9_takesTest cX9_takesTest 3 ((some FieldType.boolean)) 0 := ⟨zt_at 1288 (by decide +kernel) rfl, zt_at 35 (by decide +kernel) rfl, zt_at 91 (by decide +kernel) rfl, zt_at 1289 (by decide +kernel) rfl, by decide, ⟨by decide +kernel, by decide +kernel, by decide +kernel⟩⟩
theorem wwX9_takesE : zWv yX9_takesE cX9_takesE 4 ((some FieldType.boolean)) 1 := ⟨zt_at 1284 (by decide +kernel) rfl, zt_at 34 (by decide +kernel) rfl, zt_at 91 (by decide +kernel) rfl, zt_at 1285 (by decide +kernel) rfl, by decide, ⟨by decide +kernel, by decide +kernel, by decide +kernel⟩⟩
theorem wwX9_takesHead : zWv yX9_takesHead cX9_takesHead 2 ((some FieldType.boolean)) 1 := ⟨zt_at 1260 (by decide +kernel) rfl, zt_at 28 (by decide +kernel) rfl, zt_at 91 (by decide +kernel) rfl, zt_at 1261 (by decide +kernel) rfl, by decide, ⟨by decide +kernel, by decide +kernel, by decide +kernel⟩⟩
theorem wwX9_takesClause : zWv yX9_takesClause cX9_takesClause 2 ((some FieldType.boolean)) 1 := ⟨zt_at 1256 (by decide +kernel) rfl, zt_at 27 (by decide +kernel) rfl, zt_at 91 (by decide +kernel) rfl, zt_at 1257 (by decide +kernel) rfl, by decide, ⟨by decide +kernel, by decide +kernel, by decide +kernel⟩⟩
theorem wwX9_goesText : zWv yX9_goesText cX9_goesText 3 ((some FieldType.boolean)) 1 := ⟨zt_at 1252 (by decide +kernel) rfl, zt_at 26 (by decide +kernel) rfl, zt_at 91 (by decide +kernel) rfl, zt_at 1253 (by decide +kernel) rfl, by decide, ⟨by decide +kernel, by decide +kernel, by decide +kernel⟩⟩
theorem wwX9_square : zWv yX9_square cX9_square 2 ((some FieldType.int)) 0 := ⟨zt_at 1247 (by decide +kernel) rfl, zt_at 1248 (by decide +kernel) rfl, zt_at 91 (by decide +kernel) rfl, zt_at 1249 (by decide +kernel) rfl, by decide, ⟨by decide +kernel, by decide +kernel, by decide +kernel⟩⟩
theorem wwX9_begin : zWv yX9_begin cX9_begin 1 ((some FieldType.int)) 0 := ⟨zt_at 1320 (by decide +kernel) rfl, zt_at 42 (by decide +kernel) rfl, zt_at 91 (by decide +kernel) rfl, zt_at 1321 (by decide +kernel) rfl, by decide, ⟨by decide +kernel, by decide +kernel, by decide +kernel⟩⟩
theorem wwX9_behind : zWv yX9_behind cX9_behind 1 ((some FieldType.int)) 0 := ⟨zt_at 1324 (by decide +kernel) rfl, zt_at 43 (by decide +kernel) rfl, zt_at 91 (by decide +kernel) rfl, zt_at 1325 (by decide +kernel) rfl, by decide, ⟨by decide +kernel, by decide +kernel, by decide +kernel⟩⟩
theorem wwX9_spark : zWv yX9_spark cX9_spark 3 ((some FieldType.int)) 0 := ⟨zt_at 1344 (by decide +kernel) rfl, zt_at 47 (by decide +kernel) rfl, zt_at 91 (by decide +kernel) rfl, zt_at 1345 (by decide +kernel) rfl, by decide, ⟨by decide +kernel, by decide +kernel, by decide +kernel⟩⟩
theorem wwX9_beside : zWv yX9_beside cX9_beside 4 ((some FieldType.int)) 2 := ⟨zt_at 1336 (by decide +kernel) rfl, zt_at 46 (by decide +kernel) rfl, zt_at 91 (by decide +kernel) rfl, zt_at 1337 (by decide +kernel) rfl, by decide, ⟨by decide +kernel, by decide +kernel, by decide +kernel⟩⟩
theorem wwX9_factOf : zWv yX9_factOf cX9_factOf 3 ((some FieldType.int)) 2 := ⟨zt_at 1332 (by decide +kernel) rfl, zt_at 45 (by decide +kernel) rfl, zt_at 91 (by decide +kernel) rfl, zt_at 1333 (by decide +kernel) rfl, by decide, ⟨by decide +kernel, by decide +kernel, by decide +kernel⟩⟩
theorem wwX9_holds : zWv yX9_holds cX9_holds 8 ((some FieldType.boolean)) 2 := ⟨zt_at 1328 (by decide +kernel) rfl, zt_at 44 (by decide +kernel) rfl, zt_at 91 (by decide +kernel) rfl, zt_at 1329 (by decide +kernel) rfl, by decide, ⟨by decide +kernel, by decide +kernel, by decide +kernel⟩⟩
theorem wwX9_sum : zWv yX9_sum cX9_sum 4 ((some FieldType.int)) 1 := ⟨zt_at 1316 (by decide +kernel) rfl, zt_at 41 (by decide +kernel) rfl, zt_at 91 (by decide +kernel) rfl, zt_at 1317 (by decide +kernel) rfl, by decide, ⟨by decide +kernel, by decide +kernel, by decide +kernel⟩⟩
theorem wwX9_rise : zWv yX9_rise cX9_rise 5 ((some FieldType.int)) 1 := ⟨zt_at 1312 (by decide +kernel) rfl, zt_at 40 (by decide +kernel) rfl, zt_at 91 (by decide +kernel) rfl, zt_at 1313 (by decide +kernel) rfl, by decide, ⟨by decide +kernel, by decide +kernel, by decide +kernel⟩⟩
theorem wwX9_of : zWv yX9_of cX9_of 3 ((some FieldType.int)) 2 := ⟨zt_at 1307 (by decide +kernel) rfl, zt_at 1308 (by decide +kernel) rfl, zt_at 91 (by decide +kernel) rfl, zt_at 1309 (by decide +kernel) rfl, by decide, ⟨by decide +kernel, by decide +kernel, by decide +kernel⟩⟩
theorem wwX9_hottest : zWv yX9_hottest cX9_hottest 3 ((some FieldType.int)) 0 := ⟨zt_at 1356 (by decide +kernel) rfl, zt_at 50 (by decide +kernel) rfl, zt_at 91 (by decide +kernel) rfl, zt_at 1357 (by decide +kernel) rfl, by decide, ⟨by decide +kernel, by decide +kernel, by decide +kernel⟩⟩
theorem wwX9_isDone : zWv yX9_isDone cX9_isDone 2 ((some FieldType.boolean)) 1 := ⟨zt_at 1352 (by decide +kernel) rfl, zt_at 49 (by decide +kernel) rfl, zt_at 91 (by decide +kernel) rfl, zt_at 1353 (by decide +kernel) rfl, by decide, ⟨by decide +kernel, by decide +kernel, by decide +kernel⟩⟩
theorem wwX9_doneSet : zWv yX9_doneSet cX9_doneSet 3 ((some FieldType.int)) 0 := ⟨zt_at 1348 (by decide +kernel) rfl, zt_at 48 (by decide +kernel) rfl, zt_at 91 (by decide +kernel) rfl, zt_at 1349 (by decide +kernel) rfl, by decide, ⟨by decide +kernel, by decide +kernel, by decide +kernel⟩⟩
theorem wwX9_allHeat : zWv yX9_allHeat cX9_allHeat 3 ((some FieldType.int)) 0 := ⟨zt_at 1360 (by decide +kernel) rfl, zt_at 51 (by decide +kernel) rfl, zt_at 91 (by decide +kernel) rfl, zt_at 1361 (by decide +kernel) rfl, by decide, ⟨by decide +kernel, by decide +kernel, by decide +kernel⟩⟩
theorem wwX9_told : zWv yX9_told cX9_told 2 ((some FieldType.int)) 1 := ⟨zt_at 1339 (by decide +kernel) rfl, zt_at 1340 (by decide +kernel) rfl, zt_at 91 (by decide +kernel) rfl, zt_at 1341 (by decide +kernel) rfl, by decide, ⟨by decide +kernel, by decide +kernel, by decide +kernel⟩⟩
theorem wwX9_goMinute : zWv yX9_goMinute cX9_goMinute 4 (none) 0 := ⟨zt_at 1376 (by decide +kernel) rfl, zt_at 54 (by decide +kernel) rfl, zt_at 91 (by decide +kernel) rfl, zt_at 1377 (by decide +kernel) rfl, by decide, ⟨by decide +kernel, by decide +kernel, by decide +kernel⟩⟩
theorem wwX9_goMinutes : zWv yX9_goMinutes cX9_goMinutes 3 (none) 1 := ⟨zt_at 1372 (by decide +kernel) rfl, zt_at 53 (by decide +kernel) rfl, zt_at 91 (by decide +kernel) rfl, zt_at 1373 (by decide +kernel) rfl, by decide, ⟨by decide +kernel, by decide +kernel, by decide +kernel⟩⟩
theorem wwX9_pass : zWv yX9_pass cX9_pass 2 ((some FieldType.int)) 1 := ⟨zt_at 1363 (by decide +kernel) rfl, zt_at 1364 (by decide +kernel) rfl, zt_at 91 (by decide +kernel) rfl, zt_at 1365 (by decide +kernel) rfl, by decide, ⟨by decide +kernel, by decide +kernel, by decide +kernel⟩⟩
theorem wwX9_save : zWv yX9_save cX9_save 2 (none) 0 := ⟨zt_at 1396 (by decide +kernel) rfl, zt_at 58 (by decide +kernel) rfl, zt_at 91 (by decide +kernel) rfl, zt_at 1397 (by decide +kernel) rfl, by decide, ⟨by decide +kernel, by decide +kernel, by decide +kernel⟩⟩
theorem wwX9_putBack : zWv yX9_putBack cX9_putBack 2 (none) 0 := ⟨zt_at 1400 (by decide +kernel) rfl, zt_at 59 (by decide +kernel) rfl, zt_at 91 (by decide +kernel) rfl, zt_at 1401 (by decide +kernel) rfl, by decide, ⟨by decide +kernel, by decide +kernel, by decide +kernel⟩⟩
theorem wwX9_ready : zWv yX9_ready cX9_ready 3 ((some FieldType.int)) 1 := ⟨zt_at 1392 (by decide +kernel) rfl, zt_at 57 (by decide +kernel) rfl, zt_at 91 (by decide +kernel) rfl, zt_at 1393 (by decide +kernel) rfl, by decide, ⟨by decide +kernel, by decide +kernel, by decide +kernel⟩⟩
theorem wwX9_piece : zWv yX9_piece cX9_piece 3 ((some FieldType.int)) 2 := ⟨zt_at 1387 (by decide +kernel) rfl, zt_at 1388 (by decide +kernel) rfl, zt_at 91 (by decide +kernel) rfl, zt_at 1389 (by decide +kernel) rfl, by decide, ⟨by decide +kernel, by decide +kernel, by decide +kernel⟩⟩
theorem wwX9_on : zWv yX9_on cX9_on 4 ((some FieldType.int)) 2 := ⟨zt_at 1403 (by decide +kernel) rfl, zt_at 1404 (by decide +kernel) rfl, zt_at 91 (by decide +kernel) rfl, zt_at 1405 (by decide +kernel) rfl, by decide, ⟨by decide +kernel, by decide +kernel, by decide +kernel⟩⟩
theorem wwX9_layLine : zWv yX9_layLine cX9_layLine 5 ((some FieldType.boolean)) 1 := ⟨zt_at 1412 (by decide +kernel) rfl, zt_at 60 (by decide +kernel) rfl, zt_at 91 (by decide +kernel) rfl, zt_at 1413 (by decide +kernel) rfl, by decide, ⟨by decide +kernel, by decide +kernel, by decide +kernel⟩⟩
theorem wwX9_firstOfLine : zWv yX9_firstOfLine cX9_firstOfLine 2 ((some FieldType.int)) 0 := ⟨zt_at 1420 (by decide +kernel) rfl, zt_at 62 (by decide +kernel) rfl, zt_at 91 (by decide +kernel) rfl, zt_at 1421 (by decide +kernel) rfl, by decide, ⟨by decide +kernel, by decide +kernel, by decide +kernel⟩⟩
theorem wwX9_doneInTime : zWv yX9_doneInTime cX9_doneInTime 6 ((some FieldType.int)) 1 := ⟨zt_at 1416 (by decide +kernel) rfl, zt_at 61 (by decide +kernel) rfl, zt_at 91 (by decide +kernel) rfl, zt_at 1417 (by decide +kernel) rfl, by decide, ⟨by decide +kernel, by decide +kernel, by decide +kernel⟩⟩
theorem wwX9_best : zWv yX9_best cX9_best 8 ((some FieldType.int)) 2 := ⟨zt_at 1407 (by decide +kernel) rfl, zt_at 1408 (by decide +kernel) rfl, zt_at 91 (by decide +kernel) rfl, zt_at 1409 (by decide +kernel) rfl, by decide, ⟨by decide +kernel, by decide +kernel, by decide +kernel⟩⟩
theorem wwX9_hottestIf : zWv yX9_hottestIf cX9_hottestIf 4 ((some FieldType.int)) 2 := ⟨zt_at 1428 (by decide +kernel) rfl, zt_at 63 (by decide +kernel) rfl, zt_at 91 (by decide +kernel) rfl, zt_at 1429 (by decide +kernel) rfl, by decide, ⟨by decide +kernel, by decide +kernel, by decide +kernel⟩⟩
theorem wwX9_talk : zWv yX9_talk cX9_talk 7 ((some FieldType.int)) 2 := ⟨zt_at 1423 (by decide +kernel) rfl, zt_at 1424 (by decide +kernel) rfl, zt_at 91 (by decide +kernel) rfl, zt_at 1425 (by decide +kernel) rfl, by decide, ⟨by decide +kernel, by decide +kernel, by decide +kernel⟩⟩
theorem wwX9_see : zWv yX9_see cX9_see 4 ((some FieldType.int)) 3 := ⟨zt_at 1431 (by decide +kernel) rfl, zt_at 1432 (by decide +kernel) rfl, zt_at 91 (by decide +kernel) rfl, zt_at 1433 (by decide +kernel) rfl, by decide, ⟨by decide +kernel, by decide +kernel, by decide +kernel⟩⟩
theorem wwX9_isSeen : zWv yX9_isSeen cX9_isSeen 3 ((some FieldType.boolean)) 0 := ⟨zt_at 1444 (by decide +kernel) rfl, zt_at 65 (by decide +kernel) rfl, zt_at 91 (by decide +kernel) rfl, zt_at 1445 (by decide +kernel) rfl, by decide, ⟨by decide +kernel, by decide +kernel, by decide +kernel⟩⟩
theorem wwX9_heats : zWv yX9_heats cX9_heats 7 ((some FieldType.int)) 2 := ⟨zt_at 1440 (by decide +kernel) rfl, zt_at 64 (by decide +kernel) rfl, zt_at 91 (by decide +kernel) rfl, zt_at 1441 (by decide +kernel) rfl, by decide, ⟨by decide +kernel, by decide +kernel, by decide +kernel⟩⟩
theorem wwX9_canBe : zWv yX9_canBe cX9_canBe 7 ((some FieldType.int)) 2 := ⟨zt_at 1448 (by decide +kernel) rfl, zt_at 66 (by decide +kernel) rfl, zt_at 91 (by decide +kernel) rfl, zt_at 1449 (by decide +kernel) rfl, by decide, ⟨by decide +kernel, by decide +kernel, by decide +kernel⟩⟩
theorem wwX9_can : zWv yX9_can cX9_can 4 ((some FieldType.int)) 3 := ⟨zt_at 1435 (by decide +kernel) rfl, zt_at 1436 (by decide +kernel) rfl, zt_at 91 (by decide +kernel) rfl, zt_at 1437 (by decide +kernel) rfl, by decide, ⟨by decide +kernel, by decide +kernel, by decide +kernel⟩⟩
theorem wwX9_divisor : zWv yX9_divisor cX9_divisor 6 ((some FieldType.int)) 2 := ⟨zt_at 1465 (by decide +kernel) rfl, zt_at 69 (by decide +kernel) rfl, zt_at 91 (by decide +kernel) rfl, zt_at 1466 (by decide +kernel) rfl, by decide, ⟨by decide +kernel, by decide +kernel, by decide +kernel⟩⟩
theorem wwX9_lowest : zWv yX9_lowest cX9_lowest 5 ((some FieldType.long)) 3 := ⟨zt_at 1461 (by decide +kernel) rfl, zt_at 68 (by decide +kernel) rfl, zt_at 91 (by decide +kernel) rfl, zt_at 1462 (by decide +kernel) rfl, by decide, ⟨by decide +kernel, by decide +kernel, by decide +kernel⟩⟩
theorem wwX9_isHotIf : zWv yX9_isHotIf cX9_isHotIf 5 ((some FieldType.boolean)) 3 := ⟨zt_at 1457 (by decide +kernel) rfl, zt_at 67 (by decide +kernel) rfl, zt_at 91 (by decide +kernel) rfl, zt_at 1458 (by decide +kernel) rfl, by decide, ⟨by decide +kernel, by decide +kernel, by decide +kernel⟩⟩
theorem wwX9_odds : zWv yX9_odds cX9_odds 7 ((some FieldType.long)) 3 := ⟨zt_at 1451 (by decide +kernel) rfl, zt_at 1452 (by decide +kernel) rfl, zt_at 91 (by decide +kernel) rfl, zt_at 1453 (by decide +kernel) rfl, by decide, ⟨by decide +kernel, by decide +kernel, by decide +kernel⟩⟩
theorem wwX9_mean : zWv yX9_mean cX9_mean 4 ((some FieldType.long)) 2 := ⟨zt_at 1468 (by decide +kernel) rfl, zt_at 1469 (by decide +kernel) rfl, zt_at 91 (by decide +kernel) rfl, zt_at 1470 (by decide +kernel) rfl, by decide, ⟨by decide +kernel, by decide +kernel, by decide +kernel⟩⟩
theorem wwX9_plan : zWv yX9_plan cX9_plan 3 ((some FieldType.int)) 2 := ⟨zt_at 1472 (by decide +kernel) rfl, zt_at 1473 (by decide +kernel) rfl, zt_at 91 (by decide +kernel) rfl, zt_at 1474 (by decide +kernel) rfl, by decide, ⟨by decide +kernel, by decide +kernel, by decide +kernel⟩⟩
theorem wwX9_goPlan : zWv yX9_goPlan cX9_goPlan 3 (none) 2 := ⟨zt_at 1481 (by decide +kernel) rfl, zt_at 70 (by decide +kernel) rfl, zt_at 91 (by decide +kernel) rfl, zt_at 1482 (by decide +kernel) rfl, by decide, ⟨by decide +kernel, by decide +kernel, by decide +kernel⟩⟩
theorem wwX9_ends : zWv yX9_ends cX9_ends 3 ((some FieldType.int)) 1 := ⟨zt_at 1476 (by decide +kernel) rfl, zt_at 1477 (by decide +kernel) rfl, zt_at 91 (by decide +kernel) rfl, zt_at 1478 (by decide +kernel) rfl, by decide, ⟨by decide +kernel, by decide +kernel, by decide +kernel⟩⟩
theorem wwX9_book : zWv yX9_book cX9_book 3 ((some FieldType.int)) 2 := ⟨zt_at 1484 (by decide +kernel) rfl, zt_at 1485 (by decide +kernel) rfl, zt_at 91 (by decide +kernel) rfl, zt_at 1486 (by decide +kernel) rfl, by decide, ⟨by decide +kernel, by decide +kernel, by decide +kernel⟩⟩
theorem wwX9_looked : zWv yX9_looked cX9_looked 2 ((some FieldType.int)) 0 := ⟨zt_at 1488 (by decide +kernel) rfl, zt_at 1489 (by decide +kernel) rfl, zt_at 91 (by decide +kernel) rfl, zt_at 1490 (by decide +kernel) rfl, by decide, ⟨by decide +kernel, by decide +kernel, by decide +kernel⟩⟩
theorem wwX9_judge : zWv yX9_judge cX9_judge 4 ((some FieldType.int)) 2 := ⟨zt_at 1492 (by decide +kernel) rfl, zt_at 1493 (by decide +kernel) rfl, zt_at 91 (by decide +kernel) rfl, zt_at 1494 (by decide +kernel) rfl, by decide, ⟨by decide +kernel, by decide +kernel, by decide +kernel⟩⟩
theorem wwX9_image : zWv yX9_image cX9_image 2 ((some FieldType.int)) 0 := ⟨zt_at 1500 (by decide +kernel) rfl, zt_at 1501 (by decide +kernel) rfl, zt_at 91 (by decide +kernel) rfl, zt_at 1502 (by decide +kernel) rfl, by decide, ⟨by decide +kernel, by decide +kernel, by decide +kernel⟩⟩
theorem wwX9_undo : zWv yX9_undo cX9_undo 2 ((some FieldType.int)) 0 := ⟨zt_at 1504 (by decide +kernel) rfl, zt_at 1505 (by decide +kernel) rfl, zt_at 91 (by decide +kernel) rfl, zt_at 1506 (by decide +kernel) rfl, by decide, ⟨by decide +kernel, by decide +kernel, by decide +kernel⟩⟩
theorem wwX9_body : zWv yX9_body cX9_body 2 (none) 1 := ⟨zt_at 1517 (by decide +kernel) rfl, zt_at 73 (by decide +kernel) rfl, zt_at 91 (by decide +kernel) rfl, zt_at 1518 (by decide +kernel) rfl, by decide, ⟨by decide +kernel, by decide +kernel, by decide +kernel⟩⟩
theorem wwX9_oneGlows : zWv yX9_oneGlows cX9_oneGlows 3 ((some FieldType.int)) 2 := ⟨zt_at 1521 (by decide +kernel) rfl, zt_at 74 (by decide +kernel) rfl, zt_at 91 (by decide +kernel) rfl, zt_at 1522 (by decide +kernel) rfl, by decide, ⟨by decide +kernel, by decide +kernel, by decide +kernel⟩⟩
theorem wwX9_glowsAct : zWv yX9_glowsAct cX9_glowsAct 3 ((some FieldType.int)) 2 := ⟨zt_at 1513 (by decide +kernel) rfl, zt_at 72 (by decide +kernel) rfl, zt_at 91 (by decide +kernel) rfl, zt_at 1514 (by decide +kernel) rfl, by decide, ⟨by decide +kernel, by decide +kernel, by decide +kernel⟩⟩
theorem wwX9_oneRings : zWv yX9_oneRings cX9_oneRings 3 ((some FieldType.int)) 2 := ⟨zt_at 1533 (by decide +kernel) rfl, zt_at 77 (by decide +kernel) rfl, zt_at 91 (by decide +kernel) rfl, zt_at 1534 (by decide +kernel) rfl, by decide, ⟨by decide +kernel, by decide +kernel, by decide +kernel⟩⟩
theorem wwX9_bankerRings : zWv yX9_bankerRings cX9_bankerRings 3 ((some FieldType.int)) 2 := ⟨zt_at 1529 (by decide +kernel) rfl, zt_at 76 (by decide +kernel) rfl, zt_at 91 (by decide +kernel) rfl, zt_at 1530 (by decide +kernel) rfl, by decide, ⟨by decide +kernel, by decide +kernel, by decide +kernel⟩⟩
theorem wwX9_ringsAct : zWv yX9_ringsAct cX9_ringsAct 4 ((some FieldType.int)) 2 := ⟨zt_at 1525 (by decide +kernel) rfl, zt_at 75 (by decide +kernel) rfl, zt_at 91 (by decide +kernel) rfl, zt_at 1526 (by decide +kernel) rfl, by decide, ⟨by decide +kernel, by decide +kernel, by decide +kernel⟩⟩
theorem wwX9_oneTells : zWv yX9_oneTells cX9_oneTells 3 ((some FieldType.int)) 2 := ⟨zt_at 1541 (by decide +kernel) rfl, zt_at 79 (by decide +kernel) rfl, zt_at 91 (by decide +kernel) rfl, zt_at 1542 (by decide +kernel) rfl, by decide, ⟨by decide +kernel, by decide +kernel, by decide +kernel⟩⟩
theorem wwX9_tellsAct : zWv yX9_tellsAct cX9_tellsAct 4 ((some FieldType.int)) 2 := ⟨zt_at 1537 (by decide +kernel) rfl, zt_at 78 (by decide +kernel) rfl, zt_at 91 (by decide +kernel) rfl, zt_at 1538 (by decide +kernel) rfl, by decide, ⟨by decide +kernel, by decide +kernel, by decide +kernel⟩⟩
theorem wwX9_act : zWv yX9_act cX9_act 4 ((some FieldType.int)) 3 := ⟨zt_at 1508 (by decide +kernel) rfl, zt_at 1509 (by decide +kernel) rfl, zt_at 91 (by decide +kernel) rfl, zt_at 1510 (by decide +kernel) rfl, by decide, ⟨by decide +kernel, by decide +kernel, by decide +kernel⟩⟩
theorem wwX9_trace : zWv yX9_trace cX9_trace 2 ((some FieldType.int)) 1 := ⟨zt_at 1544 (by decide +kernel) rfl, zt_at 1545 (by decide +kernel) rfl, zt_at 91 (by decide +kernel) rfl, zt_at 1546 (by decide +kernel) rfl, by decide, ⟨by decide +kernel, by decide +kernel, by decide +kernel⟩⟩
theorem wwX9_taken : zWv yX9_taken cX9_taken 4 ((some FieldType.int)) 2 := ⟨zt_at 1548 (by decide +kernel) rfl, zt_at 1549 (by decide +kernel) rfl, zt_at 91 (by decide +kernel) rfl, zt_at 1550 (by decide +kernel) rfl, by decide, ⟨by decide +kernel, by decide +kernel, by decide +kernel⟩⟩
theorem wwX9_count : zWv yX9_count cX9_count 2 ((some FieldType.int)) 1 := ⟨zt_at 1552 (by decide +kernel) rfl, zt_at 1553 (by decide +kernel) rfl, zt_at 91 (by decide +kernel) rfl, zt_at 1554 (by decide +kernel) rfl, by decide, ⟨by decide +kernel, by decide +kernel, by decide +kernel⟩⟩
theorem wwX9_isTape : zWv yX9_isTape cX9_isTape 2 ((some FieldType.boolean)) 1 := ⟨zt_at 1497 (by decide +kernel) rfl, zt_at 71 (by decide +kernel) rfl, zt_at 91 (by decide +kernel) rfl, zt_at 1498 (by decide +kernel) rfl, by decide, ⟨by decide +kernel, by decide +kernel, by decide +kernel⟩⟩
theorem wwX9_tape : zWv yX9_tape cX9_tape 5 ((some FieldType.int)) 3 := ⟨zt_at 1556 (by decide +kernel) rfl, zt_at 1557 (by decide +kernel) rfl, zt_at 91 (by decide +kernel) rfl, zt_at 1558 (by decide +kernel) rfl, by decide, ⟨by decide +kernel, by decide +kernel, by decide +kernel⟩⟩
theorem wwX9_narrow : zWv yX9_narrow cX9_narrow 4 ((some FieldType.long)) 2 := ⟨zt_at 1565 (by decide +kernel) rfl, zt_at 80 (by decide +kernel) rfl, zt_at 91 (by decide +kernel) rfl, zt_at 1566 (by decide +kernel) rfl, by decide, ⟨by decide +kernel, by decide +kernel, by decide +kernel⟩⟩
theorem wwX9_item : zWv yX9_item cX9_item 5 ((some FieldType.int)) 3 := ⟨zt_at 1560 (by decide +kernel) rfl, zt_at 1561 (by decide +kernel) rfl, zt_at 91 (by decide +kernel) rfl, zt_at 1562 (by decide +kernel) rfl, by decide, ⟨by decide +kernel, by decide +kernel, by decide +kernel⟩⟩
theorem wwX9_read : zWv yX9_read cX9_read 3 ((some FieldType.long)) 2 := ⟨zt_at 1568 (by decide +kernel) rfl, zt_at 1569 (by decide +kernel) rfl, zt_at 91 (by decide +kernel) rfl, zt_at 1570 (by decide +kernel) rfl, by decide, ⟨by decide +kernel, by decide +kernel, by decide +kernel⟩⟩
theorem wwX9_shift : zWv yX9_shift cX9_shift 7 ((some FieldType.int)) 5 := ⟨zt_at 1572 (by decide +kernel) rfl, zt_at 1573 (by decide +kernel) rfl, zt_at 91 (by decide +kernel) rfl, zt_at 1574 (by decide +kernel) rfl, by decide, ⟨by decide +kernel, by decide +kernel, by decide +kernel⟩⟩
theorem wn8_11 : Cond.methodLinkNest RX8 11 yX7_init "StruckWhile" ∈ zNest := zn_at 110 (by decide +kernel) rfl
theorem wn7_11 : Cond.methodLinkNest RX7 11 yX6_init "StruckWhile" ∈ zNest := zn_at 116 (by decide +kernel) rfl
theorem wf6_49 : Cond.fieldLink RX6 49 (TX6 0).1 (TX6 0).2.1 (TX6 0).2.2.1 ∈ zTb := zt_at 120 (by decide +kernel) rfl
theorem wf8_71 : Cond.fieldLink RX8 71 (TX6 0).1 (TX6 0).2.1 (TX6 0).2.2.1 ∈ zTb := zt_at 121 (by decide +kernel) rfl
theorem wf1_99 : Cond.fieldLink RX1 99 (TX6 0).1 (TX6 0).2.1 (TX6 0).2.2.1 ∈ zTb := zt_at 122 (by decide +kernel) rfl
theorem wf6_9 : Cond.fieldLink RX6 9 (TX6 1).1 (TX6 1).2.1 (TX6 1).2.2.1 ∈ zTb := zt_at 123 (by decide +kernel) rfl
theorem wf0_19 : Cond.fieldLink RX0 19 (TX6 1).1 (TX6 1).2.1 (TX6 1).2.2.1 ∈ zTb := zt_at 124 (by decide +kernel) rfl
theorem wf8_85 : Cond.fieldLink RX8 85 (TX6 1).1 (TX6 1).2.1 (TX6 1).2.2.1 ∈ zTb := zt_at 125 (by decide +kernel) rfl
theorem wf6_15 : Cond.fieldLink RX6 15 (TX6 2).1 (TX6 2).2.1 (TX6 2).2.2.1 ∈ zTb := zt_at 126 (by decide +kernel) rfl
theorem wf0_26 : Cond.fieldLink RX0 26 (TX6 2).1 (TX6 2).2.1 (TX6 2).2.2.1 ∈ zTb := zt_at 127 (by decide +kernel) rfl
theorem wf8_89 : Cond.fieldLink RX8 89 (TX6 2).1 (TX6 2).2.1 (TX6 2).2.2.1 ∈ zTb := zt_at 128 (by decide +kernel) rfl
theorem wf1_118 : Cond.fieldLink RX1 118 (TX6 2).1 (TX6 2).2.1 (TX6 2).2.2.1 ∈ zTb := zt_at 129 (by decide +kernel) rfl
theorem wf6_18 : Cond.fieldLink RX6 18 (TX6 3).1 (TX6 3).2.1 (TX6 3).2.2.1 ∈ zTb := zt_at 130 (by decide +kernel) rfl
theorem wf8_92 : Cond.fieldLink RX8 92 (TX6 3).1 (TX6 3).2.1 (TX6 3).2.2.1 ∈ zTb := zt_at 131 (by decide +kernel) rfl
theorem wf1_115 : Cond.fieldLink RX1 115 (TX6 3).1 (TX6 3).2.1 (TX6 3).2.2.1 ∈ zTb := zt_at 132 (by decide +kernel) rfl
theorem wf6_21 : Cond.fieldLink RX6 21 (TX6 4).1 (TX6 4).2.1 (TX6 4).2.2.1 ∈ zTb := zt_at 133 (by decide +kernel) rfl
theorem wf8_95 : Cond.fieldLink RX8 95 (TX6 4).1 (TX6 4).2.1 (TX6 4).2.2.1 ∈ zTb := zt_at 134 (by decide +kernel) rfl
theorem wf1_102 : Cond.fieldLink RX1 102 (TX6 4).1 (TX6 4).2.1 (TX6 4).2.2.1 ∈ zTb := zt_at 135 (by decide +kernel) rfl
theorem wf6_25 : Cond.fieldLink RX6 25 (TX6 5).1 (TX6 5).2.1 (TX6 5).2.2.1 ∈ zTb := zt_at 136 (by decide +kernel) rfl
theorem wf8_141 : Cond.fieldLink RX8 141 (TX6 5).1 (TX6 5).2.1 (TX6 5).2.2.1 ∈ zTb := zt_at 137 (by decide +kernel) rfl
theorem wf6_52 : Cond.fieldLink RX6 52 (TX6 6).1 (TX6 6).2.1 (TX6 6).2.2.1 ∈ zTb := zt_at 138 (by decide +kernel) rfl
theorem wf1_51 : Cond.fieldLink RX1 51 (TX6 6).1 (TX6 6).2.1 (TX6 6).2.2.1 ∈ zTb := zt_at 139 (by decide +kernel) rfl
theorem wf8_111 : Cond.fieldLink RX8 111 (TX6 6).1 (TX6 6).2.1 (TX6 6).2.2.1 ∈ zTb := zt_at 140 (by decide +kernel) rfl
theorem wf6_28 : Cond.fieldLink RX6 28 (TX6 7).1 (TX6 7).2.1 (TX6 7).2.2.1 ∈ zTb := zt_at 141 (by decide +kernel) rfl
theorem wf8_120 : Cond.fieldLink RX8 120 (TX6 7).1 (TX6 7).2.1 (TX6 7).2.2.1 ∈ zTb := zt_at 142 (by decide +kernel) rfl
theorem wf6_31 : Cond.fieldLink RX6 31 (TX6 8).1 (TX6 8).2.1 (TX6 8).2.2.1 ∈ zTb := zt_at 143 (by decide +kernel) rfl
theorem wf1_92 : Cond.fieldLink RX1 92 (TX6 8).1 (TX6 8).2.1 (TX6 8).2.2.1 ∈ zTb := zt_at 144 (by decide +kernel) rfl
theorem wf8_123 : Cond.fieldLink RX8 123 (TX6 8).1 (TX6 8).2.1 (TX6 8).2.2.1 ∈ zTb := zt_at 145 (by decide +kernel) rfl
theorem wf6_34 : Cond.fieldLink RX6 34 (TX6 9).1 (TX6 9).2.1 (TX6 9).2.2.1 ∈ zTb := zt_at 146 (by decide +kernel) rfl
theorem wf8_126 : Cond.fieldLink RX8 126 (TX6 9).1 (TX6 9).2.1 (TX6 9).2.2.1 ∈ zTb := zt_at 147 (by decide +kernel) rfl
theorem wf6_37 : Cond.fieldLink RX6 37 (TX6 10).1 (TX6 10).2.1 (TX6 10).2.2.1 ∈ zTb := zt_at 148 (by decide +kernel) rfl
theorem wf1_40 : Cond.fieldLink RX1 40 (TX6 10).1 (TX6 10).2.1 (TX6 10).2.2.1 ∈ zTb := zt_at 149 (by decide +kernel) rfl
theorem wf8_135 : Cond.fieldLink RX8 135 (TX6 10).1 (TX6 10).2.1 (TX6 10).2.2.1 ∈ zTb := zt_at 150 (by decide +kernel) rfl
theorem wf6_61 : Cond.fieldLink RX6 61 (TX6 11).1 (TX6 11).2.1 (TX6 11).2.2.1 ∈ zTb := zt_at 151 (by decide +kernel) rfl
theorem wf8_168 : Cond.fieldLink RX8 168 (TX6 11).1 (TX6 11).2.1 (TX6 11).2.2.1 ∈ zTb := zt_at 152 (by decide +kernel) rfl
theorem wf6_64 : Cond.fieldLink RX6 64 (TX6 12).1 (TX6 12).2.1 (TX6 12).2.2.1 ∈ zTb := zt_at 153 (by decide +kernel) rfl
theorem wf8_164 : Cond.fieldLink RX8 164 (TX6 12).1 (TX6 12).2.1 (TX6 12).2.2.1 ∈ zTb := zt_at 154 (by decide +kernel) rfl
theorem wf6_41 : Cond.fieldLink RX6 41 (TX6 13).1 (TX6 13).2.1 (TX6 13).2.2.1 ∈ zTb := zt_at 155 (by decide +kernel) rfl
theorem wf6_46 : Cond.fieldLink RX6 46 (TX6 14).1 (TX6 14).2.1 (TX6 14).2.2.1 ∈ zTb := zt_at 156 (by decide +kernel) rfl
theorem wm7_20 : Cond.methodLink RX7 20 yX3_init ∈ zTb := zt_at 192 (by decide +kernel) rfl
theorem wf3_7 : Cond.fieldLink RX3 7 (TX3 0).1 (TX3 0).2.1 (TX3 0).2.2.1 ∈ zTb := zt_at 196 (by decide +kernel) rfl
theorem wf1_136 : Cond.fieldLink RX1 136 (TX3 0).1 (TX3 0).2.1 (TX3 0).2.2.1 ∈ zTb := zt_at 197 (by decide +kernel) rfl
theorem wf8_241 : Cond.fieldLink RX8 241 (TX3 0).1 (TX3 0).2.1 (TX3 0).2.2.1 ∈ zTb := zt_at 198 (by decide +kernel) rfl
theorem wf3_13 : Cond.fieldLink RX3 13 (TX3 1).1 (TX3 1).2.1 (TX3 1).2.2.1 ∈ zTb := zt_at 199 (by decide +kernel) rfl
theorem wf1_130 : Cond.fieldLink RX1 130 (TX3 1).1 (TX3 1).2.1 (TX3 1).2.2.1 ∈ zTb := zt_at 200 (by decide +kernel) rfl
theorem wf8_244 : Cond.fieldLink RX8 244 (TX3 1).1 (TX3 1).2.1 (TX3 1).2.2.1 ∈ zTb := zt_at 201 (by decide +kernel) rfl
theorem wf3_16 : Cond.fieldLink RX3 16 (TX3 2).1 (TX3 2).2.1 (TX3 2).2.2.1 ∈ zTb := zt_at 202 (by decide +kernel) rfl
theorem wf1_142 : Cond.fieldLink RX1 142 (TX3 2).1 (TX3 2).2.1 (TX3 2).2.2.1 ∈ zTb := zt_at 203 (by decide +kernel) rfl
theorem wf3_19 : Cond.fieldLink RX3 19 (TX3 3).1 (TX3 3).2.1 (TX3 3).2.2.1 ∈ zTb := zt_at 204 (by decide +kernel) rfl
theorem wf1_125 : Cond.fieldLink RX1 125 (TX3 3).1 (TX3 3).2.1 (TX3 3).2.2.1 ∈ zTb := zt_at 205 (by decide +kernel) rfl
theorem wf8_240 : Cond.fieldLink RX8 240 (TX3 3).1 (TX3 3).2.1 (TX3 3).2.2.1 ∈ zTb := zt_at 206 (by decide +kernel) rfl
theorem wf7_12 : Cond.fieldLink RX7 12 (TX7 0).1 (TX7 0).2.1 (TX7 0).2.2.1 ∈ zTb := zt_at 216 (by decide +kernel) rfl
theorem wf8_21 : Cond.fieldLink RX8 21 (TX7 0).1 (TX7 0).2.1 (TX7 0).2.2.1 ∈ zTb := zt_at 217 (by decide +kernel) rfl
theorem wf7_23 : Cond.fieldLink RX7 23 (TX7 1).1 (TX7 1).2.1 (TX7 1).2.2.1 ∈ zTb := zt_at 218 (by decide +kernel) rfl
theorem wf8_28 : Cond.fieldLink RX8 28 (TX7 1).1 (TX7 1).2.1 (TX7 1).2.2.1 ∈ zTb := zt_at 219 (by decide +kernel) rfl
theorem wf7_27 : Cond.fieldLink RX7 27 (TX7 2).1 (TX7 2).2.1 (TX7 2).2.2.1 ∈ zTb := zt_at 220 (by decide +kernel) rfl
theorem wf8_230 : Cond.fieldLink RX8 230 (TX7 2).1 (TX7 2).2.1 (TX7 2).2.2.1 ∈ zTb := zt_at 221 (by decide +kernel) rfl
theorem wf7_30 : Cond.fieldLink RX7 30 (TX7 3).1 (TX7 3).2.1 (TX7 3).2.2.1 ∈ zTb := zt_at 222 (by decide +kernel) rfl
theorem wf8_237 : Cond.fieldLink RX8 237 (TX7 3).1 (TX7 3).2.1 (TX7 3).2.2.1 ∈ zTb := zt_at 223 (by decide +kernel) rfl
theorem wm8_32 : Cond.methodLink RX8 32 yX1_init ∈ zTb := zt_at 235 (by decide +kernel) rfl
theorem wn1_17 : Cond.methodLinkNest RX1 17 yX6_init "StruckWhile" ∈ zNest := zn_at 240 (by decide +kernel) rfl
theorem wf1_9 : Cond.fieldLink RX1 9 (TX1 0).1 (TX1 0).2.1 (TX1 0).2.2.1 ∈ zTb := zt_at 241 (by decide +kernel) rfl
theorem wf8_195 : Cond.fieldLink RX8 195 (TX1 0).1 (TX1 0).2.1 (TX1 0).2.2.1 ∈ zTb := zt_at 242 (by decide +kernel) rfl
theorem wf1_25 : Cond.fieldLink RX1 25 (TX1 1).1 (TX1 1).2.1 (TX1 1).2.2.1 ∈ zTb := zt_at 243 (by decide +kernel) rfl
theorem wf1_28 : Cond.fieldLink RX1 28 (TX1 2).1 (TX1 2).2.1 (TX1 2).2.2.1 ∈ zTb := zt_at 244 (by decide +kernel) rfl
theorem wf1_18 : Cond.fieldLink RX1 18 (TX1 3).1 (TX1 3).2.1 (TX1 3).2.2.1 ∈ zTb := zt_at 245 (by decide +kernel) rfl
theorem wf1_22 : Cond.fieldLink RX1 22 (TX1 4).1 (TX1 4).2.1 (TX1 4).2.2.1 ∈ zTb := zt_at 246 (by decide +kernel) rfl
theorem wf1_76 : Cond.fieldLink RX1 76 (TX1 5).1 (TX1 5).2.1 (TX1 5).2.2.1 ∈ zTb := zt_at 247 (by decide +kernel) rfl
theorem wn8_41 : Cond.methodLinkNest RX8 41 yX2_init "StruckWhile" ∈ zNest := zn_at 263 (by decide +kernel) rfl
theorem wf2_15 : Cond.fieldLink RX2 15 (TX2 0).1 (TX2 0).2.1 (TX2 0).2.2.1 ∈ zTb := zt_at 267 (by decide +kernel) rfl
theorem wf8_144 : Cond.fieldLink RX8 144 (TX2 0).1 (TX2 0).2.1 (TX2 0).2.2.1 ∈ zTb := zt_at 268 (by decide +kernel) rfl
theorem wf2_28 : Cond.fieldLink RX2 28 (TX2 1).1 (TX2 1).2.1 (TX2 1).2.2.1 ∈ zTb := zt_at 269 (by decide +kernel) rfl
theorem wf8_161 : Cond.fieldLink RX8 161 (TX2 1).1 (TX2 1).2.1 (TX2 1).2.2.1 ∈ zTb := zt_at 270 (by decide +kernel) rfl
theorem wf2_9 : Cond.fieldLink RX2 9 (TX2 2).1 (TX2 2).2.1 (TX2 2).2.2.1 ∈ zTb := zt_at 271 (by decide +kernel) rfl
theorem wf2_24 : Cond.fieldLink RX2 24 (TX2 3).1 (TX2 3).2.1 (TX2 3).2.2.1 ∈ zTb := zt_at 272 (by decide +kernel) rfl
theorem wn8_54 : Cond.methodLinkNest RX8 54 yX0_init "StruckWhile" ∈ zNest := zn_at 287 (by decide +kernel) rfl
theorem wf0_53 : Cond.fieldLink RX0 53 (TX0 0).1 (TX0 0).2.1 (TX0 0).2.2.1 ∈ zTb := zt_at 291 (by decide +kernel) rfl
theorem wf8_270 : Cond.fieldLink RX8 270 (TX0 0).1 (TX0 0).2.1 (TX0 0).2.2.1 ∈ zTb := zt_at 292 (by decide +kernel) rfl
theorem wf0_9 : Cond.fieldLink RX0 9 (TX0 1).1 (TX0 1).2.1 (TX0 1).2.2.1 ∈ zTb := zt_at 293 (by decide +kernel) rfl
theorem wf8_277 : Cond.fieldLink RX8 277 (TX0 1).1 (TX0 1).2.1 (TX0 1).2.2.1 ∈ zTb := zt_at 294 (by decide +kernel) rfl
theorem wf0_15 : Cond.fieldLink RX0 15 (TX0 2).1 (TX0 2).2.1 (TX0 2).2.2.1 ∈ zTb := zt_at 295 (by decide +kernel) rfl
theorem wf0_24 : Cond.fieldLink RX0 24 (TX0 3).1 (TX0 3).2.1 (TX0 3).2.2.1 ∈ zTb := zt_at 296 (by decide +kernel) rfl
theorem wf0_29 : Cond.fieldLink RX0 29 (TX0 4).1 (TX0 4).2.1 (TX0 4).2.2.1 ∈ zTb := zt_at 297 (by decide +kernel) rfl
theorem wm8_61 : Cond.methodLink RX8 61 yX5_init ∈ zTb := zt_at 311 (by decide +kernel) rfl
theorem wf5_9 : Cond.fieldLink RX5 9 (TX5 0).1 (TX5 0).2.1 (TX5 0).2.2.1 ∈ zTb := zt_at 317 (by decide +kernel) rfl
theorem wf8_253 : Cond.fieldLink RX8 253 (TX5 0).1 (TX5 0).2.1 (TX5 0).2.2.1 ∈ zTb := zt_at 318 (by decide +kernel) rfl
theorem wf5_15 : Cond.fieldLink RX5 15 (TX5 1).1 (TX5 1).2.1 (TX5 1).2.2.1 ∈ zTb := zt_at 319 (by decide +kernel) rfl
theorem wf8_256 : Cond.fieldLink RX8 256 (TX5 1).1 (TX5 1).2.1 (TX5 1).2.2.1 ∈ zTb := zt_at 320 (by decide +kernel) rfl
theorem wf5_20 : Cond.fieldLink RX5 20 (TX5 2).1 (TX5 2).2.1 (TX5 2).2.2.1 ∈ zTb := zt_at 321 (by decide +kernel) rfl
theorem wf8_258 : Cond.fieldLink RX8 258 (TX5 2).1 (TX5 2).2.1 (TX5 2).2.2.1 ∈ zTb := zt_at 322 (by decide +kernel) rfl
theorem wn8_66 : Cond.methodLinkNest RX8 66 yX4_init "StruckWhile" ∈ zNest := zn_at 332 (by decide +kernel) rfl
theorem wf4_9 : Cond.fieldLink RX4 9 (TX4 0).1 (TX4 0).2.1 (TX4 0).2.2.1 ∈ zTb := zt_at 336 (by decide +kernel) rfl
theorem wf2_60 : Cond.fieldLink RX2 60 (TX4 0).1 (TX4 0).2.1 (TX4 0).2.2.1 ∈ zTb := zt_at 337 (by decide +kernel) rfl
theorem wf6_78 : Cond.fieldLink RX6 78 (TX4 0).1 (TX4 0).2.1 (TX4 0).2.2.1 ∈ zTb := zt_at 338 (by decide +kernel) rfl
theorem wf4_15 : Cond.fieldLink RX4 15 (TX4 1).1 (TX4 1).2.1 (TX4 1).2.2.1 ∈ zTb := zt_at 339 (by decide +kernel) rfl
theorem wf4_22 : Cond.fieldLink RX4 22 (TX4 2).1 (TX4 2).2.1 (TX4 2).2.2.1 ∈ zTb := zt_at 340 (by decide +kernel) rfl
theorem wf4_19 : Cond.fieldLink RX4 19 (TX4 3).1 (TX4 3).2.1 (TX4 3).2.2.1 ∈ zTb := zt_at 341 (by decide +kernel) rfl
theorem wf4_25 : Cond.fieldLink RX4 25 (TX4 4).1 (TX4 4).2.1 (TX4 4).2.2.1 ∈ zTb := zt_at 342 (by decide +kernel) rfl
theorem wf8_12 : Cond.fieldLink RX8 12 (TX8 0).1 (TX8 0).2.1 (TX8 0).2.2.1 ∈ zTb := zt_at 354 (by decide +kernel) rfl
theorem wf8_18 : Cond.fieldLink RX8 18 (TX8 1).1 (TX8 1).2.1 (TX8 1).2.2.1 ∈ zTb := zt_at 355 (by decide +kernel) rfl
theorem wf8_266 : Cond.fieldLink RX8 266 (TX8 2).1 (TX8 2).2.1 (TX8 2).2.2.1 ∈ zTb := zt_at 356 (by decide +kernel) rfl
theorem wf8_25 : Cond.fieldLink RX8 25 (TX8 3).1 (TX8 3).2.1 (TX8 3).2.2.1 ∈ zTb := zt_at 357 (by decide +kernel) rfl
theorem wf8_35 : Cond.fieldLink RX8 35 (TX8 4).1 (TX8 4).2.1 (TX8 4).2.2.1 ∈ zTb := zt_at 358 (by decide +kernel) rfl
theorem wf8_42 : Cond.fieldLink RX8 42 (TX8 5).1 (TX8 5).2.1 (TX8 5).2.2.1 ∈ zTb := zt_at 359 (by decide +kernel) rfl
theorem wf8_48 : Cond.fieldLink RX8 48 (TX8 6).1 (TX8 6).2.1 (TX8 6).2.2.1 ∈ zTb := zt_at 360 (by decide +kernel) rfl
theorem wf8_151 : Cond.fieldLink RX8 151 (TX8 7).1 (TX8 7).2.1 (TX8 7).2.2.1 ∈ zTb := zt_at 361 (by decide +kernel) rfl
theorem wf8_55 : Cond.fieldLink RX8 55 (TX8 8).1 (TX8 8).2.1 (TX8 8).2.2.1 ∈ zTb := zt_at 362 (by decide +kernel) rfl
theorem wf8_62 : Cond.fieldLink RX8 62 (TX8 9).1 (TX8 9).2.1 (TX8 9).2.2.1 ∈ zTb := zt_at 363 (by decide +kernel) rfl
theorem wm8_67 : Cond.methodLink RX8 67 yX8_isWithin ∈ zTb := zt_at 389 (by decide +kernel) rfl
theorem wm8_77 : Cond.methodLink RX8 77 yX6_addOne ∈ zTb := zt_at 392 (by decide +kernel) rfl
theorem wm8_81 : Cond.methodLink RX8 81 yX6_hasOne ∈ zTb := zt_at 400 (by decide +kernel) rfl
theorem wm8_99 : Cond.methodLink RX8 99 yX8_asNumber ∈ zTb := zt_at 404 (by decide +kernel) rfl
theorem wm8_103 : Cond.methodLink RX8 103 yX6_riseOf ∈ zTb := zt_at 407 (by decide +kernel) rfl
theorem wm6_81 : Cond.methodLink RX6 81 yX6_countBeside ∈ zTb := zt_at 411 (by decide +kernel) rfl
theorem wm6_68 : Cond.methodLink RX6 68 yX6_hasOne ∈ zTb := zt_at 415 (by decide +kernel) rfl
theorem wm6_85 : Cond.methodLink RX6 85 yX6_setLetters ∈ zTb := zt_at 416 (by decide +kernel) rfl
theorem wm6_89 : Cond.methodLink RX6 89 yX4_sum ∈ zTb := zt_at 420 (by decide +kernel) rfl
theorem wm4_32 : Cond.methodLink RX4 32 yX4_test ∈ zTb := zt_at 424 (by decide +kernel) rfl
theorem wm8_107 : Cond.methodLink RX8 107 yX6_countBeside ∈ zTb := zt_at 427 (by decide +kernel) rfl
theorem wm8_114 : Cond.methodLink RX8 114 yX6_addWork ∈ zTb := zt_at 440 (by decide +kernel) rfl
theorem wm8_117 : Cond.methodLink RX8 117 yX6_hasWork ∈ zTb := zt_at 448 (by decide +kernel) rfl
theorem wm8_129 : Cond.methodLink RX8 129 yX6_isDone ∈ zTb := zt_at 452 (by decide +kernel) rfl
theorem wm6_72 : Cond.methodLink RX6 72 yX6_hasWork ∈ zTb := zt_at 456 (by decide +kernel) rfl
theorem wm8_132 : Cond.methodLink RX8 132 yX1_minutesUntilDone ∈ zTb := zt_at 457 (by decide +kernel) rfl
theorem wm1_32 : Cond.methodLink RX1 32 yX6_become ∈ zTb := zt_at 461 (by decide +kernel) rfl
theorem wm6_55 : Cond.methodLink RX6 55 arraycopyName ∈ zTb := zt_at 465 (by decide +kernel) rfl
theorem wm1_44 : Cond.methodLink RX1 44 yX6_isDone ∈ zTb := zt_at 468 (by decide +kernel) rfl
theorem wm1_48 : Cond.methodLink RX1 48 yX6_goOneMinute ∈ zTb := zt_at 469 (by decide +kernel) rfl
theorem wm6_75 : Cond.methodLink RX6 75 yX6_isDone ∈ zTb := zt_at 473 (by decide +kernel) rfl
theorem wm6_96 : Cond.methodLink RX6 96 yX6_hottest ∈ zTb := zt_at 474 (by decide +kernel) rfl
theorem wm6_100 : Cond.methodLink RX6 100 yX6_spark ∈ zTb := zt_at 478 (by decide +kernel) rfl
theorem wm6_102 : Cond.methodLink RX6 102 yX6_riseOf ∈ zTb := zt_at 482 (by decide +kernel) rfl
theorem wm6_106 : Cond.methodLink RX6 106 Lib.Math.min.name ∈ zTb := zt_at 483 (by decide +kernel) rfl
theorem wm6_111 : Cond.methodLink RX6 111 Lib.Math.max.name ∈ zTb := zt_at 486 (by decide +kernel) rfl
theorem wm8_138 : Cond.methodLink RX8 138 yX8_orLacks ∈ zTb := zt_at 493 (by decide +kernel) rfl
theorem wm8_147 : Cond.methodLink RX8 147 yX2_add ∈ zTb := zt_at 504 (by decide +kernel) rfl
theorem wm8_154 : Cond.methodLink RX8 154 yX2_reads ∈ zTb := zt_at 512 (by decide +kernel) rfl
theorem wm2_19 : Cond.methodLink RX2 19 yX4_empty ∈ zTb := zt_at 516 (by decide +kernel) rfl
theorem wm2_31 : Cond.methodLink RX2 31 yX2_readsClause ∈ zTb := zt_at 520 (by decide +kernel) rfl
theorem wm2_39 : Cond.methodLink RX2 39 yX2_sees ∈ zTb := zt_at 524 (by decide +kernel) rfl
theorem wm2_44 : Cond.methodLink RX2 44 yX2_takesWord ∈ zTb := zt_at 529 (by decide +kernel) rfl
theorem wm2_35 : Cond.methodLink RX2 35 yX2_takes ∈ zTb := zt_at 581 (by decide +kernel) rfl
theorem wm2_48 : Cond.methodLink RX2 48 yX2_readsHeat ∈ zTb := zt_at 585 (by decide +kernel) rfl
theorem wm2_56 : Cond.methodLink RX2 56 yX2_takeNumber ∈ zTb := zt_at 589 (by decide +kernel) rfl
theorem wm2_93 : Cond.methodLink RX2 93 Lib.Math.max.name ∈ zTb := zt_at 593 (by decide +kernel) rfl
theorem wm2_62 : Cond.methodLink RX2 62 yX2_readsEither ∈ zTb := zt_at 594 (by decide +kernel) rfl
theorem wm2_69 : Cond.methodLink RX2 69 yX2_readsBoth ∈ zTb := zt_at 598 (by decide +kernel) rfl
theorem wm2_75 : Cond.methodLink RX2 75 yX2_readsFactor ∈ zTb := zt_at 602 (by decide +kernel) rfl
theorem wm2_78 : Cond.methodLink RX2 78 yX2_readsTest ∈ zTb := zt_at 606 (by decide +kernel) rfl
theorem wm2_83 : Cond.methodLink RX2 83 yX2_takeOneOf ∈ zTb := zt_at 611 (by decide +kernel) rfl
theorem wm2_89 : Cond.methodLink RX2 89 yX4_addTest ∈ zTb := zt_at 671 (by decide +kernel) rfl
theorem wm4_28 : Cond.methodLink RX4 28 yX4_addStep ∈ zTb := zt_at 675 (by decide +kernel) rfl
theorem wm2_72 : Cond.methodLink RX2 72 yX4_addStep ∈ zTb := zt_at 679 (by decide +kernel) rfl
theorem wm2_65 : Cond.methodLink RX2 65 yX4_addClause ∈ zTb := zt_at 680 (by decide +kernel) rfl
theorem wm8_158 : Cond.methodLink RX8 158 yX2_empty ∈ zTb := zt_at 686 (by decide +kernel) rfl
theorem wm8_171 : Cond.methodLink RX8 171 yX6_spark ∈ zTb := zt_at 694 (by decide +kernel) rfl
theorem wm8_175 : Cond.methodLink RX8 175 yX6_doneBits ∈ zTb := zt_at 695 (by decide +kernel) rfl
theorem wm8_178 : Cond.methodLink RX8 178 yX6_hottest ∈ zTb := zt_at 699 (by decide +kernel) rfl
theorem wm8_181 : Cond.methodLink RX8 181 yX6_heatOfAll ∈ zTb := zt_at 700 (by decide +kernel) rfl
theorem wm8_184 : Cond.methodLink RX8 184 yX6_goOn ∈ zTb := zt_at 708 (by decide +kernel) rfl
theorem wm6_93 : Cond.methodLink RX6 93 yX6_goOneMinute ∈ zTb := zt_at 712 (by decide +kernel) rfl
theorem wm8_188 : Cond.methodLink RX8 188 yX1_behind ∈ zTb := zt_at 717 (by decide +kernel) rfl
theorem wm1_36 : Cond.methodLink RX1 36 yX6_goOn ∈ zTb := zt_at 721 (by decide +kernel) rfl
theorem wm8_192 : Cond.methodLink RX8 192 yX1_findBestRow ∈ zTb := zt_at 726 (by decide +kernel) rfl
theorem wm1_54 : Cond.methodLink RX1 54 Lib.Math.min.name ∈ zTb := zt_at 730 (by decide +kernel) rfl
theorem ws1_60 : Cond.fieldLink RX1 60 "StruckWhile$Ahead" "ROWS_OF" "[I" ∈ zTb := zt_at 731 (by decide +kernel) rfl
theorem wm1_63 : Cond.methodLink RX1 63 yX1_setRow ∈ zTb := zt_at 733 (by decide +kernel) rfl
theorem wm1_67 : Cond.methodLink RX1 67 yX1_countDoneInTime ∈ zTb := zt_at 737 (by decide +kernel) rfl
theorem wm1_79 : Cond.methodLink RX1 79 yX6_doneBits ∈ zTb := zt_at 741 (by decide +kernel) rfl
theorem wm1_89 : Cond.methodLink RX1 89 yX1_firstUndone ∈ zTb := zt_at 748 (by decide +kernel) rfl
theorem wn1_95 : Cond.methodLinkNest RX1 95 yX8_asNumber "StruckWhile" ∈ zNest := zn_at 752 (by decide +kernel) rfl
theorem wm1_70 : Cond.methodLink RX1 70 arraycopyName ∈ zTb := zt_at 753 (by decide +kernel) rfl
theorem wm8_198 : Cond.methodLink RX8 198 yX1_whomToTalkTo ∈ zTb := zt_at 758 (by decide +kernel) rfl
theorem wm1_106 : Cond.methodLink RX1 106 yX1_hottestByTalk ∈ zTb := zt_at 762 (by decide +kernel) rfl
theorem wm1_109 : Cond.methodLink RX1 109 yX1_warm ∈ zTb := zt_at 766 (by decide +kernel) rfl
theorem wm1_112 : Cond.methodLink RX1 112 yX6_hottest ∈ zTb := zt_at 770 (by decide +kernel) rfl
theorem wm8_201 : Cond.methodLink RX8 201 yX1_hottestByTalk ∈ zTb := zt_at 771 (by decide +kernel) rfl
theorem wm8_204 : Cond.methodLink RX8 204 yX3_empty ∈ zTb := zt_at 776 (by decide +kernel) rfl
theorem wm8_208 : Cond.methodLink RX8 208 yX3_isFull ∈ zTb := zt_at 780 (by decide +kernel) rfl
theorem wm8_212 : Cond.methodLink RX8 212 yX3_add ∈ zTb := zt_at 784 (by decide +kernel) rfl
theorem wm3_23 : Cond.methodLink RX3 23 yX3_isFull ∈ zTb := zt_at 788 (by decide +kernel) rfl
theorem wm8_214 : Cond.methodLink RX8 214 yX1_fitting ∈ zTb := zt_at 793 (by decide +kernel) rfl
theorem wm1_121 : Cond.methodLink RX1 121 yX1_isAllSeenSo ∈ zTb := zt_at 797 (by decide +kernel) rfl
theorem wm1_133 : Cond.methodLink RX1 133 Lib.Math.max.name ∈ zTb := zt_at 801 (by decide +kernel) rfl
theorem wm1_139 : Cond.methodLink RX1 139 yX6_isHot ∈ zTb := zt_at 802 (by decide +kernel) rfl
theorem wc8_218 : Cond.constantLong RX8 218 (-9223372036854775808 : Int64) ∈ zTb := zt_at 810 (by decide +kernel) rfl
theorem wm8_220 : Cond.methodLink RX8 220 yX1_countHot ∈ zTb := zt_at 811 (by decide +kernel) rfl
theorem wm8_223 : Cond.methodLink RX8 223 yX6_countHere ∈ zTb := zt_at 815 (by decide +kernel) rfl
theorem wm8_226 : Cond.methodLink RX8 226 yX8_lowestTerms ∈ zTb := zt_at 819 (by decide +kernel) rfl
theorem wm8_233 : Cond.methodLink RX8 233 yX1_behindPlan ∈ zTb := zt_at 834 (by decide +kernel) rfl
theorem wm1_145 : Cond.methodLink RX1 145 yX1_goPlanned ∈ zTb := zt_at 838 (by decide +kernel) rfl
theorem wm1_148 : Cond.methodLink RX1 148 yX6_hasOne ∈ zTb := zt_at 842 (by decide +kernel) rfl
theorem wm8_247 : Cond.methodLink RX8 247 yX5_has ∈ zTb := zt_at 855 (by decide +kernel) rfl
theorem wm8_250 : Cond.methodLink RX8 250 yX5_holds ∈ zTb := zt_at 859 (by decide +kernel) rfl
theorem wm8_262 : Cond.methodLink RX8 262 yX7_become ∈ zTb := zt_at 867 (by decide +kernel) rfl
theorem wm7_33 : Cond.methodLink RX7 33 yX6_become ∈ zTb := zt_at 871 (by decide +kernel) rfl
theorem wm7_37 : Cond.methodLink RX7 37 yX3_become ∈ zTb := zt_at 872 (by decide +kernel) rfl
theorem wm8_273 : Cond.methodLink RX8 273 yX0_start ∈ zTb := zt_at 884 (by decide +kernel) rfl
theorem wm0_31 : Cond.methodLink RX0 31 yX0_run ∈ zTb := zt_at 888 (by decide +kernel) rfl
theorem wm0_35 : Cond.methodLink RX0 35 yX0_bodyOf ∈ zTb := zt_at 892 (by decide +kernel) rfl
theorem wn0_43 : Cond.fieldLinkNest RX0 43 "StruckWhile" "KIND_ABOVE" "[I" "StruckWhile" ∈ zNest := zn_at 895 (by decide +kernel) rfl
theorem wn0_46 : Cond.methodLinkNest RX0 46 yX8_isWithin "StruckWhile" ∈ zNest := zn_at 897 (by decide +kernel) rfl
theorem ws0_50 : Cond.fieldLink RX0 50 "StruckWhile$Acts" "BODIES" "[I" ∈ zTb := zt_at 898 (by decide +kernel) rfl
theorem wm0_39 : Cond.methodLink RX0 39 yX0_note ∈ zTb := zt_at 900 (by decide +kernel) rfl
theorem wm8_280 : Cond.methodLink RX8 280 yX8_isOrIsUnder ∈ zTb := zt_at 912 (by decide +kernel) rfl
theorem ws8_299 : Cond.fieldLink RX8 299 "StruckWhile" "KIND_ABOVE" "[I" ∈ zTb := zt_at 915 (by decide +kernel) rfl
theorem wm8_284 : Cond.methodLink RX8 284 yX5_become ∈ zTb := zt_at 924 (by decide +kernel) rfl
theorem wm8_286 : Cond.methodLink RX8 286 yX5_hasItems ∈ zTb := zt_at 932 (by decide +kernel) rfl
theorem wm8_289 : Cond.methodLink RX8 289 yX5_put ∈ zTb := zt_at 936 (by decide +kernel) rfl
theorem wm5_23 : Cond.methodLink RX5 23 yX5_cut ∈ zTb := zt_at 940 (by decide +kernel) rfl
theorem wn5_27 : Cond.methodLinkNest RX5 27 yX8_asNumber "StruckWhile" ∈ zNest := zn_at 943 (by decide +kernel) rfl
theorem wm8_293 : Cond.methodLink RX8 293 arraycopyName ∈ zTb := zt_at 952 (by decide +kernel) rfl
theorem wf9_7 : Cond.fieldLink RX9 7 (TX9 0).1 (TX9 0).2.1 (TX9 0).2.2.1 ∈ zTb := zt_at 959 (by decide +kernel) rfl
theorem wf9_13 : Cond.fieldLink RX9 13 (TX9 1).1 (TX9 1).2.1 (TX9 1).2.2.1 ∈ zTb := zt_at 960 (by decide +kernel) rfl
theorem wf9_16 : Cond.fieldLink RX9 16 (TX9 2).1 (TX9 2).2.1 (TX9 2).2.2.1 ∈ zTb := zt_at 961 (by decide +kernel) rfl
theorem wf9_19 : Cond.fieldLink RX9 19 (TX9 3).1 (TX9 3).2.1 (TX9 3).2.2.1 ∈ zTb := zt_at 962 (by decide +kernel) rfl
theorem wf9_22 : Cond.fieldLink RX9 22 (TX9 4).1 (TX9 4).2.1 (TX9 4).2.2.1 ∈ zTb := zt_at 963 (by decide +kernel) rfl
theorem wf9_25 : Cond.fieldLink RX9 25 (TX9 5).1 (TX9 5).2.1 (TX9 5).2.2.1 ∈ zTb := zt_at 964 (by decide +kernel) rfl
theorem wf9_29 : Cond.fieldLink RX9 29 (TX9 6).1 (TX9 6).2.1 (TX9 6).2.2.1 ∈ zTb := zt_at 965 (by decide +kernel) rfl
theorem wf9_32 : Cond.fieldLink RX9 32 (TX9 7).1 (TX9 7).2.1 (TX9 7).2.2.1 ∈ zTb := zt_at 966 (by decide +kernel) rfl
theorem wf9_35 : Cond.fieldLink RX9 35 (TX9 8).1 (TX9 8).2.1 (TX9 8).2.2.1 ∈ zTb := zt_at 967 (by decide +kernel) rfl
theorem wf9_38 : Cond.fieldLink RX9 38 (TX9 9).1 (TX9 9).2.1 (TX9 9).2.2.1 ∈ zTb := zt_at 968 (by decide +kernel) rfl
theorem wf9_41 : Cond.fieldLink RX9 41 (TX9 10).1 (TX9 10).2.1 (TX9 10).2.2.1 ∈ zTb := zt_at 969 (by decide +kernel) rfl
theorem wf9_44 : Cond.fieldLink RX9 44 (TX9 11).1 (TX9 11).2.1 (TX9 11).2.2.1 ∈ zTb := zt_at 970 (by decide +kernel) rfl
theorem wf9_47 : Cond.fieldLink RX9 47 (TX9 12).1 (TX9 12).2.1 (TX9 12).2.2.1 ∈ zTb := zt_at 971 (by decide +kernel) rfl
theorem wf9_50 : Cond.fieldLink RX9 50 (TX9 13).1 (TX9 13).2.1 (TX9 13).2.2.1 ∈ zTb := zt_at 972 (by decide +kernel) rfl
theorem wf9_53 : Cond.fieldLink RX9 53 (TX9 14).1 (TX9 14).2.1 (TX9 14).2.2.1 ∈ zTb := zt_at 973 (by decide +kernel) rfl
theorem wf9_56 : Cond.fieldLink RX9 56 (TX9 15).1 (TX9 15).2.1 (TX9 15).2.2.1 ∈ zTb := zt_at 974 (by decide +kernel) rfl
theorem wf9_59 : Cond.fieldLink RX9 59 (TX9 16).1 (TX9 16).2.1 (TX9 16).2.2.1 ∈ zTb := zt_at 975 (by decide +kernel) rfl
theorem wf9_62 : Cond.fieldLink RX9 62 (TX9 17).1 (TX9 17).2.1 (TX9 17).2.2.1 ∈ zTb := zt_at 976 (by decide +kernel) rfl
theorem wf9_65 : Cond.fieldLink RX9 65 (TX9 18).1 (TX9 18).2.1 (TX9 18).2.2.1 ∈ zTb := zt_at 977 (by decide +kernel) rfl
theorem wf9_68 : Cond.fieldLink RX9 68 (TX9 19).1 (TX9 19).2.1 (TX9 19).2.2.1 ∈ zTb := zt_at 978 (by decide +kernel) rfl
theorem wf9_71 : Cond.fieldLink RX9 71 (TX9 20).1 (TX9 20).2.1 (TX9 20).2.2.1 ∈ zTb := zt_at 979 (by decide +kernel) rfl
theorem wf9_74 : Cond.fieldLink RX9 74 (TX9 21).1 (TX9 21).2.1 (TX9 21).2.2.1 ∈ zTb := zt_at 980 (by decide +kernel) rfl
theorem wf9_77 : Cond.fieldLink RX9 77 (TX9 22).1 (TX9 22).2.1 (TX9 22).2.2.1 ∈ zTb := zt_at 981 (by decide +kernel) rfl
theorem wf9_80 : Cond.fieldLink RX9 80 (TX9 23).1 (TX9 23).2.1 (TX9 23).2.2.1 ∈ zTb := zt_at 982 (by decide +kernel) rfl
theorem wf9_83 : Cond.fieldLink RX9 83 (TX9 24).1 (TX9 24).2.1 (TX9 24).2.2.1 ∈ zTb := zt_at 983 (by decide +kernel) rfl
theorem wf9_86 : Cond.fieldLink RX9 86 (TX9 25).1 (TX9 25).2.1 (TX9 25).2.2.1 ∈ zTb := zt_at 984 (by decide +kernel) rfl
theorem wf9_89 : Cond.fieldLink RX9 89 (TX9 26).1 (TX9 26).2.1 (TX9 26).2.2.1 ∈ zTb := zt_at 985 (by decide +kernel) rfl
theorem wf9_92 : Cond.fieldLink RX9 92 (TX9 27).1 (TX9 27).2.1 (TX9 27).2.2.1 ∈ zTb := zt_at 986 (by decide +kernel) rfl
theorem wf9_95 : Cond.fieldLink RX9 95 (TX9 28).1 (TX9 28).2.1 (TX9 28).2.2.1 ∈ zTb := zt_at 987 (by decide +kernel) rfl
theorem wf9_98 : Cond.fieldLink RX9 98 (TX9 29).1 (TX9 29).2.1 (TX9 29).2.2.1 ∈ zTb := zt_at 988 (by decide +kernel) rfl
theorem wf9_102 : Cond.fieldLink RX9 102 (TX9 30).1 (TX9 30).2.1 (TX9 30).2.2.1 ∈ zTb := zt_at 989 (by decide +kernel) rfl
theorem wf9_105 : Cond.fieldLink RX9 105 (TX9 31).1 (TX9 31).2.1 (TX9 31).2.2.1 ∈ zTb := zt_at 990 (by decide +kernel) rfl
theorem wf9_108 : Cond.fieldLink RX9 108 (TX9 32).1 (TX9 32).2.1 (TX9 32).2.2.1 ∈ zTb := zt_at 991 (by decide +kernel) rfl
theorem wf9_111 : Cond.fieldLink RX9 111 (TX9 33).1 (TX9 33).2.1 (TX9 33).2.2.1 ∈ zTb := zt_at 992 (by decide +kernel) rfl
theorem wf9_114 : Cond.fieldLink RX9 114 (TX9 34).1 (TX9 34).2.1 (TX9 34).2.2.1 ∈ zTb := zt_at 993 (by decide +kernel) rfl
theorem wf9_117 : Cond.fieldLink RX9 117 (TX9 35).1 (TX9 35).2.1 (TX9 35).2.2.1 ∈ zTb := zt_at 994 (by decide +kernel) rfl
theorem wf9_120 : Cond.fieldLink RX9 120 (TX9 36).1 (TX9 36).2.1 (TX9 36).2.2.1 ∈ zTb := zt_at 995 (by decide +kernel) rfl
theorem wf9_123 : Cond.fieldLink RX9 123 (TX9 37).1 (TX9 37).2.1 (TX9 37).2.2.1 ∈ zTb := zt_at 996 (by decide +kernel) rfl
theorem wf9_126 : Cond.fieldLink RX9 126 (TX9 38).1 (TX9 38).2.1 (TX9 38).2.2.1 ∈ zTb := zt_at 997 (by decide +kernel) rfl
theorem wf9_129 : Cond.fieldLink RX9 129 (TX9 39).1 (TX9 39).2.1 (TX9 39).2.2.1 ∈ zTb := zt_at 998 (by decide +kernel) rfl
theorem wf9_132 : Cond.fieldLink RX9 132 (TX9 40).1 (TX9 40).2.1 (TX9 40).2.2.1 ∈ zTb := zt_at 999 (by decide +kernel) rfl
theorem wf9_135 : Cond.fieldLink RX9 135 (TX9 41).1 (TX9 41).2.1 (TX9 41).2.2.1 ∈ zTb := zt_at 1000 (by decide +kernel) rfl
theorem wf9_138 : Cond.fieldLink RX9 138 (TX9 42).1 (TX9 42).2.1 (TX9 42).2.2.1 ∈ zTb := zt_at 1001 (by decide +kernel) rfl
theorem wf9_141 : Cond.fieldLink RX9 141 (TX9 43).1 (TX9 43).2.1 (TX9 43).2.2.1 ∈ zTb := zt_at 1002 (by decide +kernel) rfl
theorem wf9_144 : Cond.fieldLink RX9 144 (TX9 44).1 (TX9 44).2.1 (TX9 44).2.2.1 ∈ zTb := zt_at 1003 (by decide +kernel) rfl
theorem wf9_147 : Cond.fieldLink RX9 147 (TX9 45).1 (TX9 45).2.1 (TX9 45).2.2.1 ∈ zTb := zt_at 1004 (by decide +kernel) rfl
theorem wf9_150 : Cond.fieldLink RX9 150 (TX9 46).1 (TX9 46).2.1 (TX9 46).2.2.1 ∈ zTb := zt_at 1005 (by decide +kernel) rfl
theorem wf9_153 : Cond.fieldLink RX9 153 (TX9 47).1 (TX9 47).2.1 (TX9 47).2.2.1 ∈ zTb := zt_at 1006 (by decide +kernel) rfl
theorem wf9_156 : Cond.fieldLink RX9 156 (TX9 48).1 (TX9 48).2.1 (TX9 48).2.2.1 ∈ zTb := zt_at 1007 (by decide +kernel) rfl
theorem wf9_160 : Cond.fieldLink RX9 160 (TX9 49).1 (TX9 49).2.1 (TX9 49).2.2.1 ∈ zTb := zt_at 1008 (by decide +kernel) rfl
theorem wf9_163 : Cond.fieldLink RX9 163 (TX9 50).1 (TX9 50).2.1 (TX9 50).2.2.1 ∈ zTb := zt_at 1009 (by decide +kernel) rfl
theorem wf9_166 : Cond.fieldLink RX9 166 (TX9 51).1 (TX9 51).2.1 (TX9 51).2.2.1 ∈ zTb := zt_at 1010 (by decide +kernel) rfl
theorem wf9_169 : Cond.fieldLink RX9 169 (TX9 52).1 (TX9 52).2.1 (TX9 52).2.2.1 ∈ zTb := zt_at 1011 (by decide +kernel) rfl
theorem wf9_172 : Cond.fieldLink RX9 172 (TX9 53).1 (TX9 53).2.1 (TX9 53).2.2.1 ∈ zTb := zt_at 1012 (by decide +kernel) rfl
theorem wf9_175 : Cond.fieldLink RX9 175 (TX9 54).1 (TX9 54).2.1 (TX9 54).2.2.1 ∈ zTb := zt_at 1013 (by decide +kernel) rfl
theorem wf9_178 : Cond.fieldLink RX9 178 (TX9 55).1 (TX9 55).2.1 (TX9 55).2.2.1 ∈ zTb := zt_at 1014 (by decide +kernel) rfl
theorem wf9_181 : Cond.fieldLink RX9 181 (TX9 56).1 (TX9 56).2.1 (TX9 56).2.2.1 ∈ zTb := zt_at 1015 (by decide +kernel) rfl
theorem wf9_184 : Cond.fieldLink RX9 184 (TX9 57).1 (TX9 57).2.1 (TX9 57).2.2.1 ∈ zTb := zt_at 1016 (by decide +kernel) rfl
theorem wf9_187 : Cond.fieldLink RX9 187 (TX9 58).1 (TX9 58).2.1 (TX9 58).2.2.1 ∈ zTb := zt_at 1017 (by decide +kernel) rfl
theorem wf9_190 : Cond.fieldLink RX9 190 (TX9 59).1 (TX9 59).2.1 (TX9 59).2.2.1 ∈ zTb := zt_at 1018 (by decide +kernel) rfl
theorem wf9_193 : Cond.fieldLink RX9 193 (TX9 60).1 (TX9 60).2.1 (TX9 60).2.2.1 ∈ zTb := zt_at 1019 (by decide +kernel) rfl
theorem wf9_196 : Cond.fieldLink RX9 196 (TX9 61).1 (TX9 61).2.1 (TX9 61).2.2.1 ∈ zTb := zt_at 1020 (by decide +kernel) rfl
theorem wf9_199 : Cond.fieldLink RX9 199 (TX9 62).1 (TX9 62).2.1 (TX9 62).2.2.1 ∈ zTb := zt_at 1021 (by decide +kernel) rfl
theorem wf9_202 : Cond.fieldLink RX9 202 (TX9 63).1 (TX9 63).2.1 (TX9 63).2.2.1 ∈ zTb := zt_at 1022 (by decide +kernel) rfl
theorem wf9_205 : Cond.fieldLink RX9 205 (TX9 64).1 (TX9 64).2.1 (TX9 64).2.2.1 ∈ zTb := zt_at 1023 (by decide +kernel) rfl
theorem wf9_208 : Cond.fieldLink RX9 208 (TX9 65).1 (TX9 65).2.1 (TX9 65).2.2.1 ∈ zTb := zt_at 1024 (by decide +kernel) rfl
theorem wf9_211 : Cond.fieldLink RX9 211 (TX9 66).1 (TX9 66).2.1 (TX9 66).2.2.1 ∈ zTb := zt_at 1025 (by decide +kernel) rfl
theorem wf9_214 : Cond.fieldLink RX9 214 (TX9 67).1 (TX9 67).2.1 (TX9 67).2.2.1 ∈ zTb := zt_at 1026 (by decide +kernel) rfl
theorem wf9_217 : Cond.fieldLink RX9 217 (TX9 68).1 (TX9 68).2.1 (TX9 68).2.2.1 ∈ zTb := zt_at 1027 (by decide +kernel) rfl
theorem wf9_220 : Cond.fieldLink RX9 220 (TX9 69).1 (TX9 69).2.1 (TX9 69).2.2.1 ∈ zTb := zt_at 1028 (by decide +kernel) rfl
theorem wf9_223 : Cond.fieldLink RX9 223 (TX9 70).1 (TX9 70).2.1 (TX9 70).2.2.1 ∈ zTb := zt_at 1029 (by decide +kernel) rfl
theorem wf9_226 : Cond.fieldLink RX9 226 (TX9 71).1 (TX9 71).2.1 (TX9 71).2.2.1 ∈ zTb := zt_at 1030 (by decide +kernel) rfl
theorem wf9_229 : Cond.fieldLink RX9 229 (TX9 72).1 (TX9 72).2.1 (TX9 72).2.2.1 ∈ zTb := zt_at 1031 (by decide +kernel) rfl
theorem wf9_232 : Cond.fieldLink RX9 232 (TX9 73).1 (TX9 73).2.1 (TX9 73).2.2.1 ∈ zTb := zt_at 1032 (by decide +kernel) rfl
theorem wf9_235 : Cond.fieldLink RX9 235 (TX9 74).1 (TX9 74).2.1 (TX9 74).2.2.1 ∈ zTb := zt_at 1033 (by decide +kernel) rfl
theorem wf9_238 : Cond.fieldLink RX9 238 (TX9 75).1 (TX9 75).2.1 (TX9 75).2.2.1 ∈ zTb := zt_at 1034 (by decide +kernel) rfl
theorem wf9_241 : Cond.fieldLink RX9 241 (TX9 76).1 (TX9 76).2.1 (TX9 76).2.2.1 ∈ zTb := zt_at 1035 (by decide +kernel) rfl
theorem wf9_245 : Cond.fieldLink RX9 245 (TX9 77).1 (TX9 77).2.1 (TX9 77).2.2.1 ∈ zTb := zt_at 1036 (by decide +kernel) rfl
theorem wm9_252 : Cond.methodLink RX9 252 yX9_in ∈ zTb := zt_at 1198 (by decide +kernel) rfl
theorem wm9_256 : Cond.methodLink RX9 256 yX9_isHeat ∈ zTb := zt_at 1202 (by decide +kernel) rfl
theorem wm9_260 : Cond.methodLink RX9 260 yX9_isOne ∈ zTb := zt_at 1210 (by decide +kernel) rfl
theorem wm9_263 : Cond.methodLink RX9 263 yX9_has ∈ zTb := zt_at 1218 (by decide +kernel) rfl
theorem wm9_267 : Cond.methodLink RX9 267 yX9_goes ∈ zTb := zt_at 1222 (by decide +kernel) rfl
theorem wm9_271 : Cond.methodLink RX9 271 yX9_isWork ∈ zTb := zt_at 1234 (by decide +kernel) rfl
theorem wm9_317 : Cond.methodLink RX9 317 yX9_goesText ∈ zTb := zt_at 1250 (by decide +kernel) rfl
theorem wm9_314 : Cond.methodLink RX9 314 yX9_takesClause ∈ zTb := zt_at 1254 (by decide +kernel) rfl
theorem wm9_308 : Cond.methodLink RX9 308 yX9_takesHead ∈ zTb := zt_at 1258 (by decide +kernel) rfl
theorem wm9_274 : Cond.methodLink RX9 274 yX9_next ∈ zTb := zt_at 1262 (by decide +kernel) rfl
theorem wm9_305 : Cond.methodLink RX9 305 yX9_takesWord ∈ zTb := zt_at 1266 (by decide +kernel) rfl
theorem wm9_278 : Cond.methodLink RX9 278 yX9_takes ∈ zTb := zt_at 1270 (by decide +kernel) rfl
theorem wm9_293 : Cond.methodLink RX9 293 yX9_takesNumber ∈ zTb := zt_at 1274 (by decide +kernel) rfl
theorem wm9_281 : Cond.methodLink RX9 281 yX9_isDigit ∈ zTb := zt_at 1278 (by decide +kernel) rfl
theorem wm9_311 : Cond.methodLink RX9 311 yX9_takesE ∈ zTb := zt_at 1282 (by decide +kernel) rfl
theorem wm9_299 : Cond.methodLink RX9 299 yX9_takesTest ∈ zTb := zt_at 1286 (by decide +kernel) rfl
theorem wm9_289 : Cond.methodLink RX9 289 yX9_place ∈ zTb := zt_at 1290 (by decide +kernel) rfl
theorem wm9_285 : Cond.methodLink RX9 285 yX9_emits ∈ zTb := zt_at 1294 (by decide +kernel) rfl
theorem wm9_296 : Cond.methodLink RX9 296 yX9_whole ∈ zTb := zt_at 1298 (by decide +kernel) rfl
theorem wm9_302 : Cond.methodLink RX9 302 yX9_settle ∈ zTb := zt_at 1302 (by decide +kernel) rfl
theorem wm9_338 : Cond.methodLink RX9 338 yX9_rise ∈ zTb := zt_at 1310 (by decide +kernel) rfl
theorem wm9_335 : Cond.methodLink RX9 335 yX9_sum ∈ zTb := zt_at 1314 (by decide +kernel) rfl
theorem wm9_320 : Cond.methodLink RX9 320 yX9_begin ∈ zTb := zt_at 1318 (by decide +kernel) rfl
theorem wm9_323 : Cond.methodLink RX9 323 yX9_behind ∈ zTb := zt_at 1322 (by decide +kernel) rfl
theorem wm9_332 : Cond.methodLink RX9 332 yX9_holds ∈ zTb := zt_at 1326 (by decide +kernel) rfl
theorem wm9_329 : Cond.methodLink RX9 329 yX9_factOf ∈ zTb := zt_at 1330 (by decide +kernel) rfl
theorem wm9_326 : Cond.methodLink RX9 326 yX9_beside ∈ zTb := zt_at 1334 (by decide +kernel) rfl
theorem wm9_344 : Cond.methodLink RX9 344 yX9_spark ∈ zTb := zt_at 1342 (by decide +kernel) rfl
theorem wm9_347 : Cond.methodLink RX9 347 yX9_doneSet ∈ zTb := zt_at 1346 (by decide +kernel) rfl
theorem wm9_341 : Cond.methodLink RX9 341 yX9_isDone ∈ zTb := zt_at 1350 (by decide +kernel) rfl
theorem wm9_350 : Cond.methodLink RX9 350 yX9_hottest ∈ zTb := zt_at 1354 (by decide +kernel) rfl
theorem wm9_353 : Cond.methodLink RX9 353 yX9_allHeat ∈ zTb := zt_at 1358 (by decide +kernel) rfl
theorem wm9_362 : Cond.methodLink RX9 362 yX9_isMinutes ∈ zTb := zt_at 1366 (by decide +kernel) rfl
theorem wm9_365 : Cond.methodLink RX9 365 yX9_goMinutes ∈ zTb := zt_at 1370 (by decide +kernel) rfl
theorem wm9_359 : Cond.methodLink RX9 359 yX9_goMinute ∈ zTb := zt_at 1374 (by decide +kernel) rfl
theorem wm9_356 : Cond.methodLink RX9 356 yX9_held ∈ zTb := zt_at 1378 (by decide +kernel) rfl
theorem wm9_248 : Cond.methodLink RX9 248 yX9_least ∈ zTb := zt_at 1382 (by decide +kernel) rfl
theorem wm9_374 : Cond.methodLink RX9 374 yX9_ready ∈ zTb := zt_at 1390 (by decide +kernel) rfl
theorem wm9_368 : Cond.methodLink RX9 368 yX9_save ∈ zTb := zt_at 1394 (by decide +kernel) rfl
theorem wm9_371 : Cond.methodLink RX9 371 yX9_putBack ∈ zTb := zt_at 1398 (by decide +kernel) rfl
theorem wm9_380 : Cond.methodLink RX9 380 yX9_layLine ∈ zTb := zt_at 1410 (by decide +kernel) rfl
theorem wm9_383 : Cond.methodLink RX9 383 yX9_doneInTime ∈ zTb := zt_at 1414 (by decide +kernel) rfl
theorem wm9_377 : Cond.methodLink RX9 377 yX9_firstOfLine ∈ zTb := zt_at 1418 (by decide +kernel) rfl
theorem wm9_386 : Cond.methodLink RX9 386 yX9_hottestIf ∈ zTb := zt_at 1426 (by decide +kernel) rfl
theorem wm9_392 : Cond.methodLink RX9 392 yX9_heats ∈ zTb := zt_at 1438 (by decide +kernel) rfl
theorem wm9_389 : Cond.methodLink RX9 389 yX9_isSeen ∈ zTb := zt_at 1442 (by decide +kernel) rfl
theorem wm9_395 : Cond.methodLink RX9 395 yX9_canBe ∈ zTb := zt_at 1446 (by decide +kernel) rfl
theorem wc9_401 : Cond.constantLong RX9 401 (-9223372036854775808 : Int64) ∈ zTb := zt_at 1454 (by decide +kernel) rfl
theorem wm9_403 : Cond.methodLink RX9 403 yX9_isHotIf ∈ zTb := zt_at 1455 (by decide +kernel) rfl
theorem wm9_406 : Cond.methodLink RX9 406 yX9_lowest ∈ zTb := zt_at 1459 (by decide +kernel) rfl
theorem wm9_398 : Cond.methodLink RX9 398 yX9_divisor ∈ zTb := zt_at 1463 (by decide +kernel) rfl
theorem wm9_410 : Cond.methodLink RX9 410 yX9_goPlan ∈ zTb := zt_at 1479 (by decide +kernel) rfl
theorem wm9_414 : Cond.methodLink RX9 414 yX9_isTape ∈ zTb := zt_at 1495 (by decide +kernel) rfl
theorem wm9_423 : Cond.methodLink RX9 423 yX9_glowsAct ∈ zTb := zt_at 1511 (by decide +kernel) rfl
theorem wm9_417 : Cond.methodLink RX9 417 yX9_body ∈ zTb := zt_at 1515 (by decide +kernel) rfl
theorem wm9_420 : Cond.methodLink RX9 420 yX9_oneGlows ∈ zTb := zt_at 1519 (by decide +kernel) rfl
theorem wm9_432 : Cond.methodLink RX9 432 yX9_ringsAct ∈ zTb := zt_at 1523 (by decide +kernel) rfl
theorem wm9_429 : Cond.methodLink RX9 429 yX9_bankerRings ∈ zTb := zt_at 1527 (by decide +kernel) rfl
theorem wm9_426 : Cond.methodLink RX9 426 yX9_oneRings ∈ zTb := zt_at 1531 (by decide +kernel) rfl
theorem wm9_438 : Cond.methodLink RX9 438 yX9_tellsAct ∈ zTb := zt_at 1535 (by decide +kernel) rfl
theorem wm9_435 : Cond.methodLink RX9 435 yX9_oneTells ∈ zTb := zt_at 1539 (by decide +kernel) rfl
theorem wm9_441 : Cond.methodLink RX9 441 yX9_narrow ∈ zTb := zt_at 1563 (by decide +kernel) rfl
theorem wMmax_s : Cond.static Lib.Math.max.name ∈ zTb := zt_at 487 (by decide +kernel) rfl
theorem wMmax_c : Cond.code Lib.Math.max.name Lib.Math.max.code 2 (some .int) ∈ zTb := zt_at 488 (by decide +kernel) rfl
theorem wMmin_s : Cond.static Lib.Math.min.name ∈ zTb := zt_at 484 (by decide +kernel) rfl
theorem wMmin_c : Cond.code Lib.Math.min.name Lib.Math.min.code 2 (some .int) ∈ zTb := zt_at 485 (by decide +kernel) rfl
theorem wMath : Cond.initialized "java/lang/Math" ∈ zTb := zt_at 93 (by decide +kernel) rfl
theorem wSys : Cond.initialized "java/lang/System" ∈ zTb := zt_at 92 (by decide +kernel) rfl
theorem wAcN : Cond.native arraycopyName ∈ zTb := zt_at 467 (by decide +kernel) rfl
theorem wAcS : Cond.static arraycopyName ∈ zTb := zt_at 466 (by decide +kernel) rfl
end
section
/-! ===== the cells of the class and of the reference ===== -/
def SHX : List zS := [.inl (8, [(1 + 0) + 3, (25 + 0) + 3, 0, (2 + 0) + 3, (49 + 0) + 3, (63 + 0) + 3, (65 + 0) + 3, 0, (66 + 0) + 3, (68 + 0) + 3]),
  .inl (7, [(1 + 1) + 3, (1 + 12) + 3, (1 + 16) + 3, (1 + 20) + 3]),
  .inl (6, [0, (2 + 1) + 3, (2 + 2) + 3, (2 + 3) + 3, (2 + 4) + 3, (2 + 5) + 3, 0, (2 + 6) + 3, (2 + 7) + 3, (2 + 8) + 3, 0, 0, 2, (2 + 9) + 3, (2 + 10) + 3]),
  .inr (0, 6, 0, 0),
  .inr (0, 6, 0, 0),
  .inr (0, 6, 0, 0),
  .inr (1, 6, 0, 0),
  .inr (0, 24, 0, 0),
  .inr (0, 4, 0, 0),
  .inr (0, 4, 0, 0),
  .inr (0, 4, 0, 0),
  .inr (0, 6, 0, 0),
  .inr (0, 8, 0, 0),
  .inl (3, [(13 + 1) + 3, (13 + 2) + 3, (13 + 3) + 3, 0]),
  .inr (0, 5, 0, 0),
  .inr (0, 5, 0, 0),
  .inr (0, 5, 0, 0),
  .inl (3, [(17 + 1) + 3, (17 + 2) + 3, (17 + 3) + 3, 0]),
  .inr (0, 10, 0, 0),
  .inr (0, 10, 0, 0),
  .inr (0, 10, 0, 0),
  .inl (3, [(21 + 1) + 3, (21 + 2) + 3, (21 + 3) + 3, 0]),
  .inr (0, 8, 0, 0),
  .inr (0, 8, 0, 0),
  .inr (0, 8, 0, 0),
  .inl (7, [(25 + 1) + 3, (25 + 12) + 3, (25 + 16) + 3, (25 + 20) + 3]),
  .inl (6, [0, (26 + 1) + 3, (26 + 2) + 3, (26 + 3) + 3, (26 + 4) + 3, (26 + 5) + 3, 0, (26 + 6) + 3, (26 + 7) + 3, (26 + 8) + 3, 0, 0, 2, (26 + 9) + 3, (26 + 10) + 3]),
  .inr (0, 6, 0, 0),
  .inr (0, 6, 0, 0),
  .inr (0, 6, 0, 0),
  .inr (1, 6, 0, 0),
  .inr (0, 24, 0, 0),
  .inr (0, 4, 0, 0),
  .inr (0, 4, 0, 0),
  .inr (0, 4, 0, 0),
  .inr (0, 6, 0, 0),
  .inr (0, 8, 0, 0),
  .inl (3, [(37 + 1) + 3, (37 + 2) + 3, (37 + 3) + 3, 0]),
  .inr (0, 5, 0, 0),
  .inr (0, 5, 0, 0),
  .inr (0, 5, 0, 0),
  .inl (3, [(41 + 1) + 3, (41 + 2) + 3, (41 + 3) + 3, 0]),
  .inr (0, 10, 0, 0),
  .inr (0, 10, 0, 0),
  .inr (0, 10, 0, 0),
  .inl (3, [(45 + 1) + 3, (45 + 2) + 3, (45 + 3) + 3, 0]),
  .inr (0, 8, 0, 0),
  .inr (0, 8, 0, 0),
  .inr (0, 8, 0, 0),
  .inl (1, [(50 + 0) + 3, (2 + 0) + 3, (13 + 0) + 3, (51 + 0) + 3, (62 + 0) + 3, 0]),
  .inr (0, 4, 0, 0),
  .inl (6, [0, (51 + 1) + 3, (51 + 2) + 3, (51 + 3) + 3, (51 + 4) + 3, (51 + 5) + 3, 0, (51 + 6) + 3, (51 + 7) + 3, (51 + 8) + 3, 0, 0, 2, (51 + 9) + 3, (51 + 10) + 3]),
  .inr (0, 6, 0, 0),
  .inr (0, 6, 0, 0),
  .inr (0, 6, 0, 0),
  .inr (1, 6, 0, 0),
  .inr (0, 24, 0, 0),
  .inr (0, 4, 0, 0),
  .inr (0, 4, 0, 0),
  .inr (0, 4, 0, 0),
  .inr (0, 6, 0, 0),
  .inr (0, 8, 0, 0),
  .inr (0, 4, 0, 0),
  .inl (2, [0, 0, (64 + 0) + 3, 2]),
  .inr (2, 100, 0, 0),
  .inr (4, 6, 78, 3),
  .inl (0, [0, (67 + 0) + 3, 0, 0, 0]),
  .inr (0, 20, 0, 0),
  .inl (5, [(69 + 0) + 3, (70 + 0) + 3, (71 + 0) + 3]),
  .inr (0, 6, 0, 0),
  .inr (0, 6, 0, 0),
  .inr (5, 6, 72, 1),
  .inr (3, 60, 0, 0),
  .inr (3, 60, 0, 0),
  .inr (3, 60, 0, 0),
  .inr (3, 60, 0, 0),
  .inr (3, 60, 0, 0),
  .inr (3, 60, 0, 0),
  .inl (4, [0, (78 + 1) + 3, 0, (78 + 2) + 3, 0]),
  .inr (0, 100, 0, 0),
  .inr (0, 10, 0, 0),
  .inl (4, [0, (81 + 1) + 3, 0, (81 + 2) + 3, 0]),
  .inr (0, 100, 0, 0),
  .inr (0, 10, 0, 0),
  .inl (4, [0, (84 + 1) + 3, 0, (84 + 2) + 3, 0]),
  .inr (0, 100, 0, 0),
  .inr (0, 10, 0, 0),
  .inl (4, [0, (87 + 1) + 3, 0, (87 + 2) + 3, 0]),
  .inr (0, 100, 0, 0),
  .inr (0, 10, 0, 0),
  .inl (4, [0, (90 + 1) + 3, 0, (90 + 2) + 3, 0]),
  .inr (0, 100, 0, 0),
  .inr (0, 10, 0, 0),
  .inl (4, [0, (93 + 1) + 3, 0, (93 + 2) + 3, 0]),
  .inr (0, 100, 0, 0),
  .inr (0, 10, 0, 0)]
def SHM : List zS := [.inl (9, [0, 0, 0, 0, 0, (1 + 0) + 3, (2 + 0) + 3, (3 + 0) + 3, (4 + 0) + 3, (5 + 0) + 3, (6 + 0) + 3, (7 + 0) + 3, 0, 0, 0, 0, 0, (8 + 0) + 3, (9 + 0) + 3, (10 + 0) + 3, (11 + 0) + 3, (12 + 0) + 3, (13 + 0) + 3, (14 + 0) + 3, (15 + 0) + 3, 0, 0, 0, (16 + 0) + 3, (17 + 0) + 3, (18 + 0) + 3, 0, 0, 0, (19 + 0) + 3, (20 + 0) + 3, (21 + 0) + 3, (22 + 0) + 3, 0, (23 + 0) + 3, (24 + 0) + 3, (25 + 0) + 3, 0, 0, (26 + 0) + 3, (27 + 0) + 3, (28 + 0) + 3, (29 + 0) + 3, 0, 0, 0, 0, 0, 0, 0, 0, 0, 0, (30 + 0) + 3, (31 + 0) + 3, (32 + 0) + 3, (33 + 0) + 3, (34 + 0) + 3, (35 + 0) + 3, (36 + 0) + 3, (37 + 0) + 3, (38 + 0) + 3, (39 + 0) + 3, (40 + 0) + 3, (41 + 0) + 3, (42 + 0) + 3, (43 + 0) + 3, 0, (44 + 0) + 3, (45 + 0) + 3, (46 + 0) + 3, (47 + 0) + 3, (48 + 0) + 3]),
  .inr (0, 6, 0, 0),
  .inr (0, 6, 0, 0),
  .inr (0, 6, 0, 0),
  .inr (0, 24, 0, 0),
  .inr (0, 4, 0, 0),
  .inr (0, 4, 0, 0),
  .inr (0, 4, 0, 0),
  .inr (0, 100, 0, 0),
  .inr (0, 6, 0, 0),
  .inr (0, 60, 0, 0),
  .inr (0, 60, 0, 0),
  .inr (0, 60, 0, 0),
  .inr (0, 60, 0, 0),
  .inr (0, 600, 0, 0),
  .inr (0, 101, 0, 0),
  .inr (0, 13, 0, 0),
  .inr (1, 100, 0, 0),
  .inr (0, 6, 0, 0),
  .inr (0, 6, 0, 0),
  .inr (0, 4, 0, 0),
  .inr (0, 4, 0, 0),
  .inr (0, 4, 0, 0),
  .inr (0, 5, 0, 0),
  .inr (0, 5, 0, 0),
  .inr (1, 5, 0, 0),
  .inr (0, 10, 0, 0),
  .inr (0, 10, 0, 0),
  .inr (0, 8, 0, 0),
  .inr (0, 8, 0, 0),
  .inr (0, 6, 0, 0),
  .inr (0, 6, 0, 0),
  .inr (0, 6, 0, 0),
  .inr (0, 24, 0, 0),
  .inr (0, 4, 0, 0),
  .inr (0, 4, 0, 0),
  .inr (0, 4, 0, 0),
  .inr (0, 5, 0, 0),
  .inr (0, 5, 0, 0),
  .inr (0, 10, 0, 0),
  .inr (0, 10, 0, 0),
  .inr (0, 8, 0, 0),
  .inr (0, 8, 0, 0),
  .inr (1, 5, 0, 0),
  .inr (0, 20, 0, 0),
  .inr (0, 6, 0, 0),
  .inr (0, 6, 0, 0),
  .inr (3, 360, 0, 0),
  .inr (3, 60, 0, 0)]
/-- a Town, a Sheet of n rows, a Square, a Whole begin there -/
def zTn (t : Nat) : Prop := SHX[t]? = some (.inl (6, [0, (t + 1) + 3, (t + 2) + 3, (t + 3) + 3, (t + 4) + 3, (t + 5) + 3, 0, (t + 6) + 3, (t + 7) + 3, (t + 8) + 3, 0, 0, 2, (t + 9) + 3, (t + 10) + 3])) ∧ SHX[t + 1]? = some (.inr (0, 6, 0, 0)) ∧ SHX[t + 2]? = some (.inr (0, 6, 0, 0)) ∧ SHX[t + 3]? = some (.inr (0, 6, 0, 0)) ∧ SHX[t + 4]? = some (.inr (1, 6, 0, 0)) ∧ SHX[t + 5]? = some (.inr (0, 24, 0, 0)) ∧ SHX[t + 6]? = some (.inr (0, 4, 0, 0)) ∧ SHX[t + 7]? = some (.inr (0, 4, 0, 0)) ∧ SHX[t + 8]? = some (.inr (0, 4, 0, 0)) ∧ SHX[t + 9]? = some (.inr (0, 6, 0, 0)) ∧ SHX[t + 10]? = some (.inr (0, 8, 0, 0))
def zSn (s n : Nat) : Prop := SHX[s]? = some (.inl (3, [(s + 1) + 3, (s + 2) + 3, (s + 3) + 3, 0])) ∧ SHX[s + 1]? = some (.inr (0, n, 0, 0)) ∧ SHX[s + 2]? = some (.inr (0, n, 0, 0)) ∧ SHX[s + 3]? = some (.inr (0, n, 0, 0))
def zSq (q : Nat) : Prop := SHX[q]? = some (.inl (4, [0, (q + 1) + 3, 0, (q + 2) + 3, 0])) ∧ SHX[q + 1]? = some (.inr (0, 100, 0, 0)) ∧ SHX[q + 2]? = some (.inr (0, 10, 0, 0))
def zWh (w : Nat) : Prop := SHX[w]? = some (.inl (7, [(w + 1) + 3, (w + 12) + 3, (w + 16) + 3, (w + 20) + 3])) ∧ zTn (w + 1) ∧ zSn (w + 12) 5 ∧ zSn (w + 16) 10 ∧ zSn (w + 20) 8
theorem zTn_2 : zTn 2 := ⟨rfl, rfl, rfl, rfl, rfl, rfl, rfl, rfl, rfl, rfl, rfl⟩
theorem zTn_26 : zTn 26 := ⟨rfl, rfl, rfl, rfl, rfl, rfl, rfl, rfl, rfl, rfl, rfl⟩
theorem zTn_51 : zTn 51 := ⟨rfl, rfl, rfl, rfl, rfl, rfl, rfl, rfl, rfl, rfl, rfl⟩
theorem zSn_13 : zSn 13 5 := ⟨rfl, rfl, rfl, rfl⟩
theorem zSn_17 : zSn 17 10 := ⟨rfl, rfl, rfl, rfl⟩
theorem zSn_21 : zSn 21 8 := ⟨rfl, rfl, rfl, rfl⟩
theorem zSn_37 : zSn 37 5 := ⟨rfl, rfl, rfl, rfl⟩
theorem zSn_41 : zSn 41 10 := ⟨rfl, rfl, rfl, rfl⟩
theorem zSn_45 : zSn 45 8 := ⟨rfl, rfl, rfl, rfl⟩
theorem zSq_78 : zSq 78 := ⟨rfl, rfl, rfl⟩
theorem zSq_81 : zSq 81 := ⟨rfl, rfl, rfl⟩
theorem zSq_84 : zSq 84 := ⟨rfl, rfl, rfl⟩
theorem zSq_87 : zSq 87 := ⟨rfl, rfl, rfl⟩
theorem zSq_90 : zSq 90 := ⟨rfl, rfl, rfl⟩
theorem zSq_93 : zSq 93 := ⟨rfl, rfl, rfl⟩
theorem zWh_1 : zWh 1 := ⟨rfl, zTn_2, zSn_13, zSn_17, zSn_21⟩
theorem zWh_25 : zWh 25 := ⟨rfl, zTn_26, zSn_37, zSn_41, zSn_45⟩
def isT (t : Nat) : Bool := t == 2 || t == 26 || t == 51
theorem isT_sh {t : Nat} (h : isT t = true) : zTn t := by
  unfold isT at h
  rw [Bool.or_eq_true, Bool.or_eq_true, beq_iff_eq, beq_iff_eq, beq_iff_eq] at h
  rcases h with (h | h) | h <;> subst h
  · exact zTn_2
  · exact zTn_26
  · exact zTn_51
def isQ (q : Nat) : Bool := q == 78 || q == 81 || q == 84 || q == 87 || q == 90 || q == 93
theorem isQ_sh {q : Nat} (h : isQ q = true) : zSq q := by
  unfold isQ at h
  simp only [Bool.or_eq_true, beq_iff_eq] at h
  rcases h with ((((h | h) | h) | h) | h) | h <;> subst h
  · exact zSq_78
  · exact zSq_81
  · exact zSq_84
  · exact zSq_87
  · exact zSq_90
  · exact zSq_93
theorem inB_lt {i : Int32} {n : Nat} (h : inB i n = true) : i.toNatClampNeg < n := Nat.not_le.mp fun q => inB_in h (Or.inr q)
theorem zSq_at {i : Int32} (h : inB i 6 = true) : zSq (78 + 3 * i.toNatClampNeg) := by
  have h1 := inB_lt h
  generalize i.toNatClampNeg = k at h1 ⊢
  match k, h1 with
  | 0, _ => exact zSq_78
  | 1, _ => exact zSq_81
  | 2, _ => exact zSq_84
  | 3, _ => exact zSq_87
  | 4, _ => exact zSq_90
  | 5, _ => exact zSq_93
theorem zIt_at {i : Int32} (h : inB i 6 = true) : SHX[72 + 1 * i.toNatClampNeg]? = some (.inr (3, 60, 0, 0)) := by
  have h1 := inB_lt h
  generalize i.toNatClampNeg = k at h1 ⊢
  match k, h1 with
  | 0, _ => rfl
  | 1, _ => rfl
  | 2, _ => rfl
  | 3, _ => rfl
  | 4, _ => rfl
  | 5, _ => rfl
theorem shX_0 : SHX[0]? = some (.inl (8, [(1 + 0) + 3, (25 + 0) + 3, 0, (2 + 0) + 3, (49 + 0) + 3, (63 + 0) + 3, (65 + 0) + 3, 0, (66 + 0) + 3, (68 + 0) + 3])) := rfl
theorem shX_49 : SHX[49]? = some (.inl (1, [(50 + 0) + 3, (2 + 0) + 3, (13 + 0) + 3, (51 + 0) + 3, (62 + 0) + 3, 0])) := rfl
theorem shX_50 : SHX[50]? = some (.inr (0, 4, 0, 0)) := rfl
theorem shX_62 : SHX[62]? = some (.inr (0, 4, 0, 0)) := rfl
theorem shX_63 : SHX[63]? = some (.inl (2, [0, 0, (64 + 0) + 3, 2])) := rfl
theorem shX_64 : SHX[64]? = some (.inr (2, 100, 0, 0)) := rfl
theorem shX_65 : SHX[65]? = some (.inr (4, 6, 78, 3)) := rfl
theorem shX_66 : SHX[66]? = some (.inl (0, [0, (67 + 0) + 3, 0, 0, 0])) := rfl
theorem shX_67 : SHX[67]? = some (.inr (0, 20, 0, 0)) := rfl
theorem shX_68 : SHX[68]? = some (.inl (5, [(69 + 0) + 3, (70 + 0) + 3, (71 + 0) + 3])) := rfl
theorem shX_69 : SHX[69]? = some (.inr (0, 6, 0, 0)) := rfl
theorem shX_70 : SHX[70]? = some (.inr (0, 6, 0, 0)) := rfl
theorem shX_71 : SHX[71]? = some (.inr (5, 6, 72, 1)) := rfl
theorem shM_0 : SHM[0]? = some (.inl (9, [0, 0, 0, 0, 0, (1 + 0) + 3, (2 + 0) + 3, (3 + 0) + 3, (4 + 0) + 3, (5 + 0) + 3, (6 + 0) + 3, (7 + 0) + 3, 0, 0, 0, 0, 0, (8 + 0) + 3, (9 + 0) + 3, (10 + 0) + 3, (11 + 0) + 3, (12 + 0) + 3, (13 + 0) + 3, (14 + 0) + 3, (15 + 0) + 3, 0, 0, 0, (16 + 0) + 3, (17 + 0) + 3, (18 + 0) + 3, 0, 0, 0, (19 + 0) + 3, (20 + 0) + 3, (21 + 0) + 3, (22 + 0) + 3, 0, (23 + 0) + 3, (24 + 0) + 3, (25 + 0) + 3, 0, 0, (26 + 0) + 3, (27 + 0) + 3, (28 + 0) + 3, (29 + 0) + 3, 0, 0, 0, 0, 0, 0, 0, 0, 0, 0, (30 + 0) + 3, (31 + 0) + 3, (32 + 0) + 3, (33 + 0) + 3, (34 + 0) + 3, (35 + 0) + 3, (36 + 0) + 3, (37 + 0) + 3, (38 + 0) + 3, (39 + 0) + 3, (40 + 0) + 3, (41 + 0) + 3, (42 + 0) + 3, (43 + 0) + 3, 0, (44 + 0) + 3, (45 + 0) + 3, (46 + 0) + 3, (47 + 0) + 3, (48 + 0) + 3])) := rfl
theorem shM_1 : SHM[1]? = some (.inr (0, 6, 0, 0)) := rfl
theorem shM_2 : SHM[2]? = some (.inr (0, 6, 0, 0)) := rfl
theorem shM_3 : SHM[3]? = some (.inr (0, 6, 0, 0)) := rfl
theorem shM_4 : SHM[4]? = some (.inr (0, 24, 0, 0)) := rfl
theorem shM_5 : SHM[5]? = some (.inr (0, 4, 0, 0)) := rfl
theorem shM_6 : SHM[6]? = some (.inr (0, 4, 0, 0)) := rfl
theorem shM_7 : SHM[7]? = some (.inr (0, 4, 0, 0)) := rfl
theorem shM_8 : SHM[8]? = some (.inr (0, 100, 0, 0)) := rfl
theorem shM_9 : SHM[9]? = some (.inr (0, 6, 0, 0)) := rfl
theorem shM_10 : SHM[10]? = some (.inr (0, 60, 0, 0)) := rfl
theorem shM_11 : SHM[11]? = some (.inr (0, 60, 0, 0)) := rfl
theorem shM_12 : SHM[12]? = some (.inr (0, 60, 0, 0)) := rfl
theorem shM_13 : SHM[13]? = some (.inr (0, 60, 0, 0)) := rfl
theorem shM_14 : SHM[14]? = some (.inr (0, 600, 0, 0)) := rfl
theorem shM_15 : SHM[15]? = some (.inr (0, 101, 0, 0)) := rfl
theorem shM_16 : SHM[16]? = some (.inr (0, 13, 0, 0)) := rfl
theorem shM_17 : SHM[17]? = some (.inr (1, 100, 0, 0)) := rfl
theorem shM_18 : SHM[18]? = some (.inr (0, 6, 0, 0)) := rfl
theorem shM_19 : SHM[19]? = some (.inr (0, 6, 0, 0)) := rfl
theorem shM_20 : SHM[20]? = some (.inr (0, 4, 0, 0)) := rfl
theorem shM_21 : SHM[21]? = some (.inr (0, 4, 0, 0)) := rfl
theorem shM_22 : SHM[22]? = some (.inr (0, 4, 0, 0)) := rfl
theorem shM_23 : SHM[23]? = some (.inr (0, 5, 0, 0)) := rfl
theorem shM_24 : SHM[24]? = some (.inr (0, 5, 0, 0)) := rfl
theorem shM_25 : SHM[25]? = some (.inr (1, 5, 0, 0)) := rfl
theorem shM_26 : SHM[26]? = some (.inr (0, 10, 0, 0)) := rfl
theorem shM_27 : SHM[27]? = some (.inr (0, 10, 0, 0)) := rfl
theorem shM_28 : SHM[28]? = some (.inr (0, 8, 0, 0)) := rfl
theorem shM_29 : SHM[29]? = some (.inr (0, 8, 0, 0)) := rfl
theorem shM_30 : SHM[30]? = some (.inr (0, 6, 0, 0)) := rfl
theorem shM_31 : SHM[31]? = some (.inr (0, 6, 0, 0)) := rfl
theorem shM_32 : SHM[32]? = some (.inr (0, 6, 0, 0)) := rfl
theorem shM_33 : SHM[33]? = some (.inr (0, 24, 0, 0)) := rfl
theorem shM_34 : SHM[34]? = some (.inr (0, 4, 0, 0)) := rfl
theorem shM_35 : SHM[35]? = some (.inr (0, 4, 0, 0)) := rfl
theorem shM_36 : SHM[36]? = some (.inr (0, 4, 0, 0)) := rfl
theorem shM_37 : SHM[37]? = some (.inr (0, 5, 0, 0)) := rfl
theorem shM_38 : SHM[38]? = some (.inr (0, 5, 0, 0)) := rfl
theorem shM_39 : SHM[39]? = some (.inr (0, 10, 0, 0)) := rfl
theorem shM_40 : SHM[40]? = some (.inr (0, 10, 0, 0)) := rfl
theorem shM_41 : SHM[41]? = some (.inr (0, 8, 0, 0)) := rfl
theorem shM_42 : SHM[42]? = some (.inr (0, 8, 0, 0)) := rfl
theorem shM_43 : SHM[43]? = some (.inr (1, 5, 0, 0)) := rfl
theorem shM_44 : SHM[44]? = some (.inr (0, 20, 0, 0)) := rfl
theorem shM_45 : SHM[45]? = some (.inr (0, 6, 0, 0)) := rfl
theorem shM_46 : SHM[46]? = some (.inr (0, 6, 0, 0)) := rfl
theorem shM_47 : SHM[47]? = some (.inr (3, 360, 0, 0)) := rfl
theorem shM_48 : SHM[48]? = some (.inr (3, 60, 0, 0)) := rfl
end
