section
-- ===== PART A: goes FIRST, ahead of the names: the tables' words, and 'selects' of the private methods out of them =====
/-- a private method of a class that the tables say can be made, by its rows of tables_1 -/
def lw_okq (q : MethodName × Nat) : Prop := (q.1.cls ≠ "java/lang/invoke/MethodHandle" ∧ q.1.cls ≠ "java/lang/invoke/VarHandle") ∧ Cond.instantiable q.1.cls q.2 ∈ tables_1 ∧ Cond.privateMethod q.1 ∈ tables_1 ∧ Cond.instanceMethod q.1 ∈ tables_1
theorem lw_p0 : lw_okq (⟨"SoupTable", "write", "(C)V"⟩, 12) := ⟨⟨by decide +kernel, by decide +kernel⟩, List.mem_of_getElem? (i := 26) (by decide +kernel), List.mem_of_getElem? (i := 303) (by decide +kernel), List.mem_of_getElem? (i := 304) (by decide +kernel)⟩
theorem lw_p1 : lw_okq (⟨"SoupTable", "writeSeat", "(IZ)V"⟩, 12) := ⟨⟨by decide +kernel, by decide +kernel⟩, List.mem_of_getElem? (i := 26) (by decide +kernel), List.mem_of_getElem? (i := 307) (by decide +kernel), List.mem_of_getElem? (i := 308) (by decide +kernel)⟩
theorem lw_p2 : lw_okq (⟨"SoupTable", "kept", "(I)I"⟩, 12) := ⟨⟨by decide +kernel, by decide +kernel⟩, List.mem_of_getElem? (i := 26) (by decide +kernel), List.mem_of_getElem? (i := 399) (by decide +kernel), List.mem_of_getElem? (i := 400) (by decide +kernel)⟩
theorem lw_p3 : lw_okq (⟨"java/lang/Throwable", "fillInStackTrace", "(I)Ljava/lang/Throwable;"⟩, 6) := ⟨⟨by decide +kernel, by decide +kernel⟩, List.mem_of_getElem? (i := 445) (by decide +kernel), List.mem_of_getElem? (i := 443) (by decide +kernel), List.mem_of_getElem? (i := 444) (by decide +kernel)⟩
theorem lw_p4 : lw_okq (⟨"SoupTable", "keepBefore", "()V"⟩, 12) := ⟨⟨by decide +kernel, by decide +kernel⟩, List.mem_of_getElem? (i := 26) (by decide +kernel), List.mem_of_getElem? (i := 474) (by decide +kernel), List.mem_of_getElem? (i := 475) (by decide +kernel)⟩
theorem lw_p5 : lw_okq (⟨"SoupTableModel", "tries", "()V"⟩, 20) := ⟨⟨by decide +kernel, by decide +kernel⟩, List.mem_of_getElem? (i := 1000) (by decide +kernel), List.mem_of_getElem? (i := 1075) (by decide +kernel), List.mem_of_getElem? (i := 1076) (by decide +kernel)⟩
theorem lw_p6 : lw_okq (⟨"SoupTableModel", "joins", "(III)Z"⟩, 20) := ⟨⟨by decide +kernel, by decide +kernel⟩, List.mem_of_getElem? (i := 1000) (by decide +kernel), List.mem_of_getElem? (i := 1079) (by decide +kernel), List.mem_of_getElem? (i := 1080) (by decide +kernel)⟩
theorem lw_p7 : lw_okq (⟨"SoupTableModel", "refuses", "(II)Z"⟩, 20) := ⟨⟨by decide +kernel, by decide +kernel⟩, List.mem_of_getElem? (i := 1000) (by decide +kernel), List.mem_of_getElem? (i := 1086) (by decide +kernel), List.mem_of_getElem? (i := 1087) (by decide +kernel)⟩
theorem lw_p8 : lw_okq (⟨"SoupTableModel", "held", "()I"⟩, 20) := ⟨⟨by decide +kernel, by decide +kernel⟩, List.mem_of_getElem? (i := 1000) (by decide +kernel), List.mem_of_getElem? (i := 1090) (by decide +kernel), List.mem_of_getElem? (i := 1091) (by decide +kernel)⟩
theorem lw_p9 : lw_okq (⟨"SoupTableModel", "sets", "(III)V"⟩, 20) := ⟨⟨by decide +kernel, by decide +kernel⟩, List.mem_of_getElem? (i := 1000) (by decide +kernel), List.mem_of_getElem? (i := 1094) (by decide +kernel), List.mem_of_getElem? (i := 1095) (by decide +kernel)⟩
theorem lw_p10 : lw_okq (⟨"SoupTableModel", "does", "(I)Z"⟩, 20) := ⟨⟨by decide +kernel, by decide +kernel⟩, List.mem_of_getElem? (i := 1000) (by decide +kernel), List.mem_of_getElem? (i := 1098) (by decide +kernel), List.mem_of_getElem? (i := 1099) (by decide +kernel)⟩
theorem lw_p11 : lw_okq (⟨"SoupTableModel", "ends", "(Z)I"⟩, 20) := ⟨⟨by decide +kernel, by decide +kernel⟩, List.mem_of_getElem? (i := 1000) (by decide +kernel), List.mem_of_getElem? (i := 1102) (by decide +kernel), List.mem_of_getElem? (i := 1103) (by decide +kernel)⟩
theorem lw_p12 : lw_okq (⟨"SoupTableModel", "keeps", "(I)I"⟩, 20) := ⟨⟨by decide +kernel, by decide +kernel⟩, List.mem_of_getElem? (i := 1000) (by decide +kernel), List.mem_of_getElem? (i := 1106) (by decide +kernel), List.mem_of_getElem? (i := 1107) (by decide +kernel)⟩
theorem lw_p13 : lw_okq (⟨"SoupTableModel", "raises", "(I)I"⟩, 20) := ⟨⟨by decide +kernel, by decide +kernel⟩, List.mem_of_getElem? (i := 1000) (by decide +kernel), List.mem_of_getElem? (i := 1110) (by decide +kernel), List.mem_of_getElem? (i := 1111) (by decide +kernel)⟩
theorem lw_p14 : lw_okq (⟨"SoupTableModel", "leaves", "()Z"⟩, 20) := ⟨⟨by decide +kernel, by decide +kernel⟩, List.mem_of_getElem? (i := 1000) (by decide +kernel), List.mem_of_getElem? (i := 1118) (by decide +kernel), List.mem_of_getElem? (i := 1119) (by decide +kernel)⟩
theorem lw_p15 : lw_okq (⟨"SoupTableModel", "drops", "(I)V"⟩, 20) := ⟨⟨by decide +kernel, by decide +kernel⟩, List.mem_of_getElem? (i := 1000) (by decide +kernel), List.mem_of_getElem? (i := 1122) (by decide +kernel), List.mem_of_getElem? (i := 1123) (by decide +kernel)⟩
def lw_privs_1 : List (MethodName × Nat) := [(⟨"SoupTable", "write", "(C)V"⟩, 12), (⟨"SoupTable", "writeSeat", "(IZ)V"⟩, 12), (⟨"SoupTable", "kept", "(I)I"⟩, 12), (⟨"java/lang/Throwable", "fillInStackTrace", "(I)Ljava/lang/Throwable;"⟩, 6), (⟨"SoupTable", "keepBefore", "()V"⟩, 12), (⟨"SoupTableModel", "tries", "()V"⟩, 20), (⟨"SoupTableModel", "joins", "(III)Z"⟩, 20), (⟨"SoupTableModel", "refuses", "(II)Z"⟩, 20), (⟨"SoupTableModel", "held", "()I"⟩, 20), (⟨"SoupTableModel", "sets", "(III)V"⟩, 20), (⟨"SoupTableModel", "does", "(I)Z"⟩, 20), (⟨"SoupTableModel", "ends", "(Z)I"⟩, 20), (⟨"SoupTableModel", "keeps", "(I)I"⟩, 20), (⟨"SoupTableModel", "raises", "(I)I"⟩, 20), (⟨"SoupTableModel", "leaves", "()Z"⟩, 20), (⟨"SoupTableModel", "drops", "(I)V"⟩, 20)]
theorem lw_r1 : ∀ q ∈ lw_privs_1, lw_okq q := List.forall_mem_cons.mpr ⟨lw_p0, List.forall_mem_cons.mpr ⟨lw_p1, List.forall_mem_cons.mpr ⟨lw_p2, List.forall_mem_cons.mpr ⟨lw_p3, List.forall_mem_cons.mpr ⟨lw_p4, List.forall_mem_cons.mpr ⟨lw_p5, List.forall_mem_cons.mpr ⟨lw_p6, List.forall_mem_cons.mpr ⟨lw_p7, List.forall_mem_cons.mpr ⟨lw_p8, List.forall_mem_cons.mpr ⟨lw_p9, List.forall_mem_cons.mpr ⟨lw_p10, List.forall_mem_cons.mpr ⟨lw_p11, List.forall_mem_cons.mpr ⟨lw_p12, List.forall_mem_cons.mpr ⟨lw_p13, List.forall_mem_cons.mpr ⟨lw_p14, List.forall_mem_cons.mpr ⟨lw_p15, fun _ h => absurd h List.not_mem_nil⟩⟩⟩⟩⟩⟩⟩⟩⟩⟩⟩⟩⟩⟩⟩⟩
theorem lw_p16 : lw_okq (⟨"SoupTableModel", "turns", "(II)Z"⟩, 20) := ⟨⟨by decide +kernel, by decide +kernel⟩, List.mem_of_getElem? (i := 1000) (by decide +kernel), List.mem_of_getElem? (i := 1130) (by decide +kernel), List.mem_of_getElem? (i := 1131) (by decide +kernel)⟩
theorem lw_p17 : lw_okq (⟨"SoupTableModel", "isSeat", "(I)Z"⟩, 20) := ⟨⟨by decide +kernel, by decide +kernel⟩, List.mem_of_getElem? (i := 1000) (by decide +kernel), List.mem_of_getElem? (i := 1134) (by decide +kernel), List.mem_of_getElem? (i := 1135) (by decide +kernel)⟩
theorem lw_p18 : lw_okq (⟨"SoupTableModel", "of", "(II)I"⟩, 20) := ⟨⟨by decide +kernel, by decide +kernel⟩, List.mem_of_getElem? (i := 1000) (by decide +kernel), List.mem_of_getElem? (i := 1138) (by decide +kernel), List.mem_of_getElem? (i := 1139) (by decide +kernel)⟩
theorem lw_p19 : lw_okq (⟨"SoupTableModel", "how", "(I)I"⟩, 20) := ⟨⟨by decide +kernel, by decide +kernel⟩, List.mem_of_getElem? (i := 1000) (by decide +kernel), List.mem_of_getElem? (i := 1142) (by decide +kernel), List.mem_of_getElem? (i := 1143) (by decide +kernel)⟩
theorem lw_p20 : lw_okq (⟨"SoupTableModel", "times", "(III)Z"⟩, 20) := ⟨⟨by decide +kernel, by decide +kernel⟩, List.mem_of_getElem? (i := 1000) (by decide +kernel), List.mem_of_getElem? (i := 1150) (by decide +kernel), List.mem_of_getElem? (i := 1151) (by decide +kernel)⟩
theorem lw_p21 : lw_okq (⟨"SoupTableModel", "tells", "(I)Z"⟩, 20) := ⟨⟨by decide +kernel, by decide +kernel⟩, List.mem_of_getElem? (i := 1000) (by decide +kernel), List.mem_of_getElem? (i := 1158) (by decide +kernel), List.mem_of_getElem? (i := 1159) (by decide +kernel)⟩
theorem lw_p22 : lw_okq (⟨"SoupTableModel", "brings", "(I)Z"⟩, 20) := ⟨⟨by decide +kernel, by decide +kernel⟩, List.mem_of_getElem? (i := 1000) (by decide +kernel), List.mem_of_getElem? (i := 1166) (by decide +kernel), List.mem_of_getElem? (i := 1167) (by decide +kernel)⟩
theorem lw_p23 : lw_okq (⟨"SoupTableModel", "takes", "(I)Z"⟩, 20) := ⟨⟨by decide +kernel, by decide +kernel⟩, List.mem_of_getElem? (i := 1000) (by decide +kernel), List.mem_of_getElem? (i := 1174) (by decide +kernel), List.mem_of_getElem? (i := 1175) (by decide +kernel)⟩
theorem lw_p24 : lw_okq (⟨"SoupTableModel", "by", "(I)I"⟩, 20) := ⟨⟨by decide +kernel, by decide +kernel⟩, List.mem_of_getElem? (i := 1000) (by decide +kernel), List.mem_of_getElem? (i := 1178) (by decide +kernel), List.mem_of_getElem? (i := 1179) (by decide +kernel)⟩
theorem lw_p25 : lw_okq (⟨"SoupTableModel", "left", "(I)I"⟩, 20) := ⟨⟨by decide +kernel, by decide +kernel⟩, List.mem_of_getElem? (i := 1000) (by decide +kernel), List.mem_of_getElem? (i := 1182) (by decide +kernel), List.mem_of_getElem? (i := 1183) (by decide +kernel)⟩
theorem lw_p26 : lw_okq (⟨"SoupTableModel", "passes", "(I)Z"⟩, 20) := ⟨⟨by decide +kernel, by decide +kernel⟩, List.mem_of_getElem? (i := 1000) (by decide +kernel), List.mem_of_getElem? (i := 1190) (by decide +kernel), List.mem_of_getElem? (i := 1191) (by decide +kernel)⟩
theorem lw_p27 : lw_okq (⟨"SoupTableModel", "ticks", "(I)I"⟩, 20) := ⟨⟨by decide +kernel, by decide +kernel⟩, List.mem_of_getElem? (i := 1000) (by decide +kernel), List.mem_of_getElem? (i := 1194) (by decide +kernel), List.mem_of_getElem? (i := 1195) (by decide +kernel)⟩
theorem lw_p28 : lw_okq (⟨"SoupTableModel", "tickGoes", "()I"⟩, 20) := ⟨⟨by decide +kernel, by decide +kernel⟩, List.mem_of_getElem? (i := 1000) (by decide +kernel), List.mem_of_getElem? (i := 1198) (by decide +kernel), List.mem_of_getElem? (i := 1199) (by decide +kernel)⟩
theorem lw_p29 : lw_okq (⟨"SoupTableModel", "isDone", "(I)Z"⟩, 20) := ⟨⟨by decide +kernel, by decide +kernel⟩, List.mem_of_getElem? (i := 1000) (by decide +kernel), List.mem_of_getElem? (i := 1202) (by decide +kernel), List.mem_of_getElem? (i := 1203) (by decide +kernel)⟩
theorem lw_p30 : lw_okq (⟨"SoupTableModel", "lets", "()Z"⟩, 20) := ⟨⟨by decide +kernel, by decide +kernel⟩, List.mem_of_getElem? (i := 1000) (by decide +kernel), List.mem_of_getElem? (i := 1206) (by decide +kernel), List.mem_of_getElem? (i := 1207) (by decide +kernel)⟩
theorem lw_p31 : lw_okq (⟨"SoupTableModel", "withLeave", "()I"⟩, 20) := ⟨⟨by decide +kernel, by decide +kernel⟩, List.mem_of_getElem? (i := 1000) (by decide +kernel), List.mem_of_getElem? (i := 1210) (by decide +kernel), List.mem_of_getElem? (i := 1211) (by decide +kernel)⟩
def lw_privs_2 : List (MethodName × Nat) := [(⟨"SoupTableModel", "turns", "(II)Z"⟩, 20), (⟨"SoupTableModel", "isSeat", "(I)Z"⟩, 20), (⟨"SoupTableModel", "of", "(II)I"⟩, 20), (⟨"SoupTableModel", "how", "(I)I"⟩, 20), (⟨"SoupTableModel", "times", "(III)Z"⟩, 20), (⟨"SoupTableModel", "tells", "(I)Z"⟩, 20), (⟨"SoupTableModel", "brings", "(I)Z"⟩, 20), (⟨"SoupTableModel", "takes", "(I)Z"⟩, 20), (⟨"SoupTableModel", "by", "(I)I"⟩, 20), (⟨"SoupTableModel", "left", "(I)I"⟩, 20), (⟨"SoupTableModel", "passes", "(I)Z"⟩, 20), (⟨"SoupTableModel", "ticks", "(I)I"⟩, 20), (⟨"SoupTableModel", "tickGoes", "()I"⟩, 20), (⟨"SoupTableModel", "isDone", "(I)Z"⟩, 20), (⟨"SoupTableModel", "lets", "()Z"⟩, 20), (⟨"SoupTableModel", "withLeave", "()I"⟩, 20)]
theorem lw_r2 : ∀ q ∈ lw_privs_2, lw_okq q := List.forall_mem_cons.mpr ⟨lw_p16, List.forall_mem_cons.mpr ⟨lw_p17, List.forall_mem_cons.mpr ⟨lw_p18, List.forall_mem_cons.mpr ⟨lw_p19, List.forall_mem_cons.mpr ⟨lw_p20, List.forall_mem_cons.mpr ⟨lw_p21, List.forall_mem_cons.mpr ⟨lw_p22, List.forall_mem_cons.mpr ⟨lw_p23, List.forall_mem_cons.mpr ⟨lw_p24, List.forall_mem_cons.mpr ⟨lw_p25, List.forall_mem_cons.mpr ⟨lw_p26, List.forall_mem_cons.mpr ⟨lw_p27, List.forall_mem_cons.mpr ⟨lw_p28, List.forall_mem_cons.mpr ⟨lw_p29, List.forall_mem_cons.mpr ⟨lw_p30, List.forall_mem_cons.mpr ⟨lw_p31, fun _ h => absurd h List.not_mem_nil⟩⟩⟩⟩⟩⟩⟩⟩⟩⟩⟩⟩⟩⟩⟩⟩
theorem lw_p32 : lw_okq (⟨"SoupTableModel", "grabs", "(I)V"⟩, 20) := ⟨⟨by decide +kernel, by decide +kernel⟩, List.mem_of_getElem? (i := 1000) (by decide +kernel), List.mem_of_getElem? (i := 1214) (by decide +kernel), List.mem_of_getElem? (i := 1215) (by decide +kernel)⟩
theorem lw_p33 : lw_okq (⟨"SoupTableModel", "ladleOf", "(IZ)I"⟩, 20) := ⟨⟨by decide +kernel, by decide +kernel⟩, List.mem_of_getElem? (i := 1000) (by decide +kernel), List.mem_of_getElem? (i := 1218) (by decide +kernel), List.mem_of_getElem? (i := 1219) (by decide +kernel)⟩
theorem lw_p34 : lw_okq (⟨"SoupTableModel", "wanted", "(I)I"⟩, 20) := ⟨⟨by decide +kernel, by decide +kernel⟩, List.mem_of_getElem? (i := 1000) (by decide +kernel), List.mem_of_getElem? (i := 1222) (by decide +kernel), List.mem_of_getElem? (i := 1223) (by decide +kernel)⟩
theorem lw_p35 : lw_okq (⟨"SoupTableModel", "other", "(I)I"⟩, 20) := ⟨⟨by decide +kernel, by decide +kernel⟩, List.mem_of_getElem? (i := 1000) (by decide +kernel), List.mem_of_getElem? (i := 1243) (by decide +kernel), List.mem_of_getElem? (i := 1244) (by decide +kernel)⟩
theorem lw_p36 : lw_okq (⟨"SoupTableModel", "those", "(I)I"⟩, 20) := ⟨⟨by decide +kernel, by decide +kernel⟩, List.mem_of_getElem? (i := 1000) (by decide +kernel), List.mem_of_getElem? (i := 1255) (by decide +kernel), List.mem_of_getElem? (i := 1256) (by decide +kernel)⟩
theorem lw_p37 : lw_okq (⟨"SoupTableModel", "rings", "()I"⟩, 20) := ⟨⟨by decide +kernel, by decide +kernel⟩, List.mem_of_getElem? (i := 1000) (by decide +kernel), List.mem_of_getElem? (i := 1263) (by decide +kernel), List.mem_of_getElem? (i := 1264) (by decide +kernel)⟩
theorem lw_p38 : lw_okq (⟨"SoupTableModel", "stuckOnes", "()I"⟩, 20) := ⟨⟨by decide +kernel, by decide +kernel⟩, List.mem_of_getElem? (i := 1000) (by decide +kernel), List.mem_of_getElem? (i := 1271) (by decide +kernel), List.mem_of_getElem? (i := 1272) (by decide +kernel)⟩
theorem lw_p39 : lw_okq (⟨"SoupTableModel", "thinks", "()V"⟩, 20) := ⟨⟨by decide +kernel, by decide +kernel⟩, List.mem_of_getElem? (i := 1000) (by decide +kernel), List.mem_of_getElem? (i := 1288) (by decide +kernel), List.mem_of_getElem? (i := 1289) (by decide +kernel)⟩
theorem lw_p40 : lw_okq (⟨"SoupTableModel", "thinksNoMore", "()V"⟩, 20) := ⟨⟨by decide +kernel, by decide +kernel⟩, List.mem_of_getElem? (i := 1000) (by decide +kernel), List.mem_of_getElem? (i := 1292) (by decide +kernel), List.mem_of_getElem? (i := 1293) (by decide +kernel)⟩
theorem lw_p41 : lw_okq (⟨"SoupTableModel", "isAhead", "(II)Z"⟩, 20) := ⟨⟨by decide +kernel, by decide +kernel⟩, List.mem_of_getElem? (i := 1000) (by decide +kernel), List.mem_of_getElem? (i := 1304) (by decide +kernel), List.mem_of_getElem? (i := 1305) (by decide +kernel)⟩
theorem lw_p42 : lw_okq (⟨"SoupTableModel", "meals", "(Z)I"⟩, 20) := ⟨⟨by decide +kernel, by decide +kernel⟩, List.mem_of_getElem? (i := 1000) (by decide +kernel), List.mem_of_getElem? (i := 1312) (by decide +kernel), List.mem_of_getElem? (i := 1313) (by decide +kernel)⟩
theorem lw_p43 : lw_okq (⟨"SoupTableModel", "isCommand", "()Z"⟩, 20) := ⟨⟨by decide +kernel, by decide +kernel⟩, List.mem_of_getElem? (i := 1000) (by decide +kernel), List.mem_of_getElem? (i := 1329) (by decide +kernel), List.mem_of_getElem? (i := 1330) (by decide +kernel)⟩
theorem lw_p44 : lw_okq (⟨"SoupTableModel", "manners", "(I)Z"⟩, 20) := ⟨⟨by decide +kernel, by decide +kernel⟩, List.mem_of_getElem? (i := 1000) (by decide +kernel), List.mem_of_getElem? (i := 1333) (by decide +kernel), List.mem_of_getElem? (i := 1334) (by decide +kernel)⟩
theorem lw_p45 : lw_okq (⟨"SoupTableModel", "sign", "(C)Z"⟩, 20) := ⟨⟨by decide +kernel, by decide +kernel⟩, List.mem_of_getElem? (i := 1000) (by decide +kernel), List.mem_of_getElem? (i := 1337) (by decide +kernel), List.mem_of_getElem? (i := 1338) (by decide +kernel)⟩
theorem lw_p46 : lw_okq (⟨"SoupTableModel", "digits", "(II)Z"⟩, 20) := ⟨⟨by decide +kernel, by decide +kernel⟩, List.mem_of_getElem? (i := 1000) (by decide +kernel), List.mem_of_getElem? (i := 1341) (by decide +kernel), List.mem_of_getElem? (i := 1342) (by decide +kernel)⟩
theorem lw_p47 : lw_okq (⟨"SoupTableModel", "carries", "()Z"⟩, 20) := ⟨⟨by decide +kernel, by decide +kernel⟩, List.mem_of_getElem? (i := 1000) (by decide +kernel), List.mem_of_getElem? (i := 1345) (by decide +kernel), List.mem_of_getElem? (i := 1346) (by decide +kernel)⟩
def lw_privs_3 : List (MethodName × Nat) := [(⟨"SoupTableModel", "grabs", "(I)V"⟩, 20), (⟨"SoupTableModel", "ladleOf", "(IZ)I"⟩, 20), (⟨"SoupTableModel", "wanted", "(I)I"⟩, 20), (⟨"SoupTableModel", "other", "(I)I"⟩, 20), (⟨"SoupTableModel", "those", "(I)I"⟩, 20), (⟨"SoupTableModel", "rings", "()I"⟩, 20), (⟨"SoupTableModel", "stuckOnes", "()I"⟩, 20), (⟨"SoupTableModel", "thinks", "()V"⟩, 20), (⟨"SoupTableModel", "thinksNoMore", "()V"⟩, 20), (⟨"SoupTableModel", "isAhead", "(II)Z"⟩, 20), (⟨"SoupTableModel", "meals", "(Z)I"⟩, 20), (⟨"SoupTableModel", "isCommand", "()Z"⟩, 20), (⟨"SoupTableModel", "manners", "(I)Z"⟩, 20), (⟨"SoupTableModel", "sign", "(C)Z"⟩, 20), (⟨"SoupTableModel", "digits", "(II)Z"⟩, 20), (⟨"SoupTableModel", "carries", "()Z"⟩, 20)]
theorem lw_r3 : ∀ q ∈ lw_privs_3, lw_okq q := List.forall_mem_cons.mpr ⟨lw_p32, List.forall_mem_cons.mpr ⟨lw_p33, List.forall_mem_cons.mpr ⟨lw_p34, List.forall_mem_cons.mpr ⟨lw_p35, List.forall_mem_cons.mpr ⟨lw_p36, List.forall_mem_cons.mpr ⟨lw_p37, List.forall_mem_cons.mpr ⟨lw_p38, List.forall_mem_cons.mpr ⟨lw_p39, List.forall_mem_cons.mpr ⟨lw_p40, List.forall_mem_cons.mpr ⟨lw_p41, List.forall_mem_cons.mpr ⟨lw_p42, List.forall_mem_cons.mpr ⟨lw_p43, List.forall_mem_cons.mpr ⟨lw_p44, List.forall_mem_cons.mpr ⟨lw_p45, List.forall_mem_cons.mpr ⟨lw_p46, List.forall_mem_cons.mpr ⟨lw_p47, fun _ h => absurd h List.not_mem_nil⟩⟩⟩⟩⟩⟩⟩⟩⟩⟩⟩⟩⟩⟩⟩⟩
theorem lw_p48 : lw_okq (⟨"SoupTableModel", "comesBack", "()V"⟩, 20) := ⟨⟨by decide +kernel, by decide +kernel⟩, List.mem_of_getElem? (i := 1000) (by decide +kernel), List.mem_of_getElem? (i := 1349) (by decide +kernel), List.mem_of_getElem? (i := 1350) (by decide +kernel)⟩
theorem lw_p49 : lw_okq (⟨"SoupTableModel", "all", "(I)I"⟩, 20) := ⟨⟨by decide +kernel, by decide +kernel⟩, List.mem_of_getElem? (i := 1000) (by decide +kernel), List.mem_of_getElem? (i := 1375) (by decide +kernel), List.mem_of_getElem? (i := 1376) (by decide +kernel)⟩
def lw_privs_4 : List (MethodName × Nat) := [(⟨"SoupTableModel", "comesBack", "()V"⟩, 20), (⟨"SoupTableModel", "all", "(I)I"⟩, 20)]
theorem lw_r4 : ∀ q ∈ lw_privs_4, lw_okq q := List.forall_mem_cons.mpr ⟨lw_p48, List.forall_mem_cons.mpr ⟨lw_p49, fun _ h => absurd h List.not_mem_nil⟩⟩
def lw_privs : List (MethodName × Nat) := lw_privs_1 ++ (lw_privs_2 ++ (lw_privs_3 ++ (lw_privs_4)))
def lw_tbl : List Cond := k2_sels lw_privs ++ tables_1
theorem lw_privs_ok : ∀ q ∈ lw_privs, lw_okq q := by
  show ∀ q ∈ lw_privs_1 ++ (lw_privs_2 ++ (lw_privs_3 ++ (lw_privs_4))), lw_okq q
  exact List.forall_mem_append.mpr ⟨lw_r1, List.forall_mem_append.mpr ⟨lw_r2, List.forall_mem_append.mpr ⟨lw_r3, lw_r4⟩⟩⟩
/-- the streams that the claim lets the run draw from -/
abbrev lw_cs : List Choice := [Jvm.Choice.named "NaN.bits"]
theorem lw_bits : nanBits ∈ lw_cs := by first | decide | exact List.mem_cons_self | simp [lw_cs, nanBits]
-- ===== end of PART A; then your names; then what follows =====
end
section
/-! ===== BEGIN words of one list among another's, by their places ===== -/
theorem goodIn_r {big : List Cond} (ws : List Cond) (ps : List Nat) (hp : ws = ps.filterMap (fun i => big[i]?)) (h : ws.all goodWord = true) : GoodIn big ws := by
  intro w hw
  have h1 := List.all_eq_true.mp h w hw
  rw [hp] at hw
  obtain ⟨i, -, hi⟩ := List.mem_filterMap.mp hw
  have hm : w ∈ big := by first | exact List.mem_of_getElem? hi | exact List.getElem?_mem hi
  exact ⟨hm, good_of_word h1⟩
theorem goodIn_app {big a b : List Cond} (ha : GoodIn big a) (hb : GoodIn big b) : GoodIn big (a ++ b) := fun w h => (List.mem_append.mp h).elim (ha w) (hb w)
theorem goodIn_ca {big a b : List Cond} {c : Cond} (ha : GoodIn big (c :: a)) (hb : GoodIn big b) : GoodIn big (c :: (a ++ b)) := fun w h => (List.mem_cons.mp h).elim (fun e => ha w (List.mem_cons.mpr (Or.inl e))) (fun h => (List.mem_append.mp h).elim (fun h => ha w (List.mem_cons.mpr (Or.inr h))) (hb w))
theorem goodIn_sub {big ws : List Cond} (hm : ∀ w ∈ ws, w ∈ big) (h : ws.all goodWord = true) : GoodIn big ws := fun w hw => ⟨hm w hw, good_of_word (List.all_eq_true.mp h w hw)⟩
/-! ===== END ===== -/
/-! ===== BEGIN exceptions that leave a method, and their catching by the caller (launches without stack traces) ===== -/
section VXA
/-! The laws vx_back, vx_callV, vx_callS, vx_callSW, vx_throw0, vx_throwS follow proofs of the library, with one case more: JvmDerived/Free/Laws.lean (Back.of_free), Shelf42/LK1.lean (callV, callS), Shelf/KitTraced.lean (throwNew0V, throwNewS). -/
/-- where a method has thrown q: the class by its name, the cell, what was written, the world -/
def vx_T (XC : String → State → State → Prop) (st : State) (q : Addr) (t : State) (mc ms : Nat) (free : Addr → Prop) : Prop :=
  ∃ (E : String) (ce : Cell) (L : List Loc), XC E st t ∧ t.heap[q]? = some ce ∧ ce.vm = .none ∧ st.vm.findClass E = some ce.cls ∧ st.WarmedH t.vm ∧ st.sameButNew ({ t with vm := st.vm } : State) L mc ms ∧ ∀ z ∈ L, free z.base
def vx_Q (Qc : Array Value → State → Outcome → State → Prop) (XC : String → State → State → Prop) (mc ms : Nat) (free : Addr → Prop) : Array Value → State → Outcome → State → Prop := fun a st o t =>
  (Qc a st o t ∧ ∃ L, FrameEnd st o t L mc ms ∧ ∀ q ∈ L, free q.base) ∨ ∃ q, o = .threw q ∧ vx_T XC st q t mc ms free
/-- a callee that returns or throws -/
def vx_Met (l : Launch) (y : MethodName) (ws : List Cond) (rm : Room) (Pc : Array Value → State → Prop) (Qc : Array Value → State → Outcome → State → Prop) (XC : String → State → State → Prop) (mc ms : Nat) (free : Addr → Prop) : Prop :=
  MetFree l y (headSpec ws rm) Pc (fun _ _ _ _ _ => True) (vx_Q Qc XC mc ms free)
def vx_Post (XC : String → State → State → Prop) (mc ms : Nat) (free : Addr → Prop) : Pt → Array Value → Addr → Pt → Prop := fun A a q B =>
  ∃ (g : JFrame) (mk : MethodId) (t : State) (L : List Loc) (E : String) (ce : Cell), B.U.heap = t.heap ∧ B.U.vm = t.vm ∧ XC E (A.U.calling g mk a) t ∧ t.heap[q]? = some ce ∧ ce.vm = .none ∧ A.U.vm.findClass E = some ce.cls ∧ B.locs = A.locs ++ L ∧ (∀ z ∈ L, free z.base) ∧ B.cells = A.cells + mc ∧ B.slots = A.slots + ms
def vx_Back (l : Launch) (R : Room) (p : Program) (e : Env) (below : List Frame) (s : State) (sargs : Array Value) (y : MethodName) (len W9 : Nat)
    (Pre : Pt → Array Value → Prop) (Post : Pt → Array Value → Option Value → Pt → Prop) (PostX : Pt → Array Value → Addr → Pt → Prop) : Prop :=
  ∀ (m : MethodId) (meth : Method) (c : Code) (A : Pt) (g : JFrame) (ig : Instr) (mk : MethodId) (a : Array Value),
    Stand p l e R s m sargs below meth c A.U A.locs A.cells A.slots → g.method = m → g.locals.size = c.maxLocals → decode c.code g.pc = .ok (ig, len) →
    2 * g.monitorRoom + (g.stack.map fun v => v.category).sum ≤ W9 → A.U.methodNamed? y = some mk → Pre A a →
    (∃ (v : Option Value) (B : Pt), Stand p l e R s m sargs below meth c B.U B.locs B.cells B.slots ∧ Post A a v B ∧
      Steps p.tables e below (doInvoke e (A.U.setTop g) [] mk a).1 (B.U.setTop { g with pc := g.pc + len, stack := v.toList ++ g.stack })) ∨
    (∃ (q : Addr) (B : Pt), Stand p l e R s m sargs below meth c B.U B.locs B.cells B.slots ∧ PostX A a q B ∧
      Steps p.tables e below (doInvoke e (A.U.setTop g) [] mk a).1 ((B.U.setTop g).pushFrame (.throwing q)))
section Payer
variable {l : Launch} {R : Room} {p : Program} {e : Env} {below : List Frame} {s : State} {sargs : Array Value} {y : MethodName} {len W9 : Nat}
theorem vx_back {ws : List Cond} {rm : Room} {Pc : Array Value → State → Prop} {Qc : Array Value → State → Outcome → State → Prop} {XC : String → State → State → Prop} {mc ms : Nat} {free : Addr → Prop} {bytes : ByteArray} {maxL : Nat} {ret : Option FieldType}
    (hM : vx_Met l y ws rm Pc Qc XC mc ms free) (hblind : FrameBlind Pc) (hrc : rm.cells = mc) (hrs : rm.slots = ms)
    (hframes : rm.frames + 1 ≤ R.frames) (hlocals : W9 + (maxL + 11) + rm.locals ≤ R.locals)
    (hws : ∀ w ∈ ws, ∀ a' U, s.WarmedH U.vm → w.before a' U = true) (hcode : Cond.code y bytes maxL ret ∈ ws) (hinit : ∀ a' U, s.WarmedH U.vm → (Cond.initialized y.cls).before a' U = true) :
    vx_Back l R p e below s sargs y len W9 (PreOf R mc ms Pc) (PostOf Qc mc ms free) (vx_Post XC mc ms free) := by
  intro m meth c A g ig mk a X hg hsize hdg hW hn hp
  have h1 : (headSpec ws rm).pre.before a A.U = true := atoms_intro fun w hw => hws w hw _ _ X.warmed
  have h2 : (Cond.code y bytes maxL ret).before a A.U = true := hws _ hcode _ _ X.warmed
  have h3 : (Cond.initialized y.cls).before a A.U = true := hinit _ _ X.warmed
  have h4 : A.cells + (headSpec ws rm).room.cells ≤ R.cells := by rw [show (headSpec ws rm).room.cells = mc from hrc]; exact hp.1
  have h5 : A.slots + (headSpec ws rm).room.slots ≤ R.slots := by rw [show (headSpec ws rm).room.slots = ms from hrs]; exact hp.2.1
  have hPc : Pc a (A.U.calling g mk a) := hblind _ _ _ _ hp.2.2
  obtain ⟨U, Ls, c0, s0⟩ := A
  dsimp only [Pt.U, Pt.locs, Pt.cells, Pt.slots] at h1 h2 h3 h4 h5 X hn hPc ⊢
  obtain ⟨methY, cY, hmY, hcY, -, hlY, -, -, -, -⟩ := Cond.code_spec hn h2
  obtain ⟨kY, hkY, -⟩ := className_of_methodNamed hn
  have hinitY : kY.init = .initialized := Cond.initialized_spec (findClass_of_methodNamed hn) hkY h3
  have h : At U g.method c below := by rw [hg]; exact X.here
  have hlocals9 : W9 + (maxL + 11) + (headSpec ws rm).room.locals ≤ R.locals := hlocals
  have happ : (headSpec ws rm).appliesLoose y e.platform (U.calling g mk a) = true :=
    Spec.appliesLoose_calling (g := g) h hdg hn hkY hinitY
      (X.room_calling (g := g) (R' := (headSpec ws rm).room) hsize hmY hcY hframes (by rw [hlY]; omega) h4 h5) h1
  obtain ⟨mid, hmid⟩ := h.above
  have hfr : (U.setTop g).frames = (.java g :: mid) ++ below := by rw [State.frames_setTop' g h.top, hmid]; rfl
  obtain ⟨o, s₂, hsteps, -, hend, hq⟩ := Steps.callFree hM p X.admits X.cas X.clock (acts := []) hfr happ hPc trivial
  have hq' : vx_Q Qc XC mc ms free a (U.calling g mk a) o s₂ := hq
  rw [State.frames_setTop' g h.top] at hend
  obtain ⟨g₀, hg0⟩ := Option.isSome_iff_exists.mp h.top
  obtain ⟨r, hr⟩ := State.topJava?_eq_some.mp hg0
  have hr' : (({ U with heap := s₂.heap, slotsUsed := s₂.slotsUsed } : State).setVm s₂.vm).frames = .java g₀ :: r := hr
  rcases hq' with ⟨hqc, L, hfe, hL⟩ | ⟨q, rfl, E, ce, L, hx, hce, hcv, hcl, hW₂, hsm, hL⟩
  · obtain ⟨⟨v, rfl⟩, hW₂, e2, q2, q3, q4, q5, q6⟩ := id hfe
    have e3 : s₂ = ({ (U.calling g mk a).setFrames s₂.frames with heap := s₂.heap, slotsUsed := s₂.slotsUsed } : State).setVm s₂.vm := by
      have : s₂ = ({ s₂ with vm := (U.calling g mk a).vm } : State).setVm s₂.vm := rfl
      rw [e2] at this
      exact this
    obtain ⟨c₂, i₂, len₂, hc₂, hd₂, hf₂⟩ := hend
    have hW' : U.WarmedH s₂.vm := hW₂
    have hcc : c₂ = c := by
      have h1 : s₂.code? g.method = U.code? g.method := by
        rw [State.code?_eq, State.code?_eq, hW'.alike.method?]
      exact Option.some.inj (hc₂.symm.trans (h1.trans h.code))
    subst hcc
    have hlen : len₂ = len := by rw [hdg] at hd₂; cases hd₂; rfl
    subst hlen
    have hs₂ : s₂ = (({ U with heap := s₂.heap, slotsUsed := s₂.slotsUsed } : State).setVm s₂.vm).setTop { g with pc := g.pc + len₂, stack := v.toList ++ g.stack } := by
      refine e3.trans ?_
      rw [hf₂, State.calling_eq h.top, State.setFrames_setFrames, State.setTop_of_frames _ hr', hr]
      rfl
    have hsame : U.sameButNew ({ U with heap := s₂.heap, slotsUsed := s₂.slotsUsed } : State) L mc ms := by
      refine ⟨?_, q2, q3, q4, q5, q6⟩
      obtain ⟨t, ht, -⟩ := State.frames_cons hr
      show ({ U with heap := s₂.heap, slotsUsed := s₂.slotsUsed } : State) = { U.setFrames U.frames with heap := s₂.heap, slotsUsed := s₂.slotsUsed }
      rw [State.setFrames_self ht]
    subst hg
    refine Or.inl ⟨v, ⟨(({ U with heap := s₂.heap, slotsUsed := s₂.slotsUsed } : State).setVm s₂.vm), Ls ++ L, c0 + mc, s0 + ms⟩,
      ⟨X.admits, X.cas, X.clock, X.frames, X.room, X.hears, X.method, X.code, (X.here.setHeapUsed s₂.heap s₂.slotsUsed).setVm hW'.alike, X.tail, State.WarmedH.trans X.warmed hW', X.limits, X.bytes, X.same.trans (hsame.setVm s.vm)⟩,
      ⟨g, mk, s₂, L, rfl, rfl, hqc, rfl, hL, rfl, rfl⟩, ?_⟩
    show Steps p.tables e below _ ((({ U with heap := s₂.heap, slotsUsed := s₂.slotsUsed } : State).setVm s₂.vm).setTop { g with pc := g.pc + len₂, stack := v.toList ++ g.stack })
    rw [← hs₂]
    exact hsteps
  · obtain ⟨e2, q2, q3, q4, q5, q6⟩ := id hsm
    have e3 : s₂ = ({ (U.calling g mk a).setFrames s₂.frames with heap := s₂.heap, slotsUsed := s₂.slotsUsed } : State).setVm s₂.vm := by
      have : s₂ = ({ s₂ with vm := (U.calling g mk a).vm } : State).setVm s₂.vm := rfl
      rw [e2] at this
      exact this
    have hf₂ : s₂.frames = .throwing q :: .java g :: U.frames.tail := hend
    have hW' : U.WarmedH s₂.vm := hW₂
    have hs₂ : s₂ = ((({ U with heap := s₂.heap, slotsUsed := s₂.slotsUsed } : State).setVm s₂.vm).setTop g).pushFrame (.throwing q) := by
      refine e3.trans ?_
      rw [hf₂, State.calling_eq h.top, State.setFrames_setFrames, State.pushFrame, State.frames_setTop _ hr', State.setTop_of_frames _ hr', State.setFrames_setFrames, hr]
      rfl
    have hsame : U.sameButNew ({ U with heap := s₂.heap, slotsUsed := s₂.slotsUsed } : State) L mc ms := by
      refine ⟨?_, q2, q3, q4, q5, q6⟩
      obtain ⟨t, ht, -⟩ := State.frames_cons hr
      show ({ U with heap := s₂.heap, slotsUsed := s₂.slotsUsed } : State) = { U.setFrames U.frames with heap := s₂.heap, slotsUsed := s₂.slotsUsed }
      rw [State.setFrames_self ht]
    subst hg
    refine Or.inr ⟨q, ⟨(({ U with heap := s₂.heap, slotsUsed := s₂.slotsUsed } : State).setVm s₂.vm), Ls ++ L, c0 + mc, s0 + ms⟩,
      ⟨X.admits, X.cas, X.clock, X.frames, X.room, X.hears, X.method, X.code, (X.here.setHeapUsed s₂.heap s₂.slotsUsed).setVm hW'.alike, X.tail, State.WarmedH.trans X.warmed hW', X.limits, X.bytes, X.same.trans (hsame.setVm s.vm)⟩,
      ⟨g, mk, s₂, L, E, ce, rfl, rfl, hx, hce, hcv, hcl, rfl, hL, rfl, rfl⟩, ?_⟩
    show Steps p.tables e below _ (((({ U with heap := s₂.heap, slotsUsed := s₂.slotsUsed } : State).setVm s₂.vm).setTop g).pushFrame (.throwing q))
    rw [← hs₂]
    exact hsteps
end Payer
section Calls
variable {p : Program} {l : Launch} {e : Env} {R : Room} {s : State} {m : MethodId} {args : Array Value} {below : List Frame} {meth : Method} {c : Code} {T : State} {locs : List Loc} {cells slots : Nat}
theorem vx_callV (X : Stand p l e R s m args below meth c T locs cells slots) (hexec : p.tables.exec = Jvm.exec) {own C : String} {index : Nat} {y : MethodName} {bytes : ByteArray} {maxL : Nat} {ret : Option FieldType}
    (hown : s.vm.findClass own = some m.cls) (hlink : (Cond.methodLink own index y).before args s = true) (hinst : (Cond.instanceMethod y).before args s = true) (hsel : (Cond.selects C y y).before args s = true)
    (hcode : (Cond.code y bytes maxL ret).before args s = true) (hy : y.cls ≠ "java/lang/invoke/MethodHandle" ∧ y.cls ≠ "java/lang/invoke/VarHandle")
    {W9 : Nat} {Pre : Pt → Array Value → Prop} {Post : Pt → Array Value → Option Value → Pt → Prop} {PostX : Pt → Array Value → Addr → Pt → Prop} (hK : vx_Back l R p e below s args y 3 W9 Pre Post PostX)
    {b : Addr} {cellB : Cell} (hcell : T.heap[b]? = some cellB) (hobj : cellB.vm.isStatics = false) (hcls : s.vm.findClass C = some cellB.cls)
    {g : JFrame} (hg : g.method = m) (hsize : g.locals.size = c.maxLocals) {argsL rest : List Value} (hlen : ∀ sig, parseMethodDescriptor y.desc = some sig → argsL.length = sig.parameters.length)
    (hstack : g.stack = argsL.reverse ++ .ref b :: rest) (hW : 2 * g.monitorRoom + (rest.map fun v => v.category).sum ≤ W9) (hdg : decode c.code g.pc = .ok (.invokevirtual index, 3))
    (hpre : ∀ vm₁, s.WarmedH vm₁ → Pre ⟨T.setVm vm₁, locs, cells, slots⟩ (Value.ref b :: argsL).toArray) :
    (∃ (v : Option Value) (vm₁ : Vm) (B : Pt), s.WarmedH vm₁ ∧ Stand p l e R s m args below meth c B.U B.locs B.cells B.slots ∧ Post ⟨T.setVm vm₁, locs, cells, slots⟩ (Value.ref b :: argsL).toArray v B ∧
      ∀ target, Steps p.tables e below (B.U.setTop { g with pc := g.pc + 3, stack := v.toList ++ rest }) target → Steps p.tables e below (T.setTop g) target) ∨
    (∃ (q : Addr) (vm₁ : Vm) (B : Pt), s.WarmedH vm₁ ∧ Stand p l e R s m args below meth c B.U B.locs B.cells B.slots ∧ PostX ⟨T.setVm vm₁, locs, cells, slots⟩ (Value.ref b :: argsL).toArray q B ∧
      Steps p.tables e below (T.setTop g) ((B.U.setTop { g with stack := rest }).pushFrame (.throwing q))) := by
  obtain ⟨mk, methM, hnamed, hmethM, hstM, habM⟩ := Cond.instanceMethod_spec hinst
  obtain ⟨methM', cM, hmethM', -, -, -, -, -, -, hsigM⟩ := Cond.code_spec hnamed hcode
  cases hmethM.symm.trans hmethM'
  obtain ⟨c2, r2, m2, q1, q2, q3, q4, kP, hkP, hkPi⟩ := Cond.selects_spec hsel
  cases hcls.symm.trans q1
  cases (State.methodFound?_of_named hnamed hy).symm.trans q2
  cases hnamed.symm.trans q3
  have hselP : selectMethod e.platform s.vm cellB.cls mk = .method mk := by rw [Launch.admits_selectMethod X.admits]; exact q4
  obtain ⟨vm₁, X₁, hstep₁⟩ := X.invokevirtual hexec hown hlink hnamed hmethM hstM hkP hkPi hy (a := b) (cell := cellB) hcell
    (fun z h => by rw [h] at hobj; cases hobj) hselP hmethM habM hkP hkPi (g := g) hg (argsL := argsL) (rest := rest) (hlen _ hsigM) hstack hdg
  rcases hK m meth c ⟨T.setVm vm₁, locs, cells, slots⟩ { g with stack := rest } (.invokevirtual index) mk (Value.ref b :: argsL).toArray X₁ hg hsize hdg hW (X₁.named hnamed) (hpre vm₁ X₁.warmed) with ⟨v, B, X', hpost, hsteps⟩ | ⟨q, B, X', hpost, hsteps⟩
  · exact Or.inl ⟨v, vm₁, B, X₁.warmed, X', hpost, fun target h => hstep₁ _ fun acts => by rw [doInvoke_state]; exact hsteps.trans h⟩
  · exact Or.inr ⟨q, vm₁, B, X₁.warmed, X', hpost, hstep₁ _ fun acts => by rw [doInvoke_state]; exact hsteps⟩
theorem vx_callS (X : Stand p l e R s m args below meth c T locs cells slots) (hexec : p.tables.exec = Jvm.exec) {own : String} {index : Nat} {y : MethodName} {bytes : ByteArray} {maxL : Nat} {ret : Option FieldType}
    (hown : s.vm.findClass own = some m.cls) (hlink : (Cond.methodLink own index y).before args s = true) (hstat : (Cond.static y).before args s = true) (hinit : (Cond.initialized y.cls).before args s = true)
    (hcode : (Cond.code y bytes maxL ret).before args s = true) (hy : y.cls ≠ "java/lang/invoke/MethodHandle" ∧ y.cls ≠ "java/lang/invoke/VarHandle")
    {W9 : Nat} {Pre : Pt → Array Value → Prop} {Post : Pt → Array Value → Option Value → Pt → Prop} {PostX : Pt → Array Value → Addr → Pt → Prop} (hK : vx_Back l R p e below s args y 3 W9 Pre Post PostX)
    {g : JFrame} (hg : g.method = m) (hsize : g.locals.size = c.maxLocals) {argsL rest : List Value} (hlen : ∀ sig, parseMethodDescriptor y.desc = some sig → argsL.length = sig.parameters.length)
    (hstack : g.stack = argsL.reverse ++ rest) (hW : 2 * g.monitorRoom + (rest.map fun v => v.category).sum ≤ W9) (hdg : decode c.code g.pc = .ok (.invokestatic index, 3))
    (hpre : ∀ vm₁, s.WarmedH vm₁ → Pre ⟨T.setVm vm₁, locs, cells, slots⟩ argsL.toArray) :
    (∃ (v : Option Value) (vm₁ : Vm) (B : Pt), s.WarmedH vm₁ ∧ Stand p l e R s m args below meth c B.U B.locs B.cells B.slots ∧ Post ⟨T.setVm vm₁, locs, cells, slots⟩ argsL.toArray v B ∧
      ∀ target, Steps p.tables e below (B.U.setTop { g with pc := g.pc + 3, stack := v.toList ++ rest }) target → Steps p.tables e below (T.setTop g) target) ∨
    (∃ (q : Addr) (vm₁ : Vm) (B : Pt), s.WarmedH vm₁ ∧ Stand p l e R s m args below meth c B.U B.locs B.cells B.slots ∧ PostX ⟨T.setVm vm₁, locs, cells, slots⟩ argsL.toArray q B ∧
      Steps p.tables e below (T.setTop g) ((B.U.setTop { g with stack := rest }).pushFrame (.throwing q))) := by
  obtain ⟨mk, hnamed⟩ := Cond.code_named hcode
  obtain ⟨methM, cM, hmethM, -, -, -, -, -, -, hsigM⟩ := Cond.code_spec hnamed hcode
  have hstatic : methM.isStatic = true := Cond.static_spec hnamed hmethM hstat
  obtain ⟨kP, hkP, -⟩ := className_of_methodNamed hnamed
  have hinitP : kP.init = .initialized := Cond.initialized_spec (findClass_of_methodNamed hnamed) hkP hinit
  obtain ⟨vm₁, X₁, hstep₁⟩ := X.invokestatic hexec hown hlink hnamed hmethM hstatic hkP hinitP hy (g := g) hg (argsL := argsL) (rest := rest) (hlen _ hsigM) hstack hdg
  rcases hK m meth c ⟨T.setVm vm₁, locs, cells, slots⟩ { g with stack := rest } (.invokestatic index) mk argsL.toArray X₁ hg hsize hdg hW (X₁.named hnamed) (hpre vm₁ X₁.warmed) with ⟨v, B, X', hpost, hsteps⟩ | ⟨q, B, X', hpost, hsteps⟩
  · exact Or.inl ⟨v, vm₁, B, X₁.warmed, X', hpost, fun target h => hstep₁ _ fun acts => by rw [doInvoke_state]; exact hsteps.trans h⟩
  · exact Or.inr ⟨q, vm₁, B, X₁.warmed, X', hpost, hstep₁ _ fun acts => by rw [doInvoke_state]; exact hsteps⟩
end Calls
theorem vx_cls {s : State} {T : State} {vm₁ : Vm} {E : String} {k : ClassId} (hW : s.WarmedH vm₁) (h : (T.setVm vm₁).vm.findClass E = some k) : s.vm.findClass E = some k := by
  have h1 : vm₁.findClass E = some k := h
  rw [hW.alike.findClass] at h1
  exact h1
/-- the method's frame g, with q thrown over it -/
def vx_W (p : Program) (l : Launch) (e : Env) (R : Room) (s : State) (m : MethodId) (args : Array Value) (below : List Frame) (meth : Method) (c : Code) (H : Heap) (locs : List Loc) (cells slots : Nat) (Q : State → Prop) (g : JFrame) (q : Addr) : Prop :=
  ∀ T : State, T.heap = H → Stand p l e R s m args below meth c T locs cells slots → ∃ t, Steps p.tables e below ((T.setTop g).pushFrame (.throwing q)) t ∧ Q t
def vx_Run (p : Program) (l : Launch) (e : Env) (R : Room) (s : State) (m : MethodId) (args : Array Value) (below : List Frame) (meth : Method) (c : Code) (H : Heap) (locs : List Loc) (cells slots mc ms : Nat) (g : JFrame) (rest : List Value) (Qa : State → Outcome → State → Prop) (XC : String → State → State → Prop) (free : Addr → Prop) : Prop :=
  ∀ T : State, T.heap = H → Stand p l e R s m args below meth c T locs cells slots →
    (∃ (v : Option Value) (st₀ t T' : State) (L : List Loc), st₀.heap = H ∧ Stand p l e R s m args below meth c T' (locs ++ L) (cells + mc) (slots + ms) ∧ (∀ q ∈ L, free q.base) ∧ T'.heap = t.heap ∧ T'.vm = t.vm ∧ Qa st₀ (.returned v) t ∧
      Goes p e below T g T' { g with pc := g.pc + 3, stack := v.toList ++ rest }) ∨
    (∃ (q : Addr) (st₀ t T' : State) (L : List Loc) (E : String) (ce : Cell), st₀.heap = H ∧ Stand p l e R s m args below meth c T' (locs ++ L) (cells + mc) (slots + ms) ∧ (∀ z ∈ L, free z.base) ∧ T'.heap = t.heap ∧ T'.vm = t.vm ∧ XC E st₀ t ∧ t.heap[q]? = some ce ∧ ce.vm = .none ∧ s.vm.findClass E = some ce.cls ∧
      Steps p.tables e below (T.setTop g) ((T'.setTop { g with stack := rest }).pushFrame (.throwing q)))
def vx_X {S : Type} (px : S → Prop) (B : String → S → State → Prop) (A : Nat → Prop) : String → State → State → Prop := fun E st t => ∃ u : S, px u ∧ B E u t ∧ va_F A st t
section Runs
variable {p : Program} {l : Launch} {e : Env} {R : Room} {s : State} {m : MethodId} {args : Array Value} {below : List Frame} {meth : Method} {c : Code} {H : Heap} {locs : List Loc} {cells slots : Nat}
variable {y : MethodName} {bytes cc : ByteArray} {maxL nL mc ms n index : Nat} {ret : Option FieldType} {ws : List Cond} {rm : Room} {Pc : Array Value → State → Prop} {Qc : Array Value → State → Outcome → State → Prop} {XC : String → State → State → Prop} {free : Addr → Prop} {Ts : List Cond} {own C : String} {b : Addr} {As rest : List Value} {g : JFrame}
theorem vx_callBack (cb : CallB R s args own index y bytes maxL ret ws rm mc ms n) (hM : vx_Met l y ws rm Pc Qc XC mc ms free) (hbl : FrameBlind Pc) : vx_Back l R p e below s args y 3 8 (PreOf R mc ms Pc) (PostOf Qc mc ms free) (vx_Post XC mc ms free) := by
  obtain ⟨hrc, hrs, hfr, hlo, hws, hcw, -, hini, -⟩ := cb
  exact vx_back (bytes := bytes) (maxL := maxL) (ret := ret) hM hbl hrc hrs hfr hlo hws hcw (fun a' U hW => word_at hW (Or.inl (by first | rfl | simp [Cond.onTables, Cond.keeps, Cond.steady])) hini)
theorem vx_runV (S : CallFix p m c cc nL s args Ts own) (hM : vx_Met l y ws rm Pc Qc XC mc ms free) (cw : CallW R s args own C index y bytes maxL ret ws rm mc ms n) (hp : PreV s H C b Pc As)
    (hg : g.method = m) (hn : As.length = n) (hsize : g.locals.size = nL) (hstack : g.stack = As.reverse ++ .ref b :: rest) (hW : 2 * g.monitorRoom + (rest.map fun v => v.category).sum ≤ 8) (hdg : decode cc g.pc = .ok (.invokevirtual index, 3)) (hf : cells + mc ≤ R.cells ∧ slots + ms ≤ R.slots) :
    vx_Run p l e R s m args below meth c H locs cells slots mc ms g rest (Qc (Value.ref b :: As).toArray) XC free := by
  have hK : vx_Back l R p e below s args y 3 8 (PreOf R mc ms Pc) (PostOf Qc mc ms free) (vx_Post XC mc ms free) := vx_callBack cw.1 hM hp.1
  obtain ⟨⟨-, -, -, -, -, -, hcode, -, hy, hlen, hl⟩, hin, hse⟩ := cw
  obtain ⟨hx, hb, hml, ho, -⟩ := S
  obtain ⟨-, ⟨cellB, hcB, hoB, hclB⟩, hPc⟩ := hp
  intro T hT X
  rcases vx_callV X hx (C := C) (bytes := bytes) (maxL := maxL) (ret := ret) ho hl hin hse hcode hy hK (by rw [hT]; exact hcB) hoB hclB hg (hsize.trans hml.symm) (argsL := As) (rest := rest) (fun sig h => hn.trans (hlen sig h)) hstack hW (by rw [hb]; exact hdg)
    (fun vm₁ hW₁ => ⟨hf.1, hf.2, hPc (T.setVm vm₁) hT hW₁⟩) with ⟨v, vm₁, ⟨U', l2, c2, s2⟩, hW₁, X', ⟨g', mk, t, L, e1, e2, hq, h1, hL, h2, h3⟩, st⟩ | ⟨q, vm₁, ⟨U', l2, c2, s2⟩, hW₁, X', ⟨g', mk, t, L, E, ce, e1, e2, hq, hce, hcv, hcl, h1, hL, h2, h3⟩, st⟩
  · dsimp only [Pt.U, Pt.locs, Pt.cells, Pt.slots] at X' e1 e2 h1 h2 h3 st
    subst h1; subst h2; subst h3
    exact Or.inl ⟨v, (T.setVm vm₁).calling g' mk (Value.ref b :: As).toArray, t, U', L, hT, X', hL, e1, e2, hq, st⟩
  · dsimp only [Pt.U, Pt.locs, Pt.cells, Pt.slots] at X' e1 e2 h1 h2 h3 st hcl
    subst h1; subst h2; subst h3
    exact Or.inr ⟨q, (T.setVm vm₁).calling g' mk (Value.ref b :: As).toArray, t, U', L, E, ce, hT, X', hL, e1, e2, hq, hce, hcv, vx_cls hW₁ hcl, st⟩
theorem vx_runS (S : CallFix p m c cc nL s args Ts own) (hM : vx_Met l y ws rm Pc Qc XC mc ms free) (cw : CallB R s args own index y bytes maxL ret ws rm mc ms n ∧ (Cond.static y).before args s = true) (hp : PreS s H Pc As)
    (hg : g.method = m) (hn : As.length = n) (hsize : g.locals.size = nL) (hstack : g.stack = As.reverse ++ rest) (hW : 2 * g.monitorRoom + (rest.map fun v => v.category).sum ≤ 8) (hdg : decode cc g.pc = .ok (.invokestatic index, 3)) (hf : cells + mc ≤ R.cells ∧ slots + ms ≤ R.slots) :
    vx_Run p l e R s m args below meth c H locs cells slots mc ms g rest (Qc As.toArray) XC free := by
  have hK : vx_Back l R p e below s args y 3 8 (PreOf R mc ms Pc) (PostOf Qc mc ms free) (vx_Post XC mc ms free) := vx_callBack cw.1 hM hp.1
  obtain ⟨⟨-, -, -, -, -, -, hcode, hini, hy, hlen, hl⟩, hstt⟩ := cw
  obtain ⟨hx, hb, hml, ho, -⟩ := S
  intro T hT X
  rcases vx_callS X hx (bytes := bytes) (maxL := maxL) (ret := ret) ho hl hstt hini hcode hy hK hg (hsize.trans hml.symm) (argsL := As) (rest := rest) (fun sig h => hn.trans (hlen sig h)) hstack hW (by rw [hb]; exact hdg)
    (fun vm₁ hW₁ => ⟨hf.1, hf.2, hp.2 (T.setVm vm₁) hT hW₁⟩) with ⟨v, vm₁, ⟨U', l2, c2, s2⟩, hW₁, X', ⟨g', mk, t, L, e1, e2, hq, h1, hL, h2, h3⟩, st⟩ | ⟨q, vm₁, ⟨U', l2, c2, s2⟩, hW₁, X', ⟨g', mk, t, L, E, ce, e1, e2, hq, hce, hcv, hcl, h1, hL, h2, h3⟩, st⟩
  · dsimp only [Pt.U, Pt.locs, Pt.cells, Pt.slots] at X' e1 e2 h1 h2 h3 st
    subst h1; subst h2; subst h3
    exact Or.inl ⟨v, (T.setVm vm₁).calling g' mk As.toArray, t, U', L, hT, X', hL, e1, e2, hq, st⟩
  · dsimp only [Pt.U, Pt.locs, Pt.cells, Pt.slots] at X' e1 e2 h1 h2 h3 st hcl
    subst h1; subst h2; subst h3
    exact Or.inr ⟨q, (T.setVm vm₁).calling g' mk As.toArray, t, U', L, E, ce, hT, X', hL, e1, e2, hq, hce, hcv, vx_cls hW₁ hcl, st⟩
end Runs
section Rows
variable {p : Program} {l : Launch} {e : Env} {R : Room} {s : State} {m : MethodId} {args : Array Value} {below : List Frame} {meth : Method} {c : Code} {H : Heap} {locs : List Loc} {cells slots : Nat} {Q : State → Prop}
variable {mc ms : Nat} {free : Addr → Prop} {A0 A1 : Nat → Prop} {H0 : Heap} {a : Array Value} {pc : Nat} {ls : Array Slot} {st0 rest : List Value}
theorem vx_keep {st₀ t T' : State} {L : List Loc} (h0 : st₀.heap = H) (e1 : T'.heap = t.heap) (hS : va_S A0 H0 H locs) (hA : ∀ q, q < H.size → A1 q → A0 q) (hf : ∀ q, free q → A0 q) (hL : ∀ q ∈ L, free q.base) (hF : va_F A1 st₀ t) :
    H.size ≤ T'.heap.size ∧ (∀ q : Nat, q < H.size → ¬ A1 q → T'.heap[q]? = H[q]?) ∧ va_S A0 H0 T'.heap (locs ++ L) := by
  obtain ⟨hz, hk⟩ := hF
  rw [h0] at hz hk
  exact ⟨by rw [e1]; exact hz, fun q h1 h2 => by rw [e1]; exact hk q h1 h2,
    ⟨Nat.le_trans hS.1 (by rw [e1]; exact hz), fun q h1 h2 => by rw [e1, hk q (Nat.lt_of_lt_of_le h1 hS.1) (fun z => h2 (hA q (Nat.lt_of_lt_of_le h1 hS.1) z))]; exact hS.2.1 q h1 h2, fun q hq => by
      rcases List.mem_append.mp hq with h | h
      · exact hS.2.2 q h
      · exact hf _ (hL q h)⟩⟩
theorem vx_calli {S SX : Type} {post : Int32 → S → Prop} {px : SX → Prop} {B : S → State → Prop} {BX : String → SX → State → Prop} {AX : Nat → Prop} (hr : vx_Run p l e R s m args below meth c H locs cells slots mc ms (F0 m pc ls st0) rest (va_Qi post B A1 a) (vx_X px BX AX) free) (hS : va_S A0 H0 H locs) (hA : ∀ q, q < H.size → A1 q → A0 q) (hf : ∀ q, free q → A0 q) (hAX : ∀ q, q < H.size → AX q → A0 q)
    (kx : ∀ (E : String) (ce : Cell) (q9 : Addr) (u : SX) (t : State) (H1 : Heap) (locs1 : List Loc), t.heap = H1 → s.vm.Alike t.vm → px u → BX E u t → H.size ≤ H1.size → (∀ q : Nat, q < H.size → ¬ AX q → H1[q]? = H[q]?) → va_S A0 H0 H1 locs1 → H1[q9]? = some ce → ce.vm = .none → s.vm.findClass E = some ce.cls → vx_W p l e R s m args below meth c H1 locs1 (cells + mc) (slots + ms) Q (F0 m pc ls rest) q9)
    (kk : ∀ (r : Int32) (u : S) (t : State) (H1 : Heap) (locs1 : List Loc), t.heap = H1 → s.vm.Alike t.vm → post r u → B u t → H.size ≤ H1.size → (∀ q : Nat, q < H.size → ¬ A1 q → H1[q]? = H[q]?) → va_S A0 H0 H1 locs1 → W p l e R s m args below meth c H1 locs1 (cells + mc) (slots + ms) Q (F0 m (pc + 3) ls (.int r :: rest))) : W p l e R s m args below meth c H locs cells slots Q (F0 m pc ls st0) := by
  intro T hT X
  rcases hr T hT X with ⟨v, st₀, t, T', L, h0, X', hL, e1, e2, ⟨⟨r, u, hv, hp, hb⟩, hF⟩, st⟩ | ⟨q, st₀, t, T', L, E, ce, h0, X', hL, e1, e2, ⟨u, hp, hb, hF⟩, hce, hcv, hcl, st⟩
  · cases hv
    obtain ⟨k1, k2, k3⟩ := vx_keep h0 e1 hS hA hf hL hF
    obtain ⟨t2, a1, b1⟩ := kk r u t T'.heap (locs ++ L) e1.symm (by rw [← e2]; exact X'.warmed.alike) hp hb k1 k2 k3 T' rfl X'
    exact ⟨t2, st t2 a1, b1⟩
  · obtain ⟨k1, k2, k3⟩ := vx_keep h0 e1 hS hAX hf hL hF
    obtain ⟨t2, a1, b1⟩ := kx E ce q u t T'.heap (locs ++ L) e1.symm (by rw [← e2]; exact X'.warmed.alike) hp hb k1 k2 k3 (by rw [e1]; exact hce) hcv hcl T' rfl X'
    exact ⟨t2, st.trans a1, b1⟩
theorem vx_calll {S SX : Type} {post : Int64 → S → Prop} {px : SX → Prop} {B : S → State → Prop} {BX : String → SX → State → Prop} {AX : Nat → Prop} (hr : vx_Run p l e R s m args below meth c H locs cells slots mc ms (F0 m pc ls st0) rest (va_Ql post B A1 a) (vx_X px BX AX) free) (hS : va_S A0 H0 H locs) (hA : ∀ q, q < H.size → A1 q → A0 q) (hf : ∀ q, free q → A0 q) (hAX : ∀ q, q < H.size → AX q → A0 q)
    (kx : ∀ (E : String) (ce : Cell) (q9 : Addr) (u : SX) (t : State) (H1 : Heap) (locs1 : List Loc), t.heap = H1 → s.vm.Alike t.vm → px u → BX E u t → H.size ≤ H1.size → (∀ q : Nat, q < H.size → ¬ AX q → H1[q]? = H[q]?) → va_S A0 H0 H1 locs1 → H1[q9]? = some ce → ce.vm = .none → s.vm.findClass E = some ce.cls → vx_W p l e R s m args below meth c H1 locs1 (cells + mc) (slots + ms) Q (F0 m pc ls rest) q9)
    (kk : ∀ (r : Int64) (u : S) (t : State) (H1 : Heap) (locs1 : List Loc), t.heap = H1 → s.vm.Alike t.vm → post r u → B u t → H.size ≤ H1.size → (∀ q : Nat, q < H.size → ¬ A1 q → H1[q]? = H[q]?) → va_S A0 H0 H1 locs1 → W p l e R s m args below meth c H1 locs1 (cells + mc) (slots + ms) Q (F0 m (pc + 3) ls (.long r :: rest))) : W p l e R s m args below meth c H locs cells slots Q (F0 m pc ls st0) := by
  intro T hT X
  rcases hr T hT X with ⟨v, st₀, t, T', L, h0, X', hL, e1, e2, ⟨⟨r, u, hv, hp, hb⟩, hF⟩, st⟩ | ⟨q, st₀, t, T', L, E, ce, h0, X', hL, e1, e2, ⟨u, hp, hb, hF⟩, hce, hcv, hcl, st⟩
  · cases hv
    obtain ⟨k1, k2, k3⟩ := vx_keep h0 e1 hS hA hf hL hF
    obtain ⟨t2, a1, b1⟩ := kk r u t T'.heap (locs ++ L) e1.symm (by rw [← e2]; exact X'.warmed.alike) hp hb k1 k2 k3 T' rfl X'
    exact ⟨t2, st t2 a1, b1⟩
  · obtain ⟨k1, k2, k3⟩ := vx_keep h0 e1 hS hAX hf hL hF
    obtain ⟨t2, a1, b1⟩ := kx E ce q u t T'.heap (locs ++ L) e1.symm (by rw [← e2]; exact X'.warmed.alike) hp hb k1 k2 k3 (by rw [e1]; exact hce) hcv hcl T' rfl X'
    exact ⟨t2, st.trans a1, b1⟩
theorem vx_callf {S SX : Type} {post : UInt32 → S → Prop} {px : SX → Prop} {B : S → State → Prop} {BX : String → SX → State → Prop} {AX : Nat → Prop} (hr : vx_Run p l e R s m args below meth c H locs cells slots mc ms (F0 m pc ls st0) rest (va_Qf post B A1 a) (vx_X px BX AX) free) (hS : va_S A0 H0 H locs) (hA : ∀ q, q < H.size → A1 q → A0 q) (hf : ∀ q, free q → A0 q) (hAX : ∀ q, q < H.size → AX q → A0 q)
    (kx : ∀ (E : String) (ce : Cell) (q9 : Addr) (u : SX) (t : State) (H1 : Heap) (locs1 : List Loc), t.heap = H1 → s.vm.Alike t.vm → px u → BX E u t → H.size ≤ H1.size → (∀ q : Nat, q < H.size → ¬ AX q → H1[q]? = H[q]?) → va_S A0 H0 H1 locs1 → H1[q9]? = some ce → ce.vm = .none → s.vm.findClass E = some ce.cls → vx_W p l e R s m args below meth c H1 locs1 (cells + mc) (slots + ms) Q (F0 m pc ls rest) q9)
    (kk : ∀ (r : UInt32) (u : S) (t : State) (H1 : Heap) (locs1 : List Loc), t.heap = H1 → s.vm.Alike t.vm → post r u → B u t → H.size ≤ H1.size → (∀ q : Nat, q < H.size → ¬ A1 q → H1[q]? = H[q]?) → va_S A0 H0 H1 locs1 → W p l e R s m args below meth c H1 locs1 (cells + mc) (slots + ms) Q (F0 m (pc + 3) ls (.float r :: rest))) : W p l e R s m args below meth c H locs cells slots Q (F0 m pc ls st0) := by
  intro T hT X
  rcases hr T hT X with ⟨v, st₀, t, T', L, h0, X', hL, e1, e2, ⟨⟨r, u, hv, hp, hb⟩, hF⟩, st⟩ | ⟨q, st₀, t, T', L, E, ce, h0, X', hL, e1, e2, ⟨u, hp, hb, hF⟩, hce, hcv, hcl, st⟩
  · cases hv
    obtain ⟨k1, k2, k3⟩ := vx_keep h0 e1 hS hA hf hL hF
    obtain ⟨t2, a1, b1⟩ := kk r u t T'.heap (locs ++ L) e1.symm (by rw [← e2]; exact X'.warmed.alike) hp hb k1 k2 k3 T' rfl X'
    exact ⟨t2, st t2 a1, b1⟩
  · obtain ⟨k1, k2, k3⟩ := vx_keep h0 e1 hS hAX hf hL hF
    obtain ⟨t2, a1, b1⟩ := kx E ce q u t T'.heap (locs ++ L) e1.symm (by rw [← e2]; exact X'.warmed.alike) hp hb k1 k2 k3 (by rw [e1]; exact hce) hcv hcl T' rfl X'
    exact ⟨t2, st.trans a1, b1⟩
theorem vx_calld {S SX : Type} {post : UInt64 → S → Prop} {px : SX → Prop} {B : S → State → Prop} {BX : String → SX → State → Prop} {AX : Nat → Prop} (hr : vx_Run p l e R s m args below meth c H locs cells slots mc ms (F0 m pc ls st0) rest (va_Qd post B A1 a) (vx_X px BX AX) free) (hS : va_S A0 H0 H locs) (hA : ∀ q, q < H.size → A1 q → A0 q) (hf : ∀ q, free q → A0 q) (hAX : ∀ q, q < H.size → AX q → A0 q)
    (kx : ∀ (E : String) (ce : Cell) (q9 : Addr) (u : SX) (t : State) (H1 : Heap) (locs1 : List Loc), t.heap = H1 → s.vm.Alike t.vm → px u → BX E u t → H.size ≤ H1.size → (∀ q : Nat, q < H.size → ¬ AX q → H1[q]? = H[q]?) → va_S A0 H0 H1 locs1 → H1[q9]? = some ce → ce.vm = .none → s.vm.findClass E = some ce.cls → vx_W p l e R s m args below meth c H1 locs1 (cells + mc) (slots + ms) Q (F0 m pc ls rest) q9)
    (kk : ∀ (r : UInt64) (u : S) (t : State) (H1 : Heap) (locs1 : List Loc), t.heap = H1 → s.vm.Alike t.vm → post r u → B u t → H.size ≤ H1.size → (∀ q : Nat, q < H.size → ¬ A1 q → H1[q]? = H[q]?) → va_S A0 H0 H1 locs1 → W p l e R s m args below meth c H1 locs1 (cells + mc) (slots + ms) Q (F0 m (pc + 3) ls (.double r :: rest))) : W p l e R s m args below meth c H locs cells slots Q (F0 m pc ls st0) := by
  intro T hT X
  rcases hr T hT X with ⟨v, st₀, t, T', L, h0, X', hL, e1, e2, ⟨⟨r, u, hv, hp, hb⟩, hF⟩, st⟩ | ⟨q, st₀, t, T', L, E, ce, h0, X', hL, e1, e2, ⟨u, hp, hb, hF⟩, hce, hcv, hcl, st⟩
  · cases hv
    obtain ⟨k1, k2, k3⟩ := vx_keep h0 e1 hS hA hf hL hF
    obtain ⟨t2, a1, b1⟩ := kk r u t T'.heap (locs ++ L) e1.symm (by rw [← e2]; exact X'.warmed.alike) hp hb k1 k2 k3 T' rfl X'
    exact ⟨t2, st t2 a1, b1⟩
  · obtain ⟨k1, k2, k3⟩ := vx_keep h0 e1 hS hAX hf hL hF
    obtain ⟨t2, a1, b1⟩ := kx E ce q u t T'.heap (locs ++ L) e1.symm (by rw [← e2]; exact X'.warmed.alike) hp hb k1 k2 k3 (by rw [e1]; exact hce) hcv hcl T' rfl X'
    exact ⟨t2, st.trans a1, b1⟩
theorem vx_callv {S SX : Type} {post : S → Prop} {px : SX → Prop} {B : S → State → Prop} {BX : String → SX → State → Prop} {AX : Nat → Prop} (hr : vx_Run p l e R s m args below meth c H locs cells slots mc ms (F0 m pc ls st0) rest (va_Qv post B A1 a) (vx_X px BX AX) free) (hS : va_S A0 H0 H locs) (hA : ∀ q, q < H.size → A1 q → A0 q) (hf : ∀ q, free q → A0 q) (hAX : ∀ q, q < H.size → AX q → A0 q)
    (kx : ∀ (E : String) (ce : Cell) (q9 : Addr) (u : SX) (t : State) (H1 : Heap) (locs1 : List Loc), t.heap = H1 → s.vm.Alike t.vm → px u → BX E u t → H.size ≤ H1.size → (∀ q : Nat, q < H.size → ¬ AX q → H1[q]? = H[q]?) → va_S A0 H0 H1 locs1 → H1[q9]? = some ce → ce.vm = .none → s.vm.findClass E = some ce.cls → vx_W p l e R s m args below meth c H1 locs1 (cells + mc) (slots + ms) Q (F0 m pc ls rest) q9)
    (kk : ∀ (u : S) (t : State) (H1 : Heap) (locs1 : List Loc), t.heap = H1 → s.vm.Alike t.vm → post u → B u t → H.size ≤ H1.size → (∀ q : Nat, q < H.size → ¬ A1 q → H1[q]? = H[q]?) → va_S A0 H0 H1 locs1 → W p l e R s m args below meth c H1 locs1 (cells + mc) (slots + ms) Q (F0 m (pc + 3) ls (rest))) : W p l e R s m args below meth c H locs cells slots Q (F0 m pc ls st0) := by
  intro T hT X
  rcases hr T hT X with ⟨v, st₀, t, T', L, h0, X', hL, e1, e2, ⟨⟨u, hv, hp, hb⟩, hF⟩, st⟩ | ⟨q, st₀, t, T', L, E, ce, h0, X', hL, e1, e2, ⟨u, hp, hb, hF⟩, hce, hcv, hcl, st⟩
  · cases hv
    obtain ⟨k1, k2, k3⟩ := vx_keep h0 e1 hS hA hf hL hF
    obtain ⟨t2, a1, b1⟩ := kk u t T'.heap (locs ++ L) e1.symm (by rw [← e2]; exact X'.warmed.alike) hp hb k1 k2 k3 T' rfl X'
    exact ⟨t2, st t2 a1, b1⟩
  · obtain ⟨k1, k2, k3⟩ := vx_keep h0 e1 hS hAX hf hL hF
    obtain ⟨t2, a1, b1⟩ := kx E ce q u t T'.heap (locs ++ L) e1.symm (by rw [← e2]; exact X'.warmed.alike) hp hb k1 k2 k3 (by rw [e1]; exact hce) hcv hcl T' rfl X'
    exact ⟨t2, st.trans a1, b1⟩
/-- caught by the row x of this method's table; the rows ahead don't take it -/
theorem vx_catch {own name : String} {E : String} {ce : Cell} {q : Addr} (hown : s.vm.findClass own = some m.cls) (pre : List ExceptionTableEntry) (x : ExceptionTableEntry) (suf : List ExceptionTableEntry) (hsplit : c.exceptionTable.toList = pre ++ x :: suf)
    (hpass : ∀ z ∈ pre, covers z pc = false ∨ (z.catchType ≠ 0 ∧ ∃ nm : String, (Cond.classLink own z.catchType nm).before args s = true ∧ va_Nc E nm s)) (hx : covers x pc = true) (h0 : x.catchType ≠ 0)
    (hlink : (Cond.classLink own x.catchType name).before args s = true) (hcast : (Cond.castable E name).before args s = true) (hcell : H[q]? = some ce) (hv : ce.vm = .none) (hcl : s.vm.findClass E = some ce.cls)
    (kk : W p l e R s m args below meth c H locs cells slots Q (F0 m x.handlerPc ls [.ref q])) : vx_W p l e R s m args below meth c H locs cells slots Q (F0 m pc ls rest) q := by
  intro T hT X
  have hpl : e.platform.magicAccessors = ({} : Platform).magicAccessors := by rw [X.admits.platform]
  obtain ⟨c3, c4, hc3, hc4, hasg⟩ := Cond.castable_spec hcast
  cases Option.some.inj (hc3.symm.trans hcl)
  obtain ⟨c5, hc5, hcl5⟩ := Cond.classLink_spec hown hlink e.platform hpl
  cases Option.some.inj (hc4.symm.trans hc5)
  obtain ⟨vm', X', st⟩ := X.thenCaughtThrough q (g := F0 m pc ls rest) rfl (Steps.refl _) (by rw [hT]; exact hcell) (by rw [hv]; rfl) (by obtain ⟨k9, h9, -⟩ := Vm.findClass_spec hcl; exact ⟨k9, h9⟩) pre x suf hsplit
    (fun z hz => by
      rcases hpass z hz with h | ⟨hz0, nm, hl1, hn1⟩
      · exact Or.inl h
      · obtain ⟨c6, hc6, hcl6⟩ := Cond.classLink_spec hown hl1 e.platform hpl
        obtain ⟨a8, b8, h1, h2, h3⟩ := hn1
        cases Option.some.inj (h1.symm.trans hcl)
        cases Option.some.inj (h2.symm.trans hc6)
        exact Or.inr ⟨hz0, _, hcl6, h3⟩) hx (Or.inr ⟨h0, c4, hcl5, hasg⟩)
  obtain ⟨t, a1, b1⟩ := kk (T.setVm vm') hT X'
  exact ⟨t, st.trans a1, b1⟩
end Rows
section Ends
variable {p : Program} {l : Launch} {e : Env} {R : Room} {s : State} {m : MethodId} {args : Array Value} {below : List Frame} {meth : Method} {c : Code} {H : Heap} {locs : List Loc} {cells slots : Nat} {Q : State → Prop}
variable {mc ms : Nat} {free : Addr → Prop} {A0 A1 : Nat → Prop} {H0 : Heap} {a : Array Value} {ls : Array Slot} {st0 rest : List Value}
variable {Qc : Array Value → State → Outcome → State → Prop} {XC : String → State → State → Prop}
/-- what a body that may throw owes at its end -/
def vx_MQ (below : List Frame) (Qc : Array Value → State → Outcome → State → Prop) (XC : String → State → State → Prop) (a : Array Value) (s : State) (mc ms : Nat) (free : Addr → Prop) : State → Prop := fun t =>
  ∃ o, t.status = .running ∧ Ended t below o ∧ vx_Q Qc XC mc ms free a s o t
theorem vx_ret {g : JFrame} {mc ms : Nat} (k : W p l e R s m args below meth c H locs cells slots (MQ below Qc args s mc ms free) g) : W p l e R s m args below meth c H locs cells slots (vx_MQ below Qc XC args s mc ms free) g := by
  intro T hT X
  obtain ⟨t, a1, o, b1, b2, b3, b4⟩ := k T hT X
  exact ⟨t, a1, o, b1, b2, Or.inl ⟨b3, b4⟩⟩
/-- not caught here: it goes on to the caller -/
theorem vx_widen {g : JFrame} {q : Addr} {k n : Nat} (h1 : cells ≤ k) (h2 : slots ≤ n) (kk : vx_W p l e R s m args below meth c H locs k n Q g q) : vx_W p l e R s m args below meth c H locs cells slots Q g q := fun T hT X => kk T hT (stand_widen X h1 h2)
theorem vx_out {pc : Nat} {E : String} {ce : Cell} {q : Addr} {mc ms : Nat} (hout : ∀ x ∈ c.exceptionTable.toList, covers x pc = false) (hlocks : meth.locks = false) (hcell : H[q]? = some ce) (hv : ce.vm = .none) (hcl : s.vm.findClass E = some ce.cls)
    (hx : ∀ t : State, t.heap = H → s.vm.Alike t.vm → XC E s t) (hf : ∀ z ∈ locs, free z.base) (hc : cells ≤ mc) (hs : slots ≤ ms) :
    vx_W p l e R s m args below meth c H locs cells slots (vx_MQ below Qc XC args s mc ms free) (F0 m pc ls rest) q := by
  intro T hT X
  obtain ⟨st1, hrun, hend, hW, hsm⟩ := X.leaveThrown q (g := F0 m pc ls rest) rfl rfl rfl hout hlocks
  have hcell9 : (T.setFrames (.throwing q :: below)).heap[q]? = some ce := by
    show T.heap[q]? = some ce
    rw [hT]; exact hcell
  exact ⟨_, st1, .threw q, hrun, hend, Or.inr ⟨q, rfl, E, ce, locs, hx _ hT hW.alike, hcell9, hv, hcl, hW, hsm.mono hc hs, hf⟩⟩
theorem vx_frame {U : State} {k n : Nat} (h : s.sameButNew ({ U with vm := s.vm } : State) locs k n) : s.heap.size ≤ U.heap.size ∧ ∀ q : Nat, q < s.heap.size → (∀ z ∈ locs, z.base ≠ q) → U.heap[q]? = s.heap[q]? := by
  obtain ⟨-, h2, -, -, -, h6⟩ := h
  refine ⟨h2, fun q hq hz => ?_⟩
  obtain ⟨c9, e1, e2, e3, e4⟩ := h6 q _ (Array.getElem?_eq_getElem hq)
  have hs : c9.slots = (s.heap[q]).slots := Array.ext_getElem? fun i => e4 i fun hm => hz _ hm rfl
  have h9 : c9 = s.heap[q] := by
    rw [hs] at e2
    exact e2
  have e5 : U.heap[q]? = some c9 := e1
  rw [e5, h9, Array.getElem?_eq_getElem hq]
/-- the words of a throw but the four that speak of the heap -/
def vx_no (w : Cond) : Bool := decide (w ≠ .isRef (.static Bundle.tN "UNASSIGNED_STACK" Bundle.steD)) && decide (w ≠ .isRef (.static Bundle.tN "SUPPRESSED_SENTINEL" Bundle.listD)) && decide (w ≠ .laysStatic Bundle.tN "UNASSIGNED_STACK" Bundle.steD) && decide (w ≠ .laysStatic Bundle.tN "SUPPRESSED_SENTINEL" Bundle.listD)
def vx_at0 (own : String) (ic : Nat) (X : String) (names : List String) : List Cond := (Bundle.ownAtoms0 own ic X names).filter vx_no
def vx_atS (own : String) (ic : Nat) (X : String) (names : List String) : List Cond := (Bundle.ownAtoms own ic X names).filter vx_no
/-- a word that the tables alone decide, or a good one -/
def vx_ot (w : Cond) : Bool := w.onTables || goodWord w
theorem vx_ot_at {args a' : Array Value} {s U : State} {w : Cond} (hW : s.WarmedH U.vm) (hvm : s.vm = U.vm) (hg : vx_ot w = true) (h : w.before args s = true) : w.before a' U = true := by
  simp only [vx_ot, Bool.or_eq_true] at hg
  rcases hg with hg | hg
  · exact va_tabs hg hvm h
  · exact word_at hW (good_of_word hg) h
/-- a list's words: the good ones out of the method's own list, the others by premises of their own -/
theorem vx_hat {args : Array Value} {s : State} {L B : List Cond} (h1 : ∀ w ∈ L.filter goodWord, w.before args s = true) (h2 : ∀ w ∈ L.filter (fun w => !goodWord w), w ∈ B) (h3 : ∀ w ∈ B, w.before args s = true) : ∀ w ∈ L, w.before args s = true := by
  intro w hw
  by_cases g : goodWord w = true
  · exact h1 w (List.mem_filter.mpr ⟨hw, g⟩)
  · refine h3 w (h2 w (List.mem_filter.mpr ⟨hw, ?_⟩))
    show (!goodWord w) = true
    cases hgw : goodWord w
    · rfl
    · exact absurd hgw g
theorem vx_c {args : Array Value} {s : State} {w : Cond} {B : List Cond} (h : w.before args s = true) (t : ∀ w ∈ B, w.before args s = true) : ∀ w' ∈ w :: B, w'.before args s = true := fun w' h' => (List.mem_cons.mp h').elim (fun e => by rw [e]; exact h) (t w')
theorem vx_n {args : Array Value} {s : State} : ∀ w ∈ ([] : List Cond), w.before args s = true := fun _ h => nomatch h
theorem vx_own {args : Array Value} {s : State} {L : List Cond} (h1 : ∀ w ∈ L.filter vx_no, w.before args s = true)
    (hU : (Cond.isRef (.static Bundle.tN "UNASSIGNED_STACK" Bundle.steD)).before args s = true) (hN : (Cond.isRef (.static Bundle.tN "SUPPRESSED_SENTINEL" Bundle.listD)).before args s = true)
    (lU : (Cond.laysStatic Bundle.tN "UNASSIGNED_STACK" Bundle.steD).before args s = true) (lN : (Cond.laysStatic Bundle.tN "SUPPRESSED_SENTINEL" Bundle.listD).before args s = true) : ∀ w ∈ L, w.before args s = true := by
  intro w hw
  by_cases e1 : w = .isRef (.static Bundle.tN "UNASSIGNED_STACK" Bundle.steD)
  · rw [e1]; exact hU
  · by_cases e2 : w = .isRef (.static Bundle.tN "SUPPRESSED_SENTINEL" Bundle.listD)
    · rw [e2]; exact hN
    · by_cases e3 : w = .laysStatic Bundle.tN "UNASSIGNED_STACK" Bundle.steD
      · rw [e3]; exact lU
      · by_cases e4 : w = .laysStatic Bundle.tN "SUPPRESSED_SENTINEL" Bundle.listD
        · rw [e4]; exact lN
        · exact h1 w (List.mem_filter.mpr ⟨hw, by unfold vx_no; rw [decide_eq_true e1, decide_eq_true e2, decide_eq_true e3, decide_eq_true e4]; rfl⟩)
/-- where a static field lies, its class's statics cell in H -/
def vx_L (C n d : String) (A : Nat → Prop) (U : State) (H : Heap) : Prop := ∃ (c : ClassId) (k : Class) (i : Nat) (f : Field) (a : Nat) (cell : Cell), U.vm.findClass C = some c ∧ U.fieldFound? C n d = some (c, k, i, f) ∧ f.isStatic = true ∧ k.statics = some a ∧ H[a]? = some cell ∧ cell.vm.isStatics = true ∧ cell.cls = c ∧ f.slot < cell.slots.size ∧ k.staticTypes[f.slot]? = some f.type ∧ ¬ A a
theorem vx_L.moved {C n d : String} {A : Nat → Prop} {u U : State} {H : Heap} (hvm : u.vm.Alike U.vm) (h : vx_L C n d A u H) : vx_L C n d A U H := by
  obtain ⟨c, k, i, f, a, cell, h1, h2, h3, h4, h5, h6, h7, h8, h9, h10⟩ := h
  obtain ⟨k', hi', he⟩ := State.fieldFound?_setVm hvm h2
  exact ⟨c, k', i, f, a, cell, by rw [hvm.findClass]; exact h1, hi', h3, by rw [he]; exact h4, h5, h6, h7, h8, by rw [he]; exact h9, h10⟩
theorem vx_L.kept {C n d : String} {A : Nat → Prop} {U : State} {H H1 : Heap} (h : vx_L C n d A U H) (hq : ∀ a : Nat, a < H.size → ¬ A a → H1[a]? = H[a]?) : vx_L C n d A U H1 := by
  obtain ⟨c, k, i, f, a, cell, h1, h2, h3, h4, h5, h6, h7, h8, h9, h10⟩ := h
  exact ⟨c, k, i, f, a, cell, h1, h2, h3, h4, by rw [hq a (Array.getElem?_eq_some_iff.mp h5).1 h10]; exact h5, h6, h7, h8, h9, h10⟩
theorem vx_L.narrow {C n d : String} {A B : Nat → Prop} {U : State} {H : Heap} (h : vx_L C n d A U H) (hAB : ∀ q, B q → A q) : vx_L C n d B U H := by
  obtain ⟨c, k, i, f, a, cell, h1, h2, h3, h4, h5, h6, h7, h8, h9, h10⟩ := h
  exact ⟨c, k, i, f, a, cell, h1, h2, h3, h4, h5, h6, h7, h8, h9, fun z => h10 (hAB _ z)⟩
theorem vx_L.word {C n d : String} {A : Nat → Prop} {s : State} {args : Array Value} (h : vx_L C n d A s s.heap) : (Cond.laysStatic C n d).before args s = true := by
  obtain ⟨c, k, i, f, a, cell, h1, h2, h3, h4, h5, h6, h7, h8, h9, -⟩ := h
  show (Cond.laysStatic C n d).holds args s none s [] = true
  exact Cond.laysStatic_of h1 h2 h3 h4 h5 h6 h7 h8 h9
/-- .. and what it holds: null or some reference -/
def vx_Zq (C n d : String) (A : Nat → Prop) (U : State) (H : Heap) : Prop := va_Zq C n d A U H ∧ vx_L C n d A U H
theorem vx_Zq.moved {C n d : String} {A : Nat → Prop} {u U : State} {H : Heap} (hvm : u.vm.Alike U.vm) (h : vx_Zq C n d A u H) : vx_Zq C n d A U H := ⟨va_Zq.moved hvm h.1, vx_L.moved hvm h.2⟩
theorem vx_Zq.kept {C n d : String} {A : Nat → Prop} {U : State} {H H1 : Heap} (h : vx_Zq C n d A U H) (hq : ∀ a : Nat, a < H.size → ¬ A a → H1[a]? = H[a]?) : vx_Zq C n d A U H1 := ⟨va_Zq.kept h.1 hq, vx_L.kept h.2 hq⟩
theorem vx_Zq.narrow {C n d : String} {A B : Nat → Prop} {U : State} {H : Heap} (h : vx_Zq C n d A U H) (hAB : ∀ q, B q → A q) : vx_Zq C n d B U H := ⟨va_Zq.narrow h.1 hAB, vx_L.narrow h.2 hAB⟩
theorem vx_Zqof {args : Array Value} {s : State} {C n d : String} {A : Nat → Prop} (hl : (Cond.laysStatic C n d).before args s = true) (hini : (Cond.initialized C).before args s = true) (h : (Cond.isRef (.static C n d)).before args s = true) (hA : ∀ a : Nat, a < s.heap.size → ¬ A a) : vx_Zq C n d A s s.heap := by
  refine ⟨va_Zqof hl hini h hA, ?_⟩
  obtain ⟨c, k, i, f, a, cell, h1, h2, h3, h4, h5, h6, h7, h8, h9⟩ := Cond.laysStatic_spec hl
  exact ⟨c, k, i, f, a, cell, h1, h2, h3, h4, h5, h6, h7, h8, h9, hA a (Array.getElem?_eq_some_iff.mp h5).1⟩
theorem vx_isRef {C n d : String} {v : Value} {A : Nat → Prop} {s : State} {args : Array Value} (h : va_Z C n d v A s s.heap) (hv : v.isRef = true) : (Cond.isRef (.static C n d)).before args s = true := by
  obtain ⟨cf, kf, fi, f, a, cell, h1, h2, h3, h4, h5, h6, h7, -⟩ := h
  have he : (Term.static C n d).eval args s none [] s = some v := by
    simp [Term.eval, State.fieldNamed?, h1, h2, h4, h5, h6, h7]
  simp only [Cond.before, Cond.holds, Cond.value, he]
  cases v <;> simp_all [Value.isRef]
theorem vx_isRefq {C n d : String} {A : Nat → Prop} {s : State} {args : Array Value} (h : va_Zq C n d A s s.heap) : (Cond.isRef (.static C n d)).before args s = true := by
  rcases h with h | ⟨t, h⟩
  · exact vx_isRef h rfl
  · exact vx_isRef h rfl
/-- the same frame, seen from here: as if the method were called anew in this heap -/
theorem vx_rebase {T : State} (X : Stand p l e R s m args below meth c T locs cells slots) {R' : Room} (hf : R'.frames ≤ R.frames) (hl : R'.locals ≤ R.locals) (hc : cells + R'.cells ≤ R.cells) (hs : slots + R'.slots ≤ R.slots) :
    Stand p l e R' ((T.setVm s.vm).setFrames (.invoking m args :: below)) m args below meth c T [] 0 0 := by
  have htop : (T.setVm s.vm).topJava?.isSome := X.here.top
  have hF : ((T.setVm s.vm).setFrames (.invoking m args :: below)).frames = .invoking m args :: below := State.frames_setFrames _ (State.cur_lt_of_top htop)
  obtain ⟨g₀, hg0⟩ := Option.isSome_iff_exists.mp htop
  obtain ⟨r, hr⟩ := State.topJava?_eq_some.mp hg0
  have hl9 : e.platform.stackLimits (T.setVm s.vm).me = e.platform.stackLimits s.me := X.limits
  have hb9 : (T.setVm s.vm).me.stackBytes = s.me.stackBytes := X.bytes
  refine ⟨X.admits, X.cas, X.clock, hF, ?_, X.hears, X.method, X.code, X.here, X.tail, X.warmed, ?_, ?_, ?_⟩
  · have h := X.room
    have hU : ((T.setVm s.vm).setFrames (.invoking m args :: below)).localsInUse = s.localsInUse := by
      rw [State.localsInUse_invoking hF (meth := meth) (c := c) X.method X.code, State.localsInUse_invoking X.frames X.method X.code]
    simp only [State.hasRoom, Bool.and_eq_true, decide_eq_true_eq] at h ⊢
    obtain ⟨⟨⟨⟨h1, h2, h3, h4, h5, h6⟩, h7⟩, h8⟩, h9⟩ := h
    rw [X.frames, List.length_cons] at h2 h3
    have q1 := X.heapSize
    have q2 := X.used
    simp only [hF, hU, List.length_cons, State.stackLimits_setFrames, State.stackBytes_setFrames, hl9, hb9]
    refine ⟨⟨⟨⟨by omega, by omega, by omega, by omega, by omega, h6⟩, ?_⟩, ?_⟩, X.book⟩
    · show T.heap.size + R'.cells ≤ e.platform.maxCells
      omega
    · show T.slotsUsed + R'.slots ≤ e.platform.maxSlots
      omega
  · rw [State.stackLimits_setFrames]; rfl
  · rw [State.stackBytes_setFrames]; rfl
  · refine ⟨?_, Nat.le_refl _, Nat.le_refl _, ?_, ?_, fun a c9 h9 => ⟨c9, h9, rfl, rfl, fun _ _ => rfl⟩⟩
    · obtain ⟨t, ht, -⟩ := State.frames_cons hr
      show T.setVm s.vm = { ((T.setVm s.vm).setFrames (.invoking m args :: below)).setFrames (T.setVm s.vm).frames with heap := T.heap, slotsUsed := T.slotsUsed }
      rw [State.setFrames_setFrames, State.setFrames_self ht]
      rfl
    · show T.slotsUsed = T.slotsUsed + ((T.heap.toList.drop T.heap.size).map (·.slots.size)).sum
      rw [List.drop_eq_nil_of_le (Nat.le_of_eq Array.length_toList)]
      rfl
    · show ((T.heap.toList.drop T.heap.size).map (·.slots.size)).sum ≤ 0
      rw [List.drop_eq_nil_of_le (Nat.le_of_eq Array.length_toList)]
      exact Nat.le_refl _
/-- 'throw new E()': new; dup; invokespecial; athrow -/
theorem vx_throw0 {cc : ByteArray} {pc : Nat} (hexec : p.tables.exec = Jvm.exec) (hb : c.code = cc) (hl : l.stackTraces = false) {own cls : String} {names : List String} {ik ic mc ms : Nat} {A : Nat → Prop}
    (hown : s.vm.findClass own = some m.cls) (hcls : Bundle.fit cls = true) (hnames : ∀ n ∈ names, Bundle.fit n = true)
    (hk : (Cond.classLink own ik cls).before args s = true) (hini : (Cond.initialized cls).before args s = true) (hat : ∀ w ∈ vx_at0 own ic cls names, w.before args s = true)
    (hgood : ∀ w ∈ Cond.classLink own ik cls :: Cond.initialized cls :: vx_at0 own ic cls names, vx_ot w = true)
    (hU : vx_Zq Bundle.tN "UNASSIGNED_STACK" Bundle.steD A s s.heap) (hN : vx_Zq Bundle.tN "SUPPRESSED_SENTINEL" Bundle.listD A s s.heap) (hS : va_S A s.heap H locs) (hsize : ls.size = c.maxLocals)
    (d0 : decode cc pc = .ok (.new ik, 3)) (d3 : decode cc (pc + 3) = .ok (.dup, 1)) (d4 : decode cc (pc + 4) = .ok (.invokespecial ic, 3)) (d7 : decode cc (pc + 7) = .ok (.athrow, 1))
    (hout : ∀ x ∈ c.exceptionTable.toList, covers x (pc + 7) = false)
    (hRframes : names.length + 3 < R.frames) (hRlocals : (rest.map fun v => v.category).sum + (13 * (names.length + 1) + 42) ≤ R.locals) (hRcells : cells + 1 ≤ R.cells) (hRslots : slots + 6 ≤ R.slots) (hlocks : meth.locks = false)
    (hx : ∀ t : State, s.vm.Alike t.vm → H.size ≤ t.heap.size → (∀ q : Nat, q < H.size → t.heap[q]? = H[q]?) → XC cls s t)
    (hf : ∀ z ∈ locs, free z.base) (hc : cells + 1 ≤ mc) (hs : slots + 6 ≤ ms) :
    W p l e R s m args below meth c H locs cells slots (vx_MQ below Qc XC args s mc ms free) (F0 m pc ls rest) := by
  intro T hT X
  have htr : e.platform.stackTraces = false := (show e.platform.stackTraces = l.stackTraces by rw [X.admits.platform]).trans hl
  have Y := vx_rebase X (R' := { frames := R.frames, locals := R.locals, cells := 1, slots := 6 }) (Nat.le_refl _) (Nat.le_refl _) hRcells hRslots
  obtain ⟨s', hA⟩ : ∃ z, z = (T.setVm s.vm).setFrames (.invoking m args :: below) := ⟨_, rfl⟩
  rw [← hA] at Y
  have hvm : s'.vm = s.vm := by rw [hA]; rfl
  have hhp : s'.heap = H := by rw [hA]; exact hT
  have hW0 : s.WarmedH s'.vm := by rw [hvm]; exact State.WarmedH.refl s
  have hat' : ∀ w ∈ vx_at0 own ic cls names, w.before args s' = true := fun w hw => vx_ot_at hW0 hvm.symm (hgood w (List.mem_cons_of_mem _ (List.mem_cons_of_mem _ hw))) (hat w hw)
  have hk' : (Cond.classLink own ik cls).before args s' = true := vx_ot_at hW0 hvm.symm (hgood _ List.mem_cons_self) hk
  have hini' : (Cond.initialized cls).before args s' = true := vx_ot_at hW0 hvm.symm (hgood _ (List.mem_cons_of_mem _ List.mem_cons_self)) hini
  have hU' : vx_Zq Bundle.tN "UNASSIGNED_STACK" Bundle.steD A s' s'.heap := by rw [hhp]; exact vx_Zq.moved hW0.alike (hU.kept hS.2.1)
  have hN' : vx_Zq Bundle.tN "SUPPRESSED_SENTINEL" Bundle.listD A s' s'.heap := by rw [hhp]; exact vx_Zq.moved hW0.alike (hN.kept hS.2.1)
  have h : ∀ w ∈ Bundle.ownAtoms0 own ic cls names, w.before args s' = true := vx_own hat' (vx_isRefq hU'.1) (vx_isRefq hN'.1) hU'.2.word hN'.2.word
  have hown' : s'.vm.findClass own = some m.cls := by rw [hvm]; exact hown
  have hins : (Cond.instantiable cls 6).before args s' = true := h _ (by simp [Bundle.ownAtoms0])
  obtain ⟨vm₁, cX, kX, hfX, hkX, -, -, X₁, st1⟩ := Y.newCold hexec (own := own) (C := cls) (index := ik) (n := 6) hown' hk' hins hini'
    (g := F0 m pc ls rest) rfl (by rw [hb]; exact d0) (Nat.le_refl _) (Nat.le_refl _)
  generalize hT1 : (T.setVm vm₁).pushCell { cls := cX, slots := kX.instanceTypes.map defaultValue, vm := .none } = T1 at X₁ st1
  have hcat : (Value.ref T.heap.size).category = 1 := rfl
  have hcellA : T1.heap[T.heap.size]? = some (freshCell cX kX) := by rw [← hT1]; exact State.heap_pushCell_size _ _
  have d3' : decode c.code (pc + 3) = .ok (.dup, 1) := by rw [hb]; exact d3
  obtain ⟨U, hsteps, hrun, hend, hW, hsame, ce, hce, hO⟩ := X₁.ctorThrow0 hexec htr (own := own) (cls := cls) (names := names) (ic := ic) hown' hcls hnames h (fun x hx => nomatch hx) hfX hkX hcellA (by rw [hhp, hT]; exact Nat.le_refl _)
    (g := { method := m, pc := pc + 4, locals := ls, stack := .ref T.heap.size :: .ref T.heap.size :: rest, locked := none }) rfl hsize rfl rfl (rest := rest) rfl
    (by rw [hb]; exact d4) (by rw [hb]; exact d7) hout hRframes (by simp only [List.map_cons, List.sum_cons, hcat]; omega) hlocks
  obtain ⟨f1, f2⟩ := vx_frame hsame
  rw [hhp] at f1 f2
  have hWs : s.WarmedH U.vm := State.WarmedH.trans hW0 hW
  have hcl : s.vm.findClass cls = some ce.cls := by
    have h9 := hO.cls
    rw [hvm] at h9
    exact h9
  have hall : s.sameButNew ({ U with vm := s.vm } : State) locs mc ms := by
    subst hA
    obtain ⟨e1, e2⟩ := hsame
    rw [State.setFrames_setFrames] at e1
    have h2 : (T.setVm s.vm).sameButNew ({ U with vm := s.vm } : State) [] (0 + 1) (0 + 6) := ⟨e1, e2⟩
    have h3 := X.same.trans h2
    rw [List.append_nil] at h3
    exact h3.mono hc hs
  refine ⟨U, ?_, .threw T.heap.size, hrun, hend, Or.inr ⟨T.heap.size, rfl, cls, ce, locs, hx U hWs.alike f1 (fun q hq => f2 q hq (fun z hz => nomatch hz)), hce, hO.vm, hcl, hWs, hall, hf⟩⟩
  refine st1 _ ?_
  show Steps p.tables e below (T1.setTop { method := m, pc := pc + 3, locals := ls, stack := .ref T.heap.size :: rest, locked := none }) _
  jvm_step X₁.here [X₁.here.top, hexec, d3', Value.category]
  exact hsteps
/-- 'throw new E("text")': new; dup; ldc; invokespecial; athrow -/
theorem vx_throwS {cc : ByteArray} {pc : Nat} (hexec : p.tables.exec = Jvm.exec) (hb : c.code = cc) (hl : l.stackTraces = false) {own cls text : String} {names : List String} {ik is ic mc ms sa : Nat} {A : Nat → Prop}
    (hown : s.vm.findClass own = some m.cls) (hcls : Bundle.fit cls = true) (hnames : ∀ n ∈ names, Bundle.fit n = true)
    (hk : (Cond.classLink own ik cls).before args s = true) (hini : (Cond.initialized cls).before args s = true) (hstr : vk_R own is text sa s) (hat : ∀ w ∈ vx_atS own ic cls names, w.before args s = true)
    (hgood : ∀ w ∈ Cond.classLink own ik cls :: Cond.initialized cls :: vx_atS own ic cls names, vx_ot w = true)
    (hU : vx_Zq Bundle.tN "UNASSIGNED_STACK" Bundle.steD A s s.heap) (hN : vx_Zq Bundle.tN "SUPPRESSED_SENTINEL" Bundle.listD A s s.heap) (hS : va_S A s.heap H locs) (hsize : ls.size = c.maxLocals)
    (d0 : decode cc pc = .ok (.new ik, 3)) (d3 : decode cc (pc + 3) = .ok (.dup, 1)) (d4 : decode cc (pc + 4) = .ok (.ldc is, 2)) (d6 : decode cc (pc + 6) = .ok (.invokespecial ic, 3)) (d9 : decode cc (pc + 9) = .ok (.athrow, 1))
    (hout : ∀ x ∈ c.exceptionTable.toList, covers x (pc + 9) = false)
    (hRframes : names.length + 3 < R.frames) (hRlocals : (rest.map fun v => v.category).sum + (13 * (names.length + 1) + 43) ≤ R.locals) (hRcells : cells + 1 ≤ R.cells) (hRslots : slots + 6 ≤ R.slots) (hlocks : meth.locks = false)
    (hx : ∀ t : State, s.vm.Alike t.vm → H.size ≤ t.heap.size → (∀ q : Nat, q < H.size → t.heap[q]? = H[q]?) → XC cls s t)
    (hf : ∀ z ∈ locs, free z.base) (hc : cells + 1 ≤ mc) (hs : slots + 6 ≤ ms) :
    W p l e R s m args below meth c H locs cells slots (vx_MQ below Qc XC args s mc ms free) (F0 m pc ls rest) := by
  intro T hT X
  have htr : e.platform.stackTraces = false := (show e.platform.stackTraces = l.stackTraces by rw [X.admits.platform]).trans hl
  have Y := vx_rebase X (R' := { frames := R.frames, locals := R.locals, cells := 1, slots := 6 }) (Nat.le_refl _) (Nat.le_refl _) hRcells hRslots
  obtain ⟨s', hA⟩ : ∃ z, z = (T.setVm s.vm).setFrames (.invoking m args :: below) := ⟨_, rfl⟩
  rw [← hA] at Y
  have hvm : s'.vm = s.vm := by rw [hA]; rfl
  have hhp : s'.heap = H := by rw [hA]; exact hT
  have hW0 : s.WarmedH s'.vm := by rw [hvm]; exact State.WarmedH.refl s
  have hat' : ∀ w ∈ vx_atS own ic cls names, w.before args s' = true := fun w hw => vx_ot_at hW0 hvm.symm (hgood w (List.mem_cons_of_mem _ (List.mem_cons_of_mem _ hw))) (hat w hw)
  have hk' : (Cond.classLink own ik cls).before args s' = true := vx_ot_at hW0 hvm.symm (hgood _ List.mem_cons_self) hk
  have hini' : (Cond.initialized cls).before args s' = true := vx_ot_at hW0 hvm.symm (hgood _ (List.mem_cons_of_mem _ List.mem_cons_self)) hini
  have hU' : vx_Zq Bundle.tN "UNASSIGNED_STACK" Bundle.steD A s' s'.heap := by rw [hhp]; exact vx_Zq.moved hW0.alike (hU.kept hS.2.1)
  have hN' : vx_Zq Bundle.tN "SUPPRESSED_SENTINEL" Bundle.listD A s' s'.heap := by rw [hhp]; exact vx_Zq.moved hW0.alike (hN.kept hS.2.1)
  have h : ∀ w ∈ Bundle.ownAtoms own ic cls names, w.before args s' = true := vx_own hat' (vx_isRefq hU'.1) (vx_isRefq hN'.1) hU'.2.word hN'.2.word
  have hown' : s'.vm.findClass own = some m.cls := by rw [hvm]; exact hown
  have hins : (Cond.instantiable cls 6).before args s' = true := h _ (by simp [Bundle.ownAtoms])
  obtain ⟨vm₁, cX, kX, hfX, hkX, -, -, X₁, st1⟩ := Y.newCold hexec (own := own) (C := cls) (index := ik) (n := 6) hown' hk' hins hini'
    (g := F0 m pc ls rest) rfl (by rw [hb]; exact d0) (Nat.le_refl _) (Nat.le_refl _)
  generalize hT1 : (T.setVm vm₁).pushCell { cls := cX, slots := kX.instanceTypes.map defaultValue, vm := .none } = T1 at X₁ st1
  have hcat : (Value.ref T.heap.size).category = 1 := rfl
  have hcellA : T1.heap[T.heap.size]? = some (freshCell cX kX) := by rw [← hT1]; exact State.heap_pushCell_size _ _
  have d3' : decode c.code (pc + 3) = .ok (.dup, 1) := by rw [hb]; exact d3
  have d4' : decode c.code (pc + 4) = .ok (.ldc is, 2) := by rw [hb]; exact d4
  have hstr' : vk_R own is text sa s' := vk_R.warm hW0 hstr
  obtain ⟨U, hsteps, hrun, hend, hW, hsame, ce, hce, hO⟩ := X₁.ctorThrowS hexec htr (own := own) (cls := cls) (names := names) (ic := ic) hown' hcls hnames h (fun x hx => nomatch hx) hfX hkX hcellA (by rw [hhp, hT]; exact Nat.le_refl _) (msg := .ref sa) rfl
    (g := { method := m, pc := pc + 6, locals := ls, stack := .ref sa :: .ref T.heap.size :: .ref T.heap.size :: rest, locked := none }) rfl hsize rfl rfl (rest := rest) rfl
    (by rw [hb]; exact d6) (by rw [hb]; exact d9) hout hRframes (by simp only [List.map_cons, List.sum_cons, hcat]; omega) hlocks
  obtain ⟨f1, f2⟩ := vx_frame hsame
  rw [hhp] at f1 f2
  have hWs : s.WarmedH U.vm := State.WarmedH.trans hW0 hW
  have hcl : s.vm.findClass cls = some ce.cls := by
    have h9 := hO.cls
    rw [hvm] at h9
    exact h9
  have hall : s.sameButNew ({ U with vm := s.vm } : State) locs mc ms := by
    subst hA
    obtain ⟨e1, e2⟩ := hsame
    rw [State.setFrames_setFrames] at e1
    have h2 : (T.setVm s.vm).sameButNew ({ U with vm := s.vm } : State) [] (0 + 1) (0 + 6) := ⟨e1, e2⟩
    have h3 := X.same.trans h2
    rw [List.append_nil] at h3
    exact h3.mono hc hs
  refine ⟨U, ?_, .threw T.heap.size, hrun, hend, Or.inr ⟨T.heap.size, rfl, cls, ce, locs, hx U hWs.alike f1 (fun q hq => f2 q hq (fun z hz => nomatch hz)), hce, hO.vm, hcl, hWs, hall, hf⟩⟩
  refine st1 _ ?_
  show Steps p.tables e below (T1.setTop { method := m, pc := pc + 3, locals := ls, stack := .ref T.heap.size :: rest, locked := none }) _
  jvm_step X₁.here [X₁.here.top, hexec, d3', Value.category]
  exact X₁.ldcString hexec (own := own) (text := text) (index := is) (a := sa) hown' hstr'.1 hstr'.2
    (g := { method := m, pc := pc + 4, locals := ls, stack := .ref T.heap.size :: .ref T.heap.size :: rest, locked := none }) rfl d4' _ hsteps
/-- 'throw new E("text")', the text by a wide index -/
theorem vx_throwSW {cc : ByteArray} {pc : Nat} (hexec : p.tables.exec = Jvm.exec) (hb : c.code = cc) (hl : l.stackTraces = false) {own cls text : String} {names : List String} {ik is ic mc ms sa : Nat} {A : Nat → Prop}
    (hown : s.vm.findClass own = some m.cls) (hcls : Bundle.fit cls = true) (hnames : ∀ n ∈ names, Bundle.fit n = true)
    (hk : (Cond.classLink own ik cls).before args s = true) (hini : (Cond.initialized cls).before args s = true) (hstr : vk_R own is text sa s) (hat : ∀ w ∈ vx_atS own ic cls names, w.before args s = true)
    (hgood : ∀ w ∈ Cond.classLink own ik cls :: Cond.initialized cls :: vx_atS own ic cls names, vx_ot w = true)
    (hU : vx_Zq Bundle.tN "UNASSIGNED_STACK" Bundle.steD A s s.heap) (hN : vx_Zq Bundle.tN "SUPPRESSED_SENTINEL" Bundle.listD A s s.heap) (hS : va_S A s.heap H locs) (hsize : ls.size = c.maxLocals)
    (d0 : decode cc pc = .ok (.new ik, 3)) (d3 : decode cc (pc + 3) = .ok (.dup, 1)) (d4 : decode cc (pc + 4) = .ok (.ldc_w is, 3)) (d7 : decode cc (pc + 7) = .ok (.invokespecial ic, 3)) (d10 : decode cc (pc + 10) = .ok (.athrow, 1))
    (hout : ∀ x ∈ c.exceptionTable.toList, covers x (pc + 10) = false)
    (hRframes : names.length + 3 < R.frames) (hRlocals : (rest.map fun v => v.category).sum + (13 * (names.length + 1) + 43) ≤ R.locals) (hRcells : cells + 1 ≤ R.cells) (hRslots : slots + 6 ≤ R.slots) (hlocks : meth.locks = false)
    (hx : ∀ t : State, s.vm.Alike t.vm → H.size ≤ t.heap.size → (∀ q : Nat, q < H.size → t.heap[q]? = H[q]?) → XC cls s t)
    (hf : ∀ z ∈ locs, free z.base) (hc : cells + 1 ≤ mc) (hs : slots + 6 ≤ ms) :
    W p l e R s m args below meth c H locs cells slots (vx_MQ below Qc XC args s mc ms free) (F0 m pc ls rest) := by
  intro T hT X
  have htr : e.platform.stackTraces = false := (show e.platform.stackTraces = l.stackTraces by rw [X.admits.platform]).trans hl
  have Y := vx_rebase X (R' := { frames := R.frames, locals := R.locals, cells := 1, slots := 6 }) (Nat.le_refl _) (Nat.le_refl _) hRcells hRslots
  obtain ⟨s', hA⟩ : ∃ z, z = (T.setVm s.vm).setFrames (.invoking m args :: below) := ⟨_, rfl⟩
  rw [← hA] at Y
  have hvm : s'.vm = s.vm := by rw [hA]; rfl
  have hhp : s'.heap = H := by rw [hA]; exact hT
  have hW0 : s.WarmedH s'.vm := by rw [hvm]; exact State.WarmedH.refl s
  have hat' : ∀ w ∈ vx_atS own ic cls names, w.before args s' = true := fun w hw => vx_ot_at hW0 hvm.symm (hgood w (List.mem_cons_of_mem _ (List.mem_cons_of_mem _ hw))) (hat w hw)
  have hk' : (Cond.classLink own ik cls).before args s' = true := vx_ot_at hW0 hvm.symm (hgood _ List.mem_cons_self) hk
  have hini' : (Cond.initialized cls).before args s' = true := vx_ot_at hW0 hvm.symm (hgood _ (List.mem_cons_of_mem _ List.mem_cons_self)) hini
  have hU' : vx_Zq Bundle.tN "UNASSIGNED_STACK" Bundle.steD A s' s'.heap := by rw [hhp]; exact vx_Zq.moved hW0.alike (hU.kept hS.2.1)
  have hN' : vx_Zq Bundle.tN "SUPPRESSED_SENTINEL" Bundle.listD A s' s'.heap := by rw [hhp]; exact vx_Zq.moved hW0.alike (hN.kept hS.2.1)
  have h : ∀ w ∈ Bundle.ownAtoms own ic cls names, w.before args s' = true := vx_own hat' (vx_isRefq hU'.1) (vx_isRefq hN'.1) hU'.2.word hN'.2.word
  have hown' : s'.vm.findClass own = some m.cls := by rw [hvm]; exact hown
  have hins : (Cond.instantiable cls 6).before args s' = true := h _ (by simp [Bundle.ownAtoms])
  obtain ⟨vm₁, cX, kX, hfX, hkX, -, -, X₁, st1⟩ := Y.newCold hexec (own := own) (C := cls) (index := ik) (n := 6) hown' hk' hins hini'
    (g := F0 m pc ls rest) rfl (by rw [hb]; exact d0) (Nat.le_refl _) (Nat.le_refl _)
  generalize hT1 : (T.setVm vm₁).pushCell { cls := cX, slots := kX.instanceTypes.map defaultValue, vm := .none } = T1 at X₁ st1
  have hcat : (Value.ref T.heap.size).category = 1 := rfl
  have hcellA : T1.heap[T.heap.size]? = some (freshCell cX kX) := by rw [← hT1]; exact State.heap_pushCell_size _ _
  have d3' : decode c.code (pc + 3) = .ok (.dup, 1) := by rw [hb]; exact d3
  have d4' : decode c.code (pc + 4) = .ok (.ldc_w is, 3) := by rw [hb]; exact d4
  have hstr' : vk_R own is text sa s' := vk_R.warm hW0 hstr
  obtain ⟨U, hsteps, hrun, hend, hW, hsame, ce, hce, hO⟩ := X₁.ctorThrowS hexec htr (own := own) (cls := cls) (names := names) (ic := ic) hown' hcls hnames h (fun x hx => nomatch hx) hfX hkX hcellA (by rw [hhp, hT]; exact Nat.le_refl _) (msg := .ref sa) rfl
    (g := { method := m, pc := pc + 7, locals := ls, stack := .ref sa :: .ref T.heap.size :: .ref T.heap.size :: rest, locked := none }) rfl hsize rfl rfl (rest := rest) rfl
    (by rw [hb]; exact d7) (by rw [hb]; exact d10) hout hRframes (by simp only [List.map_cons, List.sum_cons, hcat]; omega) hlocks
  obtain ⟨f1, f2⟩ := vx_frame hsame
  rw [hhp] at f1 f2
  have hWs : s.WarmedH U.vm := State.WarmedH.trans hW0 hW
  have hcl : s.vm.findClass cls = some ce.cls := by
    have h9 := hO.cls
    rw [hvm] at h9
    exact h9
  have hall : s.sameButNew ({ U with vm := s.vm } : State) locs mc ms := by
    subst hA
    obtain ⟨e1, e2⟩ := hsame
    rw [State.setFrames_setFrames] at e1
    have h2 : (T.setVm s.vm).sameButNew ({ U with vm := s.vm } : State) [] (0 + 1) (0 + 6) := ⟨e1, e2⟩
    have h3 := X.same.trans h2
    rw [List.append_nil] at h3
    exact h3.mono hc hs
  refine ⟨U, ?_, .threw T.heap.size, hrun, hend, Or.inr ⟨T.heap.size, rfl, cls, ce, locs, hx U hWs.alike f1 (fun q hq => f2 q hq (fun z hz => nomatch hz)), hce, hO.vm, hcl, hWs, hall, hf⟩⟩
  refine st1 _ ?_
  show Steps p.tables e below (T1.setTop { method := m, pc := pc + 3, locals := ls, stack := .ref T.heap.size :: rest, locked := none }) _
  jvm_step X₁.here [X₁.here.top, hexec, d3', Value.category]
  exact X₁.ldcStringW hexec (own := own) (text := text) (index := is) (a := sa) hown' hstr'.1 hstr'.2
    (g := { method := m, pc := pc + 4, locals := ls, stack := .ref T.heap.size :: .ref T.heap.size :: rest, locked := none }) rfl d4' _ hsteps
end Ends
section Bodies
variable {l : Launch}
theorem vx_ofW {y : MethodName} {ws ws' : List Cond} {rm : Room} {Pc : Array Value → State → Prop} {Qc : Array Value → State → Outcome → State → Prop} {XC : String → State → State → Prop} {mc ms : Nat} {free : Addr → Prop} {cc : ByteArray} {maxL : Nat} {ret : Option FieldType}
    (hy : plainName y.cls = true) (hw : ws = Cond.code y cc maxL ret :: ws')
    (body : ∀ p e s m args below meth c s₁, BodyLoose p l y (headSpec ws rm) cc maxL ret e s m args below meth c s₁ → c.maxLocals = maxL → (∀ x ∈ c.exceptionTable.toList, False) → Pc args s →
      W p l e (headSpec ws rm).room s m args below meth c s.heap [] 0 0 (vx_MQ below Qc XC args s mc ms free) (entryFrame m args maxL)) : vx_Met l y ws rm Pc Qc XC mc ms free := by
  refine MetFree.of_bodyS (code := cc) (maxLocals := maxL) (ret := ret) hy ?_ ?_
  · intro args s m h hn
    obtain ⟨meth, c, h1, h2, h3, h4, h5, h6, -, -⟩ := Cond.code_spec hn (atoms_spec (ws := ws) h _ (by rw [hw]; exact List.mem_cons_self))
    exact ⟨meth, c, h1, h2, h3, h4, h5, h6⟩
  · intro p e s m args below meth c s₁ B hml hP _
    have hh0 : s₁.heap = s.heap := by rw [B.state]; rfl
    have ht : ∀ x ∈ c.exceptionTable.toList, False := by
      obtain ⟨meth9, c9, h1, h2, -, -, -, -, h7, -⟩ := Cond.code_spec B.named (atoms_spec (ws := ws) B.pre _ (by rw [hw]; exact List.mem_cons_self))
      cases Option.some.inj (h1.symm.trans B.method)
      cases Option.some.inj (h2.symm.trans (Stand.of_body B).code)
      intro x hx
      rw [Array.isEmpty_iff.mp h7] at hx
      cases hx
    obtain ⟨t, a1, o, b1, b2, b3⟩ := body p e s m args below meth c s₁ B hml ht hP s₁ hh0 (Stand.of_body B)
    exact ⟨t, o, a1, b1, b2, b3⟩
/-- the table of a body with handlers -/
theorem vx_table {p : Program} {x y : MethodName} {S : Spec} {cc bytes : ByteArray} {maxL maxL' : Nat} {ret ret' : Option FieldType} {e : Env} {s s₁ : State} {m : MethodId} {args : Array Value} {below : List Frame} {meth : Method} {c : Code} {hh : List (Nat × Nat × Nat × Nat)}
    (B : BodyLoose p l y S cc maxL ret e s m args below meth c s₁) (h : (Cond.codeWith y bytes maxL' ret' hh).before args s = true) : c.exceptionTable.toList = tableOf hh := by
  obtain ⟨m9, meth9, c9, hn9, h1, h2, -, -, h6, -⟩ := Cond.codeWith_spec h
  cases Option.some.inj (hn9.symm.trans B.named)
  cases Option.some.inj (h1.symm.trans B.method)
  cases Option.some.inj (h2.symm.trans (Stand.of_body B).code)
  rw [← h6, table_eq]
end Bodies
end VXA
/-! ===== END ===== -/
/-! ===== BEGIN a static call of a method with an exception table ===== -/
section VXS
variable {p : Program} {l : Launch} {e : Env} {R : Room} {s : State} {m : MethodId} {args : Array Value} {below : List Frame} {meth : Method} {c : Code} {T : State} {H : Heap} {locs : List Loc} {cells slots : Nat}
abbrev vx_CSW (R : Room) (s : State) (args : Array Value) (own : String) (index : Nat) (y : MethodName) (bytes : ByteArray) (maxL : Nat) (ret : Option FieldType) (hh : List (Nat × Nat × Nat × Nat)) (ws : List Cond) (rm : Room) (mc ms n : Nat) : Prop :=
  (rm.cells = mc ∧ rm.slots = ms ∧ rm.frames + 1 ≤ R.frames ∧ 8 + (maxL + 11) + rm.locals ≤ R.locals ∧ (∀ w ∈ ws, ∀ (a' : Array Value) (U : State), s.WarmedH U.vm → w.before a' U = true) ∧ Cond.codeWith y bytes maxL ret hh ∈ ws) ∧
  (Cond.codeWith y bytes maxL ret hh).before args s = true ∧ (Cond.initialized y.cls).before args s = true ∧ (y.cls ≠ "java/lang/invoke/MethodHandle" ∧ y.cls ≠ "java/lang/invoke/VarHandle") ∧
  (∀ sig, parseMethodDescriptor y.desc = some sig → n = sig.parameters.length) ∧ (Cond.methodLink own index y).before args s = true ∧ (Cond.static y).before args s = true
theorem vx_cwSW {own : String} {index maxL mc ms : Nat} {y : MethodName} {bytes : ByteArray} {ret : Option FieldType} {hh : List (Nat × Nat × Nat × Nat)} {Ts ws ws' : List Cond} {rm : Room} (n : Nat) (ht : ∀ w ∈ Ts, w.before args s = true) (hT : GoodIn Ts (va_wsS own index y ws)) (hw : ws = Cond.codeWith y bytes maxL ret hh :: ws') (hrc : rm.cells = mc) (hrs : rm.slots = ms)
    (hd : y.cls ≠ "java/lang/invoke/MethodHandle" ∧ y.cls ≠ "java/lang/invoke/VarHandle" ∧ (parseMethodDescriptor y.desc).map (fun d => d.parameters.length) = some n) (hR : rm.frames + 1 ≤ R.frames ∧ 8 + (maxL + 11) + rm.locals ≤ R.locals) :
    vx_CSW R s args own index y bytes maxL ret hh ws rm mc ms n := by
  have ok : ∀ w ∈ va_wsS own index y ws, w.before args s = true := fun w h => ht w (hT w h).1
  have hG : GoodIn Ts ws := fun w h => hT w (by unfold va_wsS; exact List.mem_append_right _ h)
  have hc : Cond.codeWith y bytes maxL ret hh ∈ ws := by rw [hw]; exact List.mem_cons_self
  refine ⟨⟨hrc, hrs, hR.1, hR.2, pay_in ht hG, hc⟩, ht _ (hG _ hc).1, ok _ (by simp [va_wsS]), ⟨hd.1, hd.2.1⟩, fun sig h => ?_, ok _ (by simp [va_wsS]), ok _ (by simp [va_wsS])⟩
  have h2 := hd.2.2
  rw [h] at h2
  exact (Option.some.inj h2).symm
theorem vx_callSW (X : Stand p l e R s m args below meth c T locs cells slots) (hexec : p.tables.exec = Jvm.exec) {own : String} {index : Nat} {y : MethodName} {bytes : ByteArray} {maxL : Nat} {ret : Option FieldType} {hh : List (Nat × Nat × Nat × Nat)}
    (hown : s.vm.findClass own = some m.cls) (hlink : (Cond.methodLink own index y).before args s = true) (hstat : (Cond.static y).before args s = true) (hinit : (Cond.initialized y.cls).before args s = true)
    (hcode : (Cond.codeWith y bytes maxL ret hh).before args s = true) (hy : y.cls ≠ "java/lang/invoke/MethodHandle" ∧ y.cls ≠ "java/lang/invoke/VarHandle")
    {W9 : Nat} {Pre : Pt → Array Value → Prop} {Post : Pt → Array Value → Option Value → Pt → Prop} (hK : Back l R p e below s args y 3 W9 Pre Post)
    {g : JFrame} (hg : g.method = m) (hsize : g.locals.size = c.maxLocals) {argsL rest : List Value} (hlen : ∀ sig, parseMethodDescriptor y.desc = some sig → argsL.length = sig.parameters.length)
    (hstack : g.stack = argsL.reverse ++ rest) (hW : 2 * g.monitorRoom + (rest.map fun v => v.category).sum ≤ W9) (hdg : decode c.code g.pc = .ok (.invokestatic index, 3))
    (hpre : ∀ vm₁, s.WarmedH vm₁ → Pre ⟨T.setVm vm₁, locs, cells, slots⟩ argsL.toArray) :
    ∃ (v : Option Value) (vm₁ : Vm) (B : Pt), s.WarmedH vm₁ ∧ Stand p l e R s m args below meth c B.U B.locs B.cells B.slots ∧ Post ⟨T.setVm vm₁, locs, cells, slots⟩ argsL.toArray v B ∧
      ∀ target, Steps p.tables e below (B.U.setTop { g with pc := g.pc + 3, stack := v.toList ++ rest }) target → Steps p.tables e below (T.setTop g) target := by
  obtain ⟨mk, methM, cM, hnamed, hmethM, -, -, -, -, -, -, hsigM⟩ := Cond.codeWith_spec hcode
  have hstatic : methM.isStatic = true := Cond.static_spec hnamed hmethM hstat
  obtain ⟨kP, hkP, -⟩ := className_of_methodNamed hnamed
  have hinitP : kP.init = .initialized := Cond.initialized_spec (findClass_of_methodNamed hnamed) hkP hinit
  obtain ⟨vm₁, X₁, hstep₁⟩ := X.invokestatic hexec hown hlink hnamed hmethM hstatic hkP hinitP hy (g := g) hg (argsL := argsL) (rest := rest) (hlen _ hsigM) hstack hdg
  obtain ⟨v, B, X', hpost, hsteps⟩ := hK m meth c ⟨T.setVm vm₁, locs, cells, slots⟩ { g with stack := rest } (.invokestatic index) mk argsL.toArray X₁ hg hsize hdg hW (X₁.named hnamed) (hpre vm₁ X₁.warmed)
  exact ⟨v, vm₁, B, X₁.warmed, X', hpost, fun target h => hstep₁ _ fun acts => by rw [doInvoke_state]; exact hsteps.trans h⟩
theorem vx_runSW {y : MethodName} {bytes cc : ByteArray} {maxL nL mc ms n index : Nat} {ret : Option FieldType} {hh : List (Nat × Nat × Nat × Nat)} {ws : List Cond} {rm : Room} {Pc : Array Value → State → Prop} {Qc : Array Value → State → Outcome → State → Prop} {free : Addr → Prop} {Ts : List Cond} {own : String} {As rest : List Value} {g : JFrame}
    (S : CallFix p m c cc nL s args Ts own) (hM : Met l y ws rm Pc Qc mc ms free) (cw : vx_CSW R s args own index y bytes maxL ret hh ws rm mc ms n) (hp : PreS s H Pc As)
    (hg : g.method = m) (hn : As.length = n) (hsize : g.locals.size = nL) (hstack : g.stack = As.reverse ++ rest) (hW : 2 * g.monitorRoom + (rest.map fun v => v.category).sum ≤ 8) (hdg : decode cc g.pc = .ok (.invokestatic index, 3)) (hf : cells + mc ≤ R.cells ∧ slots + ms ≤ R.slots) :
    va_Run p l e R s m args below meth c H locs cells slots mc ms g rest (Qc As.toArray) (free) := by
  obtain ⟨⟨hrc, hrs, hfr, hlo, hws, hcw⟩, hcode, hini, hy, hlen, hl, hstt⟩ := cw
  have hK : Back l R p e below s args y 3 8 (PreOf R mc ms Pc) (PostOf Qc mc ms free) := va_backW (hh := hh) (bytes := bytes) (maxL := maxL) (ret := ret) hM hp.1 hrc hrs hfr hlo hws hcw (fun a' U hW => word_at hW (Or.inl (by first | rfl | simp [Cond.onTables, Cond.keeps, Cond.steady])) hini)
  obtain ⟨hx, hb, hml, ho, -⟩ := S
  intro T hT X
  obtain ⟨v, vm₁, ⟨U', l2, c2, s2⟩, hW₁, X', ⟨g', mk, t, L, e1, e2, hq, h1, hL, h2, h3⟩, st⟩ := vx_callSW X hx (hh := hh) (bytes := bytes) (maxL := maxL) (ret := ret) ho hl hstt hini hcode hy hK hg (hsize.trans hml.symm) (argsL := As) (rest := rest) (fun sig h => hn.trans (hlen sig h)) hstack hW (by rw [hb]; exact hdg)
    (fun vm₁ hW₁ => ⟨hf.1, hf.2, hp.2 (T.setVm vm₁) hT hW₁⟩)
  dsimp only [Pt.U, Pt.locs, Pt.cells, Pt.slots] at X' e1 e2 h1 h2 h3 st
  subst h1; subst h2; subst h3
  exact ⟨v, (T.setVm vm₁).calling g' mk As.toArray, t, U', L, hT, X', hL, e1, e2, hq, st⟩
/-- not caught here, past rows that name other classes: it goes on to the caller -/
theorem vx_outP {p : Program} {l : Launch} {e : Env} {R : Room} {s : State} {m : MethodId} {args : Array Value} {below : List Frame} {meth : Method} {c : Code} {H : Heap} {locs : List Loc} {cells slots : Nat} {free : Addr → Prop} {ls : Array Slot} {rest : List Value} {Qc : Array Value → State → Outcome → State → Prop} {XC : String → State → State → Prop}
    {pc : Nat} {own E : String} {ce : Cell} {q : Addr} {mc ms : Nat} (hown : s.vm.findClass own = some m.cls) (hlocks : meth.locks = false)
    (hpass : ∀ z ∈ c.exceptionTable.toList, covers z pc = false ∨ (z.catchType ≠ 0 ∧ ∃ nm : String, (Cond.classLink own z.catchType nm).before args s = true ∧ va_Nc E nm s)) (hcell : H[q]? = some ce) (hv : ce.vm = .none) (hcl : s.vm.findClass E = some ce.cls)
    (hx : ∀ t : State, t.heap = H → s.vm.Alike t.vm → XC E s t) (hf : ∀ z ∈ locs, free z.base) (hc : cells ≤ mc) (hs : slots ≤ ms) :
    vx_W p l e R s m args below meth c H locs cells slots (vx_MQ below Qc XC args s mc ms free) (F0 m pc ls rest) q := by
  intro T hT X
  have hpl : e.platform.magicAccessors = ({} : Platform).magicAccessors := by rw [X.admits.platform]
  obtain ⟨vm', hW', X', st⟩ := X.outThrough hlocks q (g := F0 m pc ls rest) rfl rfl rfl (cell := ce) (by rw [hT]; exact hcell) (by rw [hv]; rfl)
    (by obtain ⟨k9, h9, -⟩ := Vm.findClass_spec hcl; exact ⟨k9, h9⟩) (fun z hz => by
      rcases hpass z hz with h | ⟨hz0, nm, hl1, hn1⟩
      · exact Or.inl h
      · obtain ⟨c6, hc6, hcl6⟩ := Cond.classLink_spec hown hl1 e.platform hpl
        obtain ⟨a8, b8, h1, h2, h3⟩ := hn1
        cases Option.some.inj (h1.symm.trans hcl)
        cases Option.some.inj (h2.symm.trans hc6)
        exact Or.inr ⟨hz0, _, hcl6, h3⟩)
  obtain ⟨g₀, hfr⟩ := X'.frames_eq
  have hcell9 : ((T.setVm vm').setFrames (.throwing q :: below)).heap[q]? = some ce := by
    show T.heap[q]? = some ce
    rw [hT]; exact hcell
  have hend : Ended ((T.setVm vm').setFrames (.throwing q :: below)) below (.threw q) := State.frames_setFrames _ (State.cur_lt_of_frames hfr)
  refine ⟨(T.setVm vm').setFrames (.throwing q :: below), ?_, .threw q, X'.here.running, hend, Or.inr ⟨q, rfl, E, ce, locs, hx _ hT (X'.ends _).1.alike, hcell9, hv, hcl, (X'.ends _).1, (X'.ends _).2.mono hc hs, hf⟩⟩
  rw [X.pushThrowing_eq]
  exact st
/-- a thing of a world lies in the heap -/
theorem vx_lt {D : va_G} {cl : List vw_C} {ws : va_W} {H1 : Heap} (h : va_P D cl ws H1) {k : Nat} {q : Nat × va_E} (hk : ws[k]? = some q) : q.1 < H1.size := (h k q hk).lt
end VXS
/-! ===== END ===== -/
/-! ===== BEGIN methods with a table of their own: called by a name, returning or throwing ===== -/
section VXH
/-! vx_backW, vx_callVX, vx_callSX, vx_callVW, vx_runVW, vx_runVX, vx_runSX, vx_ofWH follow the same proofs as their sisters above (Free/Laws.lean, Shelf42/LK1.lean); vx_outP calls Shelf42/NT130.lean (outThrough). -/
section
variable {l : Launch} {R : Room} {p : Program} {e : Env} {below : List Frame} {s : State} {sargs : Array Value} {y : MethodName} {len W9 : Nat}
theorem vx_backW {ws : List Cond} {rm : Room} {Pc : Array Value → State → Prop} {Qc : Array Value → State → Outcome → State → Prop} {XC : String → State → State → Prop} {mc ms : Nat} {free : Addr → Prop} {bytes : ByteArray} {maxL : Nat} {ret : Option FieldType} {hh : List (Nat × Nat × Nat × Nat)}
    (hM : vx_Met l y ws rm Pc Qc XC mc ms free) (hblind : FrameBlind Pc) (hrc : rm.cells = mc) (hrs : rm.slots = ms)
    (hframes : rm.frames + 1 ≤ R.frames) (hlocals : W9 + (maxL + 11) + rm.locals ≤ R.locals)
    (hws : ∀ w ∈ ws, ∀ a' U, s.WarmedH U.vm → w.before a' U = true) (hcode : Cond.codeWith y bytes maxL ret hh ∈ ws) (hinit : ∀ a' U, s.WarmedH U.vm → (Cond.initialized y.cls).before a' U = true) :
    vx_Back l R p e below s sargs y len W9 (PreOf R mc ms Pc) (PostOf Qc mc ms free) (vx_Post XC mc ms free) := by
  intro m meth c A g ig mk a X hg hsize hdg hW hn hp
  have h1 : (headSpec ws rm).pre.before a A.U = true := atoms_intro fun w hw => hws w hw _ _ X.warmed
  have h2 : (Cond.codeWith y bytes maxL ret hh).before a A.U = true := hws _ hcode _ _ X.warmed
  have h3 : (Cond.initialized y.cls).before a A.U = true := hinit _ _ X.warmed
  have h4 : A.cells + (headSpec ws rm).room.cells ≤ R.cells := by rw [show (headSpec ws rm).room.cells = mc from hrc]; exact hp.1
  have h5 : A.slots + (headSpec ws rm).room.slots ≤ R.slots := by rw [show (headSpec ws rm).room.slots = ms from hrs]; exact hp.2.1
  have hPc : Pc a (A.U.calling g mk a) := hblind _ _ _ _ hp.2.2
  obtain ⟨U, Ls, c0, s0⟩ := A
  dsimp only [Pt.U, Pt.locs, Pt.cells, Pt.slots] at h1 h2 h3 h4 h5 X hn hPc ⊢
  obtain ⟨m9, methY, cY, hn9, hmY, hcY, -, hlY, -⟩ := Cond.codeWith_spec h2
  cases Option.some.inj (hn9.symm.trans hn)
  obtain ⟨kY, hkY, -⟩ := className_of_methodNamed hn
  have hinitY : kY.init = .initialized := Cond.initialized_spec (findClass_of_methodNamed hn) hkY h3
  have h : At U g.method c below := by rw [hg]; exact X.here
  have hlocals9 : W9 + (maxL + 11) + (headSpec ws rm).room.locals ≤ R.locals := hlocals
  have happ : (headSpec ws rm).appliesLoose y e.platform (U.calling g mk a) = true :=
    Spec.appliesLoose_calling (g := g) h hdg hn hkY hinitY
      (X.room_calling (g := g) (R' := (headSpec ws rm).room) hsize hmY hcY hframes (by rw [hlY]; omega) h4 h5) h1
  obtain ⟨mid, hmid⟩ := h.above
  have hfr : (U.setTop g).frames = (.java g :: mid) ++ below := by rw [State.frames_setTop' g h.top, hmid]; rfl
  obtain ⟨o, s₂, hsteps, -, hend, hq⟩ := Steps.callFree hM p X.admits X.cas X.clock (acts := []) hfr happ hPc trivial
  have hq' : vx_Q Qc XC mc ms free a (U.calling g mk a) o s₂ := hq
  rw [State.frames_setTop' g h.top] at hend
  obtain ⟨g₀, hg0⟩ := Option.isSome_iff_exists.mp h.top
  obtain ⟨r, hr⟩ := State.topJava?_eq_some.mp hg0
  have hr' : (({ U with heap := s₂.heap, slotsUsed := s₂.slotsUsed } : State).setVm s₂.vm).frames = .java g₀ :: r := hr
  rcases hq' with ⟨hqc, L, hfe, hL⟩ | ⟨q, rfl, E, ce, L, hx, hce, hcv, hcl, hW₂, hsm, hL⟩
  · obtain ⟨⟨v, rfl⟩, hW₂, e2, q2, q3, q4, q5, q6⟩ := id hfe
    have e3 : s₂ = ({ (U.calling g mk a).setFrames s₂.frames with heap := s₂.heap, slotsUsed := s₂.slotsUsed } : State).setVm s₂.vm := by
      have : s₂ = ({ s₂ with vm := (U.calling g mk a).vm } : State).setVm s₂.vm := rfl
      rw [e2] at this
      exact this
    obtain ⟨c₂, i₂, len₂, hc₂, hd₂, hf₂⟩ := hend
    have hW' : U.WarmedH s₂.vm := hW₂
    have hcc : c₂ = c := by
      have h1 : s₂.code? g.method = U.code? g.method := by
        rw [State.code?_eq, State.code?_eq, hW'.alike.method?]
      exact Option.some.inj (hc₂.symm.trans (h1.trans h.code))
    subst hcc
    have hlen : len₂ = len := by rw [hdg] at hd₂; cases hd₂; rfl
    subst hlen
    have hs₂ : s₂ = (({ U with heap := s₂.heap, slotsUsed := s₂.slotsUsed } : State).setVm s₂.vm).setTop { g with pc := g.pc + len₂, stack := v.toList ++ g.stack } := by
      refine e3.trans ?_
      rw [hf₂, State.calling_eq h.top, State.setFrames_setFrames, State.setTop_of_frames _ hr', hr]
      rfl
    have hsame : U.sameButNew ({ U with heap := s₂.heap, slotsUsed := s₂.slotsUsed } : State) L mc ms := by
      refine ⟨?_, q2, q3, q4, q5, q6⟩
      obtain ⟨t, ht, -⟩ := State.frames_cons hr
      show ({ U with heap := s₂.heap, slotsUsed := s₂.slotsUsed } : State) = { U.setFrames U.frames with heap := s₂.heap, slotsUsed := s₂.slotsUsed }
      rw [State.setFrames_self ht]
    subst hg
    refine Or.inl ⟨v, ⟨(({ U with heap := s₂.heap, slotsUsed := s₂.slotsUsed } : State).setVm s₂.vm), Ls ++ L, c0 + mc, s0 + ms⟩,
      ⟨X.admits, X.cas, X.clock, X.frames, X.room, X.hears, X.method, X.code, (X.here.setHeapUsed s₂.heap s₂.slotsUsed).setVm hW'.alike, X.tail, State.WarmedH.trans X.warmed hW', X.limits, X.bytes, X.same.trans (hsame.setVm s.vm)⟩,
      ⟨g, mk, s₂, L, rfl, rfl, hqc, rfl, hL, rfl, rfl⟩, ?_⟩
    show Steps p.tables e below _ ((({ U with heap := s₂.heap, slotsUsed := s₂.slotsUsed } : State).setVm s₂.vm).setTop { g with pc := g.pc + len₂, stack := v.toList ++ g.stack })
    rw [← hs₂]
    exact hsteps
  · obtain ⟨e2, q2, q3, q4, q5, q6⟩ := id hsm
    have e3 : s₂ = ({ (U.calling g mk a).setFrames s₂.frames with heap := s₂.heap, slotsUsed := s₂.slotsUsed } : State).setVm s₂.vm := by
      have : s₂ = ({ s₂ with vm := (U.calling g mk a).vm } : State).setVm s₂.vm := rfl
      rw [e2] at this
      exact this
    have hf₂ : s₂.frames = .throwing q :: .java g :: U.frames.tail := hend
    have hW' : U.WarmedH s₂.vm := hW₂
    have hs₂ : s₂ = ((({ U with heap := s₂.heap, slotsUsed := s₂.slotsUsed } : State).setVm s₂.vm).setTop g).pushFrame (.throwing q) := by
      refine e3.trans ?_
      rw [hf₂, State.calling_eq h.top, State.setFrames_setFrames, State.pushFrame, State.frames_setTop _ hr', State.setTop_of_frames _ hr', State.setFrames_setFrames, hr]
      rfl
    have hsame : U.sameButNew ({ U with heap := s₂.heap, slotsUsed := s₂.slotsUsed } : State) L mc ms := by
      refine ⟨?_, q2, q3, q4, q5, q6⟩
      obtain ⟨t, ht, -⟩ := State.frames_cons hr
      show ({ U with heap := s₂.heap, slotsUsed := s₂.slotsUsed } : State) = { U.setFrames U.frames with heap := s₂.heap, slotsUsed := s₂.slotsUsed }
      rw [State.setFrames_self ht]
    subst hg
    refine Or.inr ⟨q, ⟨(({ U with heap := s₂.heap, slotsUsed := s₂.slotsUsed } : State).setVm s₂.vm), Ls ++ L, c0 + mc, s0 + ms⟩,
      ⟨X.admits, X.cas, X.clock, X.frames, X.room, X.hears, X.method, X.code, (X.here.setHeapUsed s₂.heap s₂.slotsUsed).setVm hW'.alike, X.tail, State.WarmedH.trans X.warmed hW', X.limits, X.bytes, X.same.trans (hsame.setVm s.vm)⟩,
      ⟨g, mk, s₂, L, E, ce, rfl, rfl, hx, hce, hcv, hcl, rfl, hL, rfl, rfl⟩, ?_⟩
    show Steps p.tables e below _ (((({ U with heap := s₂.heap, slotsUsed := s₂.slotsUsed } : State).setVm s₂.vm).setTop g).pushFrame (.throwing q))
    rw [← hs₂]
    exact hsteps
end
variable {p : Program} {l : Launch} {e : Env} {R : Room} {s : State} {m : MethodId} {args : Array Value} {below : List Frame} {meth : Method} {c : Code} {T : State} {H : Heap} {locs : List Loc} {cells slots : Nat}
theorem vx_callVX (X : Stand p l e R s m args below meth c T locs cells slots) (hexec : p.tables.exec = Jvm.exec) {own C : String} {index : Nat} {y : MethodName} {bytes : ByteArray} {maxL : Nat} {ret : Option FieldType} {hh : List (Nat × Nat × Nat × Nat)}
    (hown : s.vm.findClass own = some m.cls) (hlink : (Cond.methodLink own index y).before args s = true) (hinst : (Cond.instanceMethod y).before args s = true) (hsel : (Cond.selects C y y).before args s = true)
    (hcode : (Cond.codeWith y bytes maxL ret hh).before args s = true) (hy : y.cls ≠ "java/lang/invoke/MethodHandle" ∧ y.cls ≠ "java/lang/invoke/VarHandle")
    {W9 : Nat} {Pre : Pt → Array Value → Prop} {Post : Pt → Array Value → Option Value → Pt → Prop} {PostX : Pt → Array Value → Addr → Pt → Prop} (hK : vx_Back l R p e below s args y 3 W9 Pre Post PostX)
    {b : Addr} {cellB : Cell} (hcell : T.heap[b]? = some cellB) (hobj : cellB.vm.isStatics = false) (hcls : s.vm.findClass C = some cellB.cls)
    {g : JFrame} (hg : g.method = m) (hsize : g.locals.size = c.maxLocals) {argsL rest : List Value} (hlen : ∀ sig, parseMethodDescriptor y.desc = some sig → argsL.length = sig.parameters.length)
    (hstack : g.stack = argsL.reverse ++ .ref b :: rest) (hW : 2 * g.monitorRoom + (rest.map fun v => v.category).sum ≤ W9) (hdg : decode c.code g.pc = .ok (.invokevirtual index, 3))
    (hpre : ∀ vm₁, s.WarmedH vm₁ → Pre ⟨T.setVm vm₁, locs, cells, slots⟩ (Value.ref b :: argsL).toArray) :
    (∃ (v : Option Value) (vm₁ : Vm) (B : Pt), s.WarmedH vm₁ ∧ Stand p l e R s m args below meth c B.U B.locs B.cells B.slots ∧ Post ⟨T.setVm vm₁, locs, cells, slots⟩ (Value.ref b :: argsL).toArray v B ∧
      ∀ target, Steps p.tables e below (B.U.setTop { g with pc := g.pc + 3, stack := v.toList ++ rest }) target → Steps p.tables e below (T.setTop g) target) ∨
    (∃ (q : Addr) (vm₁ : Vm) (B : Pt), s.WarmedH vm₁ ∧ Stand p l e R s m args below meth c B.U B.locs B.cells B.slots ∧ PostX ⟨T.setVm vm₁, locs, cells, slots⟩ (Value.ref b :: argsL).toArray q B ∧
      Steps p.tables e below (T.setTop g) ((B.U.setTop { g with stack := rest }).pushFrame (.throwing q))) := by
  obtain ⟨mk, methM, hnamed, hmethM, hstM, habM⟩ := Cond.instanceMethod_spec hinst
  obtain ⟨m8, methM', cM, hn8, hmethM', -, -, -, -, -, -, hsigM⟩ := Cond.codeWith_spec hcode
  cases Option.some.inj (hn8.symm.trans hnamed)
  cases hmethM.symm.trans hmethM'
  obtain ⟨c2, r2, m2, q1, q2, q3, q4, kP, hkP, hkPi⟩ := Cond.selects_spec hsel
  cases hcls.symm.trans q1
  cases (State.methodFound?_of_named hnamed hy).symm.trans q2
  cases hnamed.symm.trans q3
  have hselP : selectMethod e.platform s.vm cellB.cls mk = .method mk := by rw [Launch.admits_selectMethod X.admits]; exact q4
  obtain ⟨vm₁, X₁, hstep₁⟩ := X.invokevirtual hexec hown hlink hnamed hmethM hstM hkP hkPi hy (a := b) (cell := cellB) hcell
    (fun z h => by rw [h] at hobj; cases hobj) hselP hmethM habM hkP hkPi (g := g) hg (argsL := argsL) (rest := rest) (hlen _ hsigM) hstack hdg
  rcases hK m meth c ⟨T.setVm vm₁, locs, cells, slots⟩ { g with stack := rest } (.invokevirtual index) mk (Value.ref b :: argsL).toArray X₁ hg hsize hdg hW (X₁.named hnamed) (hpre vm₁ X₁.warmed) with ⟨v, B, X', hpost, hsteps⟩ | ⟨q, B, X', hpost, hsteps⟩
  · exact Or.inl ⟨v, vm₁, B, X₁.warmed, X', hpost, fun target h => hstep₁ _ fun acts => by rw [doInvoke_state]; exact hsteps.trans h⟩
  · exact Or.inr ⟨q, vm₁, B, X₁.warmed, X', hpost, hstep₁ _ fun acts => by rw [doInvoke_state]; exact hsteps⟩
theorem vx_callSX (X : Stand p l e R s m args below meth c T locs cells slots) (hexec : p.tables.exec = Jvm.exec) {own : String} {index : Nat} {y : MethodName} {bytes : ByteArray} {maxL : Nat} {ret : Option FieldType} {hh : List (Nat × Nat × Nat × Nat)}
    (hown : s.vm.findClass own = some m.cls) (hlink : (Cond.methodLink own index y).before args s = true) (hstat : (Cond.static y).before args s = true) (hinit : (Cond.initialized y.cls).before args s = true)
    (hcode : (Cond.codeWith y bytes maxL ret hh).before args s = true) (hy : y.cls ≠ "java/lang/invoke/MethodHandle" ∧ y.cls ≠ "java/lang/invoke/VarHandle")
    {W9 : Nat} {Pre : Pt → Array Value → Prop} {Post : Pt → Array Value → Option Value → Pt → Prop} {PostX : Pt → Array Value → Addr → Pt → Prop} (hK : vx_Back l R p e below s args y 3 W9 Pre Post PostX)
    {g : JFrame} (hg : g.method = m) (hsize : g.locals.size = c.maxLocals) {argsL rest : List Value} (hlen : ∀ sig, parseMethodDescriptor y.desc = some sig → argsL.length = sig.parameters.length)
    (hstack : g.stack = argsL.reverse ++ rest) (hW : 2 * g.monitorRoom + (rest.map fun v => v.category).sum ≤ W9) (hdg : decode c.code g.pc = .ok (.invokestatic index, 3))
    (hpre : ∀ vm₁, s.WarmedH vm₁ → Pre ⟨T.setVm vm₁, locs, cells, slots⟩ argsL.toArray) :
    (∃ (v : Option Value) (vm₁ : Vm) (B : Pt), s.WarmedH vm₁ ∧ Stand p l e R s m args below meth c B.U B.locs B.cells B.slots ∧ Post ⟨T.setVm vm₁, locs, cells, slots⟩ argsL.toArray v B ∧
      ∀ target, Steps p.tables e below (B.U.setTop { g with pc := g.pc + 3, stack := v.toList ++ rest }) target → Steps p.tables e below (T.setTop g) target) ∨
    (∃ (q : Addr) (vm₁ : Vm) (B : Pt), s.WarmedH vm₁ ∧ Stand p l e R s m args below meth c B.U B.locs B.cells B.slots ∧ PostX ⟨T.setVm vm₁, locs, cells, slots⟩ argsL.toArray q B ∧
      Steps p.tables e below (T.setTop g) ((B.U.setTop { g with stack := rest }).pushFrame (.throwing q))) := by
  obtain ⟨mk, methM, cM, hnamed, hmethM, -, -, -, -, -, -, hsigM⟩ := Cond.codeWith_spec hcode
  have hstatic : methM.isStatic = true := Cond.static_spec hnamed hmethM hstat
  obtain ⟨kP, hkP, -⟩ := className_of_methodNamed hnamed
  have hinitP : kP.init = .initialized := Cond.initialized_spec (findClass_of_methodNamed hnamed) hkP hinit
  obtain ⟨vm₁, X₁, hstep₁⟩ := X.invokestatic hexec hown hlink hnamed hmethM hstatic hkP hinitP hy (g := g) hg (argsL := argsL) (rest := rest) (hlen _ hsigM) hstack hdg
  rcases hK m meth c ⟨T.setVm vm₁, locs, cells, slots⟩ { g with stack := rest } (.invokestatic index) mk argsL.toArray X₁ hg hsize hdg hW (X₁.named hnamed) (hpre vm₁ X₁.warmed) with ⟨v, B, X', hpost, hsteps⟩ | ⟨q, B, X', hpost, hsteps⟩
  · exact Or.inl ⟨v, vm₁, B, X₁.warmed, X', hpost, fun target h => hstep₁ _ fun acts => by rw [doInvoke_state]; exact hsteps.trans h⟩
  · exact Or.inr ⟨q, vm₁, B, X₁.warmed, X', hpost, hstep₁ _ fun acts => by rw [doInvoke_state]; exact hsteps⟩
theorem vx_callVW (X : Stand p l e R s m args below meth c T locs cells slots) (hexec : p.tables.exec = Jvm.exec) {own C : String} {index : Nat} {y : MethodName} {bytes : ByteArray} {maxL : Nat} {ret : Option FieldType} {hh : List (Nat × Nat × Nat × Nat)}
    (hown : s.vm.findClass own = some m.cls) (hlink : (Cond.methodLink own index y).before args s = true) (hinst : (Cond.instanceMethod y).before args s = true) (hsel : (Cond.selects C y y).before args s = true)
    (hcode : (Cond.codeWith y bytes maxL ret hh).before args s = true) (hy : y.cls ≠ "java/lang/invoke/MethodHandle" ∧ y.cls ≠ "java/lang/invoke/VarHandle")
    {W9 : Nat} {Pre : Pt → Array Value → Prop} {Post : Pt → Array Value → Option Value → Pt → Prop} (hK : Back l R p e below s args y 3 W9 Pre Post)
    {b : Addr} {cellB : Cell} (hcell : T.heap[b]? = some cellB) (hobj : cellB.vm.isStatics = false) (hcls : s.vm.findClass C = some cellB.cls)
    {g : JFrame} (hg : g.method = m) (hsize : g.locals.size = c.maxLocals) {argsL rest : List Value} (hlen : ∀ sig, parseMethodDescriptor y.desc = some sig → argsL.length = sig.parameters.length)
    (hstack : g.stack = argsL.reverse ++ .ref b :: rest) (hW : 2 * g.monitorRoom + (rest.map fun v => v.category).sum ≤ W9) (hdg : decode c.code g.pc = .ok (.invokevirtual index, 3))
    (hpre : ∀ vm₁, s.WarmedH vm₁ → Pre ⟨T.setVm vm₁, locs, cells, slots⟩ (Value.ref b :: argsL).toArray) :
    ∃ (v : Option Value) (vm₁ : Vm) (B : Pt), s.WarmedH vm₁ ∧ Stand p l e R s m args below meth c B.U B.locs B.cells B.slots ∧ Post ⟨T.setVm vm₁, locs, cells, slots⟩ (Value.ref b :: argsL).toArray v B ∧
      ∀ target, Steps p.tables e below (B.U.setTop { g with pc := g.pc + 3, stack := v.toList ++ rest }) target → Steps p.tables e below (T.setTop g) target := by
  obtain ⟨mk, methM, hnamed, hmethM, hstM, habM⟩ := Cond.instanceMethod_spec hinst
  obtain ⟨m8, methM', cM, hn8, hmethM', -, -, -, -, -, -, hsigM⟩ := Cond.codeWith_spec hcode
  cases Option.some.inj (hn8.symm.trans hnamed)
  cases hmethM.symm.trans hmethM'
  obtain ⟨c2, r2, m2, q1, q2, q3, q4, kP, hkP, hkPi⟩ := Cond.selects_spec hsel
  cases hcls.symm.trans q1
  cases (State.methodFound?_of_named hnamed hy).symm.trans q2
  cases hnamed.symm.trans q3
  have hselP : selectMethod e.platform s.vm cellB.cls mk = .method mk := by rw [Launch.admits_selectMethod X.admits]; exact q4
  obtain ⟨vm₁, X₁, hstep₁⟩ := X.invokevirtual hexec hown hlink hnamed hmethM hstM hkP hkPi hy (a := b) (cell := cellB) hcell
    (fun z h => by rw [h] at hobj; cases hobj) hselP hmethM habM hkP hkPi (g := g) hg (argsL := argsL) (rest := rest) (hlen _ hsigM) hstack hdg
  obtain ⟨v, B, X', hpost, hsteps⟩ := hK m meth c ⟨T.setVm vm₁, locs, cells, slots⟩ { g with stack := rest } (.invokevirtual index) mk (Value.ref b :: argsL).toArray X₁ hg hsize hdg hW (X₁.named hnamed) (hpre vm₁ X₁.warmed)
  exact ⟨v, vm₁, B, X₁.warmed, X', hpost, fun target h => hstep₁ _ fun acts => by rw [doInvoke_state]; exact hsteps.trans h⟩
abbrev vx_CVW (R : Room) (s : State) (args : Array Value) (own C : String) (index : Nat) (y : MethodName) (bytes : ByteArray) (maxL : Nat) (ret : Option FieldType) (hh : List (Nat × Nat × Nat × Nat)) (ws : List Cond) (rm : Room) (mc ms n : Nat) : Prop :=
  (rm.cells = mc ∧ rm.slots = ms ∧ rm.frames + 1 ≤ R.frames ∧ 8 + (maxL + 11) + rm.locals ≤ R.locals ∧ (∀ w ∈ ws, ∀ (a' : Array Value) (U : State), s.WarmedH U.vm → w.before a' U = true) ∧ Cond.codeWith y bytes maxL ret hh ∈ ws) ∧
  (Cond.codeWith y bytes maxL ret hh).before args s = true ∧ (Cond.initialized y.cls).before args s = true ∧ (y.cls ≠ "java/lang/invoke/MethodHandle" ∧ y.cls ≠ "java/lang/invoke/VarHandle") ∧
  (∀ sig, parseMethodDescriptor y.desc = some sig → n = sig.parameters.length) ∧ (Cond.methodLink own index y).before args s = true ∧ (Cond.instanceMethod y).before args s = true ∧ (Cond.selects C y y).before args s = true
theorem vx_cwVW {own C : String} {index maxL mc ms : Nat} {y : MethodName} {bytes : ByteArray} {ret : Option FieldType} {hh : List (Nat × Nat × Nat × Nat)} {Ts ws ws' : List Cond} {rm : Room} (n : Nat) (ht : ∀ w ∈ Ts, w.before args s = true) (hT : GoodIn Ts (wsV own index C y ws)) (hw : ws = Cond.codeWith y bytes maxL ret hh :: ws') (hrc : rm.cells = mc) (hrs : rm.slots = ms)
    (hd : y.cls = C ∧ y.cls ≠ "java/lang/invoke/MethodHandle" ∧ y.cls ≠ "java/lang/invoke/VarHandle" ∧ (parseMethodDescriptor y.desc).map (fun d => d.parameters.length) = some n) (hR : rm.frames + 1 ≤ R.frames ∧ 8 + (maxL + 11) + rm.locals ≤ R.locals) :
    vx_CVW R s args own C index y bytes maxL ret hh ws rm mc ms n := by
  obtain ⟨hC, hd⟩ := hd
  subst hC
  have ok : ∀ w ∈ wsV own index y.cls y ws, w.before args s = true := fun w h => ht w (hT w h).1
  have hG : GoodIn Ts ws := fun w h => hT w (by unfold wsV; exact List.mem_append_right _ h)
  have hc : Cond.codeWith y bytes maxL ret hh ∈ ws := by rw [hw]; exact List.mem_cons_self
  refine ⟨⟨hrc, hrs, hR.1, hR.2, pay_in ht hG, hc⟩, ht _ (hG _ hc).1, ok _ (by simp [wsV]), ⟨hd.1, hd.2.1⟩, fun sig h => ?_, ok _ (by simp [wsV]), ok _ (by simp [wsV]), ok _ (by simp [wsV])⟩
  have h2 := hd.2.2
  rw [h] at h2
  exact (Option.some.inj h2).symm
theorem vx_runVW {y : MethodName} {bytes cc : ByteArray} {maxL nL mc ms n index : Nat} {ret : Option FieldType} {hh : List (Nat × Nat × Nat × Nat)} {ws : List Cond} {rm : Room} {Pc : Array Value → State → Prop} {Qc : Array Value → State → Outcome → State → Prop} {free : Addr → Prop} {Ts : List Cond} {own C : String} {b : Addr} {As rest : List Value} {g : JFrame}
    (S : CallFix p m c cc nL s args Ts own) (hM : Met l y ws rm Pc Qc mc ms free) (cw : vx_CVW R s args own C index y bytes maxL ret hh ws rm mc ms n) (hp : PreV s H C b Pc As)
    (hg : g.method = m) (hn : As.length = n) (hsize : g.locals.size = nL) (hstack : g.stack = As.reverse ++ .ref b :: rest) (hW : 2 * g.monitorRoom + (rest.map fun v => v.category).sum ≤ 8) (hdg : decode cc g.pc = .ok (.invokevirtual index, 3)) (hf : cells + mc ≤ R.cells ∧ slots + ms ≤ R.slots) :
    va_Run p l e R s m args below meth c H locs cells slots mc ms g rest (Qc (Value.ref b :: As).toArray) free := by
  obtain ⟨⟨hrc, hrs, hfr, hlo, hws, hcw⟩, hcode, hini, hy, hlen, hl, hin, hse⟩ := cw
  have hK : Back l R p e below s args y 3 8 (PreOf R mc ms Pc) (PostOf Qc mc ms free) := va_backW (hh := hh) (bytes := bytes) (maxL := maxL) (ret := ret) hM hp.1 hrc hrs hfr hlo hws hcw (fun a' U hW => word_at hW (Or.inl (by first | rfl | simp [Cond.onTables, Cond.keeps, Cond.steady])) hini)
  obtain ⟨hx, hb, hml, ho, -⟩ := S
  obtain ⟨-, ⟨cellB, hcB, hoB, hclB⟩, hPc⟩ := hp
  intro T hT X
  obtain ⟨v, vm₁, ⟨U', l2, c2, s2⟩, hW₁, X', ⟨g', mk, t, L, e1, e2, hq, h1, hL, h2, h3⟩, st⟩ := vx_callVW X hx (C := C) (hh := hh) (bytes := bytes) (maxL := maxL) (ret := ret) ho hl hin hse hcode hy hK (by rw [hT]; exact hcB) hoB hclB hg (hsize.trans hml.symm) (argsL := As) (rest := rest) (fun sig h => hn.trans (hlen sig h)) hstack hW (by rw [hb]; exact hdg)
    (fun vm₁ hW₁ => ⟨hf.1, hf.2, hPc (T.setVm vm₁) hT hW₁⟩)
  dsimp only [Pt.U, Pt.locs, Pt.cells, Pt.slots] at X' e1 e2 h1 h2 h3 st
  subst h1; subst h2; subst h3
  exact ⟨v, (T.setVm vm₁).calling g' mk (Value.ref b :: As).toArray, t, U', L, hT, X', hL, e1, e2, hq, st⟩
section
variable {y : MethodName} {bytes cc : ByteArray} {maxL nL mc ms n index : Nat} {ret : Option FieldType} {ws : List Cond} {rm : Room} {Pc : Array Value → State → Prop} {Qc : Array Value → State → Outcome → State → Prop} {XC : String → State → State → Prop} {free : Addr → Prop} {Ts : List Cond} {own C : String} {b : Addr} {As rest : List Value} {g : JFrame}
theorem vx_runVX {hh : List (Nat × Nat × Nat × Nat)} (S : CallFix p m c cc nL s args Ts own) (hM : vx_Met l y ws rm Pc Qc XC mc ms free) (cw : vx_CVW R s args own C index y bytes maxL ret hh ws rm mc ms n) (hp : PreV s H C b Pc As)
    (hg : g.method = m) (hn : As.length = n) (hsize : g.locals.size = nL) (hstack : g.stack = As.reverse ++ .ref b :: rest) (hW : 2 * g.monitorRoom + (rest.map fun v => v.category).sum ≤ 8) (hdg : decode cc g.pc = .ok (.invokevirtual index, 3)) (hf : cells + mc ≤ R.cells ∧ slots + ms ≤ R.slots) :
    vx_Run p l e R s m args below meth c H locs cells slots mc ms g rest (Qc (Value.ref b :: As).toArray) XC free := by
  obtain ⟨⟨hrc, hrs, hfr, hlo, hws, hcw⟩, hcode, hini, hy, hlen, hl, hin, hse⟩ := cw
  have hK : vx_Back l R p e below s args y 3 8 (PreOf R mc ms Pc) (PostOf Qc mc ms free) (vx_Post XC mc ms free) := vx_backW (hh := hh) (bytes := bytes) (maxL := maxL) (ret := ret) hM hp.1 hrc hrs hfr hlo hws hcw (fun a' U hW => word_at hW (Or.inl (by first | rfl | simp [Cond.onTables, Cond.keeps, Cond.steady])) hini)
  obtain ⟨hx, hb, hml, ho, -⟩ := S
  obtain ⟨-, ⟨cellB, hcB, hoB, hclB⟩, hPc⟩ := hp
  intro T hT X
  rcases vx_callVX X hx (C := C) (hh := hh) (bytes := bytes) (maxL := maxL) (ret := ret) ho hl hin hse hcode hy hK (by rw [hT]; exact hcB) hoB hclB hg (hsize.trans hml.symm) (argsL := As) (rest := rest) (fun sig h => hn.trans (hlen sig h)) hstack hW (by rw [hb]; exact hdg)
    (fun vm₁ hW₁ => ⟨hf.1, hf.2, hPc (T.setVm vm₁) hT hW₁⟩) with ⟨v, vm₁, ⟨U', l2, c2, s2⟩, hW₁, X', ⟨g', mk, t, L, e1, e2, hq, h1, hL, h2, h3⟩, st⟩ | ⟨q, vm₁, ⟨U', l2, c2, s2⟩, hW₁, X', ⟨g', mk, t, L, E, ce, e1, e2, hq, hce, hcv, hcl, h1, hL, h2, h3⟩, st⟩
  · dsimp only [Pt.U, Pt.locs, Pt.cells, Pt.slots] at X' e1 e2 h1 h2 h3 st
    subst h1; subst h2; subst h3
    exact Or.inl ⟨v, (T.setVm vm₁).calling g' mk (Value.ref b :: As).toArray, t, U', L, hT, X', hL, e1, e2, hq, st⟩
  · dsimp only [Pt.U, Pt.locs, Pt.cells, Pt.slots] at X' e1 e2 h1 h2 h3 st hcl
    subst h1; subst h2; subst h3
    exact Or.inr ⟨q, (T.setVm vm₁).calling g' mk (Value.ref b :: As).toArray, t, U', L, E, ce, hT, X', hL, e1, e2, hq, hce, hcv, vx_cls hW₁ hcl, st⟩
theorem vx_runSX {hh : List (Nat × Nat × Nat × Nat)} (S : CallFix p m c cc nL s args Ts own) (hM : vx_Met l y ws rm Pc Qc XC mc ms free) (cw : vx_CSW R s args own index y bytes maxL ret hh ws rm mc ms n) (hp : PreS s H Pc As)
    (hg : g.method = m) (hn : As.length = n) (hsize : g.locals.size = nL) (hstack : g.stack = As.reverse ++ rest) (hW : 2 * g.monitorRoom + (rest.map fun v => v.category).sum ≤ 8) (hdg : decode cc g.pc = .ok (.invokestatic index, 3)) (hf : cells + mc ≤ R.cells ∧ slots + ms ≤ R.slots) :
    vx_Run p l e R s m args below meth c H locs cells slots mc ms g rest (Qc As.toArray) XC free := by
  obtain ⟨⟨hrc, hrs, hfr, hlo, hws, hcw⟩, hcode, hini, hy, hlen, hl, hstt⟩ := cw
  have hK : vx_Back l R p e below s args y 3 8 (PreOf R mc ms Pc) (PostOf Qc mc ms free) (vx_Post XC mc ms free) := vx_backW (hh := hh) (bytes := bytes) (maxL := maxL) (ret := ret) hM hp.1 hrc hrs hfr hlo hws hcw (fun a' U hW => word_at hW (Or.inl (by first | rfl | simp [Cond.onTables, Cond.keeps, Cond.steady])) hini)
  obtain ⟨hx, hb, hml, ho, -⟩ := S
  intro T hT X
  rcases vx_callSX X hx (hh := hh) (bytes := bytes) (maxL := maxL) (ret := ret) ho hl hstt hini hcode hy hK hg (hsize.trans hml.symm) (argsL := As) (rest := rest) (fun sig h => hn.trans (hlen sig h)) hstack hW (by rw [hb]; exact hdg)
    (fun vm₁ hW₁ => ⟨hf.1, hf.2, hp.2 (T.setVm vm₁) hT hW₁⟩) with ⟨v, vm₁, ⟨U', l2, c2, s2⟩, hW₁, X', ⟨g', mk, t, L, e1, e2, hq, h1, hL, h2, h3⟩, st⟩ | ⟨q, vm₁, ⟨U', l2, c2, s2⟩, hW₁, X', ⟨g', mk, t, L, E, ce, e1, e2, hq, hce, hcv, hcl, h1, hL, h2, h3⟩, st⟩
  · dsimp only [Pt.U, Pt.locs, Pt.cells, Pt.slots] at X' e1 e2 h1 h2 h3 st
    subst h1; subst h2; subst h3
    exact Or.inl ⟨v, (T.setVm vm₁).calling g' mk As.toArray, t, U', L, hT, X', hL, e1, e2, hq, st⟩
  · dsimp only [Pt.U, Pt.locs, Pt.cells, Pt.slots] at X' e1 e2 h1 h2 h3 st hcl
    subst h1; subst h2; subst h3
    exact Or.inr ⟨q, (T.setVm vm₁).calling g' mk As.toArray, t, U', L, E, ce, hT, X', hL, e1, e2, hq, hce, hcv, vx_cls hW₁ hcl, st⟩
end
end VXH
theorem vx_ofWH {l : Launch} {y : MethodName} {ws ws' : List Cond} {rm : Room} {Pc : Array Value → State → Prop} {Qc : Array Value → State → Outcome → State → Prop} {XC : String → State → State → Prop} {mc ms : Nat} {free : Addr → Prop} {cc : ByteArray} {maxL : Nat} {ret : Option FieldType} {hh : List (Nat × Nat × Nat × Nat)}
    (hy : plainName y.cls = true) (hw : ws = Cond.codeWith y cc maxL ret hh :: ws')
    (body : ∀ p e s m args below meth c s₁, BodyLoose p l y (headSpec ws rm) cc maxL ret e s m args below meth c s₁ → c.maxLocals = maxL → Pc args s →
      W p l e (headSpec ws rm).room s m args below meth c s.heap [] 0 0 (vx_MQ below Qc XC args s mc ms free) (entryFrame m args maxL)) : vx_Met l y ws rm Pc Qc XC mc ms free := by
  refine MetFree.of_bodyS (code := cc) (maxLocals := maxL) (ret := ret) hy ?_ ?_
  · intro args s m h hn
    obtain ⟨m9, meth, c, hn9, h1, h2, h3, h4, -, h5, h6, -⟩ := Cond.codeWith_spec (atoms_spec (ws := ws) h _ (by rw [hw]; exact List.mem_cons_self))
    cases hn.symm.trans hn9
    exact ⟨meth, c, h1, h2, h3, h4, h5, h6⟩
  · intro p e s m args below meth c s₁ B hml hP _
    have hh0 : s₁.heap = s.heap := by rw [B.state]; rfl
    obtain ⟨t, a1, o, b1, b2, b3⟩ := body p e s m args below meth c s₁ B hml hP s₁ hh0 (Stand.of_body B)
    exact ⟨t, o, a1, b1, b2, b3⟩
/-! ===== END ===== -/
end
section
/-! ===== THE ABSTRACT MACHINE: worlds, locals, the instructions that touch no heap ===== -/
/-- a cell: an array (its kind's number, its length, what it holds) or an object (its class's number, its fields) -/
abbrev Cel : Type := (Nat × Nat × (Nat → Value)) ⊕ (Nat × List Value)
abbrev Wld : Type := Nat → Option Cel
abbrev Lcs : Type := List (Option Value)
abbrev Stk : Type := List Value
abbrev Otc : Type := (Option Value ⊕ String) × Wld × Option Nat
def wset (w : Wld) (a : Nat) (e : Cel) : Wld := fun b => if b = a then some e else w b
def g1 {α : Type} (len k : Nat) (r : Option α) : Option α := if len = k then r else none
theorem g1_inv {α : Type} {len k : Nat} {r : Option α} {y : α} (h : g1 len k r = some y) : len = k ∧ r = some y := by
  unfold g1 at h
  split at h
  · exact ⟨by assumption, h⟩
  · cases h
theorem g1_same {α : Type} {k : Nat} {r : Option α} : g1 k k r = r := if_pos rfl
def qi {α : Type} (st : Stk) (k : Int32 → Stk → Option α) : Option α := match st with
  | .int x :: r => k x r
  | _ => none
def ql {α : Type} (st : Stk) (k : Int64 → Stk → Option α) : Option α := match st with
  | .long x :: r => k x r
  | _ => none
def qf {α : Type} (st : Stk) (k : UInt32 → Stk → Option α) : Option α := match st with
  | .float x :: r => k x r
  | _ => none
def qd {α : Type} (st : Stk) (k : UInt64 → Stk → Option α) : Option α := match st with
  | .double x :: r => k x r
  | _ => none
def qr {α : Type} (st : Stk) (k : Nat → Stk → Option α) : Option α := match st with
  | .ref x :: r => k x r
  | _ => none
def q1 {α : Type} (st : Stk) (k : Value → Stk → Option α) : Option α := match st with
  | v :: r => if v.category = 1 then k v r else none
  | _ => none
theorem qi_inv {α : Type} {st : Stk} {k : Int32 → Stk → Option α} {y : α} (h : qi st k = some y) : ∃ x r, st = .int x :: r ∧ k x r = some y := by
  unfold qi at h
  split at h
  · exact ⟨_, _, rfl, h⟩
  · cases h
theorem ql_inv {α : Type} {st : Stk} {k : Int64 → Stk → Option α} {y : α} (h : ql st k = some y) : ∃ x r, st = .long x :: r ∧ k x r = some y := by
  unfold ql at h
  split at h
  · exact ⟨_, _, rfl, h⟩
  · cases h
theorem qf_inv {α : Type} {st : Stk} {k : UInt32 → Stk → Option α} {y : α} (h : qf st k = some y) : ∃ x r, st = .float x :: r ∧ k x r = some y := by
  unfold qf at h
  split at h
  · exact ⟨_, _, rfl, h⟩
  · cases h
theorem qd_inv {α : Type} {st : Stk} {k : UInt64 → Stk → Option α} {y : α} (h : qd st k = some y) : ∃ x r, st = .double x :: r ∧ k x r = some y := by
  unfold qd at h
  split at h
  · exact ⟨_, _, rfl, h⟩
  · cases h
theorem qr_inv {α : Type} {st : Stk} {k : Nat → Stk → Option α} {y : α} (h : qr st k = some y) : ∃ x r, st = .ref x :: r ∧ k x r = some y := by
  unfold qr at h
  split at h
  · exact ⟨_, _, rfl, h⟩
  · cases h
theorem q1_inv {α : Type} {st : Stk} {k : Value → Stk → Option α} {y : α} (h : q1 st k = some y) : ∃ x r, st = x :: r ∧ x.category = 1 ∧ k x r = some y := by
  unfold q1 at h
  split at h
  · split at h
    · exact ⟨_, _, rfl, by assumption, h⟩
    · cases h
  · cases h
def li {α : Type} (ls : Lcs) (i : Nat) (k : Int32 → Option α) : Option α := match ls[i]? with
  | some (some (.int x)) => k x
  | _ => none
def lf {α : Type} (ls : Lcs) (i : Nat) (k : UInt32 → Option α) : Option α := match ls[i]? with
  | some (some (.float x)) => k x
  | _ => none
def ld {α : Type} (ls : Lcs) (i : Nat) (k : UInt64 → Option α) : Option α := match ls[i]? with
  | some (some (.double x)) => k x
  | _ => none
def lr {α : Type} (ls : Lcs) (i : Nat) (k : Nat → Option α) : Option α := match ls[i]? with
  | some (some (.ref x)) => k x
  | _ => none
theorem li_inv {α : Type} {ls : Lcs} {i : Nat} {k : Int32 → Option α} {y : α} (h : li ls i k = some y) : ∃ x, ls[i]? = some (some (.int x)) ∧ k x = some y := by
  unfold li at h
  split at h
  · exact ⟨_, by assumption, h⟩
  · cases h
theorem lf_inv {α : Type} {ls : Lcs} {i : Nat} {k : UInt32 → Option α} {y : α} (h : lf ls i k = some y) : ∃ x, ls[i]? = some (some (.float x)) ∧ k x = some y := by
  unfold lf at h
  split at h
  · exact ⟨_, by assumption, h⟩
  · cases h
theorem ld_inv {α : Type} {ls : Lcs} {i : Nat} {k : UInt64 → Option α} {y : α} (h : ld ls i k = some y) : ∃ x, ls[i]? = some (some (.double x)) ∧ k x = some y := by
  unfold ld at h
  split at h
  · exact ⟨_, by assumption, h⟩
  · cases h
theorem lr_inv {α : Type} {ls : Lcs} {i : Nat} {k : Nat → Option α} {y : α} (h : lr ls i k = some y) : ∃ x, ls[i]? = some (some (.ref x)) ∧ k x = some y := by
  unfold lr at h
  split at h
  · exact ⟨_, by assumption, h⟩
  · cases h
/-- a store at i ends a long or a double that stood one place before it -/
def k2s (ls : Lcs) (i : Nat) : Lcs := match i with
  | 0 => ls
  | j + 1 => match ls[j]? with
    | some (some v) => if v.category = 2 then ls.set j none else ls
    | _ => ls
def e_st (c2 : Bool) (ls : Lcs) (i : Nat) (v : Value) : Lcs := (match c2 with
  | true => k2s ls i
  | false => ls).set i (some v)
def e_st2 (ls : Lcs) (i : Nat) (v : Value) : Lcs := ((k2s ls i).set (i + 1) none).set i (some v)
def gst {α : Type} (ls : Lcs) (i : Nat) (r : Option α) : Option α := if i < ls.length then r else none
theorem gst_inv {α : Type} {ls : Lcs} {i : Nat} {r : Option α} {y : α} (h : gst ls i r = some y) : i < ls.length ∧ r = some y := by
  unfold gst at h
  split at h
  · exact ⟨by assumption, h⟩
  · cases h
def tgt (pc : Nat) (off : Int) : Option Nat := match off with
  | .ofNat k => some (pc + k)
  | .negSucc k => if k + 1 ≤ pc then some (pc - (k + 1)) else none
theorem tgt_inv {pc t : Nat} {off : Int} (h : tgt pc off = some t) : (pc : Int) + off = (t : Int) := by
  unfold tgt at h
  split at h
  · cases h
    simp
  · split at h
    · cases h
      omega
    · cases h
def gt {α : Type} (pc : Nat) (off : Int) (k : Nat → Option α) : Option α := match tgt pc off with
  | some t => k t
  | none => none
theorem gt_inv {α : Type} {pc : Nat} {off : Int} {k : Nat → Option α} {y : α} (h : gt pc off k = some y) : ∃ t : Nat, (pc : Int) + off = (t : Int) ∧ k t = some y := by
  unfold gt at h
  split at h
  · exact ⟨_, tgt_inv (by assumption), h⟩
  · cases h
def gc {α : Type} (b : Bool) (r : Option α) : Option α := match b with
  | true => r
  | false => none
theorem gc_inv {α : Type} {b : Bool} {r : Option α} {y : α} (h : gc b r = some y) : b = true ∧ r = some y := by
  cases b
  · cases h
  · exact ⟨rfl, h⟩
def n64 (r : UInt64) : Bool := decide (r &&& 0x7fffffffffffffff ≤ 0x7ff0000000000000)
def n32 (r : UInt32) : Bool := decide (r &&& 0x7fffffff ≤ 0x7f800000)
theorem n64_ok {r : UInt64} (h : n64 r = true) : vf_n64 r := of_decide_eq_true (p := r &&& 0x7fffffffffffffff ≤ 0x7ff0000000000000) h
theorem n32_ok {r : UInt32} (h : n32 r = true) : vf_n32 r := of_decide_eq_true (p := r &&& 0x7fffffff ≤ 0x7f800000) h
def cmp0 (cd : ClassFile.Cond) (x : Int32) : Bool := match cd with
  | .eq => decide (x = 0)
  | .ne => decide (¬ x = 0)
  | .lt => decide (x < 0)
  | .ge => decide (0 ≤ x)
  | .gt => decide (0 < x)
  | .le => decide (x ≤ 0)
def cmp2 (cd : ClassFile.Cond) (x y : Int32) : Bool := match cd with
  | .eq => decide (x = y)
  | .ne => decide (¬ x = y)
  | .lt => decide (x < y)
  | .ge => decide (y ≤ x)
  | .gt => decide (y < x)
  | .le => decide (x ≤ y)
def cmp0P (cd : ClassFile.Cond) (x : Int32) : Prop := match cd with
  | .eq => x = 0
  | .ne => ¬ x = 0
  | .lt => x < 0
  | .ge => 0 ≤ x
  | .gt => 0 < x
  | .le => x ≤ 0
def cmp2P (cd : ClassFile.Cond) (x y : Int32) : Prop := match cd with
  | .eq => x = y
  | .ne => ¬ x = y
  | .lt => x < y
  | .ge => y ≤ x
  | .gt => y < x
  | .le => x ≤ y
theorem cmp0_iff {cd : ClassFile.Cond} {x : Int32} : cmp0 cd x = true ↔ cmp0P cd x := by cases cd <;> simp only [cmp0, cmp0P, decide_eq_true_eq]
theorem cmp0_t {cd : ClassFile.Cond} {x : Int32} (h : cmp0P cd x) : cmp0 cd x = true := cmp0_iff.mpr h
theorem cmp0_f {cd : ClassFile.Cond} {x : Int32} (h : ¬ cmp0P cd x) : ¬ cmp0 cd x = true := fun z => h (cmp0_iff.mp z)
theorem cmp2_iff {cd : ClassFile.Cond} {x y : Int32} : cmp2 cd x y = true ↔ cmp2P cd x y := by cases cd <;> simp only [cmp2, cmp2P, decide_eq_true_eq]
theorem cmp2_t {cd : ClassFile.Cond} {x y : Int32} (h : cmp2P cd x y) : cmp2 cd x y = true := cmp2_iff.mpr h
theorem cmp2_f {cd : ClassFile.Cond} {x y : Int32} (h : ¬ cmp2P cd x y) : ¬ cmp2 cd x y = true := fun z => h (cmp2_iff.mp z)
/-- one instruction that touches no heap: where it goes, the locals, the stack -/
def pst (c2 : Bool) (i : Instr) (len pc : Nat) (ls : Lcs) (st : Stk) : Option (Nat × Lcs × Stk) := match i with
  | .iconst n => g1 len 1 (some (pc + 1, ls, .int (Int32.ofInt n) :: st))
  | .bipush n => g1 len 2 (some (pc + 2, ls, .int (Int8.ofInt n).toInt32 :: st))
  | .sipush n => g1 len 3 (some (pc + 3, ls, .int (Int16.ofInt n).toInt32 :: st))
  | .lconst n => g1 len 1 (some (pc + 1, ls, .long (Int64.ofNat (n : Nat)) :: st))
  | .iload_n i => g1 len 1 (li ls (i : Nat) fun x => some (pc + 1, ls, .int x :: st))
  | .iload i => g1 len 2 (li ls i fun x => some (pc + 2, ls, .int x :: st))
  | .aload_n i => g1 len 1 (lr ls (i : Nat) fun x => some (pc + 1, ls, .ref x :: st))
  | .aload i => g1 len 2 (lr ls i fun x => some (pc + 2, ls, .ref x :: st))
  | .fload i => g1 len 2 (lf ls i fun x => some (pc + 2, ls, .float x :: st))
  | .dload i => g1 len 2 (ld ls i fun x => some (pc + 2, ls, .double x :: st))
  | .istore_n i => g1 len 1 (qi st fun x r => gst ls (i : Nat) (some (pc + 1, e_st c2 ls (i : Nat) (.int x), r)))
  | .istore i => g1 len 2 (qi st fun x r => gst ls i (some (pc + 2, e_st c2 ls i (.int x), r)))
  | .astore_n i => g1 len 1 (qr st fun x r => gst ls (i : Nat) (some (pc + 1, e_st c2 ls (i : Nat) (.ref x), r)))
  | .astore i => g1 len 2 (qr st fun x r => gst ls i (some (pc + 2, e_st c2 ls i (.ref x), r)))
  | .fstore i => g1 len 2 (qf st fun x r => gst ls i (some (pc + 2, e_st c2 ls i (.float x), r)))
  | .dstore i => g1 len 2 (gc c2 (qd st fun x r => gst ls (i + 1) (some (pc + 2, e_st2 ls i (.double x), r))))
  | .iinc i n => g1 len 3 (li ls i fun x => gst ls i (some (pc + 3, e_st c2 ls i (.int (x + Int32.ofInt n)), st)))
  | .iadd => g1 len 1 (qi st fun y r => qi r fun x r => some (pc + 1, ls, .int (x + y) :: r))
  | .isub => g1 len 1 (qi st fun y r => qi r fun x r => some (pc + 1, ls, .int (x - y) :: r))
  | .imul => g1 len 1 (qi st fun y r => qi r fun x r => some (pc + 1, ls, .int (x * y) :: r))
  | .iand => g1 len 1 (qi st fun y r => qi r fun x r => some (pc + 1, ls, .int (x &&& y) :: r))
  | .ior => g1 len 1 (qi st fun y r => qi r fun x r => some (pc + 1, ls, .int (x ||| y) :: r))
  | .ixor => g1 len 1 (qi st fun y r => qi r fun x r => some (pc + 1, ls, .int (x ^^^ y) :: r))
  | .ishl => g1 len 1 (qi st fun y r => qi r fun x r => some (pc + 1, ls, .int (x <<< (y &&& 31)) :: r))
  | .ishr => g1 len 1 (qi st fun y r => qi r fun x r => some (pc + 1, ls, .int (x >>> (y &&& 31)) :: r))
  | .iushr => g1 len 1 (qi st fun y r => qi r fun x r => some (pc + 1, ls, .int (x.toUInt32 >>> (y.toUInt32 &&& Int32.toUInt32 31)).toInt32 :: r))
  | .i2l => g1 len 1 (qi st fun x r => some (pc + 1, ls, .long x.toInt64 :: r))
  | .i2b => g1 len 1 (qi st fun x r => some (pc + 1, ls, .int x.toInt8.toInt32 :: r))
  | .i2c => g1 len 1 (qi st fun x r => some (pc + 1, ls, .int (x.toUInt32 % 65536).toInt32 :: r))
  | .i2f => g1 len 1 (qi st fun x r => some (pc + 1, ls, .float (FP.i2f x) :: r))
  | .i2d => g1 len 1 (qi st fun x r => some (pc + 1, ls, .double (FP.i2d x) :: r))
  | .f2d => g1 len 1 (qf st fun x r => gc (n64 (FP.f2d x)) (some (pc + 1, ls, .double (FP.f2d x) :: r)))
  | .ddiv => g1 len 1 (qd st fun y r => qd r fun x r => gc (n64 (FP.ddiv x y)) (some (pc + 1, ls, .double (FP.ddiv x y) :: r)))
  | .fdiv => g1 len 1 (qf st fun y r => qf r fun x r => gc (n32 (FP.fdiv x y)) (some (pc + 1, ls, .float (FP.fdiv x y) :: r)))
  | .lcmp => g1 len 1 (ql st fun y r => ql r fun x r => some (pc + 1, ls, .int (lg_cmp x y) :: r))
  | .fcmp op => g1 len 1 (qf st fun y r => qf r fun x r => some (pc + 1, ls, .int (Op.cmpValue (FP.fcmp x y) op) :: r))
  | .dcmp op => g1 len 1 (qd st fun y r => qd r fun x r => some (pc + 1, ls, .int (Op.cmpValue (FP.dcmp x y) op) :: r))
  | .dup => g1 len 1 (q1 st fun x r => some (pc + 1, ls, x :: x :: r))
  | .pop => g1 len 1 (q1 st fun x r => some (pc + 1, ls, r))
  | .dup_x1 => g1 len 1 (q1 st fun x r => q1 r fun y r => some (pc + 1, ls, x :: y :: x :: r))
  | .dup_x2 => g1 len 1 (q1 st fun x r => q1 r fun y r => q1 r fun z r => some (pc + 1, ls, x :: y :: z :: x :: r))
  | .dup2 => g1 len 1 (q1 st fun x r => q1 r fun y r => some (pc + 1, ls, x :: y :: x :: y :: r))
  | .goto off => g1 len 3 (gt pc off fun t => some (t, ls, st))
  | .ifCond cd off => g1 len 3 (qi st fun x r => gt pc off fun t => some (if cmp0 cd x = true then t else pc + 3, ls, r))
  | .if_icmp cd off => g1 len 3 (qi st fun y r => qi r fun x r => gt pc off fun t => some (if cmp2 cd x y = true then t else pc + 3, ls, r))
  | .tableswitch dflt lo hi offs => (qi st fun x r => if x.toInt < lo ∨ hi < x.toInt then gt pc dflt (fun t => some (t, ls, r)) else match offs[(x.toInt - lo).toNat]? with | some off => gt pc off (fun t => some (t, ls, r)) | none => none)
  | .lookupswitch dflt ps => (qi st fun x r => gc ((ps.toList.zip (ps.toList.drop 1)).all (fun (a, next) => a.1 < next.1)) (gt pc (Op.lookupswitch.offset ps.toList dflt x.toInt) fun t => some (t, ls, r)))
  | _ => none
/-- the facts that a list of known locals tells -/
def prs (ls : Lcs) : List (Nat × Value) := (List.range ls.length).filterMap fun j => match ls[j]? with
  | some (some v) => some (j, v)
  | _ => none
theorem mem_prs {ls : Lcs} {j : Nat} {v : Value} : (j, v) ∈ prs ls ↔ ls[j]? = some (some v) := by
  unfold prs
  rw [List.mem_filterMap]
  constructor
  · rintro ⟨i, -, h⟩
    split at h
    · rename_i v2 hv
      cases h
      exact hv
    · cases h
  · intro h
    refine ⟨j, List.mem_range.mpr (List.getElem?_eq_some_iff.mp h).1, ?_⟩
    rw [h]
def LH (c2 : Bool) (nL : Nat) (lsR : Array Slot) (ls : Lcs) : Prop := ls.length = nL ∧ lv_has lsR nL (prs ls) ∧ (c2 = false → ∀ (i : Nat) (v : Value), ls[i]? = some (some v) → v.category = 1)
theorem LH.at {c2 : Bool} {nL : Nat} {lsR : Array Slot} {ls : Lcs} (h : LH c2 nL lsR ls) {i : Nat} {v : Value} (e : ls[i]? = some (some v)) : lsR[i]? = some (.val v) := h.2.1.2.2 (i, v) (mem_prs.mpr e)
theorem LH.idx {c2 : Bool} {nL : Nat} {lsR : Array Slot} {ls : Lcs} (_ : LH c2 nL lsR ls) {i : Nat} {v : Value} (e : ls[i]? = some (some v)) : ∃ k : Nat, (prs ls)[k]? = some (i, v) := List.getElem?_of_mem (mem_prs.mpr e)
theorem k2s_len (ls : Lcs) (i : Nat) : (k2s ls i).length = ls.length := by
  unfold k2s
  split
  · rfl
  · split
    · split
      · simp
      · rfl
    · rfl
/-- what is known behind k2s was known before, and isn't a long or a double one place before i -/
theorem k2s_at {ls : Lcs} {i j : Nat} {v : Value} (h : (k2s ls i)[j]? = some (some v)) : ls[j]? = some (some v) ∧ (j + 1 = i → v.category ≠ 2) := by
  unfold k2s at h
  split at h
  · exact ⟨h, fun q => by omega⟩
  · rename_i i
    split at h
    · rename_i u hu
      split at h
      · rw [List.getElem?_set] at h
        split at h
        · split at h <;> cases h
        · rename_i hne
          exact ⟨h, fun q => absurd (by omega) hne⟩
      · rename_i hc
        refine ⟨h, fun q => ?_⟩
        have e : j = i := by omega
        subst e
        rw [hu] at h
        cases h
        exact hc
    · rename_i hno
      refine ⟨h, fun q => ?_⟩
      have e : j = i := by omega
      subst e
      exact absurd h (hno v)
theorem LH.st1 {c2 : Bool} {nL : Nat} {lsR ls2 : Array Slot} {ls : Lcs} {i : Nat} {v : Value} (h : LH c2 nL lsR ls) (hi : i < ls.length) (hc : v.category = 1) (h2 : lv_has ls2 nL ((i, v) :: (prs ls).filter (fun q => !(q.1 == i) && !(q.1 + 1 == i && q.2.category == 2)))) : LH c2 nL ls2 (e_st c2 ls i v) := by
  have hlen : (match c2 with | true => k2s ls i | false => ls).length = ls.length := by cases c2 <;> simp [k2s_len]
  have key : ∀ (j : Nat) (u : Value), (e_st c2 ls i v)[j]? = some (some u) → (j = i ∧ u = v) ∨ (j ≠ i ∧ ls[j]? = some (some u) ∧ ¬ (j + 1 = i ∧ u.category = 2)) := by
    intro j u hj
    unfold e_st at hj
    rw [List.getElem?_set] at hj
    by_cases e : i = j
    · rw [if_pos e, if_pos (by rw [hlen]; exact hi)] at hj
      cases hj
      exact Or.inl ⟨e.symm, rfl⟩
    · rw [if_neg e] at hj
      refine Or.inr ⟨fun q => e q.symm, ?_⟩
      cases c2 with
      | true =>
        obtain ⟨a, b⟩ := k2s_at hj
        exact ⟨a, fun q => b q.1 q.2⟩
      | false => exact ⟨hj, fun q => by rw [h.2.2 rfl j u hj] at q; exact absurd q.2 (by decide)⟩
  refine ⟨by unfold e_st; rw [List.length_set, hlen]; exact h.1, ⟨h2.1, h2.2.1, fun q hq => ?_⟩, fun hf j u hj => ?_⟩
  · obtain ⟨j, u⟩ := q
    refine h2.2.2 (j, u) ?_
    rcases key j u (mem_prs.mp hq) with ⟨e1, e2⟩ | ⟨e1, e2, e3⟩
    · rw [e1, e2]; exact List.mem_cons_self
    · refine List.mem_cons_of_mem _ (List.mem_filter.mpr ⟨mem_prs.mpr e2, ?_⟩)
      simp only [Bool.and_eq_true, Bool.not_eq_true', beq_eq_false_iff_ne, ne_eq, Bool.and_eq_false_imp, beq_iff_eq]
      exact ⟨e1, fun a b => e3 ⟨a, b⟩⟩
  · rcases key j u hj with ⟨e1, e2⟩ | ⟨e1, e2, e3⟩
    · rw [e2]; exact hc
    · exact h.2.2 hf j u e2
theorem LH.st2 {c2 : Bool} {nL : Nat} {lsR ls2 : Array Slot} {ls : Lcs} {i : Nat} {v : Value} (h : LH c2 nL lsR ls) (hc2 : c2 = true) (hi : i + 1 < ls.length) (_ : v.category = 2) (h2 : lv_has ls2 nL ((i, v) :: (prs ls).filter (fun q => !(q.1 == i) && (!(q.1 == i + 1) && !(q.1 + 1 == i && q.2.category == 2))))) : LH c2 nL ls2 (e_st2 ls i v) := by
  subst hc2
  refine ⟨by unfold e_st2; rw [List.length_set, List.length_set, k2s_len]; exact h.1, ⟨h2.1, h2.2.1, fun q hq => ?_⟩, fun hf => by cases hf⟩
  obtain ⟨j, u⟩ := q
  refine h2.2.2 (j, u) ?_
  have hj := mem_prs.mp hq
  unfold e_st2 at hj
  rw [List.getElem?_set] at hj
  split at hj
  · rename_i e
    split at hj
    · cases hj
      rw [e]; exact List.mem_cons_self
    · cases hj
  · rename_i e
    rw [List.getElem?_set] at hj
    split at hj
    · split at hj <;> cases hj
    · rename_i e2
      obtain ⟨a, b⟩ := k2s_at hj
      refine List.mem_cons_of_mem _ (List.mem_filter.mpr ⟨mem_prs.mpr a, ?_⟩)
      simp only [Bool.and_eq_true, Bool.not_eq_true', beq_eq_false_iff_ne, ne_eq, Bool.and_eq_false_imp, beq_iff_eq]
      exact ⟨fun q => e q.symm, fun q => e2 q.symm, fun q => b q⟩
section PST
variable {p : Program} {l : Launch} {e : Env} {R : Room} {s : State} {m : MethodId} {args : Array Value} {below : List Frame} {meth : Method} {c : Code} {H : Heap} {locs : List Loc} {cells slots : Nat} {Q : State → Prop}
set_option maxHeartbeats 4000000 in
set_option maxRecDepth 100000 in
theorem pst_ok {cc : ByteArray} (hx : p.tables.exec = Jvm.exec) (hb : c.code = cc) {c2 : Bool} {i : Instr} {len pc nL : Nat} {ls : Lcs} {st : Stk} {pc2 : Nat} {ls2 : Lcs} {st2 : Stk} {lsR : Array Slot} (hd : decode cc pc = .ok (i, len)) (hL : LH c2 nL lsR ls) (h : pst c2 i len pc ls st = some (pc2, ls2, st2))
    (k : ∀ lsR2 : Array Slot, LH c2 nL lsR2 ls2 → W p l e R s m args below meth c H locs cells slots Q (F0 m pc2 lsR2 st2)) : W p l e R s m args below meth c H locs cells slots Q (F0 m pc lsR st) := by
  cases i
  case iconst n =>
    have h : g1 len 1 (some (pc + 1, ls, .int (Int32.ofInt n) :: st)) = some (pc2, ls2, st2) := h
    obtain ⟨rfl, h⟩ := g1_inv h
    cases h; exact lv_iconst hx hb hd rfl (k _ hL)
  case bipush n =>
    have h : g1 len 2 (some (pc + 2, ls, .int (Int8.ofInt n).toInt32 :: st)) = some (pc2, ls2, st2) := h
    obtain ⟨rfl, h⟩ := g1_inv h
    cases h; exact lv_bipush hx hb hd rfl (k _ hL)
  case sipush n =>
    have h : g1 len 3 (some (pc + 3, ls, .int (Int16.ofInt n).toInt32 :: st)) = some (pc2, ls2, st2) := h
    obtain ⟨rfl, h⟩ := g1_inv h
    cases h; exact lv_sipush hx hb hd rfl (k _ hL)
  case lconst n =>
    have h : g1 len 1 (some (pc + 1, ls, .long (Int64.ofNat (n : Nat)) :: st)) = some (pc2, ls2, st2) := h
    obtain ⟨rfl, h⟩ := g1_inv h
    cases h; exact lv_lconst hx hb hd rfl (k _ hL)
  case iload_n i =>
    have h : g1 len 1 (li ls (i : Nat) fun x => some (pc + 1, ls, .int x :: st)) = some (pc2, ls2, st2) := h
    obtain ⟨rfl, h⟩ := g1_inv h
    obtain ⟨x, e1, h⟩ := li_inv h; cases h; exact lv_iload_n hx hb hd rfl (hL.at e1) (k _ hL)
  case iload i =>
    have h : g1 len 2 (li ls i fun x => some (pc + 2, ls, .int x :: st)) = some (pc2, ls2, st2) := h
    obtain ⟨rfl, h⟩ := g1_inv h
    obtain ⟨x, e1, h⟩ := li_inv h; cases h; exact lv_iload hx hb hd (hL.at e1) (k _ hL)
  case aload_n i =>
    have h : g1 len 1 (lr ls (i : Nat) fun x => some (pc + 1, ls, .ref x :: st)) = some (pc2, ls2, st2) := h
    obtain ⟨rfl, h⟩ := g1_inv h
    obtain ⟨x, e1, h⟩ := lr_inv h; cases h; exact lv_aload_n hx hb hd rfl (hL.at e1) (k _ hL)
  case aload i =>
    have h : g1 len 2 (lr ls i fun x => some (pc + 2, ls, .ref x :: st)) = some (pc2, ls2, st2) := h
    obtain ⟨rfl, h⟩ := g1_inv h
    obtain ⟨x, e1, h⟩ := lr_inv h; cases h; exact lv_aload hx hb hd (hL.at e1) (k _ hL)
  case fload i =>
    have h : g1 len 2 (lf ls i fun x => some (pc + 2, ls, .float x :: st)) = some (pc2, ls2, st2) := h
    obtain ⟨rfl, h⟩ := g1_inv h
    obtain ⟨x, e1, h⟩ := lf_inv h; cases h; exact lv_fload hx hb hd (hL.at e1) (k _ hL)
  case dload i =>
    have h : g1 len 2 (ld ls i fun x => some (pc + 2, ls, .double x :: st)) = some (pc2, ls2, st2) := h
    obtain ⟨rfl, h⟩ := g1_inv h
    obtain ⟨x, e1, h⟩ := ld_inv h; cases h; exact lv_dload hx hb hd (hL.at e1) (k _ hL)
  case istore_n i =>
    have h : g1 len 1 (qi st fun x r => gst ls (i : Nat) (some (pc + 1, e_st c2 ls (i : Nat) (.int x), r))) = some (pc2, ls2, st2) := h
    obtain ⟨rfl, h⟩ := g1_inv h
    obtain ⟨x, r, rfl, h⟩ := qi_inv h; obtain ⟨e1, h⟩ := gst_inv h; cases h; exact lv_istore_n hx hb hd rfl hL.2.1 (hL.1 ▸ e1) rfl fun ls2 h2 => k _ (hL.st1 e1 rfl h2)
  case istore i =>
    have h : g1 len 2 (qi st fun x r => gst ls i (some (pc + 2, e_st c2 ls i (.int x), r))) = some (pc2, ls2, st2) := h
    obtain ⟨rfl, h⟩ := g1_inv h
    obtain ⟨x, r, rfl, h⟩ := qi_inv h; obtain ⟨e1, h⟩ := gst_inv h; cases h; exact lv_istore hx hb hd hL.2.1 (hL.1 ▸ e1) rfl fun ls2 h2 => k _ (hL.st1 e1 rfl h2)
  case astore_n i =>
    have h : g1 len 1 (qr st fun x r => gst ls (i : Nat) (some (pc + 1, e_st c2 ls (i : Nat) (.ref x), r))) = some (pc2, ls2, st2) := h
    obtain ⟨rfl, h⟩ := g1_inv h
    obtain ⟨x, r, rfl, h⟩ := qr_inv h; obtain ⟨e1, h⟩ := gst_inv h; cases h; exact lv_astore_n hx hb hd rfl hL.2.1 (hL.1 ▸ e1) rfl fun ls2 h2 => k _ (hL.st1 e1 rfl h2)
  case astore i =>
    have h : g1 len 2 (qr st fun x r => gst ls i (some (pc + 2, e_st c2 ls i (.ref x), r))) = some (pc2, ls2, st2) := h
    obtain ⟨rfl, h⟩ := g1_inv h
    obtain ⟨x, r, rfl, h⟩ := qr_inv h; obtain ⟨e1, h⟩ := gst_inv h; cases h; exact lv_astore hx hb hd hL.2.1 (hL.1 ▸ e1) rfl fun ls2 h2 => k _ (hL.st1 e1 rfl h2)
  case fstore i =>
    have h : g1 len 2 (qf st fun x r => gst ls i (some (pc + 2, e_st c2 ls i (.float x), r))) = some (pc2, ls2, st2) := h
    obtain ⟨rfl, h⟩ := g1_inv h
    obtain ⟨x, r, rfl, h⟩ := qf_inv h; obtain ⟨e1, h⟩ := gst_inv h; cases h; exact lv_fstore hx hb hd hL.2.1 (hL.1 ▸ e1) rfl fun ls2 h2 => k _ (hL.st1 e1 rfl h2)
  case dstore i =>
    have h : g1 len 2 (gc c2 (qd st fun x r => gst ls (i + 1) (some (pc + 2, e_st2 ls i (.double x), r)))) = some (pc2, ls2, st2) := h
    obtain ⟨rfl, h⟩ := g1_inv h
    obtain ⟨hc2, h⟩ := gc_inv h; obtain ⟨x, r, rfl, h⟩ := qd_inv h; obtain ⟨e1, h⟩ := gst_inv h; cases h; exact lv_dstore hx hb hd hL.2.1 (hL.1 ▸ e1) rfl fun ls2 h2 => k _ (hL.st2 hc2 e1 rfl h2)
  case iinc i n =>
    have h : g1 len 3 (li ls i fun x => gst ls i (some (pc + 3, e_st c2 ls i (.int (x + Int32.ofInt n)), st))) = some (pc2, ls2, st2) := h
    obtain ⟨rfl, h⟩ := g1_inv h
    obtain ⟨x, e1, h⟩ := li_inv h; obtain ⟨e2, h⟩ := gst_inv h; cases h; obtain ⟨kk, hk⟩ := hL.idx e1; exact lv_iinc hx hb hd hL.2.1 hk rfl (hL.1 ▸ e2) rfl fun ls2 h2 => k _ (hL.st1 e2 rfl h2)
  case iadd =>
    have h : g1 len 1 (qi st fun y r => qi r fun x r => some (pc + 1, ls, .int (x + y) :: r)) = some (pc2, ls2, st2) := h
    obtain ⟨rfl, h⟩ := g1_inv h
    obtain ⟨y, r, rfl, h⟩ := qi_inv h; obtain ⟨x, r, rfl, h⟩ := qi_inv h; cases h; exact lv_iadd hx hb hd (k _ hL)
  case isub =>
    have h : g1 len 1 (qi st fun y r => qi r fun x r => some (pc + 1, ls, .int (x - y) :: r)) = some (pc2, ls2, st2) := h
    obtain ⟨rfl, h⟩ := g1_inv h
    obtain ⟨y, r, rfl, h⟩ := qi_inv h; obtain ⟨x, r, rfl, h⟩ := qi_inv h; cases h; exact lv_isub hx hb hd (k _ hL)
  case imul =>
    have h : g1 len 1 (qi st fun y r => qi r fun x r => some (pc + 1, ls, .int (x * y) :: r)) = some (pc2, ls2, st2) := h
    obtain ⟨rfl, h⟩ := g1_inv h
    obtain ⟨y, r, rfl, h⟩ := qi_inv h; obtain ⟨x, r, rfl, h⟩ := qi_inv h; cases h; exact lv_imul hx hb hd (k _ hL)
  case iand =>
    have h : g1 len 1 (qi st fun y r => qi r fun x r => some (pc + 1, ls, .int (x &&& y) :: r)) = some (pc2, ls2, st2) := h
    obtain ⟨rfl, h⟩ := g1_inv h
    obtain ⟨y, r, rfl, h⟩ := qi_inv h; obtain ⟨x, r, rfl, h⟩ := qi_inv h; cases h; exact lv_iand hx hb hd (k _ hL)
  case ior =>
    have h : g1 len 1 (qi st fun y r => qi r fun x r => some (pc + 1, ls, .int (x ||| y) :: r)) = some (pc2, ls2, st2) := h
    obtain ⟨rfl, h⟩ := g1_inv h
    obtain ⟨y, r, rfl, h⟩ := qi_inv h; obtain ⟨x, r, rfl, h⟩ := qi_inv h; cases h; exact lv_ior hx hb hd (k _ hL)
  case ixor =>
    have h : g1 len 1 (qi st fun y r => qi r fun x r => some (pc + 1, ls, .int (x ^^^ y) :: r)) = some (pc2, ls2, st2) := h
    obtain ⟨rfl, h⟩ := g1_inv h
    obtain ⟨y, r, rfl, h⟩ := qi_inv h; obtain ⟨x, r, rfl, h⟩ := qi_inv h; cases h; exact lv_ixor hx hb hd (k _ hL)
  case ishl =>
    have h : g1 len 1 (qi st fun y r => qi r fun x r => some (pc + 1, ls, .int (x <<< (y &&& 31)) :: r)) = some (pc2, ls2, st2) := h
    obtain ⟨rfl, h⟩ := g1_inv h
    obtain ⟨y, r, rfl, h⟩ := qi_inv h; obtain ⟨x, r, rfl, h⟩ := qi_inv h; cases h; exact lv_ishl hx hb hd (k _ hL)
  case ishr =>
    have h : g1 len 1 (qi st fun y r => qi r fun x r => some (pc + 1, ls, .int (x >>> (y &&& 31)) :: r)) = some (pc2, ls2, st2) := h
    obtain ⟨rfl, h⟩ := g1_inv h
    obtain ⟨y, r, rfl, h⟩ := qi_inv h; obtain ⟨x, r, rfl, h⟩ := qi_inv h; cases h; exact lv_ishr hx hb hd (k _ hL)
  case iushr =>
    have h : g1 len 1 (qi st fun y r => qi r fun x r => some (pc + 1, ls, .int (x.toUInt32 >>> (y.toUInt32 &&& Int32.toUInt32 31)).toInt32 :: r)) = some (pc2, ls2, st2) := h
    obtain ⟨rfl, h⟩ := g1_inv h
    obtain ⟨y, r, rfl, h⟩ := qi_inv h; obtain ⟨x, r, rfl, h⟩ := qi_inv h; cases h; exact lv_iushr hx hb hd rfl (k _ hL)
  case i2l =>
    have h : g1 len 1 (qi st fun x r => some (pc + 1, ls, .long x.toInt64 :: r)) = some (pc2, ls2, st2) := h
    obtain ⟨rfl, h⟩ := g1_inv h
    obtain ⟨x, r, rfl, h⟩ := qi_inv h; cases h; exact lv_i2l hx hb hd rfl (k _ hL)
  case i2b =>
    have h : g1 len 1 (qi st fun x r => some (pc + 1, ls, .int x.toInt8.toInt32 :: r)) = some (pc2, ls2, st2) := h
    obtain ⟨rfl, h⟩ := g1_inv h
    obtain ⟨x, r, rfl, h⟩ := qi_inv h; cases h; exact lv_i2b hx hb hd rfl (k _ hL)
  case i2c =>
    have h : g1 len 1 (qi st fun x r => some (pc + 1, ls, .int (x.toUInt32 % 65536).toInt32 :: r)) = some (pc2, ls2, st2) := h
    obtain ⟨rfl, h⟩ := g1_inv h
    obtain ⟨x, r, rfl, h⟩ := qi_inv h; cases h; exact lv_i2c hx hb hd rfl (k _ hL)
  case i2f =>
    have h : g1 len 1 (qi st fun x r => some (pc + 1, ls, .float (FP.i2f x) :: r)) = some (pc2, ls2, st2) := h
    obtain ⟨rfl, h⟩ := g1_inv h
    obtain ⟨x, r, rfl, h⟩ := qi_inv h; cases h; exact lv_i2f hx hb hd (k _ hL)
  case i2d =>
    have h : g1 len 1 (qi st fun x r => some (pc + 1, ls, .double (FP.i2d x) :: r)) = some (pc2, ls2, st2) := h
    obtain ⟨rfl, h⟩ := g1_inv h
    obtain ⟨x, r, rfl, h⟩ := qi_inv h; cases h; exact lv_i2d hx hb hd (k _ hL)
  case f2d =>
    have h : g1 len 1 (qf st fun x r => gc (n64 (FP.f2d x)) (some (pc + 1, ls, .double (FP.f2d x) :: r))) = some (pc2, ls2, st2) := h
    obtain ⟨rfl, h⟩ := g1_inv h
    obtain ⟨x, r, rfl, h⟩ := qf_inv h; obtain ⟨e1, h⟩ := gc_inv h; cases h; exact lv_f2d hx hb hd (n64_ok e1) (k _ hL)
  case ddiv =>
    have h : g1 len 1 (qd st fun y r => qd r fun x r => gc (n64 (FP.ddiv x y)) (some (pc + 1, ls, .double (FP.ddiv x y) :: r))) = some (pc2, ls2, st2) := h
    obtain ⟨rfl, h⟩ := g1_inv h
    obtain ⟨y, r, rfl, h⟩ := qd_inv h; obtain ⟨x, r, rfl, h⟩ := qd_inv h; obtain ⟨e1, h⟩ := gc_inv h; cases h; exact lv_ddiv hx hb hd (n64_ok e1) (k _ hL)
  case fdiv =>
    have h : g1 len 1 (qf st fun y r => qf r fun x r => gc (n32 (FP.fdiv x y)) (some (pc + 1, ls, .float (FP.fdiv x y) :: r))) = some (pc2, ls2, st2) := h
    obtain ⟨rfl, h⟩ := g1_inv h
    obtain ⟨y, r, rfl, h⟩ := qf_inv h; obtain ⟨x, r, rfl, h⟩ := qf_inv h; obtain ⟨e1, h⟩ := gc_inv h; cases h; exact lv_fdiv hx hb hd (n32_ok e1) (k _ hL)
  case lcmp =>
    have h : g1 len 1 (ql st fun y r => ql r fun x r => some (pc + 1, ls, .int (lg_cmp x y) :: r)) = some (pc2, ls2, st2) := h
    obtain ⟨rfl, h⟩ := g1_inv h
    obtain ⟨y, r, rfl, h⟩ := ql_inv h; obtain ⟨x, r, rfl, h⟩ := ql_inv h; cases h; exact W.lcmp hx hb hd (k _ hL)
  case fcmp op =>
    have h : g1 len 1 (qf st fun y r => qf r fun x r => some (pc + 1, ls, .int (Op.cmpValue (FP.fcmp x y) op) :: r)) = some (pc2, ls2, st2) := h
    obtain ⟨rfl, h⟩ := g1_inv h
    obtain ⟨y, r, rfl, h⟩ := qf_inv h; obtain ⟨x, r, rfl, h⟩ := qf_inv h; cases h; exact lv_fcmp hx hb hd (k _ hL)
  case dcmp op =>
    have h : g1 len 1 (qd st fun y r => qd r fun x r => some (pc + 1, ls, .int (Op.cmpValue (FP.dcmp x y) op) :: r)) = some (pc2, ls2, st2) := h
    obtain ⟨rfl, h⟩ := g1_inv h
    obtain ⟨y, r, rfl, h⟩ := qd_inv h; obtain ⟨x, r, rfl, h⟩ := qd_inv h; cases h; exact lv_dcmp hx hb hd (k _ hL)
  case dup =>
    have h : g1 len 1 (q1 st fun x r => some (pc + 1, ls, x :: x :: r)) = some (pc2, ls2, st2) := h
    obtain ⟨rfl, h⟩ := g1_inv h
    obtain ⟨x, r, rfl, e1, h⟩ := q1_inv h; cases h; exact lv_dup hx hb hd e1 (k _ hL)
  case pop =>
    have h : g1 len 1 (q1 st fun x r => some (pc + 1, ls, r)) = some (pc2, ls2, st2) := h
    obtain ⟨rfl, h⟩ := g1_inv h
    obtain ⟨x, r, rfl, e1, h⟩ := q1_inv h; cases h; exact lv_pop hx hb hd e1 (k _ hL)
  case dup_x1 =>
    have h : g1 len 1 (q1 st fun x r => q1 r fun y r => some (pc + 1, ls, x :: y :: x :: r)) = some (pc2, ls2, st2) := h
    obtain ⟨rfl, h⟩ := g1_inv h
    obtain ⟨x, r, rfl, e1, h⟩ := q1_inv h; obtain ⟨y, r, rfl, e2, h⟩ := q1_inv h; cases h; exact lv_dup_x1 hx hb hd e1 e2 (k _ hL)
  case dup_x2 =>
    have h : g1 len 1 (q1 st fun x r => q1 r fun y r => q1 r fun z r => some (pc + 1, ls, x :: y :: z :: x :: r)) = some (pc2, ls2, st2) := h
    obtain ⟨rfl, h⟩ := g1_inv h
    obtain ⟨x, r, rfl, e1, h⟩ := q1_inv h; obtain ⟨y, r, rfl, e2, h⟩ := q1_inv h; obtain ⟨z, r, rfl, e3, h⟩ := q1_inv h; cases h; exact lv_dup_x2 hx hb hd e1 e2 e3 (k _ hL)
  case dup2 =>
    have h : g1 len 1 (q1 st fun x r => q1 r fun y r => some (pc + 1, ls, x :: y :: x :: y :: r)) = some (pc2, ls2, st2) := h
    obtain ⟨rfl, h⟩ := g1_inv h
    obtain ⟨x, r, rfl, e1, h⟩ := q1_inv h; obtain ⟨y, r, rfl, e2, h⟩ := q1_inv h; cases h; exact lv_dup2_11 hx hb hd e1 e2 (k _ hL)
  case goto off =>
    have h : g1 len 3 (gt pc off fun t => some (t, ls, st)) = some (pc2, ls2, st2) := h
    obtain ⟨rfl, h⟩ := g1_inv h
    obtain ⟨t, e1, h⟩ := gt_inv h; cases h; exact lv_goto hx hb hd e1 (k _ hL)
  case ifCond cd off =>
    have h : g1 len 3 (qi st fun x r => gt pc off fun t => some (if cmp0 cd x = true then t else pc + 3, ls, r)) = some (pc2, ls2, st2) := h
    obtain ⟨rfl, h⟩ := g1_inv h
    obtain ⟨x, r, rfl, h⟩ := qi_inv h; obtain ⟨t, e1, h⟩ := gt_inv h; cases h; cases cd
    · refine lv_if_eq hx hb hd e1 (fun q => ?_) (fun q => ?_)
      · refine W.eq ?_ (k _ hL); rw [if_pos (cmp0_t (cd := .eq) (by first | exact q | exact Int32.not_lt.mp q | exact Int32.not_le.mp q))]
      · refine W.eq ?_ (k _ hL); rw [if_neg (cmp0_f (cd := .eq) (by first | exact q | exact (fun z => z q) | (intro z; exact q (by first | exact z | exact Int32.not_lt.mpr z | exact Int32.not_le.mpr z))))]
    · refine lv_if_ne hx hb hd e1 (fun q => ?_) (fun q => ?_)
      · refine W.eq ?_ (k _ hL); rw [if_pos (cmp0_t (cd := .ne) (by first | exact q | exact Int32.not_lt.mp q | exact Int32.not_le.mp q))]
      · refine W.eq ?_ (k _ hL); rw [if_neg (cmp0_f (cd := .ne) (by first | exact q | exact (fun z => z q) | (intro z; exact q (by first | exact z | exact Int32.not_lt.mpr z | exact Int32.not_le.mpr z))))]
    · refine lv_if_lt hx hb hd e1 (fun q => ?_) (fun q => ?_)
      · refine W.eq ?_ (k _ hL); rw [if_pos (cmp0_t (cd := .lt) (by first | exact q | exact Int32.not_lt.mp q | exact Int32.not_le.mp q))]
      · refine W.eq ?_ (k _ hL); rw [if_neg (cmp0_f (cd := .lt) (by first | exact q | exact (fun z => z q) | (intro z; exact q (by first | exact z | exact Int32.not_lt.mpr z | exact Int32.not_le.mpr z))))]
    · refine lv_if_ge hx hb hd e1 (fun q => ?_) (fun q => ?_)
      · refine W.eq ?_ (k _ hL); rw [if_pos (cmp0_t (cd := .ge) (by first | exact q | exact Int32.not_lt.mp q | exact Int32.not_le.mp q))]
      · refine W.eq ?_ (k _ hL); rw [if_neg (cmp0_f (cd := .ge) (by first | exact q | exact (fun z => z q) | (intro z; exact q (by first | exact z | exact Int32.not_lt.mpr z | exact Int32.not_le.mpr z))))]
    · refine lv_if_gt hx hb hd e1 (fun q => ?_) (fun q => ?_)
      · refine W.eq ?_ (k _ hL); rw [if_pos (cmp0_t (cd := .gt) (by first | exact q | exact Int32.not_lt.mp q | exact Int32.not_le.mp q))]
      · refine W.eq ?_ (k _ hL); rw [if_neg (cmp0_f (cd := .gt) (by first | exact q | exact (fun z => z q) | (intro z; exact q (by first | exact z | exact Int32.not_lt.mpr z | exact Int32.not_le.mpr z))))]
    · refine lv_if_le hx hb hd e1 (fun q => ?_) (fun q => ?_)
      · refine W.eq ?_ (k _ hL); rw [if_pos (cmp0_t (cd := .le) (by first | exact q | exact Int32.not_lt.mp q | exact Int32.not_le.mp q))]
      · refine W.eq ?_ (k _ hL); rw [if_neg (cmp0_f (cd := .le) (by first | exact q | exact (fun z => z q) | (intro z; exact q (by first | exact z | exact Int32.not_lt.mpr z | exact Int32.not_le.mpr z))))]
  case if_icmp cd off =>
    have h : g1 len 3 (qi st fun y r => qi r fun x r => gt pc off fun t => some (if cmp2 cd x y = true then t else pc + 3, ls, r)) = some (pc2, ls2, st2) := h
    obtain ⟨rfl, h⟩ := g1_inv h
    obtain ⟨y, r, rfl, h⟩ := qi_inv h; obtain ⟨x, r, rfl, h⟩ := qi_inv h; obtain ⟨t, e1, h⟩ := gt_inv h; cases h; cases cd
    · refine lv_icmp_eq hx hb hd e1 (fun q => ?_) (fun q => ?_)
      · refine W.eq ?_ (k _ hL); rw [if_pos (cmp2_t (cd := .eq) (by first | exact q | exact Int32.not_lt.mp q | exact Int32.not_le.mp q))]
      · refine W.eq ?_ (k _ hL); rw [if_neg (cmp2_f (cd := .eq) (by first | exact q | exact (fun z => z q) | (intro z; exact q (by first | exact z | exact Int32.not_lt.mpr z | exact Int32.not_le.mpr z))))]
    · refine lv_icmp_ne hx hb hd e1 (fun q => ?_) (fun q => ?_)
      · refine W.eq ?_ (k _ hL); rw [if_pos (cmp2_t (cd := .ne) (by first | exact q | exact Int32.not_lt.mp q | exact Int32.not_le.mp q))]
      · refine W.eq ?_ (k _ hL); rw [if_neg (cmp2_f (cd := .ne) (by first | exact q | exact (fun z => z q) | (intro z; exact q (by first | exact z | exact Int32.not_lt.mpr z | exact Int32.not_le.mpr z))))]
    · refine lv_icmp_lt hx hb hd e1 (fun q => ?_) (fun q => ?_)
      · refine W.eq ?_ (k _ hL); rw [if_pos (cmp2_t (cd := .lt) (by first | exact q | exact Int32.not_lt.mp q | exact Int32.not_le.mp q))]
      · refine W.eq ?_ (k _ hL); rw [if_neg (cmp2_f (cd := .lt) (by first | exact q | exact (fun z => z q) | (intro z; exact q (by first | exact z | exact Int32.not_lt.mpr z | exact Int32.not_le.mpr z))))]
    · refine lv_icmp_ge hx hb hd e1 (fun q => ?_) (fun q => ?_)
      · refine W.eq ?_ (k _ hL); rw [if_pos (cmp2_t (cd := .ge) (by first | exact q | exact Int32.not_lt.mp q | exact Int32.not_le.mp q))]
      · refine W.eq ?_ (k _ hL); rw [if_neg (cmp2_f (cd := .ge) (by first | exact q | exact (fun z => z q) | (intro z; exact q (by first | exact z | exact Int32.not_lt.mpr z | exact Int32.not_le.mpr z))))]
    · refine lv_icmp_gt hx hb hd e1 (fun q => ?_) (fun q => ?_)
      · refine W.eq ?_ (k _ hL); rw [if_pos (cmp2_t (cd := .gt) (by first | exact q | exact Int32.not_lt.mp q | exact Int32.not_le.mp q))]
      · refine W.eq ?_ (k _ hL); rw [if_neg (cmp2_f (cd := .gt) (by first | exact q | exact (fun z => z q) | (intro z; exact q (by first | exact z | exact Int32.not_lt.mpr z | exact Int32.not_le.mpr z))))]
    · refine lv_icmp_le hx hb hd e1 (fun q => ?_) (fun q => ?_)
      · refine W.eq ?_ (k _ hL); rw [if_pos (cmp2_t (cd := .le) (by first | exact q | exact Int32.not_lt.mp q | exact Int32.not_le.mp q))]
      · refine W.eq ?_ (k _ hL); rw [if_neg (cmp2_f (cd := .le) (by first | exact q | exact (fun z => z q) | (intro z; exact q (by first | exact z | exact Int32.not_lt.mpr z | exact Int32.not_le.mpr z))))]
  case tableswitch dflt lo hi offs =>
    have h : (qi st fun x r => if x.toInt < lo ∨ hi < x.toInt then gt pc dflt (fun t => some (t, ls, r)) else match offs[(x.toInt - lo).toNat]? with | some off => gt pc off (fun t => some (t, ls, r)) | none => none) = some (pc2, ls2, st2) := h
    obtain ⟨x, r, rfl, h9⟩ := qi_inv h
    split at h9
    · obtain ⟨t, e1, h9⟩ := gt_inv h9; cases h9; exact lv_tableOut hx hb hd (by assumption) e1 (k _ hL)
    · rename_i hn
      split at h9
      · obtain ⟨t, e1, h9⟩ := gt_inv h9; cases h9; exact lv_tableIn hx hb hd (fun q => hn (Or.inl q)) (fun q => hn (Or.inr q)) (by assumption) e1 (k _ hL)
      · cases h9
  case lookupswitch dflt ps =>
    have h : (qi st fun x r => gc ((ps.toList.zip (ps.toList.drop 1)).all (fun (a, next) => a.1 < next.1)) (gt pc (Op.lookupswitch.offset ps.toList dflt x.toInt) fun t => some (t, ls, r))) = some (pc2, ls2, st2) := h
    obtain ⟨x, r, rfl, h⟩ := qi_inv h; obtain ⟨e0, h⟩ := gc_inv h; obtain ⟨t, e1, h⟩ := gt_inv h; cases h; exact lv_lookup hx hb hd e0 rfl e1 (k _ hL)
  all_goals exact absurd (show (none : Option (Nat × Lcs × Stk)) = some (pc2, ls2, st2) from h) (by simp)
end PST
end
section
/-! ===== THE CLASSES, THE METHODS, THE LINKS: read off the printed claim by program (names, fields, types as printed there) ===== -/
def RX0 : String := "SoupTable$Refusal"
def TX0 : u_T := fun k => match k with
  | 0 => ("SoupTable$Refusal", "reason", "I", false)
  | 1 => ("SoupTable$Refusal", "detail", "I", false)
  | _ => ("SoupTable$Refusal", "command", "I", false)
def tyX0 : Nat → FieldType := fun k => match k with
  | 0 => .int
  | 1 => .int
  | _ => .int
theorem nmX0 : ∀ a, a < 3 → ∀ b, b < 3 → a ≠ b → (TX0 a).2.1 ≠ (TX0 b).2.1 := by decide +kernel
theorem tyX0_ok : ∀ k, k < 3 → parseFieldDescriptor (TX0 k).2.2.1 = some (tyX0 k) := by decide +kernel
def RX1 : String := "SoupTable$Seat"
def TX1 : u_T := fun k => match k with
  | 0 => ("SoupTable$Seat", "manner", "I", false)
  | 1 => ("SoupTable$Seat", "think", "I", false)
  | 2 => ("SoupTable$Seat", "eat", "I", false)
  | 3 => ("SoupTable$Seat", "how", "I", false)
  | 4 => ("SoupTable$Seat", "left", "I", false)
  | 5 => ("SoupTable$Seat", "meals", "I", false)
  | 6 => ("SoupTable$Seat", "waited", "I", false)
  | 7 => ("SoupTable$Seat", "waitedNow", "I", false)
  | _ => ("SoupTable$Seat", "waitedMost", "I", false)
def tyX1 : Nat → FieldType := fun k => match k with
  | 0 => .int
  | 1 => .int
  | 2 => .int
  | 3 => .int
  | 4 => .int
  | 5 => .int
  | 6 => .int
  | 7 => .int
  | _ => .int
theorem nmX1 : ∀ a, a < 9 → ∀ b, b < 9 → a ≠ b → (TX1 a).2.1 ≠ (TX1 b).2.1 := by decide +kernel
theorem tyX1_ok : ∀ k, k < 9 → parseFieldDescriptor (TX1 k).2.2.1 = some (tyX1 k) := by decide +kernel
def RX2 : String := "SoupTable$Table"
def TX2 : u_T := fun k => match k with
  | 0 => ("SoupTable$Table", "seats", "[LSoupTable$Seat;", true)
  | 1 => ("SoupTable$Table", "holders", "[I", true)
  | 2 => ("SoupTable$Table", "count", "I", false)
  | 3 => ("SoupTable$Table", "waiterNumber", "I", false)
  | 4 => ("SoupTable$Table", "bowls", "I", false)
  | 5 => ("SoupTable$Table", "ticks", "I", false)
  | 6 => ("SoupTable$Table", "bowlsTaken", "I", false)
  | _ => ("SoupTable$Table", "ladlesTaken", "I", false)
def tyX2 : Nat → FieldType := fun k => match k with
  | 0 => .array (.object "SoupTable$Seat")
  | 1 => .array .int
  | 2 => .int
  | 3 => .int
  | 4 => .int
  | 5 => .int
  | 6 => .int
  | _ => .int
theorem nmX2 : ∀ a, a < 8 → ∀ b, b < 8 → a ≠ b → (TX2 a).2.1 ≠ (TX2 b).2.1 := by decide +kernel
theorem tyX2_ok : ∀ k, k < 8 → parseFieldDescriptor (TX2 k).2.2.1 = some (tyX2 k) := by decide +kernel
def RX3 : String := "SoupTable$Text"
def TX3 : u_T := fun k => match k with
  | 0 => ("SoupTable$Text", "signs", "[C", true)
  | 1 => ("SoupTable$Text", "length", "I", false)
  | 2 => ("SoupTable$Text", "place", "I", false)
  | 3 => ("SoupTable$Text", "kind", "I", false)
  | _ => ("SoupTable$Text", "numbers", "[I", true)
def tyX3 : Nat → FieldType := fun k => match k with
  | 0 => .array .char
  | 1 => .int
  | 2 => .int
  | 3 => .int
  | _ => .array .int
theorem nmX3 : ∀ a, a < 5 → ∀ b, b < 5 → a ≠ b → (TX3 a).2.1 ≠ (TX3 b).2.1 := by decide +kernel
theorem tyX3_ok : ∀ k, k < 5 → parseFieldDescriptor (TX3 k).2.2.1 = some (tyX3 k) := by decide +kernel
def RX5 : String := "SoupTable"
def TX5 : u_T := fun k => match k with
  | 0 => ("SoupTable", "table", "LSoupTable$Table;", true)
  | 1 => ("SoupTable", "ahead", "LSoupTable$Table;", true)
  | 2 => ("SoupTable", "saved", "LSoupTable$Table;", true)
  | 3 => ("SoupTable", "isSaved", "Z", false)
  | 4 => ("SoupTable", "past", "[LSoupTable$Table;", true)
  | 5 => ("SoupTable", "changes", "I", false)
  | 6 => ("SoupTable", "before", "LSoupTable$Table;", false)
  | 7 => ("SoupTable", "text", "LSoupTable$Text;", true)
  | 8 => ("SoupTable", "fault", "I", false)
  | 9 => ("SoupTable", "refusal", "LSoupTable$Refusal;", true)
  | 10 => ("SoupTable", "letters", "[C", true)
  | _ => ("SoupTable", "letterCount", "I", false)
def tyX5 : Nat → FieldType := fun k => match k with
  | 0 => .object "SoupTable$Table"
  | 1 => .object "SoupTable$Table"
  | 2 => .object "SoupTable$Table"
  | 3 => .boolean
  | 4 => .array (.object "SoupTable$Table")
  | 5 => .int
  | 6 => .object "SoupTable$Table"
  | 7 => .object "SoupTable$Text"
  | 8 => .int
  | 9 => .object "SoupTable$Refusal"
  | 10 => .array .char
  | _ => .int
theorem nmX5 : ∀ a, a < 12 → ∀ b, b < 12 → a ≠ b → (TX5 a).2.1 ≠ (TX5 b).2.1 := by decide +kernel
theorem tyX5_ok : ∀ k, k < 12 → parseFieldDescriptor (TX5 k).2.2.1 = some (tyX5 k) := by decide +kernel
def RX6 : String := "SoupTableModel"
def TX6 : u_T := fun k => match k with
  | 0 => ("SoupTableModel", "now", "[I", true)
  | 1 => ("SoupTableModel", "tried", "[I", true)
  | 2 => ("SoupTableModel", "thought", "[I", true)
  | 3 => ("SoupTableModel", "kept", "[I", true)
  | 4 => ("SoupTableModel", "undos", "I", false)
  | 5 => ("SoupTableModel", "saved", "[I", true)
  | 6 => ("SoupTableModel", "isSaved", "Z", false)
  | 7 => ("SoupTableModel", "line", "[C", true)
  | 8 => ("SoupTableModel", "lined", "I", false)
  | 9 => ("SoupTableModel", "text", "[C", true)
  | 10 => ("SoupTableModel", "length", "I", false)
  | 11 => ("SoupTableModel", "at", "I", false)
  | 12 => ("SoupTableModel", "order", "C", false)
  | 13 => ("SoupTableModel", "told", "[I", true)
  | 14 => ("SoupTableModel", "fault", "I", false)
  | 15 => ("SoupTableModel", "reason", "I", false)
  | 16 => ("SoupTableModel", "detail", "I", false)
  | 17 => ("SoupTableModel", "index", "I", false)
  | 18 => ("SoupTableModel", "answer", "I", false)
  | _ => ("SoupTableModel", "thrown", "I", false)
def tyX6 : Nat → FieldType := fun k => match k with
  | 0 => .array .int
  | 1 => .array .int
  | 2 => .array .int
  | 3 => .array .int
  | 4 => .int
  | 5 => .array .int
  | 6 => .boolean
  | 7 => .array .char
  | 8 => .int
  | 9 => .array .char
  | 10 => .int
  | 11 => .int
  | 12 => .char
  | 13 => .array .int
  | 14 => .int
  | 15 => .int
  | 16 => .int
  | 17 => .int
  | 18 => .int
  | _ => .int
theorem nmX6 : ∀ a, a < 20 → ∀ b, b < 20 → a ≠ b → (TX6 a).2.1 ≠ (TX6 b).2.1 := by decide +kernel
theorem tyX6_ok : ∀ k, k < 20 → parseFieldDescriptor (TX6 k).2.2.1 = some (tyX6 k) := by decide +kernel
def KL : List vw_C := [(RX0, TX0, 3), (RX1, TX1, 9), (RX2, TX2, 8), (RX3, TX3, 5), (RX5, TX5, 12), (RX6, TX6, 20)]
def KTY : List (Nat → FieldType) := [tyX0, tyX1, tyX2, tyX3, tyX5, tyX6]
def CN : List String := ["SoupTable$Refusal", "SoupTable$Seat", "SoupTable$Table", "SoupTable$Text", "SoupTable$Waiting", "SoupTable", "SoupTableModel", "SoupTableLaw", "java/lang/String", "java/lang/StringLatin1", "java/lang/Integer", "jdk/internal/util/Preconditions"]
def MT_0 : List (MethodName × ByteArray × Nat × Option FieldType × (Nat × Nat × Nat × Nat) × (Bool × Bool × Nat × Nat) × List (Nat × Nat × Nat × Nat)) := [
  (⟨"SoupTable$Seat", "<init>", "()V"⟩, prog_3_method_1_code, 1, none, (1, 20, 0, 0), (false, false, 0, 1), []),
  (⟨"SoupTable$Table", "<init>", "()V"⟩, prog_4_method_1_code, 2, none, (2, 40, 10, 88), (false, false, 0, 2), []),
  (⟨"SoupTable$Text", "<init>", "()V"⟩, prog_5_method_1_code, 1, none, (1, 20, 2, 63), (false, false, 0, 3), []),
  (⟨"SoupTable$Refusal", "<init>", "()V"⟩, prog_2_method_1_code, 1, none, (1, 20, 0, 0), (false, false, 0, 0), []),
  (⟨"SoupTable", "<init>", "()V"⟩, prog_1_method_1_code, 2, none, (3, 61, 138, 1271), (false, false, 0, 5), []),
  (⟨"SoupTableModel", "<init>", "()V"⟩, prog_8_method_1_code, 1, none, (1, 20, 8, 1359), (false, false, 0, 6), []),
  (⟨"SoupTable$Seat", "copyFrom", "(LSoupTable$Seat;)V"⟩, prog_3_method_8_code, 2, none, (0, 0, 0, 0), (false, false, 0, 1), []),
  (⟨"SoupTable$Table", "copyFrom", "(LSoupTable$Table;)V"⟩, prog_4_method_2_code, 3, none, (1, 21, 0, 0), (false, false, 0, 2), []),
  (⟨"SoupTable$Table", "isManner", "(I)Z"⟩, prog_4_method_36_code, 1, Option.some Jvm.ClassFile.FieldType.boolean, (0, 0, 0, 0), (false, true, 0, 2), []),
  (⟨"SoupTable$Table", "isClock", "(I)Z"⟩, prog_4_method_37_code, 1, Option.some Jvm.ClassFile.FieldType.boolean, (0, 0, 0, 0), (false, true, 0, 2), []),
  (⟨"SoupTable$Refusal", "refuse", "(II)I"⟩, prog_2_method_2_code, 3, Option.some Jvm.ClassFile.FieldType.int, (0, 0, 0, 0), (false, false, 0, 0), []),
  (⟨"SoupTable$Table", "heldLadles", "()I"⟩, prog_4_method_29_code, 3, Option.some Jvm.ClassFile.FieldType.int, (0, 0, 0, 0), (false, false, 0, 2), []),
  (⟨"SoupTable$Seat", "beginToThink", "()V"⟩, prog_3_method_3_code, 1, none, (0, 0, 0, 0), (false, false, 0, 1), []),
  (⟨"SoupTable$Seat", "begin", "(III)V"⟩, prog_3_method_2_code, 4, none, (1, 20, 0, 0), (false, false, 0, 1), []),
  (⟨"SoupTable$Table", "addSeat", "(IIILSoupTable$Refusal;)I"⟩, prog_4_method_4_code, 5, Option.some Jvm.ClassFile.FieldType.int, (2, 43, 0, 0), (false, false, 0, 2), []),
  (⟨"SoupTable", "keepBefore", "()V"⟩, prog_1_method_38_code, 3, none, (0, 0, 0, 0), (false, false, 0, 5), []),
  (⟨"SoupTable", "kept", "(I)I"⟩, prog_1_method_37_code, 2, Option.some Jvm.ClassFile.FieldType.int, (8, 120, 1, 6), (false, false, 0, 5), []),
  (⟨"SoupTable", "join", "(III)I"⟩, prog_1_method_2_code, 4, Option.some Jvm.ClassFile.FieldType.int, (9, 141, 1, 6), (false, false, 0, 5), []),
  (⟨"SoupTableLaw", "join", "(LSoupTable;III[J)I"⟩, method_3_code, 6, Option.some Jvm.ClassFile.FieldType.int, (10, 164, 1, 6), (false, true, 0, 7), [((0 : Nat), (12 : Nat), (15 : Nat), (13 : Nat))]),
  (⟨"SoupTableModel", "tries", "()V"⟩, prog_8_method_5_code, 2, none, (0, 0, 0, 0), (false, false, 0, 6), []),
  (⟨"SoupTableModel", "in", "(III)Z"⟩, prog_8_method_4_code, 3, Option.some Jvm.ClassFile.FieldType.boolean, (0, 0, 0, 0), (false, true, 0, 6), []),
  (⟨"SoupTableModel", "refuses", "(II)Z"⟩, prog_8_method_11_code, 3, Option.some Jvm.ClassFile.FieldType.boolean, (0, 0, 0, 0), (false, false, 0, 6), []),
  (⟨"SoupTableModel", "held", "()I"⟩, prog_8_method_20_code, 3, Option.some Jvm.ClassFile.FieldType.int, (0, 0, 0, 0), (false, false, 0, 6), []),
  (⟨"SoupTableModel", "sets", "(III)V"⟩, prog_8_method_15_code, 4, none, (0, 0, 0, 0), (false, false, 0, 6), []),
  (⟨"SoupTableModel", "does", "(I)Z"⟩, prog_8_method_10_code, 2, Option.some Jvm.ClassFile.FieldType.boolean, (0, 0, 0, 0), (false, false, 0, 6), []),
  (⟨"SoupTableModel", "joins", "(III)Z"⟩, prog_8_method_24_code, 6, Option.some Jvm.ClassFile.FieldType.boolean, (1, 23, 0, 0), (false, false, 0, 6), []),
  (⟨"SoupTableModel", "keeps", "(I)I"⟩, prog_8_method_7_code, 3, Option.some Jvm.ClassFile.FieldType.int, (0, 0, 0, 0), (false, false, 0, 6), []),
  (⟨"SoupTableModel", "raises", "(I)I"⟩, prog_8_method_3_code, 2, Option.some Jvm.ClassFile.FieldType.int, (0, 0, 0, 0), (false, false, 0, 6), []),
  (⟨"SoupTableModel", "ends", "(Z)I"⟩, prog_8_method_12_code, 2, Option.some Jvm.ClassFile.FieldType.int, (1, 22, 0, 0), (false, false, 0, 6), []),
  (⟨"SoupTableModel", "join", "(III)I"⟩, prog_8_method_25_code, 4, Option.some Jvm.ClassFile.FieldType.int, (2, 48, 0, 0), (false, false, 0, 6), []),
  (⟨"SoupTableModel", "thrown", "()I"⟩, prog_8_method_2_code, 1, Option.some Jvm.ClassFile.FieldType.int, (0, 0, 0, 0), (false, false, 0, 6), []),
  (⟨"SoupTable$Table", "removeSeat", "(LSoupTable$Refusal;)I"⟩, prog_4_method_5_code, 2, Option.some Jvm.ClassFile.FieldType.int, (1, 22, 0, 0), (false, false, 0, 2), [])]
def MT_1 : List (MethodName × ByteArray × Nat × Option FieldType × (Nat × Nat × Nat × Nat) × (Bool × Bool × Nat × Nat) × List (Nat × Nat × Nat × Nat)) := [
  (⟨"SoupTable", "leave", "()I"⟩, prog_1_method_3_code, 1, Option.some Jvm.ClassFile.FieldType.int, (9, 141, 1, 6), (false, false, 0, 5), []),
  (⟨"SoupTableLaw", "leave", "(LSoupTable;[J)I"⟩, method_4_code, 3, Option.some Jvm.ClassFile.FieldType.int, (10, 161, 1, 6), (false, true, 0, 7), [((0 : Nat), (8 : Nat), (11 : Nat), (13 : Nat))]),
  (⟨"SoupTableModel", "drops", "(I)V"⟩, prog_8_method_26_code, 4, none, (0, 0, 0, 0), (false, false, 0, 6), []),
  (⟨"SoupTableModel", "leaves", "()Z"⟩, prog_8_method_27_code, 1, Option.some Jvm.ClassFile.FieldType.boolean, (1, 23, 0, 0), (false, false, 0, 6), []),
  (⟨"SoupTableModel", "leave", "()I"⟩, prog_8_method_28_code, 1, Option.some Jvm.ClassFile.FieldType.int, (2, 43, 0, 0), (false, false, 0, 6), []),
  (⟨"SoupTable$Table", "hasSeat", "(I)Z"⟩, prog_4_method_16_code, 2, Option.some Jvm.ClassFile.FieldType.boolean, (0, 0, 0, 0), (false, false, 0, 2), []),
  (⟨"SoupTable$Table", "setManner", "(IILSoupTable$Refusal;)I"⟩, prog_4_method_6_code, 4, Option.some Jvm.ClassFile.FieldType.int, (1, 22, 0, 0), (false, false, 0, 2), []),
  (⟨"SoupTable", "manner", "(II)I"⟩, prog_1_method_4_code, 3, Option.some Jvm.ClassFile.FieldType.int, (9, 141, 1, 6), (false, false, 0, 5), []),
  (⟨"SoupTableLaw", "manner", "(LSoupTable;II[J)I"⟩, method_5_code, 5, Option.some Jvm.ClassFile.FieldType.int, (10, 163, 1, 6), (false, true, 0, 7), [((0 : Nat), (10 : Nat), (13 : Nat), (13 : Nat))]),
  (⟨"SoupTableModel", "isSeat", "(I)Z"⟩, prog_8_method_13_code, 2, Option.some Jvm.ClassFile.FieldType.boolean, (1, 22, 0, 0), (false, false, 0, 6), []),
  (⟨"SoupTableModel", "of", "(II)I"⟩, prog_8_method_14_code, 3, Option.some Jvm.ClassFile.FieldType.int, (0, 0, 0, 0), (false, false, 0, 6), []),
  (⟨"SoupTableModel", "how", "(I)I"⟩, prog_8_method_16_code, 2, Option.some Jvm.ClassFile.FieldType.int, (1, 22, 0, 0), (false, false, 0, 6), []),
  (⟨"SoupTableModel", "turns", "(II)Z"⟩, prog_8_method_29_code, 3, Option.some Jvm.ClassFile.FieldType.boolean, (2, 43, 0, 0), (false, false, 0, 6), []),
  (⟨"SoupTableModel", "manner", "(II)I"⟩, prog_8_method_30_code, 3, Option.some Jvm.ClassFile.FieldType.int, (3, 65, 0, 0), (false, false, 0, 6), []),
  (⟨"SoupTable$Table", "setClocks", "(IIILSoupTable$Refusal;)I"⟩, prog_4_method_7_code, 6, Option.some Jvm.ClassFile.FieldType.int, (1, 22, 0, 0), (false, false, 0, 2), []),
  (⟨"SoupTable", "clocks", "(III)I"⟩, prog_1_method_5_code, 4, Option.some Jvm.ClassFile.FieldType.int, (9, 141, 1, 6), (false, false, 0, 5), []),
  (⟨"SoupTableLaw", "clocks", "(LSoupTable;III[J)I"⟩, method_6_code, 6, Option.some Jvm.ClassFile.FieldType.int, (10, 164, 1, 6), (false, true, 0, 7), [((0 : Nat), (12 : Nat), (15 : Nat), (13 : Nat))]),
  (⟨"SoupTableModel", "times", "(III)Z"⟩, prog_8_method_31_code, 5, Option.some Jvm.ClassFile.FieldType.boolean, (2, 43, 0, 0), (false, false, 0, 6), []),
  (⟨"SoupTableModel", "clocks", "(III)I"⟩, prog_8_method_32_code, 4, Option.some Jvm.ClassFile.FieldType.int, (3, 67, 0, 0), (false, false, 0, 6), []),
  (⟨"SoupTable$Table", "setWaiter", "(ILSoupTable$Refusal;)I"⟩, prog_4_method_8_code, 4, Option.some Jvm.ClassFile.FieldType.int, (1, 22, 0, 0), (false, false, 0, 2), []),
  (⟨"SoupTable", "waiter", "(I)I"⟩, prog_1_method_6_code, 2, Option.some Jvm.ClassFile.FieldType.int, (9, 141, 1, 6), (false, false, 0, 5), []),
  (⟨"SoupTableLaw", "waiter", "(LSoupTable;I[J)I"⟩, method_7_code, 4, Option.some Jvm.ClassFile.FieldType.int, (10, 162, 1, 6), (false, true, 0, 7), [((0 : Nat), (9 : Nat), (12 : Nat), (13 : Nat))]),
  (⟨"SoupTableModel", "tells", "(I)Z"⟩, prog_8_method_33_code, 3, Option.some Jvm.ClassFile.FieldType.boolean, (1, 22, 0, 0), (false, false, 0, 6), []),
  (⟨"SoupTableModel", "waiter", "(I)I"⟩, prog_8_method_34_code, 2, Option.some Jvm.ClassFile.FieldType.int, (2, 44, 0, 0), (false, false, 0, 6), []),
  (⟨"SoupTable$Table", "addBowls", "(ILSoupTable$Refusal;)I"⟩, prog_4_method_9_code, 3, Option.some Jvm.ClassFile.FieldType.int, (1, 22, 0, 0), (false, false, 0, 2), []),
  (⟨"SoupTable", "bring", "(I)I"⟩, prog_1_method_7_code, 2, Option.some Jvm.ClassFile.FieldType.int, (9, 141, 1, 6), (false, false, 0, 5), []),
  (⟨"SoupTableLaw", "bring", "(LSoupTable;I[J)I"⟩, method_8_code, 4, Option.some Jvm.ClassFile.FieldType.int, (10, 162, 1, 6), (false, true, 0, 7), [((0 : Nat), (9 : Nat), (12 : Nat), (13 : Nat))]),
  (⟨"SoupTableModel", "brings", "(I)Z"⟩, prog_8_method_35_code, 2, Option.some Jvm.ClassFile.FieldType.boolean, (1, 22, 0, 0), (false, false, 0, 6), []),
  (⟨"SoupTableModel", "bring", "(I)I"⟩, prog_8_method_36_code, 2, Option.some Jvm.ClassFile.FieldType.int, (2, 43, 0, 0), (false, false, 0, 6), []),
  (⟨"SoupTable$Table", "ladleOf", "(IZ)I"⟩, prog_4_method_19_code, 4, Option.some Jvm.ClassFile.FieldType.int, (0, 0, 0, 0), (false, false, 0, 2), []),
  (⟨"SoupTable$Table", "takeAway", "(ILSoupTable$Refusal;)I"⟩, prog_4_method_10_code, 5, Option.some Jvm.ClassFile.FieldType.int, (1, 23, 0, 0), (false, false, 0, 2), []),
  (⟨"SoupTable", "take", "(I)I"⟩, prog_1_method_8_code, 2, Option.some Jvm.ClassFile.FieldType.int, (9, 141, 1, 6), (false, false, 0, 5), [])]
def MT_2 : List (MethodName × ByteArray × Nat × Option FieldType × (Nat × Nat × Nat × Nat) × (Bool × Bool × Nat × Nat) × List (Nat × Nat × Nat × Nat)) := [
  (⟨"SoupTableLaw", "take", "(LSoupTable;I[J)I"⟩, method_9_code, 4, Option.some Jvm.ClassFile.FieldType.int, (10, 162, 1, 6), (false, true, 0, 7), [((0 : Nat), (9 : Nat), (12 : Nat), (13 : Nat))]),
  (⟨"SoupTableModel", "by", "(I)I"⟩, prog_8_method_19_code, 2, Option.some Jvm.ClassFile.FieldType.int, (0, 0, 0, 0), (false, false, 0, 6), []),
  (⟨"SoupTableModel", "left", "(I)I"⟩, prog_8_method_17_code, 2, Option.some Jvm.ClassFile.FieldType.int, (0, 0, 0, 0), (false, false, 0, 6), []),
  (⟨"SoupTableModel", "takes", "(I)Z"⟩, prog_8_method_37_code, 3, Option.some Jvm.ClassFile.FieldType.boolean, (2, 43, 0, 0), (false, false, 0, 6), []),
  (⟨"SoupTableModel", "take", "(I)I"⟩, prog_8_method_38_code, 2, Option.some Jvm.ClassFile.FieldType.int, (3, 65, 0, 0), (false, false, 0, 6), []),
  (⟨"SoupTable$Table", "canTick", "()Z"⟩, prog_4_method_17_code, 1, Option.some Jvm.ClassFile.FieldType.boolean, (0, 0, 0, 0), (false, false, 0, 2), []),
  (⟨"SoupTable$Table", "mealsOfAll", "()I"⟩, prog_4_method_32_code, 3, Option.some Jvm.ClassFile.FieldType.int, (0, 0, 0, 0), (false, false, 0, 2), []),
  (⟨"SoupTable$Table", "thinkOrEat", "(I)V"⟩, prog_4_method_13_code, 3, none, (1, 23, 0, 0), (false, false, 0, 2), []),
  (⟨"SoupTable$Table", "askersBefore", "(I)I"⟩, prog_4_method_25_code, 5, Option.some Jvm.ClassFile.FieldType.int, (0, 0, 0, 0), (false, false, 0, 2), []),
  (⟨"SoupTable$Table", "askerAt", "(I)I"⟩, prog_4_method_24_code, 3, Option.some Jvm.ClassFile.FieldType.int, (1, 24, 0, 0), (false, false, 0, 2), []),
  (⟨"SoupTable$Table", "setWithLeave", "()I"⟩, prog_4_method_30_code, 3, Option.some Jvm.ClassFile.FieldType.int, (0, 0, 0, 0), (false, false, 0, 2), []),
  (⟨"java/lang/Integer", "bitCount", "(I)I"⟩, prog_19_method_49_code, 1, Option.some Jvm.ClassFile.FieldType.int, (0, 0, 0, 0), (false, true, 1, 10), []),
  (⟨"SoupTable$Table", "waiterLetsMore", "()Z"⟩, prog_4_method_23_code, 1, Option.some Jvm.ClassFile.FieldType.boolean, (1, 22, 0, 0), (false, false, 0, 2), []),
  (⟨"SoupTable$Table", "giveLeave", "()V"⟩, prog_4_method_14_code, 3, none, (2, 46, 0, 0), (false, false, 0, 2), []),
  (⟨"SoupTable$Table", "wantedLadle", "(I)I"⟩, prog_4_method_21_code, 3, Option.some Jvm.ClassFile.FieldType.int, (1, 23, 0, 0), (false, false, 0, 2), []),
  (⟨"SoupTable$Table", "isFree", "(I)Z"⟩, prog_4_method_20_code, 2, Option.some Jvm.ClassFile.FieldType.boolean, (1, 21, 0, 0), (false, false, 0, 2), []),
  (⟨"SoupTable$Seat", "beginToEat", "()V"⟩, prog_3_method_4_code, 1, none, (0, 0, 0, 0), (false, false, 0, 1), []),
  (⟨"SoupTable$Table", "takeLadles", "(I)V"⟩, prog_4_method_15_code, 5, none, (2, 45, 0, 0), (false, false, 0, 2), []),
  (⟨"SoupTable$Seat", "waitIfHungry", "()V"⟩, prog_3_method_5_code, 1, none, (1, 30, 0, 0), (false, false, 0, 1), []),
  (⟨"SoupTable$Table", "tick", "()V"⟩, prog_4_method_12_code, 2, none, (3, 69, 0, 0), (false, false, 0, 2), []),
  (⟨"SoupTable$Table", "passTicks", "(ILSoupTable$Refusal;)I"⟩, prog_4_method_11_code, 5, Option.some Jvm.ClassFile.FieldType.int, (4, 90, 0, 0), (false, false, 0, 2), []),
  (⟨"SoupTable", "pass", "(I)I"⟩, prog_1_method_9_code, 2, Option.some Jvm.ClassFile.FieldType.int, (9, 141, 1, 6), (false, false, 0, 5), []),
  (⟨"SoupTableLaw", "pass", "(LSoupTable;I[J)I"⟩, method_10_code, 4, Option.some Jvm.ClassFile.FieldType.int, (10, 162, 1, 6), (false, true, 0, 7), [((0 : Nat), (9 : Nat), (12 : Nat), (13 : Nat))]),
  (⟨"SoupTableModel", "isDone", "(I)Z"⟩, prog_8_method_39_code, 2, Option.some Jvm.ClassFile.FieldType.boolean, (1, 23, 0, 0), (false, false, 0, 6), []),
  (⟨"SoupTableModel", "withLeave", "()I"⟩, prog_8_method_22_code, 3, Option.some Jvm.ClassFile.FieldType.int, (1, 22, 0, 0), (false, false, 0, 6), []),
  (⟨"SoupTableModel", "lets", "()Z"⟩, prog_8_method_23_code, 1, Option.some Jvm.ClassFile.FieldType.boolean, (2, 44, 0, 0), (false, false, 0, 6), []),
  (⟨"SoupTableModel", "ladleOf", "(IZ)I"⟩, prog_8_method_18_code, 3, Option.some Jvm.ClassFile.FieldType.int, (1, 22, 0, 0), (false, false, 0, 6), []),
  (⟨"SoupTableModel", "wanted", "(I)I"⟩, prog_8_method_21_code, 2, Option.some Jvm.ClassFile.FieldType.int, (2, 44, 0, 0), (false, false, 0, 6), []),
  (⟨"SoupTableModel", "grabs", "(I)V"⟩, prog_8_method_40_code, 2, none, (3, 65, 0, 0), (false, false, 0, 6), []),
  (⟨"SoupTableModel", "tickGoes", "()I"⟩, prog_8_method_41_code, 3, Option.some Jvm.ClassFile.FieldType.int, (4, 86, 0, 0), (false, false, 0, 6), []),
  (⟨"SoupTableModel", "ticks", "(I)I"⟩, prog_8_method_42_code, 4, Option.some Jvm.ClassFile.FieldType.int, (5, 108, 0, 0), (false, false, 0, 6), []),
  (⟨"SoupTableModel", "passes", "(I)Z"⟩, prog_8_method_43_code, 2, Option.some Jvm.ClassFile.FieldType.boolean, (6, 131, 0, 0), (false, false, 0, 6), [])]
def MT_3 : List (MethodName × ByteArray × Nat × Option FieldType × (Nat × Nat × Nat × Nat) × (Bool × Bool × Nat × Nat) × List (Nat × Nat × Nat × Nat)) := [
  (⟨"SoupTableModel", "pass", "(I)I"⟩, prog_8_method_44_code, 2, Option.some Jvm.ClassFile.FieldType.int, (7, 152, 0, 0), (false, false, 0, 6), []),
  (⟨"SoupTable$Seat", "number", "(I)I"⟩, prog_3_method_7_code, 2, Option.some Jvm.ClassFile.FieldType.int, (0, 0, 0, 0), (false, false, 0, 1), []),
  (⟨"SoupTable", "seatOf", "(II)I"⟩, prog_1_method_10_code, 3, Option.some Jvm.ClassFile.FieldType.int, (8, 120, 1, 6), (false, false, 0, 5), []),
  (⟨"SoupTableLaw", "seatOf", "(LSoupTable;II[J)I"⟩, method_11_code, 5, Option.some Jvm.ClassFile.FieldType.int, (9, 142, 1, 6), (false, true, 0, 7), [((0 : Nat), (10 : Nat), (13 : Nat), (42 : Nat)), ((0 : Nat), (10 : Nat), (17 : Nat), (44 : Nat))]),
  (⟨"SoupTableModel", "seatOf", "(II)I"⟩, prog_8_method_45_code, 3, Option.some Jvm.ClassFile.FieldType.int, (2, 43, 0, 0), (false, false, 0, 6), []),
  (⟨"SoupTable", "ladle", "(IZ)I"⟩, prog_1_method_11_code, 3, Option.some Jvm.ClassFile.FieldType.int, (8, 120, 1, 6), (false, false, 0, 5), []),
  (⟨"SoupTableLaw", "ladle", "(LSoupTable;IZ[J)I"⟩, method_12_code, 5, Option.some Jvm.ClassFile.FieldType.int, (9, 142, 1, 6), (false, true, 0, 7), [((0 : Nat), (10 : Nat), (13 : Nat), (42 : Nat))]),
  (⟨"SoupTableModel", "ladle", "(IZ)I"⟩, prog_8_method_46_code, 3, Option.some Jvm.ClassFile.FieldType.int, (2, 44, 0, 0), (false, false, 0, 6), []),
  (⟨"SoupTable", "holder", "(I)I"⟩, prog_1_method_12_code, 2, Option.some Jvm.ClassFile.FieldType.int, (8, 120, 1, 6), (false, false, 0, 5), []),
  (⟨"SoupTableLaw", "holder", "(LSoupTable;I[J)I"⟩, method_13_code, 4, Option.some Jvm.ClassFile.FieldType.int, (9, 141, 1, 6), (false, true, 0, 7), [((0 : Nat), (9 : Nat), (12 : Nat), (42 : Nat))]),
  (⟨"SoupTableModel", "holder", "(I)I"⟩, prog_8_method_47_code, 2, Option.some Jvm.ClassFile.FieldType.int, (2, 43, 0, 0), (false, false, 0, 6), []),
  (⟨"SoupTable$Table", "awaitedSeat", "(I)I"⟩, prog_4_method_22_code, 3, Option.some Jvm.ClassFile.FieldType.int, (2, 45, 0, 0), (false, false, 0, 2), []),
  (⟨"SoupTable", "waitsFor", "(I)I"⟩, prog_1_method_13_code, 3, Option.some Jvm.ClassFile.FieldType.int, (8, 120, 1, 6), (false, false, 0, 5), []),
  (⟨"SoupTableLaw", "waitsFor", "(LSoupTable;I[J)I"⟩, method_14_code, 4, Option.some Jvm.ClassFile.FieldType.int, (9, 142, 1, 6), (false, true, 0, 7), [((0 : Nat), (9 : Nat), (12 : Nat), (42 : Nat)), ((0 : Nat), (9 : Nat), (15 : Nat), (56 : Nat))]),
  (⟨"SoupTableModel", "other", "(I)I"⟩, prog_8_method_48_code, 3, Option.some Jvm.ClassFile.FieldType.int, (3, 65, 0, 0), (false, false, 0, 6), []),
  (⟨"SoupTableModel", "waitsFor", "(I)I"⟩, prog_8_method_49_code, 2, Option.some Jvm.ClassFile.FieldType.int, (4, 87, 0, 0), (false, false, 0, 6), []),
  (⟨"SoupTable", "asking", "(I)I"⟩, prog_1_method_14_code, 3, Option.some Jvm.ClassFile.FieldType.int, (8, 120, 1, 6), (false, false, 0, 5), []),
  (⟨"SoupTableLaw", "asking", "(LSoupTable;I[J)I"⟩, method_15_code, 4, Option.some Jvm.ClassFile.FieldType.int, (9, 142, 1, 6), (false, true, 0, 7), [((0 : Nat), (9 : Nat), (12 : Nat), (56 : Nat))]),
  (⟨"SoupTableModel", "asking", "(I)I"⟩, prog_8_method_50_code, 2, Option.some Jvm.ClassFile.FieldType.int, (1, 22, 0, 0), (false, false, 0, 6), []),
  (⟨"SoupTable", "eaters", "()I"⟩, prog_1_method_15_code, 3, Option.some Jvm.ClassFile.FieldType.int, (0, 0, 0, 0), (false, false, 0, 5), []),
  (⟨"SoupTableModel", "those", "(I)I"⟩, prog_8_method_51_code, 4, Option.some Jvm.ClassFile.FieldType.int, (2, 43, 0, 0), (false, false, 0, 6), []),
  (⟨"SoupTableModel", "eaters", "()I"⟩, prog_8_method_52_code, 1, Option.some Jvm.ClassFile.FieldType.int, (3, 66, 0, 0), (false, false, 0, 6), []),
  (⟨"SoupTable$Waiting", "comesBackTo", "(LSoupTable$Table;I)Z"⟩, prog_6_method_3_code, 4, Option.some Jvm.ClassFile.FieldType.boolean, (3, 67, 0, 0), (false, true, 0, 4), []),
  (⟨"SoupTable$Waiting", "ringOf", "(LSoupTable$Table;)I"⟩, prog_6_method_2_code, 3, Option.some Jvm.ClassFile.FieldType.int, (4, 90, 0, 0), (false, true, 0, 4), []),
  (⟨"SoupTable", "ring", "()I"⟩, prog_1_method_16_code, 1, Option.some Jvm.ClassFile.FieldType.int, (5, 112, 0, 0), (false, false, 0, 5), []),
  (⟨"SoupTableModel", "rings", "()I"⟩, prog_8_method_53_code, 5, Option.some Jvm.ClassFile.FieldType.int, (4, 87, 0, 0), (false, false, 0, 6), []),
  (⟨"SoupTableModel", "ring", "()I"⟩, prog_8_method_54_code, 1, Option.some Jvm.ClassFile.FieldType.int, (5, 111, 0, 0), (false, false, 0, 6), []),
  (⟨"SoupTable$Waiting", "waitingForOneIn", "(LSoupTable$Table;I)I"⟩, prog_6_method_5_code, 5, Option.some Jvm.ClassFile.FieldType.int, (3, 67, 0, 0), (false, true, 0, 4), []),
  (⟨"SoupTable$Waiting", "stuckOf", "(LSoupTable$Table;)I"⟩, prog_6_method_4_code, 4, Option.some Jvm.ClassFile.FieldType.int, (5, 112, 0, 0), (false, true, 0, 4), []),
  (⟨"SoupTable", "stuck", "()I"⟩, prog_1_method_17_code, 1, Option.some Jvm.ClassFile.FieldType.int, (6, 135, 0, 0), (false, false, 0, 5), []),
  (⟨"SoupTableModel", "stuckOnes", "()I"⟩, prog_8_method_55_code, 5, Option.some Jvm.ClassFile.FieldType.int, (5, 111, 0, 0), (false, false, 0, 6), []),
  (⟨"SoupTableModel", "stuck", "()I"⟩, prog_8_method_56_code, 1, Option.some Jvm.ClassFile.FieldType.int, (6, 135, 0, 0), (false, false, 0, 6), [])]
def MT_4 : List (MethodName × ByteArray × Nat × Option FieldType × (Nat × Nat × Nat × Nat) × (Bool × Bool × Nat × Nat) × List (Nat × Nat × Nat × Nat)) := [
  (⟨"SoupTable$Waiting", "canGoOn", "(LSoupTable$Table;II)Z"⟩, prog_6_method_7_code, 5, Option.some Jvm.ClassFile.FieldType.boolean, (3, 67, 0, 0), (false, true, 0, 4), []),
  (⟨"SoupTable$Waiting", "remainingOf", "(LSoupTable$Table;)I"⟩, prog_6_method_6_code, 4, Option.some Jvm.ClassFile.FieldType.int, (4, 91, 0, 0), (false, true, 0, 4), []),
  (⟨"SoupTable", "stuckAgain", "()I"⟩, prog_1_method_18_code, 1, Option.some Jvm.ClassFile.FieldType.int, (5, 114, 0, 0), (false, false, 0, 5), []),
  (⟨"SoupTableModel", "stuckAgain", "()I"⟩, prog_8_method_57_code, 1, Option.some Jvm.ClassFile.FieldType.int, (7, 155, 0, 0), (false, false, 0, 6), []),
  (⟨"SoupTable$Table", "hasBothManners", "()Z"⟩, prog_4_method_28_code, 2, Option.some Jvm.ClassFile.FieldType.boolean, (0, 0, 0, 0), (false, false, 0, 2), []),
  (⟨"SoupTable", "isSure", "()Z"⟩, prog_1_method_19_code, 2, Option.some Jvm.ClassFile.FieldType.boolean, (1, 21, 0, 0), (false, false, 0, 5), []),
  (⟨"SoupTableModel", "isSure", "()Z"⟩, prog_8_method_58_code, 3, Option.some Jvm.ClassFile.FieldType.boolean, (1, 22, 0, 0), (false, false, 0, 6), []),
  (⟨"SoupTable", "mealsIn", "(I)I"⟩, prog_1_method_20_code, 3, Option.some Jvm.ClassFile.FieldType.int, (8, 120, 1, 6), (false, false, 0, 5), []),
  (⟨"SoupTableLaw", "mealsIn", "(LSoupTable;I[J)I"⟩, method_16_code, 4, Option.some Jvm.ClassFile.FieldType.int, (9, 142, 1, 6), (false, true, 0, 7), [((0 : Nat), (9 : Nat), (12 : Nat), (44 : Nat))]),
  (⟨"SoupTableModel", "thinks", "()V"⟩, prog_8_method_8_code, 2, none, (0, 0, 0, 0), (false, false, 0, 6), []),
  (⟨"SoupTableModel", "thinksNoMore", "()V"⟩, prog_8_method_9_code, 2, none, (0, 0, 0, 0), (false, false, 0, 6), []),
  (⟨"SoupTableModel", "mealsIn", "(I)I"⟩, prog_8_method_59_code, 3, Option.some Jvm.ClassFile.FieldType.int, (6, 131, 0, 0), (false, false, 0, 6), []),
  (⟨"SoupTable", "stuckIn", "()I"⟩, prog_1_method_21_code, 2, Option.some Jvm.ClassFile.FieldType.int, (8, 135, 1, 6), (false, false, 0, 5), []),
  (⟨"SoupTableLaw", "stuckIn", "(LSoupTable;[J)I"⟩, method_17_code, 3, Option.some Jvm.ClassFile.FieldType.int, (9, 156, 1, 6), (false, true, 0, 7), [((0 : Nat), (8 : Nat), (11 : Nat), (56 : Nat))]),
  (⟨"SoupTableModel", "stuckIn", "()I"⟩, prog_8_method_60_code, 3, Option.some Jvm.ClassFile.FieldType.int, (6, 135, 0, 0), (false, false, 0, 6), []),
  (⟨"SoupTable$Seat", "isHungrierThan", "(LSoupTable$Seat;)Z"⟩, prog_3_method_6_code, 2, Option.some Jvm.ClassFile.FieldType.boolean, (0, 0, 0, 0), (false, false, 0, 1), []),
  (⟨"SoupTable$Table", "hungrierThan", "(I)I"⟩, prog_4_method_27_code, 5, Option.some Jvm.ClassFile.FieldType.int, (1, 21, 0, 0), (false, false, 0, 2), []),
  (⟨"SoupTable$Table", "hungriestAt", "(I)I"⟩, prog_4_method_26_code, 3, Option.some Jvm.ClassFile.FieldType.int, (2, 45, 0, 0), (false, false, 0, 2), []),
  (⟨"SoupTable", "hungriest", "(I)I"⟩, prog_1_method_22_code, 3, Option.some Jvm.ClassFile.FieldType.int, (8, 120, 1, 6), (false, false, 0, 5), []),
  (⟨"SoupTableLaw", "hungriest", "(LSoupTable;I[J)I"⟩, method_18_code, 4, Option.some Jvm.ClassFile.FieldType.int, (9, 142, 1, 6), (false, true, 0, 7), [((0 : Nat), (9 : Nat), (12 : Nat), (56 : Nat))]),
  (⟨"SoupTableModel", "isAhead", "(II)Z"⟩, prog_8_method_61_code, 4, Option.some Jvm.ClassFile.FieldType.boolean, (1, 22, 0, 0), (false, false, 0, 6), []),
  (⟨"SoupTableModel", "hungriest", "(I)I"⟩, prog_8_method_62_code, 5, Option.some Jvm.ClassFile.FieldType.int, (2, 45, 0, 0), (false, false, 0, 6), []),
  (⟨"SoupTable$Table", "fewestMeals", "()I"⟩, prog_4_method_33_code, 3, Option.some Jvm.ClassFile.FieldType.int, (1, 30, 0, 0), (false, false, 0, 2), []),
  (⟨"SoupTable", "rounds", "()I"⟩, prog_1_method_23_code, 1, Option.some Jvm.ClassFile.FieldType.int, (2, 52, 0, 0), (false, false, 0, 5), []),
  (⟨"SoupTableModel", "meals", "(Z)I"⟩, prog_8_method_63_code, 4, Option.some Jvm.ClassFile.FieldType.int, (1, 30, 0, 0), (false, false, 0, 6), []),
  (⟨"SoupTableModel", "rounds", "()I"⟩, prog_8_method_64_code, 1, Option.some Jvm.ClassFile.FieldType.int, (2, 53, 0, 0), (false, false, 0, 6), []),
  (⟨"SoupTable$Table", "isNext", "(II)Z"⟩, prog_4_method_18_code, 3, Option.some Jvm.ClassFile.FieldType.boolean, (0, 0, 0, 0), (false, false, 0, 2), []),
  (⟨"SoupTable", "areNeighbours", "(II)Z"⟩, prog_1_method_24_code, 3, Option.some Jvm.ClassFile.FieldType.boolean, (8, 120, 1, 6), (false, false, 0, 5), []),
  (⟨"SoupTableLaw", "areNeighbours", "(LSoupTable;II[J)I"⟩, method_19_code, 5, Option.some Jvm.ClassFile.FieldType.int, (9, 142, 1, 6), (false, true, 0, 7), [((0 : Nat), (17 : Nat), (20 : Nat), (42 : Nat))]),
  (⟨"SoupTableModel", "areNeighbours", "(II)Z"⟩, prog_8_method_65_code, 3, Option.some Jvm.ClassFile.FieldType.boolean, (2, 43, 0, 0), (false, false, 0, 6), []),
  (⟨"SoupTable", "append", "(C)I"⟩, prog_1_method_25_code, 2, Option.some Jvm.ClassFile.FieldType.int, (8, 120, 1, 6), (false, false, 0, 5), []),
  (⟨"SoupTableLaw", "append", "(LSoupTable;C[J)I"⟩, method_20_code, 4, Option.some Jvm.ClassFile.FieldType.int, (9, 141, 1, 6), (false, true, 0, 7), [((0 : Nat), (9 : Nat), (12 : Nat), (78 : Nat))])]
def MT_5 : List (MethodName × ByteArray × Nat × Option FieldType × (Nat × Nat × Nat × Nat) × (Bool × Bool × Nat × Nat) × List (Nat × Nat × Nat × Nat)) := [
  (⟨"SoupTableModel", "append", "(C)I"⟩, prog_8_method_66_code, 2, Option.some Jvm.ClassFile.FieldType.int, (1, 21, 0, 0), (false, false, 0, 6), []),
  (⟨"java/lang/String", "isLatin1", "()Z"⟩, prog_22_method_154_code, 1, Option.some Jvm.ClassFile.FieldType.boolean, (0, 0, 0, 0), (false, false, 1, 8), []),
  (⟨"java/lang/String", "coder", "()B"⟩, prog_22_method_152_code, 1, Option.some Jvm.ClassFile.FieldType.byte, (0, 0, 0, 0), (false, false, 1, 8), []),
  (⟨"java/lang/String", "length", "()I"⟩, prog_22_method_54_code, 1, Option.some Jvm.ClassFile.FieldType.int, (1, 20, 0, 0), (false, false, 1, 8), []),
  (⟨"java/lang/StringLatin1", "canEncode", "(I)Z"⟩, prog_23_method_4_code, 1, Option.some Jvm.ClassFile.FieldType.boolean, (0, 0, 0, 0), (false, true, 1, 9), []),
  (⟨"java/lang/StringLatin1", "indexOfChar", "([BIII)I"⟩, prog_23_method_23_code, 6, Option.some Jvm.ClassFile.FieldType.int, (0, 0, 0, 0), (false, true, 1, 9), []),
  (⟨"java/lang/StringLatin1", "indexOf", "([BIII)I"⟩, prog_23_method_22_code, 4, Option.some Jvm.ClassFile.FieldType.int, (1, 30, 0, 0), (false, true, 1, 9), []),
  (⟨"java/lang/String", "indexOf", "(II)I"⟩, prog_22_method_80_code, 3, Option.some Jvm.ClassFile.FieldType.int, (2, 53, 0, 0), (false, false, 1, 8), []),
  (⟨"java/lang/String", "indexOf", "(I)I"⟩, prog_22_method_79_code, 2, Option.some Jvm.ClassFile.FieldType.int, (3, 75, 0, 0), (false, false, 1, 8), []),
  (⟨"SoupTable$Text", "shapeOf", "(I)Ljava/lang/String;"⟩, prog_5_method_4_code, 1, Option.some (Jvm.ClassFile.FieldType.object "java/lang/String"), (0, 0, 0, 0), (false, true, 0, 3), []),
  (⟨"jdk/internal/util/Preconditions", "checkIndex", "(IILjava/util/function/BiFunction;)I"⟩, prog_30_method_11_code, 3, Option.some Jvm.ClassFile.FieldType.int, (0, 0, 0, 0), (false, true, 1, 11), []),
  (⟨"java/lang/String", "checkIndex", "(II)V"⟩, prog_22_method_155_code, 2, none, (1, 22, 0, 0), (false, true, 1, 8), []),
  (⟨"java/lang/StringLatin1", "charAt", "([BI)C"⟩, prog_23_method_2_code, 2, Option.some Jvm.ClassFile.FieldType.char, (2, 43, 0, 0), (false, true, 1, 9), []),
  (⟨"java/lang/String", "charAt", "(I)C"⟩, prog_22_method_56_code, 2, Option.some Jvm.ClassFile.FieldType.char, (3, 64, 0, 0), (false, false, 1, 8), []),
  (⟨"SoupTable$Text", "handHere", "()I"⟩, prog_5_method_6_code, 1, Option.some Jvm.ClassFile.FieldType.int, (0, 0, 0, 0), (false, false, 0, 3), []),
  (⟨"SoupTable$Text", "digitHere", "()I"⟩, prog_5_method_7_code, 2, Option.some Jvm.ClassFile.FieldType.int, (0, 0, 0, 0), (false, false, 0, 3), []),
  (⟨"SoupTable$Text", "readsNumber", "(CI)Z"⟩, prog_5_method_5_code, 5, Option.some Jvm.ClassFile.FieldType.boolean, (1, 21, 0, 0), (false, false, 0, 3), []),
  (⟨"SoupTable$Text", "readsCommand", "()Z"⟩, prog_5_method_3_code, 3, Option.some Jvm.ClassFile.FieldType.boolean, (4, 96, 0, 0), (false, false, 0, 3), []),
  (⟨"SoupTable$Text", "skipSemicolon", "()Z"⟩, prog_5_method_8_code, 2, Option.some Jvm.ClassFile.FieldType.boolean, (0, 0, 0, 0), (false, false, 0, 3), []),
  (⟨"SoupTable$Text", "findFault", "()I"⟩, prog_5_method_2_code, 2, Option.some Jvm.ClassFile.FieldType.int, (5, 118, 0, 0), (false, false, 0, 3), []),
  (⟨"SoupTable$Table", "obey", "(LSoupTable$Text;LSoupTable$Refusal;)I"⟩, prog_4_method_3_code, 6, Option.some Jvm.ClassFile.FieldType.int, (5, 114, 0, 0), (false, false, 0, 2), []),
  (⟨"SoupTable", "commands", "()I"⟩, prog_1_method_26_code, 3, Option.some Jvm.ClassFile.FieldType.int, (8, 139, 1, 6), (false, false, 0, 5), []),
  (⟨"SoupTableLaw", "commands", "(LSoupTable;[J)I"⟩, method_21_code, 3, Option.some Jvm.ClassFile.FieldType.int, (9, 161, 1, 6), (false, true, 0, 7), [((0 : Nat), (8 : Nat), (11 : Nat), (44 : Nat)), ((0 : Nat), (8 : Nat), (14 : Nat), (13 : Nat))]),
  (⟨"SoupTableModel", "sign", "(C)Z"⟩, prog_8_method_67_code, 2, Option.some Jvm.ClassFile.FieldType.boolean, (0, 0, 0, 0), (false, false, 0, 6), []),
  (⟨"SoupTableModel", "manners", "(I)Z"⟩, prog_8_method_69_code, 2, Option.some Jvm.ClassFile.FieldType.boolean, (1, 21, 0, 0), (false, false, 0, 6), []),
  (⟨"SoupTableModel", "digits", "(II)Z"⟩, prog_8_method_68_code, 4, Option.some Jvm.ClassFile.FieldType.boolean, (1, 22, 0, 0), (false, false, 0, 6), []),
  (⟨"SoupTableModel", "isCommand", "()Z"⟩, prog_8_method_70_code, 1, Option.some Jvm.ClassFile.FieldType.boolean, (2, 45, 0, 0), (false, false, 0, 6), []),
  (⟨"SoupTableModel", "carries", "()Z"⟩, prog_8_method_71_code, 1, Option.some Jvm.ClassFile.FieldType.boolean, (7, 152, 0, 0), (false, false, 0, 6), []),
  (⟨"SoupTableModel", "comesBack", "()V"⟩, prog_8_method_6_code, 2, none, (0, 0, 0, 0), (false, false, 0, 6), []),
  (⟨"SoupTableModel", "commands", "()I"⟩, prog_8_method_72_code, 4, Option.some Jvm.ClassFile.FieldType.int, (8, 172, 0, 0), (false, false, 0, 6), []),
  (⟨"SoupTable", "faultPosition", "()I"⟩, prog_1_method_27_code, 1, Option.some Jvm.ClassFile.FieldType.int, (0, 0, 0, 0), (false, false, 0, 5), []),
  (⟨"SoupTableModel", "faultPosition", "()I"⟩, prog_8_method_73_code, 1, Option.some Jvm.ClassFile.FieldType.int, (0, 0, 0, 0), (false, false, 0, 6), [])]
def MT_6 : List (MethodName × ByteArray × Nat × Option FieldType × (Nat × Nat × Nat × Nat) × (Bool × Bool × Nat × Nat) × List (Nat × Nat × Nat × Nat)) := [
  (⟨"SoupTable", "reason", "(I)I"⟩, prog_1_method_28_code, 2, Option.some Jvm.ClassFile.FieldType.int, (8, 120, 1, 6), (false, false, 0, 5), []),
  (⟨"SoupTableLaw", "reason", "(LSoupTable;I[J)I"⟩, method_22_code, 4, Option.some Jvm.ClassFile.FieldType.int, (9, 141, 1, 6), (false, true, 0, 7), [((0 : Nat), (9 : Nat), (12 : Nat), (44 : Nat)), ((0 : Nat), (9 : Nat), (15 : Nat), (56 : Nat))]),
  (⟨"SoupTableModel", "reason", "(I)I"⟩, prog_8_method_74_code, 2, Option.some Jvm.ClassFile.FieldType.int, (1, 22, 0, 0), (false, false, 0, 6), []),
  (⟨"SoupTable", "write", "(C)V"⟩, prog_1_method_40_code, 2, none, (0, 0, 0, 0), (false, false, 0, 5), []),
  (⟨"SoupTable", "writeSeat", "(IZ)V"⟩, prog_1_method_39_code, 4, none, (4, 85, 0, 0), (false, false, 0, 5), []),
  (⟨"SoupTable", "line", "()I"⟩, prog_1_method_29_code, 3, Option.some Jvm.ClassFile.FieldType.int, (6, 135, 0, 0), (false, false, 0, 5), []),
  (⟨"SoupTableModel", "line", "()I"⟩, prog_8_method_75_code, 3, Option.some Jvm.ClassFile.FieldType.int, (6, 135, 0, 0), (false, false, 0, 6), []),
  (⟨"SoupTable", "character", "(I)C"⟩, prog_1_method_30_code, 2, Option.some Jvm.ClassFile.FieldType.char, (8, 120, 1, 6), (false, false, 0, 5), []),
  (⟨"SoupTableLaw", "character", "(LSoupTable;I[J)I"⟩, method_23_code, 4, Option.some Jvm.ClassFile.FieldType.int, (9, 141, 1, 6), (false, true, 0, 7), [((0 : Nat), (9 : Nat), (12 : Nat), (42 : Nat))]),
  (⟨"SoupTableModel", "character", "(I)C"⟩, prog_8_method_76_code, 2, Option.some Jvm.ClassFile.FieldType.char, (1, 22, 0, 0), (false, false, 0, 6), []),
  (⟨"SoupTable$Table", "waitsOfAll", "()I"⟩, prog_4_method_35_code, 3, Option.some Jvm.ClassFile.FieldType.int, (0, 0, 0, 0), (false, false, 0, 2), []),
  (⟨"SoupTable", "meanWait", "()D"⟩, prog_1_method_31_code, 2, Option.some Jvm.ClassFile.FieldType.double, (8, 120, 1, 6), (false, false, 0, 5), []),
  (⟨"SoupTableLaw", "meanWait", "(LSoupTable;[D)I"⟩, method_24_code, 3, Option.some Jvm.ClassFile.FieldType.int, (9, 141, 1, 6), (false, true, 0, 7), [((0 : Nat), (7 : Nat), (10 : Nat), (94 : Nat))]),
  (⟨"SoupTableModel", "all", "(I)I"⟩, prog_8_method_77_code, 4, Option.some Jvm.ClassFile.FieldType.int, (1, 22, 0, 0), (false, false, 0, 6), []),
  (⟨"SoupTableModel", "meanWait", "()D"⟩, prog_8_method_78_code, 1, Option.some Jvm.ClassFile.FieldType.double, (2, 45, 0, 0), (false, false, 0, 6), []),
  (⟨"SoupTable$Table", "mostMeals", "()I"⟩, prog_4_method_34_code, 3, Option.some Jvm.ClassFile.FieldType.int, (1, 30, 0, 0), (false, false, 0, 2), []),
  (⟨"SoupTable", "fairness", "()F"⟩, prog_1_method_32_code, 2, Option.some Jvm.ClassFile.FieldType.float, (8, 120, 1, 6), (false, false, 0, 5), []),
  (⟨"SoupTableLaw", "fairness", "(LSoupTable;[D)I"⟩, method_25_code, 3, Option.some Jvm.ClassFile.FieldType.int, (9, 141, 1, 6), (false, true, 0, 7), [((0 : Nat), (8 : Nat), (11 : Nat), (94 : Nat))]),
  (⟨"SoupTableModel", "fairness", "()F"⟩, prog_8_method_79_code, 1, Option.some Jvm.ClassFile.FieldType.float, (2, 53, 0, 0), (false, false, 0, 6), []),
  (⟨"SoupTable$Table", "askers", "()I"⟩, prog_4_method_31_code, 3, Option.some Jvm.ClassFile.FieldType.int, (0, 0, 0, 0), (false, false, 0, 2), []),
  (⟨"SoupTable", "account", "(I)I"⟩, prog_1_method_33_code, 2, Option.some Jvm.ClassFile.FieldType.int, (8, 120, 1, 6), (false, false, 0, 5), []),
  (⟨"SoupTableLaw", "account", "(LSoupTable;I[J)I"⟩, method_26_code, 4, Option.some Jvm.ClassFile.FieldType.int, (9, 141, 1, 6), (false, true, 0, 7), [((0 : Nat), (9 : Nat), (12 : Nat), (44 : Nat))]),
  (⟨"SoupTableModel", "account", "(I)I"⟩, prog_8_method_80_code, 2, Option.some Jvm.ClassFile.FieldType.int, (2, 45, 0, 0), (false, false, 0, 6), []),
  (⟨"SoupTable", "undo", "()I"⟩, prog_1_method_34_code, 1, Option.some Jvm.ClassFile.FieldType.int, (8, 120, 1, 6), (false, false, 0, 5), []),
  (⟨"SoupTableLaw", "undo", "(LSoupTable;[J)I"⟩, method_27_code, 3, Option.some Jvm.ClassFile.FieldType.int, (9, 140, 1, 6), (false, true, 0, 7), [((0 : Nat), (8 : Nat), (11 : Nat), (78 : Nat))]),
  (⟨"SoupTableModel", "undo", "()I"⟩, prog_8_method_81_code, 2, Option.some Jvm.ClassFile.FieldType.int, (1, 21, 0, 0), (false, false, 0, 6), []),
  (⟨"SoupTable", "save", "()I"⟩, prog_1_method_35_code, 1, Option.some Jvm.ClassFile.FieldType.int, (2, 43, 0, 0), (false, false, 0, 5), []),
  (⟨"SoupTableModel", "save", "()I"⟩, prog_8_method_82_code, 2, Option.some Jvm.ClassFile.FieldType.int, (0, 0, 0, 0), (false, false, 0, 6), []),
  (⟨"SoupTable", "restore", "()I"⟩, prog_1_method_36_code, 1, Option.some Jvm.ClassFile.FieldType.int, (8, 120, 1, 6), (false, false, 0, 5), []),
  (⟨"SoupTableLaw", "restore", "(LSoupTable;[J)I"⟩, method_28_code, 3, Option.some Jvm.ClassFile.FieldType.int, (9, 140, 1, 6), (false, true, 0, 7), [((0 : Nat), (8 : Nat), (11 : Nat), (78 : Nat))]),
  (⟨"SoupTableModel", "restore", "()I"⟩, prog_8_method_83_code, 2, Option.some Jvm.ClassFile.FieldType.int, (1, 21, 0, 0), (false, false, 0, 6), []),
  (⟨"SoupTableLaw", "law", "([I)Z"⟩, code, 9, ret, (21, 10892, 603072, 7219306), (true, true, 2, 7), [])]
def MT : List (MethodName × ByteArray × Nat × Option FieldType × (Nat × Nat × Nat × Nat) × (Bool × Bool × Nat × Nat) × List (Nat × Nat × Nat × Nat)) := MT_0 ++ (MT_1 ++ (MT_2 ++ (MT_3 ++ (MT_4 ++ (MT_5 ++ (MT_6))))))
def MD : MethodName × ByteArray × Nat × Option FieldType × (Nat × Nat × Nat × Nat) × (Bool × Bool × Nat × Nat) × List (Nat × Nat × Nat × Nat) := (⟨"", "", ""⟩, ⟨#[]⟩, 0, none, (0, 0, 0, 0), (false, false, 0, 0), [])
def mI (M : Nat) : MethodName × ByteArray × Nat × Option FieldType × (Nat × Nat × Nat × Nat) × (Bool × Bool × Nat × Nat) × List (Nat × Nat × Nat × Nat) := MT.getD M MD
def mY (M : Nat) : MethodName := (mI M).1
def mB (M : Nat) : ByteArray := (mI M).2.1
def mL (M : Nat) : Nat := (mI M).2.2.1
def mR (M : Nat) : Option FieldType := (mI M).2.2.2.1
def mF (M : Nat) : Nat := (mI M).2.2.2.2.1.1
def mO (M : Nat) : Nat := (mI M).2.2.2.2.1.2.1
def mC (M : Nat) : Nat := (mI M).2.2.2.2.1.2.2.1
def mS (M : Nat) : Nat := (mI M).2.2.2.2.1.2.2.2
def m2 (M : Nat) : Bool := (mI M).2.2.2.2.2.1.1
def mT (M : Nat) : Bool := (mI M).2.2.2.2.2.1.2.1
def mK (M : Nat) : Nat := (mI M).2.2.2.2.2.1.2.2.1
def mN (M : Nat) : Nat := (mI M).2.2.2.2.2.1.2.2.2
def mH (M : Nat) : List (Nat × Nat × Nat × Nat) := (mI M).2.2.2.2.2.2
def cname (k : Nat) : String := CN.getD k ""
def CT_0 : List (Nat × Nat × (Nat × Nat × Nat) × Nat) := [
  (7, 109, (2, 4, 0), 77),
  (5, 3, (5, 0, 0), 80),
  (5, 11, (2, 1, 0), 85),
  (2, 3, (5, 0, 0), 88),
  (1, 3, (5, 0, 0), 95),
  (3, 3, (5, 0, 0), 177),
  (0, 3, (5, 0, 0), 205),
  (7, 162, (0, 115, 0), 255),
  (7, 166, (0, 120, 0), 259),
  (5, 141, (1, 119, 1), 263),
  (4, 15, (1, 118, 2), 266),
  (4, 21, (0, 107, 1), 269),
  (2, 102, (0, 37, 1), 273),
  (2, 160, (0, 78, 1), 277),
  (2, 117, (0, 61, 2), 281),
  (7, 170, (0, 125, 0), 285),
  (5, 147, (1, 124, 1), 289),
  (4, 25, (1, 119, 1), 292),
  (4, 29, (1, 123, 2), 293),
  (4, 33, (0, 74, 0), 296),
  (4, 46, (0, 76, 0), 300),
  (2, 169, (0, 74, 0), 304),
  (2, 172, (1, 75, 1), 305),
  (7, 174, (0, 130, 0), 311),
  (5, 150, (1, 129, 1), 315),
  (4, 50, (1, 128, 3), 318),
  (7, 178, (0, 133, 0), 321),
  (5, 156, (0, 69, 0), 325),
  (5, 160, (0, 132, 0), 329),
  (7, 192, (0, 151, 0), 333),
  (5, 179, (0, 150, 0), 337),
  (2, 190, (7, 0, 0), 341),
  (7, 206, (0, 190, 0), 344),
  (7, 213, (0, 197, 0), 348),
  (5, 239, (0, 195, 1), 352),
  (5, 243, (0, 196, 2), 356),
  (5, 308, (0, 173, 1), 361),
  (8, 492, (0, 161, 0), 365),
  (8, 495, (1, 172, 2), 371),
  (9, 9, (1, 171, 2), 374),
  (8, 1059, (1, 170, 3), 379),
  (7, 233, (0, 218, 0), 402),
  (5, 51, (0, 7, 1), 406),
  (2, 29, (0, 6, 1), 410),
  (7, 113, (1, 18, 5), 414),
  (7, 7, (0, 17, 3), 418),
  (5, 55, (0, 14, 4), 422),
  (2, 81, (1, 8, 1), 426),
  (2, 85, (1, 9, 1), 429),
  (2, 88, (0, 10, 2), 432),
  (2, 94, (0, 11, 0), 436),
  (2, 98, (0, 13, 3), 440),
  (1, 33, (0, 12, 0), 444),
  (5, 59, (0, 16, 1), 448),
  (5, 223, (0, 15, 0), 523),
  (7, 122, (1, 33, 2), 527),
  (7, 15, (0, 32, 0), 530),
  (5, 63, (0, 31, 1), 534),
  (7, 126, (1, 40, 4), 538),
  (7, 19, (0, 39, 2), 541),
  (5, 67, (0, 38, 3), 545),
  (7, 130, (1, 48, 5), 549),
  (7, 23, (0, 47, 3), 552),
  (5, 71, (0, 46, 4), 556)]
def CT_1 : List (Nat × Nat × (Nat × Nat × Nat) × Nat) := [
  (7, 133, (1, 53, 3), 560),
  (7, 26, (0, 52, 1), 563),
  (5, 74, (0, 51, 2), 567),
  (7, 137, (1, 58, 3), 571),
  (7, 30, (0, 57, 1), 574),
  (5, 78, (0, 56, 2), 578),
  (7, 140, (1, 64, 3), 582),
  (7, 33, (0, 63, 1), 585),
  (5, 81, (0, 62, 2), 589),
  (7, 143, (1, 86, 3), 593),
  (7, 36, (0, 85, 1), 596),
  (5, 84, (0, 84, 2), 600),
  (2, 121, (0, 69, 0), 604),
  (2, 125, (0, 70, 0), 605),
  (2, 128, (0, 83, 0), 609),
  (2, 131, (0, 71, 1), 613),
  (2, 150, (0, 12, 0), 617),
  (2, 135, (0, 77, 0), 618),
  (2, 153, (0, 73, 1), 622),
  (2, 177, (0, 72, 1), 626),
  (2, 157, (0, 76, 0), 630),
  (2, 138, (0, 81, 1), 631),
  (2, 163, (0, 79, 1), 635),
  (2, 166, (0, 80, 0), 639),
  (2, 141, (0, 82, 0), 643),
  (1, 42, (6, 0, 0), 647),
  (7, 146, (1, 99, 4), 650),
  (7, 39, (0, 98, 2), 678),
  (5, 87, (0, 37, 1), 682),
  (5, 107, (0, 97, 1), 712),
  (7, 149, (1, 102, 4), 716),
  (7, 46, (0, 101, 2), 719),
  (5, 112, (0, 61, 2), 723),
  (7, 153, (1, 105, 3), 724),
  (7, 50, (0, 104, 1), 727),
  (7, 156, (1, 109, 3), 732),
  (7, 53, (0, 108, 1), 736),
  (5, 122, (0, 107, 1), 740),
  (7, 159, (1, 113, 3), 757),
  (7, 58, (0, 112, 1), 760),
  (5, 130, (0, 73, 1), 764),
  (7, 183, (1, 136, 3), 766),
  (7, 61, (0, 135, 1), 769),
  (5, 165, (0, 83, 0), 774),
  (5, 168, (0, 70, 0), 775),
  (7, 186, (1, 141, 2), 776),
  (7, 64, (0, 140, 0), 779),
  (7, 189, (1, 147, 3), 784),
  (7, 67, (0, 146, 1), 787),
  (5, 174, (0, 145, 1), 791),
  (2, 183, (0, 144, 1), 795),
  (2, 186, (0, 143, 1), 799),
  (7, 196, (1, 156, 4), 804),
  (7, 70, (0, 155, 2), 807),
  (5, 182, (0, 154, 2), 811),
  (7, 199, (1, 159, 3), 815),
  (7, 74, (0, 158, 1), 819),
  (7, 203, (1, 182, 2), 839),
  (7, 80, (0, 181, 0), 842),
  (5, 197, (0, 179, 0), 846),
  (3, 23, (0, 177, 0), 850),
  (3, 35, (0, 168, 1), 855),
  (8, 633, (0, 167, 2), 859),
  (8, 505, (0, 163, 0), 863)]
def CT_2 : List (Nat × Nat × (Nat × Nat × Nat) × Nat) := [
  (8, 335, (0, 162, 0), 867),
  (8, 637, (1, 166, 4), 871),
  (9, 88, (1, 164, 1), 874),
  (9, 92, (6, 0, 0), 877),
  (9, 38, (7, 0, 0), 878),
  (9, 95, (1, 165, 4), 879),
  (3, 44, (1, 169, 1), 917),
  (3, 48, (0, 163, 0), 926),
  (3, 51, (0, 173, 1), 927),
  (3, 55, (0, 176, 2), 928),
  (3, 71, (0, 174, 0), 932),
  (3, 74, (0, 175, 0), 936),
  (3, 30, (0, 178, 0), 940),
  (5, 205, (0, 177, 0), 945),
  (5, 208, (0, 180, 2), 946),
  (2, 53, (0, 14, 4), 950),
  (2, 57, (0, 31, 1), 951),
  (2, 61, (0, 38, 3), 952),
  (2, 65, (0, 46, 4), 953),
  (2, 68, (0, 51, 2), 954),
  (2, 72, (0, 56, 2), 955),
  (2, 75, (0, 62, 2), 956),
  (2, 78, (0, 84, 2), 957),
  (5, 212, (0, 178, 0), 958),
  (7, 210, (1, 193, 3), 960),
  (7, 83, (0, 192, 1), 963),
  (7, 217, (1, 200, 3), 969),
  (7, 86, (0, 199, 1), 972),
  (7, 220, (1, 204, 2), 977),
  (7, 90, (0, 203, 0), 994),
  (5, 254, (0, 202, 0), 1001),
  (7, 224, (1, 209, 2), 1005),
  (7, 96, (0, 208, 0), 1008),
  (5, 257, (0, 207, 0), 1012),
  (2, 195, (6, 0, 0), 1016),
  (7, 227, (1, 213, 3), 1018),
  (7, 100, (0, 212, 1), 1021),
  (5, 271, (0, 11, 0), 1025),
  (5, 274, (0, 74, 0), 1026),
  (5, 277, (1, 75, 1), 1027),
  (5, 282, (0, 211, 0), 1028),
  (7, 230, (1, 216, 2), 1033),
  (7, 103, (0, 215, 0), 1036),
  (7, 237, (1, 221, 2), 1041),
  (7, 106, (0, 220, 0), 1044),
  (7, 112, (2, 5, 0), 1051),
  (6, 3, (5, 0, 0), 1054),
  (7, 119, (0, 30, 0), 1116),
  (7, 118, (0, 29, 3), 1120),
  (6, 104, (0, 19, 0), 1124),
  (6, 107, (0, 25, 3), 1128),
  (6, 64, (1, 20, 3), 1132),
  (6, 89, (0, 21, 2), 1135),
  (6, 93, (0, 22, 0), 1139),
  (6, 96, (0, 23, 3), 1143),
  (6, 100, (0, 24, 1), 1147),
  (6, 110, (0, 28, 1), 1151),
  (6, 57, (0, 26, 1), 1155),
  (6, 61, (0, 27, 1), 1159),
  (7, 125, (0, 36, 0), 1163),
  (6, 118, (0, 35, 0), 1167),
  (6, 114, (0, 34, 1), 1171),
  (7, 129, (0, 45, 2), 1175),
  (6, 125, (0, 44, 2), 1179)]
def CT_3 : List (Nat × Nat × (Nat × Nat × Nat) × Nat) := [
  (6, 122, (0, 41, 1), 1183),
  (6, 68, (0, 42, 2), 1187),
  (6, 75, (0, 43, 1), 1191),
  (7, 132, (0, 50, 3), 1195),
  (6, 128, (0, 49, 3), 1199),
  (7, 136, (0, 55, 1), 1203),
  (6, 131, (0, 54, 1), 1207),
  (7, 139, (0, 60, 1), 1211),
  (6, 134, (0, 59, 1), 1215),
  (7, 142, (0, 68, 1), 1219),
  (6, 137, (0, 67, 1), 1223),
  (6, 82, (0, 65, 1), 1227),
  (6, 72, (0, 66, 1), 1231),
  (7, 145, (0, 96, 1), 1235),
  (6, 163, (0, 95, 1), 1239),
  (6, 160, (0, 94, 1), 1243),
  (6, 157, (0, 93, 0), 1247),
  (6, 143, (0, 87, 1), 1251),
  (6, 146, (0, 89, 0), 1255),
  (6, 85, (0, 88, 0), 1259),
  (6, 149, (0, 92, 1), 1263),
  (6, 78, (0, 90, 2), 1267),
  (6, 140, (0, 91, 1), 1271),
  (6, 152, (6, 0, 0), 1275),
  (7, 148, (0, 100, 2), 1276),
  (7, 152, (0, 103, 2), 1280),
  (7, 155, (0, 106, 1), 1284),
  (7, 158, (0, 111, 1), 1288),
  (6, 166, (0, 110, 1), 1292),
  (7, 161, (0, 114, 1), 1296),
  (7, 165, (0, 117, 0), 1300),
  (6, 169, (0, 116, 1), 1304),
  (7, 169, (0, 122, 0), 1308),
  (6, 172, (0, 121, 0), 1312),
  (7, 173, (0, 127, 0), 1316),
  (6, 175, (0, 126, 0), 1320),
  (7, 177, (0, 131, 0), 1324),
  (6, 178, (0, 127, 0), 1328),
  (7, 182, (0, 134, 0), 1329),
  (7, 185, (0, 139, 1), 1333),
  (6, 181, (0, 137, 0), 1337),
  (6, 184, (0, 138, 0), 1341),
  (7, 188, (0, 142, 0), 1345),
  (7, 191, (0, 149, 1), 1349),
  (6, 187, (0, 148, 2), 1353),
  (7, 195, (0, 153, 0), 1357),
  (6, 193, (0, 152, 1), 1361),
  (6, 190, (7, 0, 0), 1365),
  (7, 198, (0, 157, 2), 1366),
  (7, 202, (0, 160, 1), 1370),
  (7, 205, (0, 189, 0), 1374),
  (6, 216, (0, 186, 0), 1378),
  (6, 210, (0, 184, 1), 1382),
  (6, 202, (0, 183, 1), 1386),
  (6, 213, (0, 185, 2), 1390),
  (6, 219, (0, 187, 0), 1394),
  (6, 222, (0, 188, 0), 1398),
  (7, 209, (0, 191, 0), 1402),
  (7, 212, (0, 194, 1), 1406),
  (7, 216, (0, 198, 0), 1410),
  (6, 230, (0, 173, 1), 1415),
  (7, 219, (0, 201, 1), 1416),
  (7, 223, (0, 206, 0), 1420),
  (6, 236, (0, 205, 1), 1424)]
def CT_4 : List (Nat × Nat × (Nat × Nat × Nat) × Nat) := [
  (7, 226, (0, 210, 0), 1428),
  (7, 229, (0, 214, 1), 1432),
  (7, 232, (0, 217, 0), 1436),
  (7, 236, (0, 219, 0), 1440),
  (7, 239, (0, 222, 0), 1444)]
/-- calls: the class that calls, the entry, (kind, method, how many arguments), the word by its place -/
def CTA : List (Nat × Nat × (Nat × Nat × Nat) × Nat) := CT_0 ++ (CT_1 ++ (CT_2 ++ (CT_3 ++ (CT_4))))
def CTN : List (Nat × Nat × (Nat × Nat × Nat) × Nat) := [(2, 28, (3, 0, 0), 92), (5, 31, (3, 2, 0), 174), (5, 42, (3, 3, 0), 202)]
def CT : List (Nat × Nat × (Nat × Nat × Nat) × Nat) := CTN ++ CTA
def MCL : List (Nat × Nat) := [(79, 4), (87, 1), (94, 0), (176, 2), (204, 3), (258, 115), (262, 120), (265, 119), (268, 118), (272, 107), (276, 37), (280, 78), (284, 61), (288, 125), (291, 124), (295, 123), (299, 74), (303, 76), (307, 75), (314, 130), (317, 129), (320, 128), (324, 133), (328, 69), (332, 132), (336, 151), (340, 150), (347, 190), (351, 197), (355, 195), (359, 196), (364, 173), (368, 161), (373, 172), (376, 171), (381, 170), (405, 218), (409, 7), (413, 6), (416, 18), (421, 17), (425, 14), (428, 8), (431, 9), (435, 10), (439, 11), (443, 13), (447, 12), (451, 16), (526, 15), (529, 33), (533, 32), (537, 31), (540, 40), (544, 39), (548, 38), (551, 48), (555, 47), (559, 46), (562, 53), (566, 52), (570, 51), (573, 58), (577, 57), (581, 56), (584, 64), (588, 63), (592, 62), (595, 86), (599, 85), (603, 84), (608, 70), (612, 83), (616, 71), (621, 77), (625, 73), (629, 72), (634, 81), (638, 79), (642, 80), (646, 82), (652, 99), (681, 98), (715, 97), (718, 102), (722, 101), (726, 105), (730, 104), (734, 109), (739, 108), (759, 113), (763, 112), (768, 136), (772, 135), (778, 141), (782, 140), (786, 147), (790, 146), (794, 145), (798, 144), (802, 143), (806, 156), (810, 155), (814, 154), (817, 159), (822, 158), (841, 182), (845, 181), (849, 179), (853, 177), (858, 168), (862, 167), (866, 163), (870, 162), (873, 166), (876, 164), (881, 165), (919, 169), (931, 176), (935, 174), (939, 175), (943, 178), (949, 180), (962, 193), (966, 192), (971, 200), (975, 199), (979, 204), (997, 203), (1004, 202), (1007, 209), (1011, 208), (1015, 207), (1020, 213), (1024, 212), (1031, 211), (1035, 216), (1039, 215), (1043, 221), (1047, 220), (1053, 5), (1119, 30), (1123, 29), (1127, 19), (1131, 25), (1134, 20), (1138, 21), (1142, 22), (1146, 23), (1150, 24), (1154, 28), (1158, 26), (1162, 27), (1166, 36), (1170, 35), (1174, 34), (1178, 45), (1182, 44), (1186, 41), (1190, 42), (1194, 43), (1198, 50), (1202, 49), (1206, 55), (1210, 54), (1214, 60), (1218, 59), (1222, 68), (1226, 67), (1230, 65), (1234, 66), (1238, 96), (1242, 95), (1246, 94), (1250, 93), (1254, 87), (1258, 89), (1262, 88), (1266, 92), (1270, 90), (1274, 91), (1279, 100), (1283, 103), (1287, 106), (1291, 111), (1295, 110), (1299, 114), (1303, 117), (1307, 116), (1311, 122), (1315, 121), (1319, 127), (1323, 126), (1327, 131), (1332, 134), (1336, 139), (1340, 137), (1344, 138), (1348, 142), (1352, 149), (1356, 148), (1360, 153), (1364, 152), (1369, 157), (1373, 160), (1377, 189), (1381, 186), (1385, 184), (1389, 183), (1393, 185), (1397, 187), (1401, 188), (1405, 191), (1409, 194), (1413, 198), (1419, 201), (1423, 206), (1427, 205), (1431, 210), (1435, 214), (1439, 217), (1443, 219), (1447, 222)]
def MSL : List (Nat × Nat) := [(78, 4), (86, 1), (93, 0), (175, 2), (203, 3), (256, 115), (260, 120), (264, 119), (267, 118), (270, 107), (274, 37), (278, 78), (282, 61), (286, 125), (290, 124), (294, 123), (297, 74), (301, 76), (306, 75), (312, 130), (316, 129), (319, 128), (322, 133), (326, 69), (330, 132), (334, 151), (338, 150), (345, 190), (349, 197), (354, 195), (358, 196), (362, 173), (366, 161), (372, 172), (375, 171), (380, 170), (403, 218), (407, 7), (411, 6), (415, 18), (419, 17), (423, 14), (427, 8), (430, 9), (433, 10), (437, 11), (441, 13), (445, 12), (450, 16), (525, 15), (528, 33), (531, 32), (535, 31), (539, 40), (542, 39), (546, 38), (550, 48), (553, 47), (557, 46), (561, 53), (564, 52), (568, 51), (572, 58), (575, 57), (579, 56), (583, 64), (586, 63), (590, 62), (594, 86), (597, 85), (601, 84), (606, 70), (610, 83), (614, 71), (619, 77), (623, 73), (627, 72), (632, 81), (636, 79), (640, 80), (644, 82), (651, 99), (679, 98), (713, 97), (717, 102), (720, 101), (725, 105), (728, 104), (733, 109), (737, 108), (758, 113), (761, 112), (767, 136), (770, 135), (777, 141), (780, 140), (785, 147), (788, 146), (792, 145), (796, 144), (800, 143), (805, 156), (808, 155), (812, 154), (816, 159), (820, 158), (840, 182), (843, 181), (847, 179), (851, 177), (856, 168), (860, 167), (864, 163), (868, 162), (872, 166), (875, 164), (880, 165), (918, 169), (929, 176), (933, 174), (937, 175), (941, 178), (947, 180), (961, 193), (964, 192), (970, 200), (973, 199), (978, 204), (995, 203), (1002, 202), (1006, 209), (1009, 208), (1013, 207), (1019, 213), (1022, 212), (1029, 211), (1034, 216), (1037, 215), (1042, 221), (1045, 220), (1052, 5), (1117, 30), (1121, 29), (1126, 19), (1130, 25), (1133, 20), (1137, 21), (1141, 22), (1145, 23), (1149, 24), (1153, 28), (1157, 26), (1161, 27), (1164, 36), (1169, 35), (1173, 34), (1176, 45), (1181, 44), (1185, 41), (1189, 42), (1193, 43), (1196, 50), (1201, 49), (1204, 55), (1209, 54), (1212, 60), (1217, 59), (1220, 68), (1225, 67), (1229, 65), (1233, 66), (1236, 96), (1241, 95), (1245, 94), (1249, 93), (1253, 87), (1257, 89), (1261, 88), (1265, 92), (1269, 90), (1273, 91), (1277, 100), (1281, 103), (1285, 106), (1289, 111), (1294, 110), (1297, 114), (1301, 117), (1306, 116), (1309, 122), (1314, 121), (1317, 127), (1322, 126), (1325, 131), (1330, 134), (1334, 139), (1339, 137), (1343, 138), (1346, 142), (1350, 149), (1355, 148), (1358, 153), (1363, 152), (1367, 157), (1371, 160), (1375, 189), (1380, 186), (1384, 184), (1388, 183), (1392, 185), (1396, 187), (1400, 188), (1403, 191), (1407, 194), (1411, 198), (1417, 201), (1421, 206), (1426, 205), (1429, 210), (1433, 214), (1437, 217), (1441, 219), (1445, 222)]
def MEL : List (Nat × Nat) := [(0, 195), (1, 196), (2, 16), (4, 15), (5, 19), (6, 25), (7, 21), (8, 22), (9, 23), (10, 24), (11, 28), (12, 26), (13, 27), (14, 35), (15, 34), (16, 44), (17, 41), (18, 42), (19, 43), (20, 49), (21, 54), (22, 59), (23, 67), (24, 65), (25, 66), (26, 95), (27, 94), (28, 93), (29, 87), (30, 89), (31, 88), (32, 92), (33, 90), (34, 91), (35, 110), (36, 116), (37, 121), (38, 126), (39, 137), (40, 138), (41, 148), (42, 152), (43, 186), (44, 184), (45, 183), (46, 185), (47, 187), (48, 188), (49, 205), (257, 115), (261, 120), (271, 107), (275, 37), (279, 78), (283, 61), (287, 125), (298, 74), (302, 76), (313, 130), (323, 133), (327, 69), (331, 132), (335, 151), (339, 150), (346, 190), (350, 197), (363, 173), (367, 161), (404, 218), (408, 7), (412, 6), (420, 17), (424, 14), (434, 10), (438, 11), (442, 13), (446, 12), (532, 32), (536, 31), (543, 39), (547, 38), (554, 47), (558, 46), (565, 52), (569, 51), (576, 57), (580, 56), (587, 63), (591, 62), (598, 85), (602, 84), (607, 70), (611, 83), (615, 71), (620, 77), (624, 73), (628, 72), (633, 81), (637, 79), (641, 80), (645, 82), (680, 98), (714, 97), (721, 101), (729, 104), (738, 108), (762, 112), (771, 135), (781, 140), (789, 146), (793, 145), (797, 144), (801, 143), (809, 155), (813, 154), (821, 158), (844, 181), (848, 179), (852, 177), (857, 168), (861, 167), (865, 163), (869, 162), (930, 176), (934, 174), (938, 175), (942, 178), (948, 180), (965, 192), (974, 199), (996, 203), (1003, 202), (1010, 208), (1014, 207), (1023, 212), (1030, 211), (1038, 215), (1046, 220), (1118, 30), (1122, 29), (1165, 36), (1177, 45), (1197, 50), (1205, 55), (1213, 60), (1221, 68), (1237, 96), (1278, 100), (1282, 103), (1286, 106), (1290, 111), (1298, 114), (1302, 117), (1310, 122), (1318, 127), (1326, 131), (1331, 134), (1335, 139), (1347, 142), (1351, 149), (1359, 153), (1368, 157), (1372, 160), (1376, 189), (1404, 191), (1408, 194), (1412, 198), (1418, 201), (1422, 206), (1430, 210), (1434, 214), (1438, 217), (1442, 219), (1446, 222)]
def MIL : List (Nat × Nat) := [(50, 7), (51, 5), (52, 2), (53, 1), (54, 3), (55, 0), (56, 6), (61, 10), (65, 8), (68, 4), (70, 9), (72, 11)]
def MAL : List Nat := [0, 0, 0, 0, 0, 0, 1, 1, 1, 1, 2, 0, 0, 3, 4, 0, 1, 3, 5, 0, 3, 2, 0, 3, 1, 3, 1, 1, 1, 3, 0, 1, 0, 2, 1, 0, 0, 1, 3, 2, 4, 1, 2, 1, 2, 2, 4, 3, 5, 3, 3, 2, 1, 3, 1, 1, 2, 1, 3, 1, 1, 2, 2, 1, 3, 1, 1, 1, 1, 0, 0, 1, 1, 1, 0, 1, 0, 0, 1, 1, 0, 1, 0, 0, 2, 1, 3, 1, 0, 0, 2, 1, 1, 0, 1, 1, 1, 1, 2, 4, 2, 2, 4, 2, 1, 3, 1, 1, 1, 3, 1, 1, 1, 3, 1, 0, 1, 0, 2, 1, 0, 0, 0, 2, 1, 0, 0, 0, 3, 1, 0, 0, 0, 0, 0, 1, 3, 0, 0, 1, 0, 2, 0, 1, 1, 1, 1, 3, 2, 1, 0, 0, 1, 0, 2, 2, 4, 2, 1, 3, 1, 0, 0, 0, 1, 4, 4, 2, 1, 1, 3, 2, 2, 1, 0, 0, 2, 0, 0, 0, 2, 0, 2, 1, 1, 2, 0, 0, 0, 0, 0, 0, 1, 3, 1, 1, 2, 0, 0, 1, 3, 1, 0, 0, 2, 1, 0, 0, 0, 2, 0, 0, 1, 3, 1, 0, 2, 0, 0, 0, 0, 2, 0, 1]
def ctf (k idx : Nat) : Option (Nat × Nat × (Nat × Nat × Nat) × Nat) := CT.find? fun q => q.1 == k && q.2.1 == idx
def call (k idx : Nat) : Option (Nat × Nat × Nat) := (ctf k idx).map fun q => q.2.2.1
/-- fields: the class whose code speaks, the entry, the object's class, the place, the word's place -/
def FT : List (Nat × Nat × Nat × Nat × Nat) := [(1, 9, 1, 0, 96), (2, 105, 1, 0, 97), (5, 303, 1, 0, 98), (1, 15, 1, 1, 99), (2, 111, 1, 1, 100), (1, 18, 1, 2, 101), (2, 114, 1, 2, 102), (1, 36, 1, 3, 103), (4, 41, 1, 3, 104), (2, 108, 1, 3, 105), (5, 138, 1, 3, 106), (1, 39, 1, 4, 107), (2, 144, 1, 4, 108), (1, 21, 1, 5, 109), (2, 147, 1, 5, 110), (1, 24, 1, 6, 111), (2, 198, 1, 6, 112), (1, 27, 1, 7, 113), (2, 180, 1, 7, 114), (1, 30, 1, 8, 115), (2, 11, 2, 0, 136), (4, 37, 2, 0, 137), (5, 103, 2, 0, 138), (2, 17, 2, 1, 139), (5, 118, 2, 1, 140), (4, 9, 2, 2, 141), (2, 33, 2, 2, 142), (5, 135, 2, 2, 143), (2, 21, 2, 3, 144), (5, 153, 2, 3, 145), (2, 25, 2, 4, 146), (5, 265, 2, 4, 147), (2, 36, 2, 5, 148), (5, 262, 2, 5, 149), (2, 39, 2, 6, 150), (5, 268, 2, 6, 151), (2, 42, 2, 7, 152), (5, 285, 2, 7, 153), (3, 9, 3, 0, 178), (5, 194, 3, 0, 179), (3, 27, 3, 1, 180), (5, 186, 3, 1, 181), (3, 19, 3, 2, 182), (5, 202, 3, 2, 183), (2, 50, 3, 3, 184), (3, 41, 3, 3, 185), (3, 15, 3, 4, 186), (2, 45, 3, 4, 187), (0, 9, 0, 0, 206), (5, 228, 0, 0, 207), (0, 15, 0, 1, 208), (5, 233, 0, 1, 209), (5, 215, 0, 2, 210), (5, 12, 4, 0, 218), (5, 16, 4, 1, 219), (5, 19, 4, 2, 220), (5, 295, 4, 3, 221), (5, 22, 4, 4, 222), (5, 288, 4, 5, 223), (5, 26, 4, 6, 224), (5, 32, 4, 7, 225), (5, 36, 4, 8, 226), (5, 43, 4, 9, 227), (5, 47, 4, 10, 228), (5, 236, 4, 11, 229), (6, 9, 5, 0, 1055), (6, 13, 5, 1, 1056), (6, 16, 5, 2, 1057), (6, 19, 5, 3, 1058), (6, 42, 5, 4, 1059), (6, 22, 5, 5, 1060), (6, 239, 5, 6, 1061), (6, 25, 5, 7, 1062), (6, 225, 5, 8, 1063), (6, 29, 5, 9, 1064), (6, 196, 5, 10, 1065), (6, 199, 5, 11, 1066), (6, 206, 5, 12, 1067), (6, 32, 5, 13, 1068), (6, 35, 5, 14, 1069), (6, 48, 5, 15, 1070), (6, 51, 5, 16, 1071), (6, 54, 5, 17, 1072), (6, 45, 5, 18, 1073), (6, 39, 5, 19, 1074)]
def ftf (k idx : Nat) : Option (Nat × Nat × Nat × Nat × Nat) := FT.find? fun q => q.1 == k && q.2.1 == idx
def fld (k idx : Nat) : Option (Nat × Nat) := (ftf k idx).map fun q => (q.2.2.1, q.2.2.2.1)
def NT : List (Nat × Nat × Nat × Nat) := [(2, 9, 1, 89), (5, 9, 2, 83), (5, 29, 3, 172), (5, 40, 0, 200), (7, 8, 4, 75), (7, 110, 5, 1049)]
def ntf (k idx : Nat) : Option (Nat × Nat × Nat × Nat) := NT.find? fun q => q.1 == k && q.2.1 == idx
def newc (k idx : Nat) : Option Nat := (ntf k idx).map fun q => q.2.2.1
def kn (ci : Nat) : Nat := (KL.getD ci ("", TX0, 0)).2.2
def dflt (ci : Nat) : List Value := (List.range (kn ci)).map fun j => defaultValue ((KTY.getD ci tyX0) j)
def LTX : List String := ["+-mkwpdt", ".?_12", "hdd", "", "dh", "ddd", "n", "d"]
def LBY : List (List Int32) := [[43, 45, 109, 107, 119, 112, 100, 116], [46, 63, 95, 49, 50], [104, 100, 100], [], [100, 104], [100, 100, 100], [110], [100]]
def LT : List (Nat × Nat × Nat × Nat) := [(5, 306, 1, 360), (3, 33, 0, 854), (3, 59, 2, 920), (3, 61, 3, 921), (3, 63, 4, 922), (3, 65, 5, 923), (3, 67, 6, 924), (3, 69, 7, 925), (6, 228, 1, 1414)]
def ltf (k idx : Nat) : Option (Nat × Nat × Nat × Nat) := LT.find? fun q => q.1 == k && q.2.1 == idx
def lit (k idx : Nat) : Option Nat := (ltf k idx).map fun q => q.2.2.1
def IT : List (Nat × Nat × Int32 × Nat) := [(10, 265, 1431655765, 308), (10, 266, 858993459, 309), (10, 267, 252645135, 310)]
def itf (k idx : Nat) : Option (Nat × Nat × Int32 × Nat) := IT.find? fun q => q.1 == k && q.2.1 == idx
def icst (k idx : Nat) : Option Int32 := (itf k idx).map fun q => q.2.2.1
def EXN : List String := ["java/lang/ArithmeticException", "java/lang/IllegalArgumentException", "java/lang/IllegalStateException", "java/lang/IndexOutOfBoundsException", "java/lang/UnsupportedOperationException", "java/util/NoSuchElementException"]
/-- throws: the method, where, 0 for ldc and 1 for ldc_w, which exception, the entries -/
def TT : List (Nat × Nat × Nat × Nat × Nat × Nat × Nat) := [(16, 13, 1, 4, 218, 301, 222), (98, 11, 0, 3, 91, 93, 95), (98, 31, 0, 1, 98, 100, 102), (101, 11, 0, 3, 91, 93, 95), (104, 11, 0, 3, 91, 116, 95), (108, 11, 0, 3, 91, 93, 95), (108, 35, 0, 5, 125, 127, 129), (112, 14, 0, 5, 125, 133, 129), (135, 10, 0, 1, 98, 163, 102), (140, 54, 0, 5, 125, 172, 129), (146, 14, 0, 5, 125, 177, 129), (155, 22, 0, 3, 91, 93, 95), (158, 12, 0, 2, 189, 191, 193), (181, 27, 0, 1, 98, 200, 102), (181, 152, 0, 4, 218, 220, 222), (192, 9, 0, 1, 98, 226, 102), (192, 29, 0, 5, 125, 231, 129), (199, 12, 0, 3, 91, 247, 95), (203, 12, 0, 0, 249, 251, 253), (208, 12, 1, 0, 249, 260, 253), (212, 160, 1, 1, 98, 291, 102), (215, 7, 1, 2, 189, 293, 193), (220, 7, 1, 2, 189, 299, 193)]
def ttf (M pc : Nat) : Option (Nat × Nat × Nat × Nat × Nat × Nat × Nat) := TT.find? fun q => q.1 == M && q.2.1 == pc
def thr (M pc : Nat) : Option String := (ttf M pc).map fun q => EXN.getD q.2.2.2.1 ""
/-- handlers: the method, the exception, the handler, the local that takes it, where it goes on, from, to, the entry, its length, the words' places, the place in the table, the exception before it and its word's place -/
abbrev Hrw : Type := Nat × Nat × Nat × Nat × Nat × Nat × Nat × Nat × Nat × Nat × Nat × Nat × Nat × Nat
def HT : List Hrw := [(18, 4, 15, 5, 17, 0, 12, 13, 2, 417, 454, 0, 0, 0), (33, 4, 11, 2, 12, 0, 8, 13, 1, 417, 454, 0, 0, 0), (40, 4, 13, 4, 15, 0, 10, 13, 2, 417, 454, 0, 0, 0), (48, 4, 15, 5, 17, 0, 12, 13, 2, 417, 454, 0, 0, 0), (53, 4, 12, 3, 13, 0, 9, 13, 1, 417, 454, 0, 0, 0), (58, 4, 12, 3, 13, 0, 9, 13, 1, 417, 454, 0, 0, 0), (64, 4, 12, 3, 13, 0, 9, 13, 1, 417, 454, 0, 0, 0), (86, 4, 12, 3, 13, 0, 9, 13, 1, 417, 454, 0, 0, 0), (99, 3, 13, 4, 15, 0, 10, 42, 2, 653, 685, 0, 0, 0), (99, 1, 17, 4, 19, 0, 10, 44, 2, 677, 698, 1, 3, 653), (102, 3, 13, 4, 15, 0, 10, 42, 2, 653, 685, 0, 0, 0), (105, 3, 12, 3, 13, 0, 9, 42, 1, 653, 685, 0, 0, 0), (109, 3, 12, 3, 13, 0, 9, 42, 1, 653, 685, 0, 0, 0), (109, 5, 15, 3, 16, 0, 9, 56, 1, 735, 743, 1, 3, 653), (113, 5, 12, 3, 13, 0, 9, 56, 1, 735, 743, 0, 0, 0), (136, 1, 12, 3, 13, 0, 9, 44, 1, 677, 698, 0, 0, 0), (141, 5, 11, 2, 12, 0, 8, 56, 1, 735, 743, 0, 0, 0), (147, 5, 12, 3, 13, 0, 9, 56, 1, 735, 743, 0, 0, 0), (156, 3, 20, 4, 22, 0, 17, 42, 2, 653, 685, 0, 0, 0), (159, 2, 12, 3, 13, 0, 9, 78, 1, 818, 825, 0, 0, 0), (182, 1, 11, 2, 12, 0, 8, 44, 1, 677, 698, 0, 0, 0), (182, 4, 14, 2, 15, 0, 8, 13, 1, 417, 454, 1, 1, 677), (193, 1, 12, 3, 13, 0, 9, 44, 1, 677, 698, 0, 0, 0), (193, 5, 15, 3, 16, 0, 9, 56, 1, 735, 743, 1, 1, 677), (200, 3, 12, 3, 13, 0, 9, 42, 1, 653, 685, 0, 0, 0), (204, 0, 10, 2, 11, 0, 7, 94, 1, 980, 992, 0, 0, 0), (209, 0, 11, 2, 12, 0, 8, 94, 1, 980, 992, 0, 0, 0), (213, 1, 12, 3, 13, 0, 9, 44, 1, 677, 698, 0, 0, 0), (216, 2, 11, 2, 12, 0, 8, 78, 1, 818, 825, 0, 0, 0), (221, 2, 11, 2, 12, 0, 8, 78, 1, 818, 825, 0, 0, 0)]
def NCP : List (Nat × Nat) := [(1, 3), (5, 3), (4, 1), (5, 1)]
def hdf (M pc : Nat) (E : String) : Option Hrw := HT.find? fun q => q.1 == M && EXN.getD q.2.1 "" == E && decide (q.2.2.2.2.2.1 ≤ pc) && decide (pc < q.2.2.2.2.2.2.1)
def hdl (M pc : Nat) (E : String) : Option (Nat × Nat) := (hdf M pc E).map fun q => (q.2.2.2.1, q.2.2.2.2.1)
def MXP : Nat × Nat × Nat × Nat × Nat := (648, 649, 342, 343, 62)
def POI : Nat × Nat := (81, 82)
def SGT : List (Nat × Nat × Nat × Nat) := [(8, 38, 0, 369), (8, 1053, 1, 377)]
def sgf (k idx : Nat) : Option Nat := (SGT.find? fun q => q.1 == k && q.2.1 == idx).map fun q => q.2.2.1
def SFT : List (Nat × Nat × Nat × Nat) := [(8, 15, 1, 1467), (8, 9, 0, 1468)]
def sff (k idx : Nat) : Option Nat := (SFT.find? fun q => q.1 == k && q.2.1 == idx).map fun q => q.2.2.1
def LAWM : Nat := 223
/-! ===== THE ABSTRACT MACHINE ===== -/
/-- what it takes as given: the String constants' addresses, String → its bytes' address, bytes → (length, what they hold), the static formatter, the script (address, length, ints) -/
abbrev Cxt : Type := (Nat → Nat) × (Nat → Option Nat) × (Nat → Option (Nat × (Nat → Int32))) × Option Nat × (Nat × Nat × (Nat → Int32))
abbrev Nxt : Type := Nat × Lcs × Stk × Wld × Option Nat × Nat × Nat
abbrev Cll : Type := Nat × List Value × Stk
def gf (w : Wld) (a ci k : Nat) : Option Value := match w a with
  | some (.inr (ci2, fs)) => if ci2 = ci then fs[k]? else none
  | _ => none
def okv (ty : FieldType) (v : Value) : Bool := match ty, v with
  | .int, .int _ => true
  | .boolean, .int x => decide (narrow .boolean (.int x) = .int x) && fits .boolean (.int x)
  | .char, .int x => decide (narrow .char (.int x) = .int x) && fits .char (.int x)
  | .object _, .ref _ => true
  | .array _, .ref _ => true
  | _, _ => false
def fty (ci k : Nat) : FieldType := (KTY.getD ci tyX0) k
def pf (w : Wld) (a ci k : Nat) (v : Value) : Option Wld := match w a with
  | some (.inr (ci2, fs)) => if ci2 = ci ∧ k < fs.length ∧ okv (fty ci k) v = true then some (wset w a (.inr (ci2, fs.set k v))) else none
  | _ => none
/-- a final field is written in its own class's constructor alone -/
def pok (M ci k : Nat) : Bool := match KL[ci]? with
  | some q => !(q.2.1 k).2.2.2 || ((mY M).name == "<init>" && cname (mN M) == (q.2.1 k).1)
  | none => false
def inr_ (i : Int32) (n : Nat) : Bool := decide (¬ (i < 0 ∨ n ≤ i.toNatClampNeg))
def ga (w : Wld) (a t : Nat) (i : Int32) : Option Value := match w a with
  | some (.inl (t2, n, f)) => if t2 = t ∧ inr_ i n = true then some (f i.toNatClampNeg) else none
  | _ => none
def sa (w : Wld) (a t : Nat) (i : Int32) (v : Value) : Option Wld := match w a with
  | some (.inl (t2, n, f)) => if t2 = t ∧ inr_ i n = true then some (wset w a (.inl (t2, n, updV f i.toNatClampNeg v))) else none
  | _ => none
def hasc (w : Wld) (a ci : Nat) : Bool := match w a with
  | some (.inr (ci2, _)) => decide (ci2 = ci)
  | _ => false
/-- the kinds of arrays -/
def ATY : List FieldType := [.int, .char, .long, .double, .object "SoupTable$Seat", .object "SoupTable$Table"]
def atg (ty : ArrayType) : Option (Nat × Value) := match ty with
  | .int => some (0, .int 0)
  | .char => some (1, .int 0)
  | .long => some (2, .long 0)
  | .double => some (3, .double 0)
  | _ => none
def popv : Nat → Stk → List Value → Option (List Value × Stk)
  | 0, st, acc => some (acc, st)
  | k + 1, v :: st, acc => if v.category = 1 then popv k st (v :: acc) else none
  | _ + 1, [], _ => none
def okr (ty : Option FieldType) (x : Int32) : Bool := match ty with
  | some .int => true
  | some .boolean => decide (narrow .boolean (.int x) = .int x)
  | some .char => decide (narrow .char (.int x) = .int x)
  | some .byte => decide (narrow .byte (.int x) = .int x)
  | _ => false
def isob (ty : Option FieldType) : Bool := match ty with
  | some (.object _) => true
  | _ => false
def imx (x y : Int32) : Int32 := if x < y then y else x
def imn (x y : Int32) : Int32 := if y < x then y else x
/-- the method fits into its caller's room -/
def fits2 (M M2 : Nat) : Bool := decide (mF M2 + 1 ≤ mF M ∧ 8 + (mL M2 + 11) + mO M2 ≤ mO M)
def rcv (X : Cxt) (w : Wld) (M2 b : Nat) : Bool := match mK M2 with
  | 1 => (X.2.1 b).isSome
  | _ => match w b with
    | some (.inr (ci, _)) => decide ((KL.getD ci ("", TX0, 0)).1 = (mY M2).cls)
    | _ => false
def nxt (pc : Nat) (ls : Lcs) (st : Stk) (w : Wld) (n : Option Nat) (c sl : Nat) : Option (Nxt ⊕ (Otc ⊕ Cll)) := some (.inl (pc, ls, st, w, n, c, sl))
def xcl (M M2 : Nat) (vs : List Value) (r : Stk) : Option (Nxt ⊕ (Otc ⊕ Cll)) := if fits2 M M2 = true ∧ r.length ≤ 4 then some (.inr (.inr (M2, vs, r))) else none
def xpst (M pc : Nat) (i : Instr) (len : Nat) (ls : Lcs) (st : Stk) (w : Wld) (n : Option Nat) (c sl : Nat) : Option (Nxt ⊕ (Otc ⊕ Cll)) := match pst (m2 M) i len pc ls st with
    | some q => nxt q.1 q.2.1 q.2.2 w n c sl
    | none => none
def xst (X : Cxt) (M pc : Nat) (i : Instr) (len : Nat) (ls : Lcs) (st : Stk) (w : Wld) (n : Option Nat) (c sl : Nat) : Option (Nxt ⊕ (Otc ⊕ Cll)) := match i with
  | .getfield idx => g1 len 3 (qr st fun a r => match mK M with
    | 1 => match X.2.1 a, sff (mN M) idx with
      | some v, some 0 => nxt (pc + 3) ls (.ref v :: r) w n c sl
      | some _, some _ => nxt (pc + 3) ls (.int 0 :: r) w n c sl
      | _, _ => none
    | _ => match fld (mN M) idx with
      | some q => match gf w a q.1 q.2 with
        | some v => nxt (pc + 3) ls (v :: r) w n c sl
        | none => none
      | none => none)
  | .putfield idx => g1 len 3 (q1 st fun v r => qr r fun a r => match fld (mN M) idx with
      | some q => match pf w a q.1 q.2 v with
        | some w2 => gc (pok M q.1 q.2) (nxt (pc + 3) ls r w2 n c sl)
        | none => none
      | none => none)
  | .iaload => g1 len 1 (qi st fun j r => qr r fun a r => match mK M with
    | 2 => if a = X.2.2.2.2.1 ∧ inr_ j X.2.2.2.2.2.1 = true then nxt (pc + 1) ls (.int (X.2.2.2.2.2.2 j.toNatClampNeg) :: r) w n c sl else none
    | _ => match ga w a 0 j with
      | some v => nxt (pc + 1) ls (v :: r) w n c sl
      | none => none)
  | .caload => g1 len 1 (qi st fun j r => qr r fun a r => match ga w a 1 j with
      | some v => nxt (pc + 1) ls (v :: r) w n c sl
      | none => none)
  | .laload => g1 len 1 (qi st fun j r => qr r fun a r => match ga w a 2 j with
      | some v => nxt (pc + 1) ls (v :: r) w n c sl
      | none => none)
  | .daload => g1 len 1 (qi st fun j r => qr r fun a r => match ga w a 3 j with
      | some v => nxt (pc + 1) ls (v :: r) w n c sl
      | none => none)
  | .aaload => g1 len 1 (qi st fun j r => qr r fun a r => match ga w a 4 j with
      | some v => nxt (pc + 1) ls (v :: r) w n c sl
      | none => match ga w a 5 j with
        | some v => nxt (pc + 1) ls (v :: r) w n c sl
        | none => none)
  | .iastore => g1 len 1 (qi st fun v r => qi r fun j r => qr r fun a r => match sa w a 0 j (.int v) with
      | some w2 => nxt (pc + 1) ls r w2 n c sl
      | none => none)
  | .castore => g1 len 1 (qi st fun v r => qi r fun j r => qr r fun a r => match sa w a 1 j (narrow .char (.int v)) with
      | some w2 => nxt (pc + 1) ls r w2 n c sl
      | none => none)
  | .lastore => g1 len 1 (ql st fun v r => qi r fun j r => qr r fun a r => match sa w a 2 j (.long v) with
      | some w2 => nxt (pc + 1) ls r w2 n c sl
      | none => none)
  | .dastore => g1 len 1 (qd st fun v r => qi r fun j r => qr r fun a r => match sa w a 3 j (.double v) with
      | some w2 => nxt (pc + 1) ls r w2 n c sl
      | none => none)
  | .aastore => g1 len 1 (qr st fun v r => qi r fun j r => qr r fun a r => match hasc w v 1, sa w a 4 j (.ref v) with
      | true, some w2 => nxt (pc + 1) ls r w2 n c sl
      | _, _ => match hasc w v 2, sa w a 5 j (.ref v) with
        | true, some w2 => nxt (pc + 1) ls r w2 n c sl
        | _, _ => none)
  | .arraylength => g1 len 1 (qr st fun a r => match mK M with
    | 2 => if a = X.2.2.2.2.1 then nxt (pc + 1) ls (.int (Int32.ofNat X.2.2.2.2.2.1) :: r) w n c sl else none
    | 1 => match X.2.2.1 a with
      | some q => nxt (pc + 1) ls (.int (Int32.ofNat q.1) :: r) w n c sl
      | none => none
    | _ => none)
  | .baload => g1 len 1 (qi st fun j r => qr r fun a r => match X.2.2.1 a with
      | some q => if inr_ j q.1 = true then nxt (pc + 1) ls (.int (q.2 j.toNatClampNeg) :: r) w n c sl else none
      | none => none)
  | .getstatic idx => g1 len 3 (match sgf (mN M) idx with
    | some 0 => nxt (pc + 3) ls (.int 1 :: st) w n c sl
    | some _ => nxt (pc + 3) ls (va_rf X.2.2.2.1 :: st) w n c sl
    | none => none)
  | .ldc idx => g1 len 2 (match lit (mN M) idx with
    | some j => nxt (pc + 2) ls (.ref (X.1 j) :: st) w n c sl
    | none => none)
  | .ldc_w idx => g1 len 3 (match icst (mN M) idx with
    | some v => nxt (pc + 3) ls (.int v :: st) w n c sl
    | none => none)
  | .new idx => g1 len 3 (match thr M pc with
    | some e => if c + 1 ≤ mC M ∧ sl + 6 ≤ mS M ∧ st.length ≤ 4 then some (.inr (.inl (.inr e, w, none))) else none
    | none => match newc (mN M) idx, n with
      | some ci, some q => if c + 1 ≤ mC M ∧ sl + kn ci ≤ mS M then nxt (pc + 3) ls (.ref q :: st) (wset w q (.inr (ci, dflt ci))) (some (q + 1)) (c + 1) (sl + kn ci) else none
      | _, _ => none)
  | .newarray ty => g1 len 2 (qi st fun x r => match atg ty, n with
      | some t, some q => if ¬ x < 0 ∧ x.toNatClampNeg ≤ 1000 ∧ c + 1 ≤ mC M ∧ sl + x.toNatClampNeg ≤ mS M then nxt (pc + 2) ls (.ref q :: r) (wset w q (.inl (t.1, x.toNatClampNeg, fun _ => t.2))) (some (q + 1)) (c + 1) (sl + x.toNatClampNeg) else none
      | _, _ => none)
  | .anewarray idx => g1 len 3 (qi st fun x r => match newc (mN M) idx, n with
      | some ci, some q => if (ci = 1 ∨ ci = 2) ∧ ¬ x < 0 ∧ x.toNatClampNeg ≤ 1000 ∧ c + 1 ≤ mC M ∧ sl + x.toNatClampNeg ≤ mS M then nxt (pc + 3) ls (.ref q :: r) (wset w q (.inl (ci + 3, x.toNatClampNeg, fun _ => .null))) (some (q + 1)) (c + 1) (sl + x.toNatClampNeg) else none
      | _, _ => none)
  | .ireturn => g1 len 1 (qi st fun x r => match r with
    | [] => gc (okr (mR M) x) (some (.inr (.inl (.inl (some (.int x)), w, n))))
    | _ => none)
  | .freturn => g1 len 1 (qf st fun x r => match r with
    | [] => gc (decide (mR M = some .float)) (some (.inr (.inl (.inl (some (.float x)), w, n))))
    | _ => none)
  | .dreturn => g1 len 1 (qd st fun x r => match r with
    | [] => gc (decide (mR M = some .double)) (some (.inr (.inl (.inl (some (.double x)), w, n))))
    | _ => none)
  | .areturn => g1 len 1 (qr st fun x r => match r with
    | [] => gc (isob (mR M)) (some (.inr (.inl (.inl (some (.ref x)), w, n))))
    | _ => none)
  | .return_ => g1 len 1 (match st with
    | [] => gc (decide (mR M = none)) (some (.inr (.inl (.inl none, w, n))))
    | _ => none)
  | .invokestatic idx => g1 len 3 (match call (mN M) idx with
    | some (1, M2, k) => match popv k st [] with
      | some (vs, r) => xcl M M2 vs r
      | none => none
    | some (6, _, _) => if 1 ≤ mF M ∧ 2 * st.length + 13 ≤ mO M then qi st fun y r => qi r fun x r => nxt (pc + 3) ls (.int (imx x y) :: r) w n c sl else none
    | some (7, _, _) => if 1 ≤ mF M ∧ 2 * st.length + 13 ≤ mO M then qi st fun y r => qi r fun x r => nxt (pc + 3) ls (.int (imn x y) :: r) w n c sl else none
    | _ => none)
  | .invokevirtual idx => g1 len 3 (match call (mN M) idx with
    | some (0, M2, k) => match popv k st [] with
      | some (vs, r) => qr r fun b r => gc (rcv X w M2 b) (xcl M M2 (.ref b :: vs) r)
      | none => none
    | _ => none)
  | .invokespecial idx => g1 len 3 (match call (mN M) idx with
    | some (5, _, _) => qr st fun _ r => if 1 ≤ mF M ∧ 2 * r.length + 12 ≤ mO M then nxt (pc + 3) ls r w n c sl else none
    | some (2, M2, k) => match popv k st [] with
      | some (vs, r) => qr r fun b r => xcl M M2 (.ref b :: vs) r
      | none => none
    | some (3, M2, k) => match popv k st [] with
      | some (vs, r) => qr r fun b r => xcl M M2 (.ref b :: vs) r
      | none => none
    | _ => none)
  | _ => xpst M pc i len ls st w n c sl
/-- at the law's loop its own numbers of a turn are forgotten -/
def e_mk (M pc : Nat) (ls : Lcs) : Lcs := if M = 223 ∧ pc = 28 then ls.take 6 ++ [none, none, none] else ls
def entl (M : Nat) (vs : List Value) : Lcs := vs.map some ++ List.replicate (mL M - vs.length) none
def ex (X : Cxt) : Nat → Nat → Nat → Lcs → Stk → Wld → Option Nat → Nat → Nat → Option Otc
  | 0, _, _, _, _, _, _, _, _ => none
  | f + 1, M, pc, ls, st, w, n, c, sl => match decode (mB M) pc with
    | .error _ => none
    | .ok (i, len) => match xst X M pc i len (e_mk M pc ls) st w n c sl with
      | none => none
      | some (.inl q) => ex X f M q.1 q.2.1 q.2.2.1 q.2.2.2.1 q.2.2.2.2.1 q.2.2.2.2.2.1 q.2.2.2.2.2.2
      | some (.inr (.inl o)) => some o
      | some (.inr (.inr q)) => match ex X f q.1 0 (entl q.1 q.2.1) [] w n 0 0 with
        | none => none
        | some o => if c + mC q.1 ≤ mC M ∧ sl + mS q.1 ≤ mS M ∧ q.2.1.length ≤ mL q.1 then
            match o.1 with
            | .inl v => ex X f M (pc + 3) (e_mk M pc ls) (v.toList ++ q.2.2) o.2.1 o.2.2 (c + mC q.1) (sl + mS q.1)
            | .inr e => match mH M with
              | [] => some (.inr e, o.2.1, o.2.2)
              | _ => match hdl M pc e with
                | some k => ex X f M k.2 ((e_mk M pc ls).set k.1 none) [] o.2.1 o.2.2 (c + mC q.1) (sl + mS q.1)
                | none => none
          else none
theorem ex_mono (X : Cxt) : ∀ (f M pc : Nat) (ls : Lcs) (st : Stk) (w : Wld) (n : Option Nat) (c sl : Nat) (o : Otc), ex X f M pc ls st w n c sl = some o → ex X (f + 1) M pc ls st w n c sl = some o := by
  intro f
  induction f with
  | zero => intro M pc ls st w n c sl o h; cases h
  | succ f ih =>
    intro M pc ls st w n c sl o h
    rw [ex] at h
    rw [ex]
    split at h
    · cases h
    · rename_i i len hd
      (try rw [hd])
      (try dsimp only)
      split at h
      · cases h
      · rename_i q hq
        (try rw [hq])
        exact ih _ _ _ _ _ _ _ _ _ h
      · rename_i q hq
        (try rw [hq])
        exact h
      · rename_i q hq
        (try rw [hq])
        (try dsimp only)
        split at h
        · cases h
        · rename_i o2 ho2
          rw [ih _ _ _ _ _ _ _ _ _ ho2]
          (try dsimp only)
          split at h
          · rename_i hg
            rw [if_pos hg]
            split at h
            · rename_i v hv
              (try rw [hv])
              exact ih _ _ _ _ _ _ _ _ _ h
            · rename_i e9 he
              (try rw [he])
              (try dsimp only)
              split at h
              · rename_i hm
                (try rw [hm])
                exact h
              · rename_i hm
                split at h
                · rename_i k hk
                  (try rw [hk])
                  exact ih _ _ _ _ _ _ _ _ _ h
                · cases h
          · cases h
theorem ex_up (X : Cxt) {f g M pc : Nat} {ls : Lcs} {st : Stk} {w : Wld} {n : Option Nat} {c sl : Nat} {o : Otc} (h : ex X f M pc ls st w n c sl = some o) (hg : f ≤ g) : ex X g M pc ls st w n c sl = some o := by
  induction hg with
  | refl => exact h
  | step _ ih => exact ex_mono X _ _ _ _ _ _ _ _ _ _ ih
/-- from here the method ends, with Q -/
def Ev (X : Cxt) (M pc : Nat) (ls : Lcs) (st : Stk) (w : Wld) (n : Option Nat) (c sl : Nat) (Q : (Option Value ⊕ String) → Wld → Option Nat → Prop) : Prop := ∃ (f : Nat) (o : Otc), ex X f M pc ls st w n c sl = some o ∧ Q o.1 o.2.1 o.2.2
end
section
/-! ===== SOUNDNESS, the heap: worlds over a heap, one instruction each ===== -/
def eat (D : va_G) (dA : Nat → ClassId) (a : Nat) (e : Cel) (H : Heap) : Prop := match e with
  | .inl q => H[a]? = some (arrV (dA q.1) q.2.1 q.2.2)
  | .inr o => ∃ r : vw_C, KL[o.1]? = some r ∧ t_OB a (D.1 o.1) r.2.2 (D.2 o.1) H (vp_V o.2)
theorem eat.kept {D : va_G} {dA : Nat → ClassId} {a : Nat} {e : Cel} {H H1 : Heap} (h : eat D dA a e H) (hq : H1[a]? = H[a]?) : eat D dA a e H1 := by
  cases e with
  | inl q => exact hq.trans h
  | inr o =>
    obtain ⟨r, h1, h2⟩ := h
    exact ⟨r, h1, h2.kept hq⟩
theorem eat.lt {D : va_G} {dA : Nat → ClassId} {a : Nat} {e : Cel} {H : Heap} (h : eat D dA a e H) : a < H.size := by
  cases e with
  | inl q => exact (Array.getElem?_eq_some_iff.mp h).1
  | inr o =>
    obtain ⟨r, h1, cell, h2, -⟩ := h
    exact (Array.getElem?_eq_some_iff.mp h2).1
/-- a world over a heap: all of it lies from b0 on; n: the heap's size, where it is known -/
def WOK (b0 : Nat) (D : va_G) (dA : Nat → ClassId) (w : Wld) (n : Option Nat) (H : Heap) : Prop :=
  (∀ (a : Nat) (e : Cel), w a = some e → b0 ≤ a ∧ eat D dA a e H) ∧ b0 ≤ H.size ∧ ∀ k : Nat, n = some k → H.size = k
theorem WOK.set {b0 : Nat} {D : va_G} {dA : Nat → ClassId} {w : Wld} {n : Option Nat} {H H1 : Heap} (h : WOK b0 D dA w n H) {a : Nat} {e0 e : Cel} (hw : w a = some e0) (he : eat D dA a e H1) (z : H1.size = H.size) (oq : ∀ q : Nat, q ≠ a → H1[q]? = H[q]?) : WOK b0 D dA (wset w a e) n H1 := by
  refine ⟨fun b e2 hb => ?_, by rw [z]; exact h.2.1, fun k hk => by rw [z]; exact h.2.2 k hk⟩
  unfold wset at hb
  by_cases q : b = a
  · rw [if_pos q] at hb
    cases hb
    subst q
    exact ⟨(h.1 _ _ hw).1, he⟩
  · rw [if_neg q] at hb
    obtain ⟨x, y⟩ := h.1 b e2 hb
    exact ⟨x, y.kept (oq b q)⟩
theorem WOK.push {b0 : Nat} {D : va_G} {dA : Nat → ClassId} {w : Wld} {k : Nat} {H H1 : Heap} (h : WOK b0 D dA w (some k) H) {e : Cel} (he : eat D dA k e H1) (z : H1.size = k + 1) (o1 : ∀ q : Nat, q < k → H1[q]? = H[q]?) : WOK b0 D dA (wset w k e) (some (k + 1)) H1 := by
  have hk : H.size = k := h.2.2 k rfl
  have hb : b0 ≤ k := hk ▸ h.2.1
  refine ⟨fun b e2 hb2 => ?_, by omega, fun j hj => by cases hj; exact z⟩
  unfold wset at hb2
  by_cases q : b = k
  · rw [if_pos q] at hb2
    cases hb2
    subst q
    exact ⟨hb, he⟩
  · rw [if_neg q] at hb2
    obtain ⟨x, y⟩ := h.1 b e2 hb2
    exact ⟨x, y.kept (o1 b (hk ▸ y.lt))⟩
theorem WOK.forget {b0 : Nat} {D : va_G} {dA : Nat → ClassId} {w : Wld} {n : Option Nat} {H H1 : Heap} (h : WOK b0 D dA w n H) (z : H.size ≤ H1.size) (oq : ∀ q : Nat, q < H.size → H1[q]? = H[q]?) : WOK b0 D dA w none H1 :=
  ⟨fun a e ha => ⟨(h.1 a e ha).1, (h.1 a e ha).2.kept (oq a (h.1 a e ha).2.lt)⟩, Nat.le_trans h.2.1 z, fun k hk => by cases hk⟩
theorem va_S.push {A : Nat → Prop} {H0 H H1 : Heap} {locs : List Loc} {k : Nat} (h : va_S A H0 H locs) (hk : H.size = k) (z : H1.size = k + 1) (o1 : ∀ q : Nat, q < k → H1[q]? = H[q]?) : va_S A H0 H1 locs :=
  ⟨Nat.le_trans h.1 (by omega), fun q h1 h2 => (o1 q (by have := h.1; omega)).trans (h.2.1 q h1 h2), h.2.2⟩
/-- the arrays' classes -/
def AKs (dA : Nat → ClassId) (U : State) : Prop := ∀ (t : Nat) (ty : FieldType), ATY[t]? = some ty → ArrOfT U (dA t) ty ∧ va_RA U (dA t) ty
theorem inr_ok {j : Int32} {n : Nat} (h : inr_ j n = true) : vp_in j n := of_decide_eq_true (p := ¬ (j < 0 ∨ n ≤ j.toNatClampNeg)) h
theorem ga_inv {w : Wld} {a t : Nat} {j : Int32} {v : Value} (h : ga w a t j = some v) : ∃ (n : Nat) (f : Nat → Value), w a = some (.inl (t, n, f)) ∧ vp_in j n ∧ v = f j.toNatClampNeg := by
  unfold ga at h
  split at h
  · rename_i t2 n f hw
    by_cases q : t2 = t ∧ inr_ j n = true
    · rw [if_pos q] at h
      cases h
      obtain ⟨rfl, q2⟩ := q
      exact ⟨n, f, hw, inr_ok q2, rfl⟩
    · rw [if_neg q] at h
      cases h
  · cases h
theorem sa_inv {w w2 : Wld} {a t : Nat} {j : Int32} {v : Value} (h : sa w a t j v = some w2) : ∃ (n : Nat) (f : Nat → Value), w a = some (.inl (t, n, f)) ∧ vp_in j n ∧ w2 = wset w a (.inl (t, n, updV f j.toNatClampNeg v)) := by
  unfold sa at h
  split at h
  · rename_i t2 n f hw
    by_cases q : t2 = t ∧ inr_ j n = true
    · rw [if_pos q] at h
      cases h
      obtain ⟨rfl, q2⟩ := q
      exact ⟨n, f, hw, inr_ok q2, rfl⟩
    · rw [if_neg q] at h
      cases h
  · cases h
theorem gf_inv {w : Wld} {a ci k : Nat} {v : Value} (h : gf w a ci k = some v) : ∃ fs : List Value, w a = some (.inr (ci, fs)) ∧ fs[k]? = some v := by
  unfold gf at h
  split at h
  · rename_i ci2 fs hw
    by_cases q : ci2 = ci
    · rw [if_pos q] at h
      subst q
      exact ⟨fs, hw, h⟩
    · rw [if_neg q] at h
      cases h
  · cases h
theorem pf_inv {w w2 : Wld} {a ci k : Nat} {v : Value} (h : pf w a ci k v = some w2) : ∃ fs : List Value, w a = some (.inr (ci, fs)) ∧ k < fs.length ∧ okv (fty ci k) v = true ∧ w2 = wset w a (.inr (ci, fs.set k v)) := by
  unfold pf at h
  split at h
  · rename_i ci2 fs hw
    by_cases q : ci2 = ci ∧ k < fs.length ∧ okv (fty ci k) v = true
    · rw [if_pos q] at h
      cases h
      obtain ⟨rfl, q2, q3⟩ := q
      exact ⟨fs, hw, q2, q3, rfl⟩
    · rw [if_neg q] at h
      cases h
  · cases h
theorem hasc_inv {w : Wld} {a ci : Nat} (h : hasc w a ci = true) : ∃ fs : List Value, w a = some (.inr (ci, fs)) := by
  unfold hasc at h
  split at h
  · rename_i ci2 fs hw
    have := of_decide_eq_true h
    subst this
    exact ⟨fs, hw⟩
  · cases h
theorem okv_ok {ty : FieldType} {v : Value} (h : okv ty v = true) : narrow ty v = v ∧ fits ty v = true := by
  unfold okv at h
  split at h
  · exact ⟨rfl, rfl⟩
  · exact ⟨of_decide_eq_true (Bool.and_eq_true_iff.mp h).1, (Bool.and_eq_true_iff.mp h).2⟩
  · exact ⟨of_decide_eq_true (Bool.and_eq_true_iff.mp h).1, (Bool.and_eq_true_iff.mp h).2⟩
  · exact ⟨rfl, rfl⟩
  · exact ⟨rfl, rfl⟩
  · cases h
section HEAPI
variable {p : Program} {l : Launch} {e : Env} {R : Room} {s : State} {m : MethodId} {args : Array Value} {below : List Frame} {meth : Method} {c : Code} {H : Heap} {locs : List Loc} {cells slots : Nat} {Q : State → Prop}
variable {cc : ByteArray} {b0 : Nat} {D : va_G} {dA : Nat → ClassId} {w : Wld} {n : Option Nat} {A : Nat → Prop} {H0 : Heap} {pc : Nat} {lsR : Array Slot} {r : Stk}
theorem m_getf {Ts : List Cond} {own : String} (hx : p.tables.exec = Jvm.exec) (hb : c.code = cc) (hts : ∀ w ∈ Ts, w.before args s = true) (hown : s.vm.findClass own = some m.cls) (hK : va_K D KL [] s) (hW : WOK b0 D dA w n H) {a ci k idx : Nat} {v : Value} {q : vw_C} (hq : KL[ci]? = some q) (hin : ∀ w ∈ u_ws q.1 q.2.1 q.2.2, w ∈ Ts) (hk : k < q.2.2)
    (hlink : (Cond.fieldLink own idx (q.2.1 k).1 (q.2.1 k).2.1 (q.2.1 k).2.2.1).before args s = true) (hg : gf w a ci k = some v) (hd : decode cc pc = .ok (.getfield idx, 3)) (kk : W p l e R s m args below meth c H locs cells slots Q (F0 m (pc + 3) lsR (v :: r))) : W p l e R s m args below meth c H locs cells slots Q (F0 m pc lsR (.ref a :: r)) := by
  obtain ⟨fs, hwa, hv⟩ := gf_inv hg
  have hP : va_P D KL [(a, .inr (ci, fs))] H := fun j x hj => by
    have hz : j < 1 := (List.getElem?_eq_some_iff.mp hj).1
    rw [show j = 0 by omega] at hj
    cases hj
    exact (hW.1 _ _ hwa).2
  obtain ⟨C, T, N⟩ := q
  exact va_get (own := own) (ref := (T k).1) hx hb hts hin hown hK hP 0 rfl hq k hk hlink (fun _ h => h) hv hd kk
theorem m_putf {Ts : List Cond} {own : String} (hx : p.tables.exec = Jvm.exec) (hb : c.code = cc) (hts : ∀ w ∈ Ts, w.before args s = true) (hown : s.vm.findClass own = some m.cls) (hK : va_K D KL [] s) (hW : WOK b0 D dA w n H) (hS : va_S (fun q => b0 ≤ q) H0 H locs) {a ci k idx : Nat} {v : Value} {q : vw_C} (hq : KL[ci]? = some q) (hin : ∀ w ∈ u_ws q.1 q.2.1 q.2.2, w ∈ Ts) (hk : k < q.2.2)
    (ty0 : Nat → FieldType) (hty : ∀ k, k < q.2.2 → parseFieldDescriptor (q.2.1 k).2.2.1 = some (ty0 k)) (hnm : ∀ a, a < q.2.2 → ∀ b, b < q.2.2 → a ≠ b → (q.2.1 a).2.1 ≠ (q.2.1 b).2.1)
    (hlink : (Cond.fieldLink own idx (q.2.1 k).1 (q.2.1 k).2.1 (q.2.1 k).2.2.1).before args s = true) (hfin : (q.2.1 k).2.2.2 = false ∨ (meth.name = "<init>" ∧ (q.2.1 k).1 = own)) {w2 : Wld} (hg : pf w a ci k v = some w2) (hf : fty ci k = ty0 k) (hd : decode cc pc = .ok (.putfield idx, 3))
    (kk : ∀ (H1 : Heap) (locs1 : List Loc), WOK b0 D dA w2 n H1 → va_S (fun q => b0 ≤ q) H0 H1 locs1 → W p l e R s m args below meth c H1 locs1 cells slots Q (F0 m (pc + 3) lsR r)) : W p l e R s m args below meth c H locs cells slots Q (F0 m pc lsR (v :: .ref a :: r)) := by
  obtain ⟨fs, hwa, hl, hok, rfl⟩ := pf_inv hg
  rw [hf] at hok
  obtain ⟨hn, hfit⟩ := okv_ok hok
  have hea := (hW.1 _ _ hwa)
  obtain ⟨C, T, N⟩ := q
  have hap := va_apart (own := own) hts hin ty0 hty hnm hK hq
  obtain ⟨r9, h1, cell, q1, q2, q3, q4⟩ := hea.2
  have hr : r9 = (C, T, N) := Option.some.inj (h1.symm.trans hq)
  subst hr
  obtain ⟨hSl, hfc, kC, hkC, hkind⟩ := hK.1 ci _ hq
  obtain ⟨cf, kf, fi, f, hi, hsl⟩ := hSl k hk
  have hst := (u_facts hfc hkC (u_lays hts hin hk) hi).1
  have hlay := hts _ (hin _ (u_in_lay hk))
  unfold u_lay at hlay
  have fin : ∀ H' : Heap, H'[a]? = some (cell.setSlot f.slot v) → H'.size = H.size → (∀ q, q ≠ a → H'[q]? = H[q]?) → W p l e R s m args below meth c H' (locs ++ [⟨a, f.slot⟩]) cells slots Q (F0 m (pc + 3) lsR r) := by
    intro H' e1 e2 e3
    rw [hsl] at e1
    exact kk H' _ (hW.set hwa ⟨_, hq, t_OB.to (V := updV (vp_V fs) k v) ⟨_, e1, q2, q3, t_set q4 hap hk v⟩ (fun j _ => vp_updV_set hl v j)⟩ e2 e3) (hS.put e2 e3 hea.1)
  by_cases hff : (T k).2.2.2 = true
  · rw [if_pos hff] at hlay
    rcases hfin with h9 | ⟨hin2, hdecl⟩
    · exact absurd (hff.symm.trans h9) (by decide)
    · have hcf : m.cls = cf := by
        obtain ⟨_, _, c', _, _, _, -, -, hf', -, -, -, hown2, -⟩ := Cond.laysFinal_spec hlay
        have e1 : c' = cf := by have := hi.symm.trans hf'; simp at this; exact this.1.symm
        have hown2 := hdecl ▸ hown2
        rw [← e1]; exact Option.some.inj (hown.symm.trans hown2)
      have h6 := u_fits hfc hkC hkind (Or.inr hlay) hi (hty k hk) hn hfit
      exact W.putFinK hx hb hown hlink hi hst hcf hin2 (by rw [q2]; exact h6) q1 q3 (by rw [hsl]; exact k2_hasslot (q4 k hk)) rfl rfl hd fin
  · rw [if_neg hff] at hlay
    have h6 := u_store hfc hkC hkind hlay hi (hty k hk) hn hfit
    exact W.putK hx hb (f := f) ⟨hown, hlink, ⟨_, _, _, hi⟩, hst⟩ (by rw [q2]; exact h6) q1 q3 (by rw [hsl]; exact k2_hasslot (q4 k hk)) rfl rfl hd fin
theorem m_iald (hx : p.tables.exec = Jvm.exec) (hb : c.code = cc) (hA : AKs dA s) (hW : WOK b0 D dA w n H) {a : Nat} {j : Int32} {v : Value} (hg : ga w a 0 j = some v) (hd : decode cc pc = .ok (.iaload, 1)) (kk : W p l e R s m args below meth c H locs cells slots Q (F0 m (pc + 1) lsR (v :: r))) : W p l e R s m args below meth c H locs cells slots Q (F0 m pc lsR (.int j :: .ref a :: r)) := by
  obtain ⟨N, f, hwa, hin, rfl⟩ := ga_inv hg
  have hlt : j.toNatClampNeg < N := Nat.not_le.mp fun q => hin (Or.inr q)
  exact W.iald hx hb (hW.1 _ _ hwa).2 ((hA 0 _ rfl).1 N f) (fun q => by cases q) (by show ¬ (j < 0 ∨ (arrV _ _ _).slots.size ≤ _); rw [arrV_size]; exact hin) (by show (arrV _ _ _).slots[_]? = _; rw [arrV_read _ _ hlt]) rfl rfl hd kk
theorem m_cald (hx : p.tables.exec = Jvm.exec) (hb : c.code = cc) (hA : AKs dA s) (hW : WOK b0 D dA w n H) {a : Nat} {j : Int32} {v : Value} (hg : ga w a 1 j = some v) (hd : decode cc pc = .ok (.caload, 1)) (kk : W p l e R s m args below meth c H locs cells slots Q (F0 m (pc + 1) lsR (v :: r))) : W p l e R s m args below meth c H locs cells slots Q (F0 m pc lsR (.int j :: .ref a :: r)) := by
  obtain ⟨N, f, hwa, hin, rfl⟩ := ga_inv hg
  have hlt : j.toNatClampNeg < N := Nat.not_le.mp fun q => hin (Or.inr q)
  exact W.cald hx hb (hW.1 _ _ hwa).2 ((hA 1 _ rfl).1 N f) (fun q => by cases q) (by show ¬ (j < 0 ∨ (arrV _ _ _).slots.size ≤ _); rw [arrV_size]; exact hin) (by show (arrV _ _ _).slots[_]? = _; rw [arrV_read _ _ hlt]) rfl rfl hd kk
theorem m_lald (hx : p.tables.exec = Jvm.exec) (hb : c.code = cc) (hA : AKs dA s) (hW : WOK b0 D dA w n H) {a : Nat} {j : Int32} {v : Value} (hg : ga w a 2 j = some v) (hd : decode cc pc = .ok (.laload, 1)) (kk : W p l e R s m args below meth c H locs cells slots Q (F0 m (pc + 1) lsR (v :: r))) : W p l e R s m args below meth c H locs cells slots Q (F0 m pc lsR (.int j :: .ref a :: r)) := by
  obtain ⟨N, f, hwa, hin, rfl⟩ := ga_inv hg
  have hlt : j.toNatClampNeg < N := Nat.not_le.mp fun q => hin (Or.inr q)
  exact W.lald hx hb (hW.1 _ _ hwa).2 ((hA 2 _ rfl).1 N f) (fun q => by cases q) (by show ¬ (j < 0 ∨ (arrV _ _ _).slots.size ≤ _); rw [arrV_size]; exact hin) (by show (arrV _ _ _).slots[_]? = _; rw [arrV_read _ _ hlt]) rfl rfl hd kk
theorem m_dald (hx : p.tables.exec = Jvm.exec) (hb : c.code = cc) (hA : AKs dA s) (hW : WOK b0 D dA w n H) {a : Nat} {j : Int32} {v : Value} (hg : ga w a 3 j = some v) (hd : decode cc pc = .ok (.daload, 1)) (kk : W p l e R s m args below meth c H locs cells slots Q (F0 m (pc + 1) lsR (v :: r))) : W p l e R s m args below meth c H locs cells slots Q (F0 m pc lsR (.int j :: .ref a :: r)) := by
  obtain ⟨N, f, hwa, hin, rfl⟩ := ga_inv hg
  have hlt : j.toNatClampNeg < N := Nat.not_le.mp fun q => hin (Or.inr q)
  exact W.dald hx hb (hW.1 _ _ hwa).2 ((hA 3 _ rfl).1 N f) (fun q => by cases q) (by show ¬ (j < 0 ∨ (arrV _ _ _).slots.size ≤ _); rw [arrV_size]; exact hin) (by show (arrV _ _ _).slots[_]? = _; rw [arrV_read _ _ hlt]) rfl rfl hd kk
theorem m_iast (hx : p.tables.exec = Jvm.exec) (hb : c.code = cc) (hA : AKs dA s) (hW : WOK b0 D dA w n H) (hS : va_S (fun q => b0 ≤ q) H0 H locs) {a : Nat} {j : Int32} {x : Int32} {w2 : Wld} (hg : sa w a 0 j (.int x) = some w2) (hd : decode cc pc = .ok (.iastore, 1))
    (kk : ∀ (H1 : Heap) (locs1 : List Loc), WOK b0 D dA w2 n H1 → va_S (fun q => b0 ≤ q) H0 H1 locs1 → W p l e R s m args below meth c H1 locs1 cells slots Q (F0 m (pc + 1) lsR r)) : W p l e R s m args below meth c H locs cells slots Q (F0 m pc lsR (.int x :: .int j :: .ref a :: r)) := by
  obtain ⟨N, f, hwa, hin, rfl⟩ := sa_inv hg
  refine W.iast hx hb (hW.1 _ _ hwa).2 ((hA 0 _ rfl).1 N f) (fun q => by cases q) (by show ¬ (j < 0 ∨ (arrV _ _ _).slots.size ≤ _); rw [arrV_size]; exact hin) rfl rfl hd fun H1 e1 z oq => ?_
  refine kk H1 _ (hW.set hwa ?_ z oq) (hS.put z oq (hW.1 _ _ hwa).1)
  show H1[a]? = some (arrV _ _ _)
  rw [e1, arrV_store]
theorem m_cast (hx : p.tables.exec = Jvm.exec) (hb : c.code = cc) (hA : AKs dA s) (hW : WOK b0 D dA w n H) (hS : va_S (fun q => b0 ≤ q) H0 H locs) {a : Nat} {j : Int32} {x : Int32} {w2 : Wld} (hg : sa w a 1 j (narrow .char (.int x)) = some w2) (hd : decode cc pc = .ok (.castore, 1))
    (kk : ∀ (H1 : Heap) (locs1 : List Loc), WOK b0 D dA w2 n H1 → va_S (fun q => b0 ≤ q) H0 H1 locs1 → W p l e R s m args below meth c H1 locs1 cells slots Q (F0 m (pc + 1) lsR r)) : W p l e R s m args below meth c H locs cells slots Q (F0 m pc lsR (.int x :: .int j :: .ref a :: r)) := by
  obtain ⟨N, f, hwa, hin, rfl⟩ := sa_inv hg
  refine W.cast hx hb (hW.1 _ _ hwa).2 ((hA 1 _ rfl).1 N f) (fun q => by cases q) (by show ¬ (j < 0 ∨ (arrV _ _ _).slots.size ≤ _); rw [arrV_size]; exact hin) rfl rfl hd fun H1 e1 z oq => ?_
  refine kk H1 _ (hW.set hwa ?_ z oq) (hS.put z oq (hW.1 _ _ hwa).1)
  show H1[a]? = some (arrV _ _ _)
  rw [e1, arrV_store]
theorem m_last (hx : p.tables.exec = Jvm.exec) (hb : c.code = cc) (hA : AKs dA s) (hW : WOK b0 D dA w n H) (hS : va_S (fun q => b0 ≤ q) H0 H locs) {a : Nat} {j : Int32} {x : Int64} {w2 : Wld} (hg : sa w a 2 j (.long x) = some w2) (hd : decode cc pc = .ok (.lastore, 1))
    (kk : ∀ (H1 : Heap) (locs1 : List Loc), WOK b0 D dA w2 n H1 → va_S (fun q => b0 ≤ q) H0 H1 locs1 → W p l e R s m args below meth c H1 locs1 cells slots Q (F0 m (pc + 1) lsR r)) : W p l e R s m args below meth c H locs cells slots Q (F0 m pc lsR (.long x :: .int j :: .ref a :: r)) := by
  obtain ⟨N, f, hwa, hin, rfl⟩ := sa_inv hg
  refine W.last hx hb (hW.1 _ _ hwa).2 ((hA 2 _ rfl).1 N f) (fun q => by cases q) (by show ¬ (j < 0 ∨ (arrV _ _ _).slots.size ≤ _); rw [arrV_size]; exact hin) rfl rfl hd fun H1 e1 z oq => ?_
  refine kk H1 _ (hW.set hwa ?_ z oq) (hS.put z oq (hW.1 _ _ hwa).1)
  show H1[a]? = some (arrV _ _ _)
  rw [e1, arrV_store]
theorem m_dast (hx : p.tables.exec = Jvm.exec) (hb : c.code = cc) (hA : AKs dA s) (hW : WOK b0 D dA w n H) (hS : va_S (fun q => b0 ≤ q) H0 H locs) {a : Nat} {j : Int32} {x : UInt64} {w2 : Wld} (hg : sa w a 3 j (.double x) = some w2) (hd : decode cc pc = .ok (.dastore, 1))
    (kk : ∀ (H1 : Heap) (locs1 : List Loc), WOK b0 D dA w2 n H1 → va_S (fun q => b0 ≤ q) H0 H1 locs1 → W p l e R s m args below meth c H1 locs1 cells slots Q (F0 m (pc + 1) lsR r)) : W p l e R s m args below meth c H locs cells slots Q (F0 m pc lsR (.double x :: .int j :: .ref a :: r)) := by
  obtain ⟨N, f, hwa, hin, rfl⟩ := sa_inv hg
  refine W.dast hx hb (hW.1 _ _ hwa).2 ((hA 3 _ rfl).1 N f) (fun q => by cases q) (by show ¬ (j < 0 ∨ (arrV _ _ _).slots.size ≤ _); rw [arrV_size]; exact hin) rfl rfl hd fun H1 e1 z oq => ?_
  refine kk H1 _ (hW.set hwa ?_ z oq) (hS.put z oq (hW.1 _ _ hwa).1)
  show H1[a]? = some (arrV _ _ _)
  rw [e1, arrV_store]
theorem m_aald (hx : p.tables.exec = Jvm.exec) (hb : c.code = cc) (hA : AKs dA s) (hW : WOK b0 D dA w n H) {a t : Nat} {C : String} (ht : ATY[t]? = some (.object C)) {j : Int32} {v : Value} (hg : ga w a t j = some v) (hd : decode cc pc = .ok (.aaload, 1)) (kk : W p l e R s m args below meth c H locs cells slots Q (F0 m (pc + 1) lsR (v :: r))) : W p l e R s m args below meth c H locs cells slots Q (F0 m pc lsR (.int j :: .ref a :: r)) := by
  obtain ⟨N, f, hwa, hin, rfl⟩ := ga_inv hg
  have hlt : j.toNatClampNeg < N := Nat.not_le.mp fun q => hin (Or.inr q)
  exact W.aald hx hb (hW.1 _ _ hwa).2 ((hA t _ ht).1 N f) rfl (fun q => by cases q) (by show ¬ (j < 0 ∨ (arrV _ _ _).slots.size ≤ _); rw [arrV_size]; exact hin) (by show (arrV _ _ _).slots[_]? = _; rw [arrV_read _ _ hlt]) rfl rfl hd kk
theorem m_aast (hx : p.tables.exec = Jvm.exec) (hb : c.code = cc) (hA : AKs dA s) (hK : va_K D KL [] s) (hW : WOK b0 D dA w n H) (hS : va_S (fun q => b0 ≤ q) H0 H locs) {a t v ci : Nat} {j : Int32} {C : String} {q : vw_C} (ht : ATY[t]? = some (.object C)) (hq : KL[ci]? = some q) (hC : q.1 = C) (hv : hasc w v ci = true) {w2 : Wld} (hg : sa w a t j (.ref v) = some w2) (hd : decode cc pc = .ok (.aastore, 1))
    (kk : ∀ (H1 : Heap) (locs1 : List Loc), WOK b0 D dA w2 n H1 → va_S (fun q => b0 ≤ q) H0 H1 locs1 → W p l e R s m args below meth c H1 locs1 cells slots Q (F0 m (pc + 1) lsR r)) : W p l e R s m args below meth c H locs cells slots Q (F0 m pc lsR (.ref v :: .int j :: .ref a :: r)) := by
  subst hC
  obtain ⟨N, f, hwa, hin, rfl⟩ := sa_inv hg
  obtain ⟨fs, hwv⟩ := hasc_inv hv
  have hlt : j.toNatClampNeg < N := Nat.not_le.mp fun q => hin (Or.inr q)
  have h0 : ¬ j < 0 := fun q => hin (Or.inl q)
  obtain ⟨r', hr', cellV, g1, g2, g3, -⟩ := (hW.1 _ _ hwv).2
  have hcls := (hK.1 ci q hq).2
  obtain ⟨kA, comp, k1, k2, k3, -⟩ := (hA t _ ht).2
  have hcomp : comp = D.1 ci := Option.some.inj (k3.symm.trans hcls.1)
  subst hcomp
  obtain ⟨kC, hkC, -⟩ := hcls.2
  refine W.aast hx hb (hW.1 _ _ hwa).2 (fun q h => by cases h) (fun h => by cases h) k1 k2 rfl hkC ⟨h0, by show _ < (arrV _ _ _).slots.size; rw [arrV_size]; exact hlt⟩ g1 (fun q h => by rw [g3] at h; cases h) (by rw [g2]; exact hkC) (by rw [g2]; exact va_assign hcls) rfl rfl hd fun H1 e1 z oq => ?_
  refine kk H1 _ (hW.set hwa ?_ z oq) (hS.put z oq (hW.1 _ _ hwa).1)
  show H1[a]? = some (arrV _ _ _)
  rw [e1, arrV_store]
end HEAPI
end
section
/-! ===== SOUNDNESS, what holds of the machine around the worlds; the tables' words ===== -/
/-- words that a callee's start holds though they are none of the good ones -/
def ngw : Cond → Bool
  | .declares _ => true
  | .castable _ _ => true
  | .methodLinkNest _ _ _ _ => true
  | _ => false
theorem ngw_on {w : Cond} (h : ngw w = true) : w.onTables = true := by
  cases w <;> first | rfl | cases h
theorem ngw_warm {w : Cond} (h : ngw w = true) {s U : State} (hW : s.WarmedH U.vm) (hZ : va_Nw w s) : va_Nw w U := by
  cases w <;> first | exact va_Nw.warmD hW hZ | exact va_Nw.warmC hW hZ | exact va_Nw.warmM hW hZ | cases h
def KA (b0 : Nat) : Nat → Prop := fun q => b0 ≤ q
def NMX : List String := ["java/lang/RuntimeException", "java/lang/Exception"]
def KEnv (X : Cxt) (b0 : Nat) (D : va_G) (dA : Nat → ClassId) (U : State) (H : Heap) : Prop :=
  (va_K D KL [] U ∧ AKs dA U ∧ va_AO "SoupTable$Seat" U ∧ va_AO "SoupTable$Table" U) ∧
  ((∀ q ∈ LT, vk_R (cname q.1) q.2.1 (LTX.getD q.2.2.1 "") (X.1 q.2.2.1) U) ∧ (∀ q ∈ TT, ∃ (tx : String) (sa : Nat), vk_R (cname (mN q.1)) q.2.2.2.2.2.1 tx sa U)) ∧
  (∀ a v : Nat, X.2.1 a = some v → va_O "java/lang/String" a (KA b0) U H ∧ va_OF "java/lang/String" "coder" "B" (.int 0) a (KA b0) U H ∧ va_OF "java/lang/String" "value" "[B" (.ref v) a (KA b0) U H) ∧
  (∀ (a : Nat) (q : Nat × (Nat → Int32)), X.2.2.1 a = some q → va_T .byte a q.1 (fun j => .int (q.2 j)) (KA b0) U H) ∧
  (va_Z "java/lang/String" "COMPACT_STRINGS" "Z" (.int 1) (KA b0) U H ∧ va_Z "jdk/internal/util/Preconditions" "SIOOBE_FORMATTER" "Ljava/util/function/BiFunction;" (va_rf X.2.2.2.1) (KA b0) U H) ∧
  (vx_Zq Bundle.tN "UNASSIGNED_STACK" Bundle.steD (KA b0) U H ∧ vx_Zq Bundle.tN "SUPPRESSED_SENTINEL" Bundle.listD (KA b0) U H) ∧
  ((∀ w ∈ lw_tbl, ngw w = true → va_Nw w U) ∧ ∀ q ∈ NCP, va_Nc (EXN.getD q.1 "") (EXN.getD q.2 "") U) ∧
  (va_X X.2.2.2.2.1 X.2.2.2.2.2.1 X.2.2.2.2.2.2 U H ∧ X.2.2.2.2.1 < b0 ∧ b0 ≤ H.size)
theorem KEnv.go {X : Cxt} {b0 : Nat} {D : va_G} {dA : Nat → ClassId} {u U : State} {H H1 : Heap} (h : KEnv X b0 D dA u H) (hal : u.vm.Alike U.vm) (hk : ∀ (own : String) (k : Nat) (tx : String) (a : Nat), vk_R own k tx a u → vk_R own k tx a U) (hn : ∀ w : Cond, ngw w = true → va_Nw w u → va_Nw w U)
    (hz : H.size ≤ H1.size) (hq : ∀ a : Nat, a < H.size → ¬ KA b0 a → H1[a]? = H[a]?) : KEnv X b0 D dA U H1 := by
  obtain ⟨⟨a1, a2, a3, a4⟩, ⟨b1, b2⟩, c1, d1, ⟨e1, e2⟩, ⟨f1, f2⟩, ⟨g1, g2⟩, i1, i2, i3⟩ := h
  refine ⟨⟨va_K.moved hal a1, fun t ty ht => ⟨arrOfT_moved hal (a2 t ty ht).1, (a2 t ty ht).2.moved hal⟩, va_AO.moved hal a3, va_AO.moved hal a4⟩, ⟨fun q hq2 => hk _ _ _ _ (b1 q hq2), fun q hq2 => ?_⟩, fun a v hv => ?_, fun a q hv => ?_, ⟨(e1.moved hal).kept hq, (e2.moved hal).kept hq⟩, ⟨(f1.moved hal).kept hq, (f2.moved hal).kept hq⟩, ⟨fun w hw hg => hn w hg (g1 w hw hg), fun q hq2 => (g2 q hq2).moved hal⟩, (va_X.moved hal i1).kept (hq _ (Nat.lt_of_lt_of_le i2 i3) (Nat.not_le.mpr i2)), i2, Nat.le_trans i3 hz⟩
  · obtain ⟨tx, sa, h9⟩ := b2 q hq2
    exact ⟨tx, sa, hk _ _ _ _ h9⟩
  · obtain ⟨x, y, z⟩ := c1 a v hv
    exact ⟨(x.moved hal).kept hq, (y.moved hal).kept hq, (z.moved hal).kept hq⟩
  · exact ((d1 a q hv).moved hal).kept hq
theorem KEnv.warm {X : Cxt} {b0 : Nat} {D : va_G} {dA : Nat → ClassId} {s U : State} {H H1 : Heap} (h : KEnv X b0 D dA s H) (hW : s.WarmedH U.vm) (hz : H.size ≤ H1.size) (hq : ∀ a : Nat, a < H.size → ¬ KA b0 a → H1[a]? = H[a]?) : KEnv X b0 D dA U H1 :=
  h.go hW.alike (fun _ _ _ _ h9 => h9.warm hW) (fun _ hg h9 => ngw_warm hg hW h9) hz hq
theorem KEnv.same {X : Cxt} {b0 : Nat} {D : va_G} {dA : Nat → ClassId} {u U : State} {H : Heap} (h : KEnv X b0 D dA u H) (hv : U.vm = u.vm) : KEnv X b0 D dA U H :=
  h.go (by rw [hv]; exact Vm.Alike.refl _) (fun _ _ _ _ h9 => h9.same hv) (fun _ hg h9 => h9.same (ngw_on hg) hv.symm) (Nat.le_refl _) (fun _ _ _ => rfl)
def ALLG : List Cond := lw_tbl.filter goodWord
def wis (i : Nat) (w : Cond) : Bool := decide (lw_tbl[i]? = some w) && goodWord w
theorem wis_mem {i : Nat} {w : Cond} (h : wis i w = true) : w ∈ ALLG := by
  have h2 := Bool.and_eq_true_iff.mp h
  exact List.mem_filter.mpr ⟨List.mem_of_getElem? (of_decide_eq_true h2.1), h2.2⟩
def hdw (M : Nat) : Cond := match mH M with
  | [] => .code (mY M) (mB M) (mL M) (mR M)
  | h => .codeWith (mY M) (mB M) (mL M) (mR M) h
def wsM (M : Nat) : List Cond := hdw M :: ALLG
/-- words at rising places of a list: one walk along it -/
def chk : Nat → List Cond → List (Nat × Cond) → Bool
  | _, _, [] => true
  | _, [], _ :: _ => false
  | i, c :: cs, (p, w) :: t => match Nat.beq i p with
    | true => decide (c = w) && (goodWord w && chk (i + 1) cs t)
    | false => chk (i + 1) cs ((p, w) :: t)
theorem chk_mem : ∀ (l : List Cond) (i : Nat) (t : List (Nat × Cond)), chk i l t = true → ∀ q ∈ t, q.2 ∈ l ∧ goodWord q.2 = true := by
  intro l
  induction l with
  | nil =>
    intro i t h q hq
    cases t with
    | nil => cases hq
    | cons a t => cases h
  | cons c cs ih =>
    intro i t h q hq
    cases t with
    | nil => cases hq
    | cons a t =>
      obtain ⟨p, w⟩ := a
      unfold chk at h
      split at h
      · simp only [Bool.and_eq_true, decide_eq_true_eq] at h
        obtain ⟨h1, h2, h3⟩ := h
        rcases List.mem_cons.mp hq with rfl | hq
        · exact ⟨by rw [h1]; exact List.mem_cons_self, h2⟩
        · obtain ⟨x, y⟩ := ih _ _ h3 q hq
          exact ⟨List.mem_cons_of_mem _ x, y⟩
      · obtain ⟨x, y⟩ := ih _ _ h q hq
        exact ⟨List.mem_cons_of_mem _ x, y⟩
theorem chk_all {t : List (Nat × Cond)} (h : chk 0 lw_tbl t = true) {q : Nat × Cond} (hq : q ∈ t) : q.2 ∈ ALLG := List.mem_filter.mpr (chk_mem _ _ _ h q hq)
def stw (M : Nat) : Cond := match mT M with
  | true => .static (mY M)
  | false => .instanceMethod (mY M)
theorem MSL_ok : chk 0 lw_tbl (MSL.map fun q => (q.1, stw q.2)) = true := by decide +kernel
theorem MEL_ok : chk 0 lw_tbl (MEL.map fun q => (q.1, .selects (mY q.2).cls (mY q.2) (mY q.2))) = true := by decide +kernel
theorem MIL_ok : chk 0 lw_tbl (MIL.map fun q => (q.1, .initialized (cname q.2))) = true := by decide +kernel
def isI (M : Nat) : Bool := (mY M).name == "<init>"
def okM (M : Nat) : Bool := plainName (mY M).cls && (cname (mN M) == (mY M).cls) && decide ((mY M).cls ≠ "java/lang/invoke/MethodHandle" ∧ (mY M).cls ≠ "java/lang/invoke/VarHandle") && decide ((parseMethodDescriptor (mY M).desc).map (fun d => d.parameters.length) = some (MAL.getD M 0)) && MCL.any (·.2 == M) && MSL.any (·.2 == M) && (mT M || isI M || MEL.any (·.2 == M)) && MIL.any (·.2 == mN M)
theorem MT_ok : (List.range 223).all okM = true := by decide +kernel
def ctw (q : Nat × Nat × (Nat × Nat × Nat) × Nat) : Cond := match q.2.2.1.1 with
  | 5 => .methodLink (cname q.1) q.2.1 Lib.objectInit
  | 6 => .methodLink (cname q.1) q.2.1 Lib.Math.max.name
  | 7 => .methodLink (cname q.1) q.2.1 Lib.Math.min.name
  | _ => .methodLink (cname q.1) q.2.1 (mY q.2.2.1.2.1)
theorem CTA_ok : chk 0 lw_tbl (CTA.map fun q => (q.2.2.2, ctw q)) = true := by decide +kernel
theorem CTN_ok : CTN.all (fun q => decide (q.2.2.1.1 = 3) && decide (Cond.methodLinkNest (cname q.1) q.2.1 (mY q.2.2.1.2.1) "SoupTable" ∈ lw_tbl)) = true := by decide +kernel
/-- kinds: 0 virtual, 1 static, 2 and 3 constructors, 5 Object's, 6 and 7 max and min -/
def okC (q : Nat × Nat × (Nat × Nat × Nat) × Nat) : Bool := match q.2.2.1 with
  | (0, M, k) => decide (M < 223) && !mT M && !isI M && (mH M).isEmpty && (MAL.getD M 0 == k)
  | (1, M, k) => decide (M < 223) && mT M && (MAL.getD M 0 == k)
  | (2, M, k) => decide (M < 223) && !mT M && isI M && (mH M).isEmpty && decide (mR M = none) && (MAL.getD M 0 == k)
  | (3, M, k) => decide (M < 223) && !mT M && isI M && (mH M).isEmpty && decide (mR M = none) && (MAL.getD M 0 == k)
  | _ => true
theorem CT_ok : CT.all okC = true := by decide +kernel
theorem CTA_no3 : CTA.all (fun q => decide (q.2.2.1.1 ≠ 3)) = true := by decide +kernel
theorem POI_ok : wis POI.1 (.instanceMethod Lib.objectInit) = true ∧ wis POI.2 (.code Lib.objectInit ⟨#[0xb1]⟩ 1 none) = true := ⟨by decide +kernel, by decide +kernel⟩
theorem MXP_ok : wis MXP.1 (.static Lib.Math.max.name) = true ∧ wis MXP.2.1 (.code Lib.Math.max.name Lib.Math.max.code 2 (some .int)) = true ∧ wis MXP.2.2.1 (.static Lib.Math.min.name) = true ∧ wis MXP.2.2.2.1 (.code Lib.Math.min.name Lib.Math.min.code 2 (some .int)) = true ∧ wis MXP.2.2.2.2 (.initialized "java/lang/Math") = true := ⟨by decide +kernel, by decide +kernel, by decide +kernel, by decide +kernel, by decide +kernel⟩
def ftw (q : Nat × Nat × Nat × Nat × Nat) : Cond := match KL[q.2.2.1]? with
  | some c => .fieldLink (cname q.1) q.2.1 (c.2.1 q.2.2.2.1).1 (c.2.1 q.2.2.2.1).2.1 (c.2.1 q.2.2.2.1).2.2.1
  | none => .tt
theorem FTW_ok : chk 0 lw_tbl (FT.map fun q => (q.2.2.2.2, ftw q)) = true := by decide +kernel
def okF (q : Nat × Nat × Nat × Nat × Nat) : Bool := match KL[q.2.2.1]? with
  | some c => decide (q.2.2.2.1 < c.2.2)
  | none => false
theorem FT_ok : FT.all okF = true := by decide +kernel
theorem KL_in : ∀ q ∈ KL, ∀ w ∈ u_ws q.1 q.2.1 q.2.2, w ∈ ALLG := by
  have h : KL.all (fun q => (u_ws q.1 q.2.1 q.2.2).all fun w => decide (w ∈ lw_tbl) && goodWord w) = true := by decide +kernel
  intro q hq w hw
  have h1 := List.all_eq_true.mp (List.all_eq_true.mp h q hq) w hw
  have h2 := Bool.and_eq_true_iff.mp h1
  exact List.mem_filter.mpr ⟨of_decide_eq_true h2.1, h2.2⟩
def okN (q : Nat × Nat × Nat × Nat) : Bool := match KL[q.2.2.1]? with
  | some c => wis q.2.2.2 (.classLink (cname q.1) q.2.1 c.1)
  | none => false
theorem NT_ok : NT.all okN = true := by decide +kernel
theorem KL_new : ∀ q ∈ KL, Cond.instantiable q.1 q.2.2 ∈ ALLG ∧ Cond.initialized q.1 ∈ ALLG := by
  have h : KL.all (fun q => decide (Cond.instantiable q.1 q.2.2 ∈ lw_tbl) && goodWord (Cond.instantiable q.1 q.2.2) && decide (Cond.initialized q.1 ∈ lw_tbl) && goodWord (Cond.initialized q.1)) = true := by decide +kernel
  intro q hq
  have h1 := List.all_eq_true.mp h q hq
  simp only [Bool.and_eq_true, decide_eq_true_eq] at h1
  exact ⟨List.mem_filter.mpr ⟨h1.1.1.1, h1.1.1.2⟩, List.mem_filter.mpr ⟨h1.1.2, h1.2⟩⟩
theorem AC_ok : ∀ ty : FieldType, ty ∈ ([.int, .char, .long, .double] : List FieldType) → Cond.arrayClass ty ∈ ALLG := by
  have h : ([.int, .char, .long, .double] : List FieldType).all (fun ty => decide (Cond.arrayClass ty ∈ lw_tbl)) = true := by decide +kernel
  intro ty hty
  exact List.mem_filter.mpr ⟨of_decide_eq_true (List.all_eq_true.mp h ty hty), rfl⟩
theorem IT_ok : IT.all (fun q => wis q.2.2.2 (.constant (cname q.1) q.2.1 q.2.2.1)) = true := by decide +kernel
theorem SG_ok : SGT.all (fun q => (decide (q.2.2.1 = 0) && wis q.2.2.2 (.fieldLink (cname q.1) q.2.1 "java/lang/String" "COMPACT_STRINGS" "Z")) || (decide (q.2.2.1 = 1) && wis q.2.2.2 (.fieldLink (cname q.1) q.2.1 "jdk/internal/util/Preconditions" "SIOOBE_FORMATTER" "Ljava/util/function/BiFunction;"))) = true := by decide +kernel
theorem SF_ok : SFT.all (fun q => (decide (q.2.2.1 = 0) && wis q.2.2.2 (.fieldLink (cname q.1) q.2.1 "java/lang/String" "value" "[B")) || (decide (q.2.2.1 = 1) && wis q.2.2.2 (.fieldLink (cname q.1) q.2.1 "java/lang/String" "coder" "B"))) = true := by decide +kernel
/-- the words of a throw of X, its own link apart -/
def thw (X : String) : List Cond := vx_atS "" 0 X NMX
def okX (X : String) : Bool := Bundle.fit X && (thw X).all (fun w => decide (w = .methodLink "" 0 (Bundle.initS X)) || (decide (w ∈ lw_tbl) && (goodWord w || ngw w)))
theorem okX_0 : okX (EXN.getD 0 "") = true := by decide +kernel
theorem okX_1 : okX (EXN.getD 1 "") = true := by decide +kernel
theorem okX_2 : okX (EXN.getD 2 "") = true := by decide +kernel
theorem okX_3 : okX (EXN.getD 3 "") = true := by decide +kernel
theorem okX_4 : okX (EXN.getD 4 "") = true := by decide +kernel
theorem NMX_ok : ∀ n ∈ NMX, Bundle.fit n = true := by decide +kernel
end
section
/-! ===== the code words of the methods, by their places ===== -/
theorem MC_0 : chk 0 lw_tbl (((MCL.drop 0).take 16).map fun q => (q.1, hdw q.2)) = true := by decide +kernel
theorem MC_1 : chk 0 lw_tbl (((MCL.drop 16).take 16).map fun q => (q.1, hdw q.2)) = true := by decide +kernel
theorem MC_2 : chk 0 lw_tbl (((MCL.drop 32).take 16).map fun q => (q.1, hdw q.2)) = true := by decide +kernel
theorem MC_3 : chk 0 lw_tbl (((MCL.drop 48).take 16).map fun q => (q.1, hdw q.2)) = true := by decide +kernel
theorem MC_4 : chk 0 lw_tbl (((MCL.drop 64).take 16).map fun q => (q.1, hdw q.2)) = true := by decide +kernel
theorem MC_5 : chk 0 lw_tbl (((MCL.drop 80).take 16).map fun q => (q.1, hdw q.2)) = true := by decide +kernel
theorem MC_6 : chk 0 lw_tbl (((MCL.drop 96).take 16).map fun q => (q.1, hdw q.2)) = true := by decide +kernel
theorem MC_7 : chk 0 lw_tbl (((MCL.drop 112).take 16).map fun q => (q.1, hdw q.2)) = true := by decide +kernel
theorem MC_8 : chk 0 lw_tbl (((MCL.drop 128).take 16).map fun q => (q.1, hdw q.2)) = true := by decide +kernel
theorem MC_9 : chk 0 lw_tbl (((MCL.drop 144).take 16).map fun q => (q.1, hdw q.2)) = true := by decide +kernel
theorem MC_10 : chk 0 lw_tbl (((MCL.drop 160).take 16).map fun q => (q.1, hdw q.2)) = true := by decide +kernel
theorem MC_11 : chk 0 lw_tbl (((MCL.drop 176).take 16).map fun q => (q.1, hdw q.2)) = true := by decide +kernel
theorem MC_12 : chk 0 lw_tbl (((MCL.drop 192).take 16).map fun q => (q.1, hdw q.2)) = true := by decide +kernel
theorem MC_13 : chk 0 lw_tbl (((MCL.drop 208).take 16).map fun q => (q.1, hdw q.2)) = true := by decide +kernel
theorem MCL_in : ∀ q ∈ MCL, hdw q.2 ∈ ALLG := by
  intro q hq
  have key : ∀ l : List (Nat × Nat), chk 0 lw_tbl (l.map fun q => (q.1, hdw q.2)) = true → q ∈ l → hdw q.2 ∈ ALLG := fun l h hl => chk_all h (List.mem_map.mpr ⟨q, hl, rfl⟩)
  have split : ∀ (l : List (Nat × Nat)), q ∈ l → q ∈ l.take 16 ∨ q ∈ l.drop 16 := fun l hl => by rw [← List.take_append_drop 16 l] at hl; exact List.mem_append.mp hl
  have h0 : q ∈ MCL.drop 0 := hq
  rcases split _ h0 with h | h1
  · exact key _ MC_0 h
  rw [List.drop_drop] at h1
  rcases split _ h1 with h | h2
  · exact key _ MC_1 h
  rw [List.drop_drop] at h2
  rcases split _ h2 with h | h3
  · exact key _ MC_2 h
  rw [List.drop_drop] at h3
  rcases split _ h3 with h | h4
  · exact key _ MC_3 h
  rw [List.drop_drop] at h4
  rcases split _ h4 with h | h5
  · exact key _ MC_4 h
  rw [List.drop_drop] at h5
  rcases split _ h5 with h | h6
  · exact key _ MC_5 h
  rw [List.drop_drop] at h6
  rcases split _ h6 with h | h7
  · exact key _ MC_6 h
  rw [List.drop_drop] at h7
  rcases split _ h7 with h | h8
  · exact key _ MC_7 h
  rw [List.drop_drop] at h8
  rcases split _ h8 with h | h9
  · exact key _ MC_8 h
  rw [List.drop_drop] at h9
  rcases split _ h9 with h | h10
  · exact key _ MC_9 h
  rw [List.drop_drop] at h10
  rcases split _ h10 with h | h11
  · exact key _ MC_10 h
  rw [List.drop_drop] at h11
  rcases split _ h11 with h | h12
  · exact key _ MC_11 h
  rw [List.drop_drop] at h12
  rcases split _ h12 with h | h13
  · exact key _ MC_12 h
  rw [List.drop_drop] at h13
  rcases split _ h13 with h | h14
  · exact key _ MC_13 h
  rw [List.drop_drop] at h14
  exact absurd h14 (by rw [show MCL.drop (208 + 16) = [] from by decide +kernel]; exact List.not_mem_nil)
end
section
/-! ===== SOUNDNESS of one instruction ===== -/
def rmM (M : Nat) : Room := { frames := mF M, cells := mC M, slots := mS M, locals := mO M }
def Bd (l : Launch) (X : Cxt) (b0 : Nat) (D : va_G) (dA : Nat → ClassId) (M : Nat) (p : Program) (s : State) (m : MethodId) (args : Array Value) (meth : Method) (cd : Code) : Prop :=
  (p.tables.exec = Jvm.exec ∧ cd.code = mB M ∧ meth.sig.returnType = mR M ∧ cd.maxLocals = mL M) ∧
  (s.vm.findClass (cname (mN M)) = some m.cls ∧ (∀ w ∈ ALLG, w.before args s = true) ∧ meth.locks = false ∧ meth.name = (mY M).name) ∧
  cd.exceptionTable.toList = tableOf (mH M) ∧ KEnv X b0 D dA s s.heap ∧ l.stackTraces = false
theorem find_inv {α : Type} {l : List α} {p : α → Bool} {a : α} (h : l.find? p = some a) : a ∈ l ∧ p a = true := ⟨List.mem_of_find?_eq_some h, List.find?_some h⟩
theorem fld_ok {k idx : Nat} {q : Nat × Nat} (h : fld k idx = some q) : ∃ c : vw_C, KL[q.1]? = some c ∧ q.2 < c.2.2 ∧ Cond.fieldLink (cname k) idx (c.2.1 q.2).1 (c.2.1 q.2).2.1 (c.2.1 q.2).2.2.1 ∈ ALLG := by
  unfold fld ftf at h
  obtain ⟨r, hr, rfl⟩ := Option.map_eq_some_iff.mp h
  obtain ⟨hm, hp⟩ := find_inv hr
  simp only [Bool.and_eq_true, beq_iff_eq] at hp
  have h1 := List.all_eq_true.mp FT_ok r hm
  have h2 := chk_all FTW_ok (List.mem_map.mpr ⟨r, hm, rfl⟩)
  unfold okF at h1
  split at h1
  · rename_i c hc
    refine ⟨c, hc, of_decide_eq_true h1, ?_⟩
    (try dsimp only at h2)
    unfold ftw at h2
    rw [hc, hp.1, hp.2] at h2
    exact h2
  · cases h1
theorem newc_ok {k idx ci : Nat} (h : newc k idx = some ci) : ∃ c : vw_C, KL[ci]? = some c ∧ Cond.classLink (cname k) idx c.1 ∈ ALLG := by
  unfold newc ntf at h
  obtain ⟨r, hr, rfl⟩ := Option.map_eq_some_iff.mp h
  obtain ⟨hm, hp⟩ := find_inv hr
  simp only [Bool.and_eq_true, beq_iff_eq] at hp
  have h1 := List.all_eq_true.mp NT_ok r hm
  unfold okN at h1
  split at h1
  · rename_i c hc
    have h2 := wis_mem h1
    rw [hp.1, hp.2] at h2
    exact ⟨c, hc, h2⟩
  · cases h1
theorem lit_ok {k idx j : Nat} (h : lit k idx = some j) : ∃ r ∈ LT, r.1 = k ∧ r.2.1 = idx ∧ r.2.2.1 = j := by
  unfold lit ltf at h
  obtain ⟨r, hr, rfl⟩ := Option.map_eq_some_iff.mp h
  obtain ⟨hm, hp⟩ := find_inv hr
  simp only [Bool.and_eq_true, beq_iff_eq] at hp
  exact ⟨r, hm, hp.1, hp.2, rfl⟩
theorem icst_ok {k idx : Nat} {v : Int32} (h : icst k idx = some v) : Cond.constant (cname k) idx v ∈ ALLG := by
  unfold icst itf at h
  obtain ⟨r, hr, rfl⟩ := Option.map_eq_some_iff.mp h
  obtain ⟨hm, hp⟩ := find_inv hr
  simp only [Bool.and_eq_true, beq_iff_eq] at hp
  have h1 := wis_mem (List.all_eq_true.mp IT_ok r hm)
  rw [hp.1, hp.2] at h1
  exact h1
theorem sgf_ok {k idx j : Nat} (h : sgf k idx = some j) : (j = 0 ∧ Cond.fieldLink (cname k) idx "java/lang/String" "COMPACT_STRINGS" "Z" ∈ ALLG) ∨ (j = 1 ∧ Cond.fieldLink (cname k) idx "jdk/internal/util/Preconditions" "SIOOBE_FORMATTER" "Ljava/util/function/BiFunction;" ∈ ALLG) := by
  unfold sgf at h
  obtain ⟨r, hr, rfl⟩ := Option.map_eq_some_iff.mp h
  obtain ⟨hm, hp⟩ := find_inv hr
  simp only [Bool.and_eq_true, beq_iff_eq] at hp
  have h1 := List.all_eq_true.mp SG_ok r hm
  rcases Bool.or_eq_true_iff.mp h1 with h2 | h2
  · have h3 := Bool.and_eq_true_iff.mp h2
    have h4 := wis_mem h3.2
    rw [hp.1, hp.2] at h4
    exact Or.inl ⟨of_decide_eq_true h3.1, h4⟩
  · have h3 := Bool.and_eq_true_iff.mp h2
    have h4 := wis_mem h3.2
    rw [hp.1, hp.2] at h4
    exact Or.inr ⟨of_decide_eq_true h3.1, h4⟩
theorem sff_ok {k idx j : Nat} (h : sff k idx = some j) : (j = 0 ∧ Cond.fieldLink (cname k) idx "java/lang/String" "value" "[B" ∈ ALLG) ∨ (j = 1 ∧ Cond.fieldLink (cname k) idx "java/lang/String" "coder" "B" ∈ ALLG) := by
  unfold sff at h
  obtain ⟨r, hr, rfl⟩ := Option.map_eq_some_iff.mp h
  obtain ⟨hm, hp⟩ := find_inv hr
  simp only [Bool.and_eq_true, beq_iff_eq] at hp
  have h1 := List.all_eq_true.mp SF_ok r hm
  rcases Bool.or_eq_true_iff.mp h1 with h2 | h2
  · have h3 := Bool.and_eq_true_iff.mp h2
    have h4 := wis_mem h3.2
    rw [hp.1, hp.2] at h4
    exact Or.inl ⟨of_decide_eq_true h3.1, h4⟩
  · have h3 := Bool.and_eq_true_iff.mp h2
    have h4 := wis_mem h3.2
    rw [hp.1, hp.2] at h4
    exact Or.inr ⟨of_decide_eq_true h3.1, h4⟩
theorem KL_len {ci : Nat} {c : vw_C} (h : KL[ci]? = some c) : ci < 6 := (List.getElem?_eq_some_iff.mp h).1
theorem KTY_ok {ci : Nat} {c : vw_C} (h : KL[ci]? = some c) : ∀ k, k < c.2.2 → parseFieldDescriptor (c.2.1 k).2.2.1 = some ((KTY.getD ci tyX0) k) := by
  have hl := KL_len h
  match ci, hl, h with
  | 0, _, h => cases h; exact tyX0_ok
  | 1, _, h => cases h; exact tyX1_ok
  | 2, _, h => cases h; exact tyX2_ok
  | 3, _, h => cases h; exact tyX3_ok
  | 4, _, h => cases h; exact tyX5_ok
  | 5, _, h => cases h; exact tyX6_ok
theorem KNM_ok {ci : Nat} {c : vw_C} (h : KL[ci]? = some c) : ∀ a, a < c.2.2 → ∀ b, b < c.2.2 → a ≠ b → (c.2.1 a).2.1 ≠ (c.2.1 b).2.1 := by
  have hl := KL_len h
  match ci, hl, h with
  | 0, _, h => cases h; exact nmX0
  | 1, _, h => cases h; exact nmX1
  | 2, _, h => cases h; exact nmX2
  | 3, _, h => cases h; exact nmX3
  | 4, _, h => cases h; exact nmX5
  | 5, _, h => cases h; exact nmX6
theorem dflt_ok {ci : Nat} {c : vw_C} (h : KL[ci]? = some c) (j : Nat) (hj : j < c.2.2) : defaultValue ((KTY.getD ci tyX0) j) = vp_V (dflt ci) j := by
  have e : kn ci = c.2.2 := by
    unfold kn
    rw [List.getD_eq_getElem?_getD, h]
    rfl
  unfold vp_V dflt
  rw [e, List.getD_eq_getElem?_getD (i := j), List.getElem?_map, List.getElem?_range hj]
  rfl
theorem call_ok {k idx : Nat} {q : Nat × Nat × Nat} (h : call k idx = some q) : ∃ r ∈ CT, r.1 = k ∧ r.2.1 = idx ∧ r.2.2.1 = q := by
  unfold call ctf at h
  obtain ⟨r, hr, rfl⟩ := Option.map_eq_some_iff.mp h
  obtain ⟨hm, hp⟩ := find_inv hr
  simp only [Bool.and_eq_true, beq_iff_eq] at hp
  exact ⟨r, hm, hp.1, hp.2, rfl⟩
/-- the word of a call that is no constructor's of a nest mate -/
theorem call_w {k idx kd M2 na : Nat} (h : call k idx = some (kd, M2, na)) (h3 : kd ≠ 3) : ctw (k, idx, (kd, M2, na), 0) ∈ ALLG := by
  obtain ⟨r, hm, e1, e2, e3⟩ := call_ok h
  obtain ⟨r1, r2, r3, r4⟩ := r
  dsimp only at e1 e2 e3
  subst e1; subst e2; subst e3
  rcases List.mem_append.mp hm with h9 | h9
  · have h1 := List.all_eq_true.mp CTN_ok _ h9
    have h2 := Bool.and_eq_true_iff.mp h1
    exact absurd (of_decide_eq_true h2.1) h3
  · have h2 := chk_all CTA_ok (List.mem_map.mpr ⟨_, h9, rfl⟩)
    exact h2
theorem mx_ok {k idx u v : Nat} (h : call k idx = some (6, u, v)) : Cond.methodLink (cname k) idx Lib.Math.max.name ∈ ALLG ∧ (Cond.static Lib.Math.max.name ∈ ALLG ∧ Cond.initialized "java/lang/Math" ∈ ALLG ∧ Cond.code Lib.Math.max.name Lib.Math.max.code 2 (some .int) ∈ ALLG) ∧ True :=
  ⟨call_w h (by decide), ⟨wis_mem MXP_ok.1, wis_mem MXP_ok.2.2.2.2, wis_mem MXP_ok.2.1⟩, trivial⟩
theorem mn_ok {k idx u v : Nat} (h : call k idx = some (7, u, v)) : Cond.methodLink (cname k) idx Lib.Math.min.name ∈ ALLG ∧ (Cond.static Lib.Math.min.name ∈ ALLG ∧ Cond.initialized "java/lang/Math" ∈ ALLG ∧ Cond.code Lib.Math.min.name Lib.Math.min.code 2 (some .int) ∈ ALLG) ∧ True :=
  ⟨call_w h (by decide), ⟨wis_mem MXP_ok.2.2.1, wis_mem MXP_ok.2.2.2.2, wis_mem MXP_ok.2.2.2.1⟩, trivial⟩
theorem oi_ok {k idx u v : Nat} (h : call k idx = some (5, u, v)) : Cond.methodLink (cname k) idx Lib.objectInit ∈ ALLG := call_w h (by decide)
theorem xcl_no {M M2 : Nat} {vs : List Value} {r : Stk} {q : Nxt} : ¬ xcl M M2 vs r = some (.inl q) := by
  unfold xcl
  split
  · intro h; cases h
  · intro h; cases h
theorem cat_sum (r : List Value) : (r.map fun v => v.category).sum ≤ 2 * r.length := by
  induction r with
  | nil => exact Nat.le_refl _
  | cons v r ih =>
    have : v.category ≤ 2 := by rcases lv_cat v with h | h <;> omega
    simp only [List.map_cons, List.sum_cons, List.length_cons]
    omega
theorem cat_room {r : List Value} {k R : Nat} (h : 2 * r.length + k ≤ R) : (r.map fun v => v.category).sum + k ≤ R := by
  have := cat_sum r
  omega
section STEP
variable {p : Program} {l : Launch} {e : Env} {s : State} {m : MethodId} {args : Array Value} {below : List Frame} {meth : Method} {cd : Code} {H : Heap} {locs : List Loc} {Q : State → Prop}
variable {X : Cxt} {b0 : Nat} {D : va_G} {dA : Nat → ClassId} {M : Nat} {pc len : Nat} {ls : Lcs} {st : Stk} {w : Wld} {n : Option Nat} {c sl : Nat} {lsR : Array Slot}
/-- what goes on behind an instruction -/
def Kont (p : Program) (l : Launch) (e : Env) (s : State) (m : MethodId) (args : Array Value) (below : List Frame) (meth : Method) (cd : Code) (Q : State → Prop) (b0 : Nat) (D : va_G) (dA : Nat → ClassId) (M : Nat) (q : Nxt) : Prop :=
  ∀ (H1 : Heap) (locs1 : List Loc) (lsR1 : Array Slot), LH (m2 M) (mL M) lsR1 q.2.1 → WOK b0 D dA q.2.2.2.1 q.2.2.2.2.1 H1 → va_S (KA b0) s.heap H1 locs1 → q.2.2.2.2.2.1 ≤ mC M → q.2.2.2.2.2.2 ≤ mS M → W p l e (rmM M) s m args below meth cd H1 locs1 q.2.2.2.2.2.1 q.2.2.2.2.2.2 Q (F0 m q.1 lsR1 q.2.2.1)
theorem xpst_ok {i : Instr} (B : Bd l X b0 D dA M p s m args meth cd) (hd : decode (mB M) pc = .ok (i, len)) (hL : LH (m2 M) (mL M) lsR ls) (hW : WOK b0 D dA w n H) (hS : va_S (KA b0) s.heap H locs) (hc : c ≤ mC M) (hs : sl ≤ mS M) {q : Nxt} (h : xpst M pc i len ls st w n c sl = some (.inl q))
    (kk : Kont p l e s m args below meth cd Q b0 D dA M q) : W p l e (rmM M) s m args below meth cd H locs c sl Q (F0 m pc lsR st) := by
  unfold xpst at h
  split at h
  · rename_i r hr
    cases h
    exact pst_ok B.1.1 B.1.2.1 hd hL hr (fun lsR2 h2 => kk _ _ lsR2 h2 hW hS hc hs)
  · cases h
set_option maxHeartbeats 4000000 in
set_option maxRecDepth 100000 in
theorem xst_ok {i : Instr} (B : Bd l X b0 D dA M p s m args meth cd) (hd : decode (mB M) pc = .ok (i, len)) (hL : LH (m2 M) (mL M) lsR ls) (hW : WOK b0 D dA w n H) (hS : va_S (KA b0) s.heap H locs) (hc : c ≤ mC M) (hs : sl ≤ mS M) {q : Nxt} (h : xst X M pc i len ls st w n c sl = some (.inl q))
    (kk : Kont p l e s m args below meth cd Q b0 D dA M q) : W p l e (rmM M) s m args below meth cd H locs c sl Q (F0 m pc lsR st) := by
  have B' := B
  obtain ⟨⟨hx, hb, -, hml⟩, ⟨hown, hts, hlk, hnm⟩, htb, hE, hst⟩ := B
  have hE' := hE
  obtain ⟨⟨hK, hA, hO1, hO2⟩, ⟨hl1, -⟩, hs1, hs2, ⟨hz1, hz2⟩, -, -, hX, hXb, hXs⟩ := hE
  have hsz : lsR.size = mL M := hL.2.1.1
  cases i
  case getfield idx =>
    obtain ⟨rfl, h1⟩ := g1_inv h
    obtain ⟨a, r, rfl, h2⟩ := qr_inv h1
    split at h2
    · split at h2
      · rename_i v hv hf
        cases h2
        rcases sff_ok hf with ⟨-, hw9⟩ | ⟨h9, -⟩
        · exact vk_getf hx hb (hs1 a v hv).2.2 hS hown (hts _ hw9) (fun _ h => h) hd (kk _ _ _ hL hW hS hc hs)
        · cases h9
      · rename_i v j hne hv hf
        cases h2
        rcases sff_ok hf with ⟨h9, -⟩ | ⟨-, hw9⟩
        · exact absurd h9 hne
        · exact vk_getf hx hb (hs1 a v hv).2.1 hS hown (hts _ hw9) (fun _ h => h) hd (kk _ _ _ hL hW hS hc hs)
      · cases h2
    · split at h2
      · rename_i q9 hq9
        split at h2
        · rename_i v hv
          cases h2
          obtain ⟨cc9, k1, k2, k3⟩ := fld_ok hq9
          exact m_getf hx hb hts hown hK hW k1 (KL_in _ (List.mem_of_getElem? k1)) k2 (hts _ k3) hv hd (kk _ _ _ hL hW hS hc hs)
        · cases h2
      · cases h2
  case putfield idx =>
    obtain ⟨rfl, h1⟩ := g1_inv h
    obtain ⟨v, r, rfl, hcat, h2⟩ := q1_inv h1
    obtain ⟨a, r, rfl, h3⟩ := qr_inv h2
    split at h3
    · rename_i q9 hq9
      split at h3
      · rename_i w2 hw2
        obtain ⟨h4, h5⟩ := gc_inv h3
        cases h5
        obtain ⟨cc9, k1, k2, k3⟩ := fld_ok hq9
        have hfin : (cc9.2.1 q9.2).2.2.2 = false ∨ (meth.name = "<init>" ∧ (cc9.2.1 q9.2).1 = cname (mN M)) := by
          unfold pok at h4
          rw [k1] at h4
          simp only [Bool.or_eq_true, Bool.not_eq_true', Bool.and_eq_true, beq_iff_eq] at h4
          rcases h4 with h4 | h4
          · exact Or.inl h4
          · exact Or.inr ⟨hnm.trans h4.1, h4.2.symm⟩
        exact m_putf (ty0 := KTY.getD q9.1 tyX0) hx hb hts hown hK hW hS k1 (KL_in _ (List.mem_of_getElem? k1)) k2 (KTY_ok k1) (KNM_ok k1) (hts _ k3) hfin hw2 rfl hd (fun H1 locs1 hW1 hS1 => kk H1 locs1 _ hL hW1 hS1 hc hs)
      · cases h3
    · cases h3
  case iaload =>
    obtain ⟨rfl, h1⟩ := g1_inv h
    obtain ⟨j, r, rfl, h2⟩ := qi_inv h1
    obtain ⟨a, r, rfl, h3⟩ := qr_inv h2
    split at h3
    · split at h3
      · rename_i hh
        cases h3
        obtain ⟨rfl, hin⟩ := hh
        exact va_sld hx hb hX (Nat.lt_of_lt_of_le hXb hXs) (Nat.not_le.mpr hXb) hS (inr_ok hin) hd (kk _ _ _ hL hW hS hc hs)
      · cases h3
    · split at h3
      · rename_i v hv
        cases h3
        exact m_iald hx hb hA hW hv hd (kk _ _ _ hL hW hS hc hs)
      · cases h3
  case caload =>
    obtain ⟨rfl, h1⟩ := g1_inv h
    obtain ⟨j, r, rfl, h2⟩ := qi_inv h1
    obtain ⟨a, r, rfl, h3⟩ := qr_inv h2
    split at h3
    · rename_i v hv
      cases h3
      exact m_cald hx hb hA hW hv hd (kk _ _ _ hL hW hS hc hs)
    · cases h3
  case laload =>
    obtain ⟨rfl, h1⟩ := g1_inv h
    obtain ⟨j, r, rfl, h2⟩ := qi_inv h1
    obtain ⟨a, r, rfl, h3⟩ := qr_inv h2
    split at h3
    · rename_i v hv
      cases h3
      exact m_lald hx hb hA hW hv hd (kk _ _ _ hL hW hS hc hs)
    · cases h3
  case daload =>
    obtain ⟨rfl, h1⟩ := g1_inv h
    obtain ⟨j, r, rfl, h2⟩ := qi_inv h1
    obtain ⟨a, r, rfl, h3⟩ := qr_inv h2
    split at h3
    · rename_i v hv
      cases h3
      exact m_dald hx hb hA hW hv hd (kk _ _ _ hL hW hS hc hs)
    · cases h3
  case aaload =>
    obtain ⟨rfl, h1⟩ := g1_inv h
    obtain ⟨j, r, rfl, h2⟩ := qi_inv h1
    obtain ⟨a, r, rfl, h3⟩ := qr_inv h2
    split at h3
    · rename_i v hv
      cases h3
      exact m_aald (t := 4) hx hb hA hW rfl hv hd (kk _ _ _ hL hW hS hc hs)
    · split at h3
      · rename_i v hv
        cases h3
        exact m_aald (t := 5) hx hb hA hW rfl hv hd (kk _ _ _ hL hW hS hc hs)
      · cases h3
  case iastore =>
    obtain ⟨rfl, h1⟩ := g1_inv h
    obtain ⟨v, r, rfl, h2⟩ := qi_inv h1
    obtain ⟨j, r, rfl, h3⟩ := qi_inv h2
    obtain ⟨a, r, rfl, h4⟩ := qr_inv h3
    split at h4
    · rename_i w2 hw2
      cases h4
      exact m_iast hx hb hA hW hS hw2 hd (fun H1 locs1 hW1 hS1 => kk H1 locs1 _ hL hW1 hS1 hc hs)
    · cases h4
  case castore =>
    obtain ⟨rfl, h1⟩ := g1_inv h
    obtain ⟨v, r, rfl, h2⟩ := qi_inv h1
    obtain ⟨j, r, rfl, h3⟩ := qi_inv h2
    obtain ⟨a, r, rfl, h4⟩ := qr_inv h3
    split at h4
    · rename_i w2 hw2
      cases h4
      exact m_cast hx hb hA hW hS hw2 hd (fun H1 locs1 hW1 hS1 => kk H1 locs1 _ hL hW1 hS1 hc hs)
    · cases h4
  case lastore =>
    obtain ⟨rfl, h1⟩ := g1_inv h
    obtain ⟨v, r, rfl, h2⟩ := ql_inv h1
    obtain ⟨j, r, rfl, h3⟩ := qi_inv h2
    obtain ⟨a, r, rfl, h4⟩ := qr_inv h3
    split at h4
    · rename_i w2 hw2
      cases h4
      exact m_last hx hb hA hW hS hw2 hd (fun H1 locs1 hW1 hS1 => kk H1 locs1 _ hL hW1 hS1 hc hs)
    · cases h4
  case dastore =>
    obtain ⟨rfl, h1⟩ := g1_inv h
    obtain ⟨v, r, rfl, h2⟩ := qd_inv h1
    obtain ⟨j, r, rfl, h3⟩ := qi_inv h2
    obtain ⟨a, r, rfl, h4⟩ := qr_inv h3
    split at h4
    · rename_i w2 hw2
      cases h4
      exact m_dast hx hb hA hW hS hw2 hd (fun H1 locs1 hW1 hS1 => kk H1 locs1 _ hL hW1 hS1 hc hs)
    · cases h4
  case aastore =>
    obtain ⟨rfl, h1⟩ := g1_inv h
    obtain ⟨v, r, rfl, h2⟩ := qr_inv h1
    obtain ⟨j, r, rfl, h3⟩ := qi_inv h2
    obtain ⟨a, r, rfl, h4⟩ := qr_inv h3
    split at h4
    · rename_i w2 hv hw2
      cases h4
      exact m_aast (t := 4) (ci := 1) hx hb hA hK hW hS rfl rfl rfl hv hw2 hd (fun H1 locs1 hW1 hS1 => kk H1 locs1 _ hL hW1 hS1 hc hs)
    · split at h4
      · rename_i w2 hv hw2
        cases h4
        exact m_aast (t := 5) (ci := 2) hx hb hA hK hW hS rfl rfl rfl hv hw2 hd (fun H1 locs1 hW1 hS1 => kk H1 locs1 _ hL hW1 hS1 hc hs)
      · cases h4
  case arraylength =>
    obtain ⟨rfl, h1⟩ := g1_inv h
    obtain ⟨a, r, rfl, h3⟩ := qr_inv h1
    split at h3
    · split at h3
      · rename_i hh
        cases h3
        subst hh
        exact va_slen hx hb hX (Nat.lt_of_lt_of_le hXb hXs) (Nat.not_le.mpr hXb) hS hd (kk _ _ _ hL hW hS hc hs)
      · cases h3
    · split at h3
      · rename_i q9 hq9
        cases h3
        exact va_tlen hx hb (hs2 a q9 hq9) hS rfl hd (kk _ _ _ hL hW hS hc hs)
      · cases h3
    · cases h3
  case baload =>
    obtain ⟨rfl, h1⟩ := g1_inv h
    obtain ⟨j, r, rfl, h2⟩ := qi_inv h1
    obtain ⟨a, r, rfl, h3⟩ := qr_inv h2
    split at h3
    · rename_i q9 hq9
      split at h3
      · rename_i hin
        cases h3
        exact va_tb hx hb (hs2 a q9 hq9) hS (inr_ok hin) rfl hd (kk _ _ _ hL hW hS hc hs)
      · cases h3
    · cases h3
  case getstatic idx =>
    obtain ⟨rfl, h1⟩ := g1_inv h
    split at h1
    · rename_i hq
      cases h1
      rcases sgf_ok hq with ⟨-, k3⟩ | ⟨k3, -⟩
      · exact va_gets hx hb hz1 hS hown (hts _ k3) (fun _ h => h) hd (kk _ _ _ hL hW hS hc hs)
      · cases k3
    · rename_i j hne hq
      cases h1
      rcases sgf_ok hq with ⟨k3, -⟩ | ⟨-, k3⟩
      · exact absurd k3 hne
      · exact va_gets hx hb hz2 hS hown (hts _ k3) (fun _ h => h) hd (kk _ _ _ hL hW hS hc hs)
    · cases h1
  case ldc idx =>
    obtain ⟨rfl, h1⟩ := g1_inv h
    split at h1
    · rename_i j hj
      cases h1
      obtain ⟨r9, hm9, e1, e2, e3⟩ := lit_ok hj
      have h9 := hl1 r9 hm9
      rw [e1, e2, e3] at h9
      exact va_ldcS hx hb hown h9 hd (kk _ _ _ hL hW hS hc hs)
    · cases h1
  case ldc_w idx =>
    obtain ⟨rfl, h1⟩ := g1_inv h
    split at h1
    · rename_i v hv
      cases h1
      exact lv_ldcw hx hb hown (hts _ (icst_ok hv)) hd (kk _ _ _ hL hW hS hc hs)
    · cases h1
  case new idx =>
    obtain ⟨rfl, h1⟩ := g1_inv h
    split at h1
    · split at h1 <;> cases h1
    · split at h1
      · rename_i ci q9 hci
        split at h1
        · rename_i hroom
          cases h1
          obtain ⟨cc9, k1, k2⟩ := newc_ok hci
          have hKn := hK.1 ci _ k1
          have hkn : kn ci = cc9.2.2 := by
            unfold kn
            rw [List.getD_eq_getElem?_getD, k1]
            rfl
          obtain ⟨g1, g2⟩ := KL_new _ (List.mem_of_getElem? k1)
          rw [hkn] at hroom
          have hk9 := kk
          unfold Kont at hk9
          dsimp only at hk9
          rw [hkn] at hk9
          refine W.newcK hx hb hown (hts _ k2) (hts _ g1) (hts _ g2) rfl hd hroom.1 hroom.2 hKn.2.1 (hW.2.2 _ rfl) fun H1 kC hkC e1 z1 o1 => ?_
          refine hk9 H1 locs lsR hL (hW.push ⟨cc9, k1, (u_born (KTY.getD ci tyX0) hts (KL_in _ (List.mem_of_getElem? k1)) hKn hkC e1 (KTY_ok k1)).to (dflt_ok k1)⟩ z1 o1) (hS.push (hW.2.2 _ rfl) z1 o1) hroom.1 hroom.2
        · cases h1
      · cases h1
  case newarray ty =>
    obtain ⟨rfl, h1⟩ := g1_inv h
    obtain ⟨x, r, rfl, h2⟩ := qi_inv h1
    split at h2
    · rename_i t9 q9 ht9
      split at h2
      · rename_i hroom
        cases h2
        obtain ⟨r1, r2, r3, r4⟩ := hroom
        have go : ∀ (ft : FieldType) (tg : Nat) (dv : Value), newarray.typeOf ty = ft → ATY[tg]? = some ft → ft ∈ ([.int, .char, .long, .double] : List FieldType) → defaultValue ft = dv → t9 = (tg, dv) → componentBytes ft ≤ 8 → (∀ cA : ClassId, va_RA s cA ft → s.vm.findClass ("[" ++ ft.toString) = some cA) → W p l e (rmM M) s m args below meth cd H locs c sl Q (F0 m pc lsR (.int x :: r)) := by
          intro ft tg dv e1 e2 e3 e4 e5 e6 e7
          subst e5
          subst e4
          refine va_newaK hx hb (by rw [e1]; exact hts _ (AC_ok ft e3)) rfl hd rfl r1 rfl (by rw [e1]; exact Nat.le_trans (Nat.mul_le_mul r2 e6) (by decide)) r3 r4 (hW.2.2 _ rfl) fun H1 cA f1 z1 o1 hAr hNm => ?_
          rw [e1] at f1 hNm
          have hcA : cA = dA tg := Option.some.inj (hNm.symm.trans (e7 _ (hA tg ft e2).2))
          subst hcA
          exact kk H1 locs lsR hL (hW.push f1 z1 o1) (hS.push (hW.2.2 _ rfl) z1 o1) r3 r4
        cases ty <;> first | (cases ht9; exact go _ _ _ rfl rfl (by decide) rfl rfl (by decide) (fun _ h => h)) | cases ht9
      · cases h2
    · cases h2
  case anewarray idx =>
    obtain ⟨rfl, h1⟩ := g1_inv h
    obtain ⟨x, r, rfl, h2⟩ := qi_inv h1
    split at h2
    · rename_i ci q9 hci
      split at h2
      · rename_i hroom
        cases h2
        obtain ⟨r0, r1, r2, r3, r4⟩ := hroom
        obtain ⟨cc9, k1, k2⟩ := newc_ok hci
        have go : ∀ C : String, cc9.1 = C → va_AO C s → ATY[ci + 3]? = some (.object C) → W p l e (rmM M) s m args below meth cd H locs c sl Q (F0 m pc lsR (.int x :: r)) := by
          intro C e1 hO e2
          subst e1
          obtain ⟨kA9, comp9, a1, a2, a3, a4⟩ := (hA (ci + 3) _ e2).2
          refine W.anew hx hb hown (hts _ k2) (va_AO.use hO) rfl hd rfl r1 (Nat.le_trans (Nat.mul_le_mul_right 4 r2) (by decide)) r3 r4 fun cA kA comp f1 f2 f3 f4 => ?_
          have hcA : cA = dA (ci + 3) := Option.some.inj (f1.symm.trans a4)
          subst hcA
          have hz : H.size = q9 := hW.2.2 _ rfl
          generalize hH1 : H.push ({ cls := dA (ci + 3), slots := Array.replicate x.toNatClampNeg .null, vm := .none } : Cell) = H1
          have z1 : H1.size = q9 + 1 := by rw [← hH1, Array.size_push, hz]
          have e9 : H1[q9]? = some (arrV (dA (ci + 3)) x.toNatClampNeg (fun _ => .null)) := by rw [← hH1, ← hz, Array.getElem?_push_size, ← arrV_new]
          have o1 : ∀ q : Nat, q < q9 → H1[q]? = H[q]? := fun q hq => by rw [← hH1, Array.getElem?_push, if_neg (by omega)]
          rw [hz]
          exact kk H1 locs lsR hL (hW.push e9 z1 o1) (hS.push hz z1 o1) r3 r4
        rcases r0 with rfl | rfl
        · cases k1; exact go _ rfl hO1 rfl
        · cases k1; exact go _ rfl hO2 rfl
      · cases h2
    · cases h2
  case ireturn =>
    obtain ⟨rfl, h1⟩ := g1_inv h
    obtain ⟨x, r, rfl, h2⟩ := qi_inv h1
    split at h2
    · obtain ⟨-, h3⟩ := gc_inv h2
      cases h3
    · cases h2
  case freturn =>
    obtain ⟨rfl, h1⟩ := g1_inv h
    obtain ⟨x, r, rfl, h2⟩ := qf_inv h1
    split at h2
    · obtain ⟨-, h3⟩ := gc_inv h2
      cases h3
    · cases h2
  case dreturn =>
    obtain ⟨rfl, h1⟩ := g1_inv h
    obtain ⟨x, r, rfl, h2⟩ := qd_inv h1
    split at h2
    · obtain ⟨-, h3⟩ := gc_inv h2
      cases h3
    · cases h2
  case areturn =>
    obtain ⟨rfl, h1⟩ := g1_inv h
    obtain ⟨x, r, rfl, h2⟩ := qr_inv h1
    split at h2
    · obtain ⟨-, h3⟩ := gc_inv h2
      cases h3
    · cases h2
  case return_ =>
    obtain ⟨rfl, h1⟩ := g1_inv h
    split at h1
    · obtain ⟨-, h3⟩ := gc_inv h1
      cases h3
    · cases h1
  case invokevirtual idx =>
    obtain ⟨rfl, h1⟩ := g1_inv h
    split at h1
    · split at h1
      · obtain ⟨b, r, -, h2⟩ := qr_inv h1
        obtain ⟨-, h3⟩ := gc_inv h2
        exact absurd h3 xcl_no
      · cases h1
    · cases h1
  case invokestatic idx =>
    obtain ⟨rfl, h1⟩ := g1_inv h
    split at h1
    · split at h1
      · exact absurd h1 xcl_no
      · cases h1
    · rename_i u1 u2 hq
      split at h1
      · rename_i hroom
        obtain ⟨y, r, rfl, h2⟩ := qi_inv h1
        obtain ⟨x, r, rfl, h3⟩ := qi_inv h2
        cases h3
        obtain ⟨k1, k2, k3⟩ := mx_ok hq
        exact va_mmax hx hb (hml.trans hsz.symm) hown (hts _ k1) (hts _ k2.1) (hts _ k2.2.1) (hts _ k2.2.2) hroom.1 (cat_room (k := 13) (by have := hroom.2; simp only [List.length_cons] at this; show 2 * r.length + 13 ≤ mO M; omega)) hc hs hd (kk _ _ _ hL hW hS hc hs)
      · cases h1
    · rename_i u1 u2 hq
      split at h1
      · rename_i hroom
        obtain ⟨y, r, rfl, h2⟩ := qi_inv h1
        obtain ⟨x, r, rfl, h3⟩ := qi_inv h2
        cases h3
        obtain ⟨k1, k2, k3⟩ := mn_ok hq
        exact va_mmin hx hb (hml.trans hsz.symm) hown (hts _ k1) (hts _ k2.1) (hts _ k2.2.1) (hts _ k2.2.2) hroom.1 (cat_room (k := 13) (by have := hroom.2; simp only [List.length_cons] at this; show 2 * r.length + 13 ≤ mO M; omega)) hc hs hd (kk _ _ _ hL hW hS hc hs)
      · cases h1
    · cases h1
  case invokespecial idx =>
    obtain ⟨rfl, h1⟩ := g1_inv h
    split at h1
    · rename_i u1 u2 hq
      obtain ⟨a, r, rfl, h2⟩ := qr_inv h1
      split at h2
      · rename_i hroom
        cases h2
        have k1 := oi_ok hq
        exact W.objInit hx hb hown (hts _ k1) (hts _ (wis_mem POI_ok.1)) (hts _ (wis_mem POI_ok.2)) rfl (by show lsR.size = _; rw [hsz, hml]) rfl hd hroom.1 (by show 2 * 0 + _ + 12 ≤ mO M; have := cat_room (r := r) (k := 12) (R := mO M) hroom.2; omega) (kk _ _ _ hL hW hS hc hs)
      · cases h2
    · split at h1
      · obtain ⟨b, r, -, h2⟩ := qr_inv h1
        exact absurd h2 xcl_no
      · cases h1
    · split at h1
      · obtain ⟨b, r, -, h2⟩ := qr_inv h1
        exact absurd h2 xcl_no
      · cases h1
    · cases h1
  all_goals exact xpst_ok B' hd hL hW hS hc hs h kk
end STEP
end
section
/-! ===== BEGIN a constructor that throws (launches without stack traces) ===== -/
section VXIA
variable {p : Program} {l : Launch} {e : Env} {R : Room} {s : State} {m : MethodId} {args : Array Value} {below : List Frame} {meth : Method} {c : Code} {T : State} {locs : List Loc} {cells slots : Nat}
theorem vx_callI (X : Stand p l e R s m args below meth c T locs cells slots) (hexec : p.tables.exec = Jvm.exec) {own : String} {index : Nat} {y : MethodName} {bytes : ByteArray} {maxL : Nat}
    (hown : s.vm.findClass own = some m.cls) (hy1 : y.name = "<init>") (hlink : (Cond.methodLink own index y).before args s = true) (hinst : (Cond.instanceMethod y).before args s = true)
    (hcode : (Cond.code y bytes maxL none).before args s = true) (hy : y.cls ≠ "java/lang/invoke/MethodHandle" ∧ y.cls ≠ "java/lang/invoke/VarHandle")
    {W9 : Nat} {Pre : Pt → Array Value → Prop} {Post : Pt → Array Value → Option Value → Pt → Prop} {PostX : Pt → Array Value → Addr → Pt → Prop} (hK : vx_Back l R p e below s args y 3 W9 Pre Post PostX)
    {g : JFrame} (hg : g.method = m) (hsize : g.locals.size = c.maxLocals) {a : Addr} {argsL rest : List Value} (hlen : ∀ sig, parseMethodDescriptor y.desc = some sig → argsL.length = sig.parameters.length)
    (hstack : g.stack = argsL.reverse ++ .ref a :: rest) (hW : 2 * g.monitorRoom + (rest.map fun v => v.category).sum ≤ W9) (hdg : decode c.code g.pc = .ok (.invokespecial index, 3))
    (hpre : ∀ vm₁, s.WarmedH vm₁ → Pre ⟨T.setVm vm₁, locs, cells, slots⟩ (Value.ref a :: argsL).toArray) :
    (∃ (v : Option Value) (vm₁ : Vm) (B : Pt), s.WarmedH vm₁ ∧ Stand p l e R s m args below meth c B.U B.locs B.cells B.slots ∧ Post ⟨T.setVm vm₁, locs, cells, slots⟩ (Value.ref a :: argsL).toArray v B ∧
      ∀ target, Steps p.tables e below (B.U.setTop { g with pc := g.pc + 3, stack := v.toList ++ rest }) target → Steps p.tables e below (T.setTop g) target) ∨
    (∃ (q : Addr) (vm₁ : Vm) (B : Pt), s.WarmedH vm₁ ∧ Stand p l e R s m args below meth c B.U B.locs B.cells B.slots ∧ PostX ⟨T.setVm vm₁, locs, cells, slots⟩ (Value.ref a :: argsL).toArray q B ∧
      Steps p.tables e below (T.setTop g) ((B.U.setTop { g with stack := rest }).pushFrame (.throwing q))) := by
  subst hg
  have hpl : e.platform.magicAccessors = ({} : Platform).magicAccessors := by rw [X.admits.platform]
  obtain ⟨mk, methM, cM, kP, vm₁, hnamed, hmethM, hcodeM, -, hlocalsM, -, hkP, -, hW₁, hstep₁⟩ := Steps.initColdArgs (e := e) X.here hexec X.warmed hpl hown hy1 hy hlink hinst hcode (f := g) rfl hlen hstack hdg
  have X₁ := X.noted hW₁
  rcases hK g.method meth c ⟨T.setVm vm₁, locs, cells, slots⟩ { g with stack := rest } (.invokespecial index) mk (Value.ref a :: argsL).toArray X₁ rfl hsize hdg hW (X₁.named hnamed) (hpre vm₁ X₁.warmed) with ⟨v, B, X', hpost, hsteps⟩ | ⟨q, B, X', hpost, hsteps⟩
  · exact Or.inl ⟨v, vm₁, B, X₁.warmed, X', hpost, fun target h => hstep₁ _ fun acts => by rw [doInvoke_state]; exact hsteps.trans h⟩
  · exact Or.inr ⟨q, vm₁, B, X₁.warmed, X', hpost, hstep₁ _ fun acts => by rw [doInvoke_state]; exact hsteps⟩
end VXIA
section VXIB
variable {p : Program} {l : Launch} {e : Env} {R : Room} {s : State} {m : MethodId} {args : Array Value} {below : List Frame} {meth : Method} {c : Code} {H : Heap} {locs : List Loc} {cells slots : Nat}
variable {y : MethodName} {bytes cc : ByteArray} {maxL nL mc ms n index : Nat} {ret : Option FieldType} {ws : List Cond} {rm : Room} {Pc : Array Value → State → Prop} {Qc : Array Value → State → Outcome → State → Prop} {XC : String → State → State → Prop} {free : Addr → Prop} {Ts : List Cond} {own C : String} {b : Addr} {As rest : List Value} {g : JFrame}
theorem vx_runI (S : CallFix p m c cc nL s args Ts own) (hM : vx_Met l y ws rm Pc Qc XC mc ms free) (cw : CallB R s args own index y bytes maxL none ws rm mc ms n ∧ y.name = "<init>" ∧ (Cond.instanceMethod y).before args s = true) (hp : PreS s H Pc (.ref b :: As))
    (hg : g.method = m) (hn : As.length = n) (hsize : g.locals.size = nL) (hstack : g.stack = As.reverse ++ .ref b :: rest) (hW : 2 * g.monitorRoom + (rest.map fun v => v.category).sum ≤ 8) (hdg : decode cc g.pc = .ok (.invokespecial index, 3)) (hf : cells + mc ≤ R.cells ∧ slots + ms ≤ R.slots) :
    vx_Run p l e R s m args below meth c H locs cells slots mc ms g rest (Qc (Value.ref b :: As).toArray) XC free := by
  have hK : vx_Back l R p e below s args y 3 8 (PreOf R mc ms Pc) (PostOf Qc mc ms free) (vx_Post XC mc ms free) := vx_callBack cw.1 hM hp.1
  obtain ⟨⟨-, -, -, -, -, -, hcode, -, hy, hlen, hl⟩, hy1, hin⟩ := cw
  obtain ⟨hx, hb, hml, ho, -⟩ := S
  have hPc := hp.2
  intro T hT X
  rcases vx_callI X hx (bytes := bytes) (maxL := maxL) ho hy1 hl hin hcode hy hK hg (hsize.trans hml.symm) (a := b) (argsL := As) (rest := rest) (fun sig h => hn.trans (hlen sig h)) hstack hW (by rw [hb]; exact hdg)
    (fun vm₁ hW₁ => ⟨hf.1, hf.2, hPc (T.setVm vm₁) hT hW₁⟩) with ⟨v, vm₁, ⟨U', l2, c2, s2⟩, hW₁, X', ⟨g', mk, t, L, e1, e2, hq, h1, hL, h2, h3⟩, st⟩ | ⟨q, vm₁, ⟨U', l2, c2, s2⟩, hW₁, X', ⟨g', mk, t, L, E, ce, e1, e2, hq, hce, hcv, hcl, h1, hL, h2, h3⟩, st⟩
  · dsimp only [Pt.U, Pt.locs, Pt.cells, Pt.slots] at X' e1 e2 h1 h2 h3 st
    subst h1; subst h2; subst h3
    exact Or.inl ⟨v, (T.setVm vm₁).calling g' mk (Value.ref b :: As).toArray, t, U', L, hT, X', hL, e1, e2, hq, st⟩
  · dsimp only [Pt.U, Pt.locs, Pt.cells, Pt.slots] at X' e1 e2 h1 h2 h3 st hcl
    subst h1; subst h2; subst h3
    exact Or.inr ⟨q, (T.setVm vm₁).calling g' mk (Value.ref b :: As).toArray, t, U', L, E, ce, hT, X', hL, e1, e2, hq, hce, hcv, vx_cls hW₁ hcl, st⟩
end VXIB
/-! ===== END ===== -/
/-! ===== BEGIN a private constructor of a nest mate that throws ===== -/
section VXIC
variable {p : Program} {l : Launch} {e : Env} {R : Room} {s : State} {m : MethodId} {args : Array Value} {below : List Frame} {meth : Method} {c : Code} {T : State} {locs : List Loc} {cells slots : Nat}
theorem vx_callIN (X : Stand p l e R s m args below meth c T locs cells slots) (hexec : p.tables.exec = Jvm.exec) {own : String} {index : Nat} {host : String} {y : MethodName} {bytes : ByteArray} {maxL : Nat}
    (hown : s.vm.findClass own = some m.cls) (hy1 : y.name = "<init>") (hlink : (Cond.methodLinkNest own index y host).before args s = true) (hinst : (Cond.instanceMethod y).before args s = true)
    (hcode : (Cond.code y bytes maxL none).before args s = true) (hy : y.cls ≠ "java/lang/invoke/MethodHandle" ∧ y.cls ≠ "java/lang/invoke/VarHandle")
    {W9 : Nat} {Pre : Pt → Array Value → Prop} {Post : Pt → Array Value → Option Value → Pt → Prop} {PostX : Pt → Array Value → Addr → Pt → Prop} (hK : vx_Back l R p e below s args y 3 W9 Pre Post PostX)
    {g : JFrame} (hg : g.method = m) (hsize : g.locals.size = c.maxLocals) {a : Addr} {argsL rest : List Value} (hlen : ∀ sig, parseMethodDescriptor y.desc = some sig → argsL.length = sig.parameters.length)
    (hstack : g.stack = argsL.reverse ++ .ref a :: rest) (hW : 2 * g.monitorRoom + (rest.map fun v => v.category).sum ≤ W9) (hdg : decode c.code g.pc = .ok (.invokespecial index, 3))
    (hpre : ∀ vm₁, s.WarmedH vm₁ → Pre ⟨T.setVm vm₁, locs, cells, slots⟩ (Value.ref a :: argsL).toArray) :
    (∃ (v : Option Value) (vm₁ : Vm) (B : Pt), s.WarmedH vm₁ ∧ Stand p l e R s m args below meth c B.U B.locs B.cells B.slots ∧ Post ⟨T.setVm vm₁, locs, cells, slots⟩ (Value.ref a :: argsL).toArray v B ∧
      ∀ target, Steps p.tables e below (B.U.setTop { g with pc := g.pc + 3, stack := v.toList ++ rest }) target → Steps p.tables e below (T.setTop g) target) ∨
    (∃ (q : Addr) (vm₁ : Vm) (B : Pt), s.WarmedH vm₁ ∧ Stand p l e R s m args below meth c B.U B.locs B.cells B.slots ∧ PostX ⟨T.setVm vm₁, locs, cells, slots⟩ (Value.ref a :: argsL).toArray q B ∧
      Steps p.tables e below (T.setTop g) ((B.U.setTop { g with stack := rest }).pushFrame (.throwing q))) := by
  subst hg
  have hpl : e.platform.magicAccessors = ({} : Platform).magicAccessors := by rw [X.admits.platform]
  obtain ⟨mk, methM, cM, kP, vm₁, hnamed, hmethM, hcodeM, -, hlocalsM, -, hkP, -, hW₁, hstep₁⟩ := Steps.initColdArgsNest (e := e) X.here hexec X.warmed hpl hown hy1 hy hlink hinst hcode (f := g) rfl hlen hstack hdg
  have X₁ := X.noted hW₁
  rcases hK g.method meth c ⟨T.setVm vm₁, locs, cells, slots⟩ { g with stack := rest } (.invokespecial index) mk (Value.ref a :: argsL).toArray X₁ rfl hsize hdg hW (X₁.named hnamed) (hpre vm₁ X₁.warmed) with ⟨v, B, X', hpost, hsteps⟩ | ⟨q, B, X', hpost, hsteps⟩
  · exact Or.inl ⟨v, vm₁, B, X₁.warmed, X', hpost, fun target h => hstep₁ _ fun acts => by rw [doInvoke_state]; exact hsteps.trans h⟩
  · exact Or.inr ⟨q, vm₁, B, X₁.warmed, X', hpost, hstep₁ _ fun acts => by rw [doInvoke_state]; exact hsteps⟩
end VXIC
section VXID
variable {p : Program} {l : Launch} {e : Env} {R : Room} {s : State} {m : MethodId} {args : Array Value} {below : List Frame} {meth : Method} {c : Code} {H : Heap} {locs : List Loc} {cells slots : Nat}
theorem vx_runIN {y : MethodName} {bytes cc : ByteArray} {maxL nL mc ms n index : Nat} {ws : List Cond} {rm : Room} {Pc : Array Value → State → Prop} {Qc : Array Value → State → Outcome → State → Prop} {XC : String → State → State → Prop} {free : Addr → Prop} {Ts : List Cond} {own host : String} {b : Addr} {As rest : List Value} {g : JFrame}
    (S : CallFix p m c cc nL s args Ts own) (hM : vx_Met l y ws rm Pc Qc XC mc ms free) (cw : va_CN R s args own index y host bytes maxL none ws rm mc ms n ∧ y.name = "<init>" ∧ (Cond.instanceMethod y).before args s = true) (hp : PreS s H Pc (.ref b :: As))
    (hg : g.method = m) (hn : As.length = n) (hsize : g.locals.size = nL) (hstack : g.stack = As.reverse ++ .ref b :: rest) (hW : 2 * g.monitorRoom + (rest.map fun v => v.category).sum ≤ 8) (hdg : decode cc g.pc = .ok (.invokespecial index, 3)) (hf : cells + mc ≤ R.cells ∧ slots + ms ≤ R.slots) :
    vx_Run p l e R s m args below meth c H locs cells slots mc ms g rest (Qc (Value.ref b :: As).toArray) XC free := by
  obtain ⟨⟨⟨hrc, hrs, hfr, hlo, hws, hcw⟩, hcode, hini, hy, hlen, hl⟩, hx1, hx2⟩ := cw
  have hK : vx_Back l R p e below s args y 3 8 (PreOf R mc ms Pc) (PostOf Qc mc ms free) (vx_Post XC mc ms free) := vx_back (bytes := bytes) (maxL := maxL) (ret := none) hM hp.1 hrc hrs hfr hlo hws hcw (fun a' U hW => word_at hW (Or.inl (by first | rfl | simp [Cond.onTables, Cond.keeps, Cond.steady])) hini)
  obtain ⟨hx, hb, hml, ho, -⟩ := S
  have hPc := hp.2
  intro T hT X
  rcases vx_callIN X hx (bytes := bytes) (maxL := maxL) ho hx1 hl hx2 hcode hy hK hg (hsize.trans hml.symm) (a := b) (argsL := As) (rest := rest) (fun sig h => hn.trans (hlen sig h)) hstack hW (by rw [hb]; exact hdg)
    (fun vm₁ hW₁ => ⟨hf.1, hf.2, hPc (T.setVm vm₁) hT hW₁⟩) with ⟨v, vm₁, ⟨U', l2, c2, s2⟩, hW₁, X', ⟨g', mk, t, L, e1, e2, hq, h1, hL, h2, h3⟩, st⟩ | ⟨q, vm₁, ⟨U', l2, c2, s2⟩, hW₁, X', ⟨g', mk, t, L, E, ce, e1, e2, hq, hce, hcv, hcl, h1, hL, h2, h3⟩, st⟩
  · dsimp only [Pt.U, Pt.locs, Pt.cells, Pt.slots] at X' e1 e2 h1 h2 h3 st
    subst h1; subst h2; subst h3
    exact Or.inl ⟨v, (T.setVm vm₁).calling g' mk (Value.ref b :: As).toArray, t, U', L, hT, X', hL, e1, e2, hq, st⟩
  · dsimp only [Pt.U, Pt.locs, Pt.cells, Pt.slots] at X' e1 e2 h1 h2 h3 st hcl
    subst h1; subst h2; subst h3
    exact Or.inr ⟨q, (T.setVm vm₁).calling g' mk (Value.ref b :: As).toArray, t, U', L, E, ce, hT, X', hL, e1, e2, hq, hce, hcv, vx_cls hW₁ hcl, st⟩
end VXID
/-! ===== END ===== -/
end
section
/-! ===== SOUNDNESS of calls ===== -/
def PcM (X : Cxt) (b0 : Nat) (D : va_G) (dA : Nat → ClassId) (vs : List Value) (w : Wld) (n : Option Nat) : Array Value → State → Prop := va_Pc vs (fun U => WOK b0 D dA w n U.heap ∧ KEnv X b0 D dA U U.heap)
def QcM (b0 : Nat) (D : va_G) (dA : Nat → ClassId) (o : Otc) : Array Value → State → Outcome → State → Prop := fun _ st oc t => ∃ v : Option Value, o.1 = .inl v ∧ oc = .returned v ∧ WOK b0 D dA o.2.1 o.2.2 t.heap ∧ va_F (KA b0) st t
def XcM (b0 : Nat) (D : va_G) (dA : Nat → ClassId) (o : Otc) : String → State → State → Prop := fun E st t => o.1 = .inr E ∧ WOK b0 D dA o.2.1 o.2.2 t.heap ∧ va_F (KA b0) st t
def CtrM (l : Launch) (X : Cxt) (b0 : Nat) (D : va_G) (dA : Nat → ClassId) (M : Nat) (vs : List Value) (w : Wld) (n : Option Nat) (o : Otc) : Prop :=
  vx_Met l (mY M) (wsM M) (rmM M) (PcM X b0 D dA vs w n) (QcM b0 D dA o) (XcM b0 D dA o) (mC M) (mS M) (KA b0)
theorem PcM_blind {X : Cxt} {b0 : Nat} {D : va_G} {dA : Nat → ClassId} {vs : List Value} {w : Wld} {n : Option Nat} : FrameBlind (PcM X b0 D dA vs w n) := fun a U g mk h => ⟨h.1, h.2.1, h.2.2.same (U := U.calling g mk a) rfl⟩
theorem any_pos {l : List (Nat × Nat)} {M : Nat} (h : l.any (·.2 == M) = true) : ∃ q ∈ l, q.2 = M := by
  obtain ⟨q, hq, h2⟩ := List.any_eq_true.mp h
  exact ⟨q, hq, beq_iff_eq.mp h2⟩
/-- what the tables say of a method -/
theorem mth_ok {M : Nat} (hM : M < LAWM) : (plainName (mY M).cls = true ∧ cname (mN M) = (mY M).cls ∧ ((mY M).cls ≠ "java/lang/invoke/MethodHandle" ∧ (mY M).cls ≠ "java/lang/invoke/VarHandle") ∧ (parseMethodDescriptor (mY M).desc).map (fun d => d.parameters.length) = some (MAL.getD M 0)) ∧
    hdw M ∈ ALLG ∧ stw M ∈ ALLG ∧ (mT M = false → isI M = false → Cond.selects (mY M).cls (mY M) (mY M) ∈ ALLG) ∧ Cond.initialized (mY M).cls ∈ ALLG := by
  have h := List.all_eq_true.mp MT_ok M (List.mem_range.mpr hM)
  unfold okM at h
  simp only [Bool.and_eq_true, decide_eq_true_eq, beq_iff_eq] at h
  obtain ⟨⟨⟨⟨⟨⟨⟨h1, h2⟩, h3⟩, h4⟩, h5⟩, h6⟩, h7⟩, h8⟩ := h
  refine ⟨⟨h1, h2, h3, h4⟩, ?_, ?_, fun hT hI => ?_, ?_⟩
  · obtain ⟨q, hq, e⟩ := any_pos h5
    have := MCL_in q hq
    rw [e] at this
    exact this
  · obtain ⟨q, hq, e⟩ := any_pos h6
    have := chk_all MSL_ok (List.mem_map.mpr ⟨q, hq, rfl⟩)
    dsimp only at this
    rw [e] at this
    exact this
  · rw [hT, hI] at h7
    simp only [Bool.false_or] at h7
    obtain ⟨q, hq, e⟩ := any_pos h7
    have := chk_all MEL_ok (List.mem_map.mpr ⟨q, hq, rfl⟩)
    dsimp only at this
    rw [e] at this
    exact this
  · obtain ⟨q, hq, e⟩ := any_pos h8
    have := chk_all MIL_ok (List.mem_map.mpr ⟨q, hq, rfl⟩)
    dsimp only at this
    rw [e, h2] at this
    exact this
theorem good_ALLG {w : Cond} (h : w ∈ ALLG) : w ∈ ALLG ∧ ((w.onTables && w.keeps) = true ∨ ∃ ty, w = .arrayClass ty) := ⟨h, good_of_word (List.mem_filter.mp h).2⟩
theorem ws_good {M : Nat} (hM : M < LAWM) : GoodIn ALLG (wsM M) := by
  intro w hw
  rcases List.mem_cons.mp hw with rfl | hw
  · exact good_ALLG (mth_ok hM).2.1
  · exact good_ALLG hw
theorem popv_inv : ∀ (k : Nat) (st acc : List Value) (vs : List Value) (r : Stk), popv k st acc = some (vs, r) → ∃ us : List Value, vs = us ++ acc ∧ us.length = k ∧ st = us.reverse ++ r ∧ ∀ u ∈ us, u.category = 1 := by
  intro k
  induction k with
  | zero =>
    intro st acc vs r h
    cases h
    exact ⟨[], rfl, rfl, rfl, fun _ h => nomatch h⟩
  | succ k ih =>
    intro st acc vs r h
    cases st with
    | nil => cases h
    | cons v st =>
      unfold popv at h
      split at h
      · rename_i hv
        obtain ⟨us, e1, e2, e3, e4⟩ := ih _ _ _ _ h
        refine ⟨us ++ [v], by rw [e1]; simp, by simp [e2], by rw [e3]; simp, fun u hu => ?_⟩
        rcases List.mem_append.mp hu with hu | hu
        · exact e4 u hu
        · rw [List.mem_singleton.mp hu]; exact hv
      · cases h
section CALLS
variable {p : Program} {l : Launch} {e : Env} {s : State} {m : MethodId} {args : Array Value} {below : List Frame} {meth : Method} {cd : Code} {H : Heap} {locs : List Loc} {Q : State → Prop}
variable {X : Cxt} {b0 : Nat} {D : va_G} {dA : Nat → ClassId} {M : Nat} {pc len : Nat} {ls : Lcs} {st : Stk} {w : Wld} {n : Option Nat} {c sl : Nat} {lsR : Array Slot}
theorem vx_go {mc ms : Nat} {a : Array Value} {o : Otc} {st0 rest : List Value} {R : Room} (hr : vx_Run p l e R s m args below meth cd H locs c sl mc ms (F0 m pc lsR st0) rest (QcM b0 D dA o a) (XcM b0 D dA o) (KA b0)) (hS : va_S (KA b0) s.heap H locs)
    (kr : ∀ v : Option Value, o.1 = .inl v → ∀ (H1 : Heap) (locs1 : List Loc), WOK b0 D dA o.2.1 o.2.2 H1 → va_S (KA b0) s.heap H1 locs1 → W p l e R s m args below meth cd H1 locs1 (c + mc) (sl + ms) Q (F0 m (pc + 3) lsR (v.toList ++ rest)))
    (kx : ∀ E : String, o.1 = .inr E → ∀ (ce : Cell) (q9 : Addr) (H1 : Heap) (locs1 : List Loc), WOK b0 D dA o.2.1 o.2.2 H1 → va_S (KA b0) s.heap H1 locs1 → H1[q9]? = some ce → ce.vm = .none → s.vm.findClass E = some ce.cls → vx_W p l e R s m args below meth cd H1 locs1 (c + mc) (sl + ms) Q (F0 m pc lsR rest) q9) :
    W p l e R s m args below meth cd H locs c sl Q (F0 m pc lsR st0) := by
  intro T hT X9
  rcases hr T hT X9 with ⟨v, st₀, t, T', L, h0, X', hL, e1, e2, ⟨v2, hv, hp, hb, hF⟩, st⟩ | ⟨q, st₀, t, T', L, E, ce, h0, X', hL, e1, e2, ⟨hp, hb, hF⟩, hce, hcv, hcl, st⟩
  · cases hp
    obtain ⟨k1, k2, k3⟩ := vx_keep h0 e1 hS (fun _ _ h => h) (fun _ h => h) hL hF
    obtain ⟨t2, a1, b1⟩ := kr v hv T'.heap (locs ++ L) (by rw [e1]; exact hb) k3 T' rfl X'
    exact ⟨t2, st t2 a1, b1⟩
  · obtain ⟨k1, k2, k3⟩ := vx_keep h0 e1 hS (fun _ _ h => h) (fun _ h => h) hL hF
    obtain ⟨t2, a1, b1⟩ := kx E hp ce q T'.heap (locs ++ L) (by rw [e1]; exact hb) k3 (by rw [e1]; exact hce) hcv hcl T' rfl X'
    exact ⟨t2, st.trans a1, b1⟩
theorem xcl_inv {M2 : Nat} {vs : List Value} {r : Stk} {q : Cll} (h : xcl M M2 vs r = some (.inr (.inr q))) : fits2 M M2 = true ∧ r.length ≤ 4 ∧ q = (M2, vs, r) := by
  unfold xcl at h
  split at h
  · rename_i hh
    cases h
    exact ⟨hh.1, hh.2, rfl⟩
  · cases h
theorem xst_call_not {i : Instr} {q : Cll} (_ : decode (mB M) pc = .ok (i, len)) (h : xpst M pc i len ls st w n c sl = some (.inr (.inr q))) : False := by
  unfold xpst at h
  split at h <;> cases h
theorem K1_ok : (List.range LAWM).all (fun M => mT M || (Nat.beq (mK M) 1 == false) || (mY M).cls == "java/lang/String") = true := by decide +kernel
theorem rcv_ok {M2 b : Nat} (hM : M2 < LAWM) (hT : mT M2 = false) (hE : KEnv X b0 D dA s s.heap) (hW : WOK b0 D dA w n H) (hS : va_S (KA b0) s.heap H locs) (h : rcv X w M2 b = true) : ∃ cellB : Cell, H[b]? = some cellB ∧ cellB.vm.isStatics = false ∧ s.vm.findClass (mY M2).cls = some cellB.cls := by
  unfold rcv at h
  split at h
  · rename_i hk
    obtain ⟨v, hv⟩ := Option.isSome_iff_exists.mp h
    obtain ⟨cell, h1, h2, h3, -⟩ := ((hE.2.2.1 b v hv).1).kept hS.2.1
    refine ⟨cell, h1, h2, ?_⟩
    have h9 := List.all_eq_true.mp K1_ok M2 (List.mem_range.mpr hM)
    rw [hT, hk] at h9
    have h8 : (mY M2).cls = "java/lang/String" := by simpa using h9
    rw [h8]; exact h3
  · split at h
    · rename_i ci fs hw
      have h9 := of_decide_eq_true h
      obtain ⟨r, h1, cell, g1, g2, g3, -⟩ := (hW.1 _ _ hw).2
      refine ⟨cell, g1, by rw [g3]; rfl, ?_⟩
      have h8 := (hE.1.1.1 ci r h1).2.1
      rw [List.getD_eq_getElem?_getD, h1] at h9
      rw [g2, ← h9]
      exact h8
    · cases h
set_option maxHeartbeats 4000000 in
set_option maxRecDepth 100000 in
/-- a call's run, out of the callee's contract -/
theorem xst_call {i : Instr} (B : Bd l X b0 D dA M p s m args meth cd) (hd : decode (mB M) pc = .ok (i, len)) (hL : LH (m2 M) (mL M) lsR ls) (hW : WOK b0 D dA w n H) (hS : va_S (KA b0) s.heap H locs) {q : Cll} (h : xst X M pc i len ls st w n c sl = some (.inr (.inr q))) (hcc : c + mC q.1 ≤ mC M) (hss : sl + mS q.1 ≤ mS M) :
    q.1 < LAWM ∧ (∀ v ∈ q.2.1, v.category = 1) ∧ ∀ o : Otc, CtrM l X b0 D dA q.1 q.2.1 w n o → ∃ a : Array Value, vx_Run p l e (rmM M) s m args below meth cd H locs c sl (mC q.1) (mS q.1) (F0 m pc lsR st) q.2.2 (QcM b0 D dA o a) (XcM b0 D dA o) (KA b0) := by
  obtain ⟨⟨hx, hb, -, hml⟩, ⟨hown, hts, hlk, hnm⟩, htb, hE, hst⟩ := B
  have hsz : lsR.size = mL M := hL.2.1.1
  have pre : ∀ vs : List Value, ∀ U : State, U.heap = H → s.WarmedH U.vm → PcM X b0 D dA vs w n vs.toArray U := fun vs U hU hWU => ⟨rfl, by rw [hU]; exact hW, by rw [hU]; exact hE.warm hWU hS.1 hS.2.1⟩
  have room : ∀ M2 : Nat, fits2 M M2 = true → (rmM M2).frames + 1 ≤ (rmM M).frames ∧ 8 + (mL M2 + 11) + (rmM M2).locals ≤ (rmM M).locals := fun M2 hf => of_decide_eq_true (p := mF M2 + 1 ≤ mF M ∧ 8 + (mL M2 + 11) + mO M2 ≤ mO M) hf
  have lvr : ∀ r : Stk, r.length ≤ 4 → 2 * (F0 m pc lsR st).monitorRoom + (r.map fun v => v.category).sum ≤ 8 := fun r hr => lv_room (by have := cat_sum r; omega)
  cases i
  case invokestatic idx =>
    obtain ⟨rfl, h1⟩ := g1_inv h
    split at h1
    · rename_i M2 k hcall
      split at h1
      · rename_i vs r hpop
        obtain ⟨f1, f2, rfl⟩ := xcl_inv h1
        obtain ⟨us, e1, e2, e3, e4⟩ := popv_inv _ _ _ _ _ hpop
        rw [List.append_nil] at e1
        subst e1
        obtain ⟨r9, hm9, -, -, e5⟩ := call_ok hcall
        have h9 := List.all_eq_true.mp CT_ok r9 hm9
        unfold okC at h9
        rw [e5] at h9
        simp only [Bool.and_eq_true, decide_eq_true_eq, beq_iff_eq] at h9
        obtain ⟨⟨hM, hT⟩, hA⟩ := h9
        obtain ⟨⟨g1, g2, g3, g4⟩, g5, g6, -, g8⟩ := mth_ok hM
        have hlink : Cond.methodLink (cname (mN M)) idx (mY M2) ∈ ALLG := call_w hcall (by decide)
        have hsw : Cond.static (mY M2) ∈ ALLG := by unfold stw at g6; rw [hT] at g6; exact g6
        refine ⟨hM, e4, fun o hM2 => ⟨vs.toArray, ?_⟩⟩
        have hG : GoodIn ALLG (va_wsS (cname (mN M)) idx (mY M2) (wsM M2)) := by
          intro w9 hw9
          unfold va_wsS at hw9
          rcases List.mem_append.mp hw9 with h8 | h8
          · simp only [List.mem_cons, List.not_mem_nil, or_false] at h8
            rcases h8 with rfl | rfl | rfl
            · exact good_ALLG hlink
            · exact good_ALLG hsw
            · exact good_ALLG g8
          · exact ws_good hM w9 h8
        by_cases hH : mH M2 = []
        · have hw2 : wsM M2 = Cond.code (mY M2) (mB M2) (mL M2) (mR M2) :: ALLG := by unfold wsM hdw; rw [hH]
          exact vx_runS (Ts := ALLG) ⟨hx, hb, hml, hown, hts⟩ hM2 (va_cwS k hts hG hw2 rfl rfl ⟨g3.1, g3.2, by rw [← hA]; exact g4⟩ (room M2 f1)) ⟨PcM_blind, pre vs⟩ rfl e2 hsz e3 (lvr r f2) hd ⟨hcc, hss⟩
        · have hw2 : wsM M2 = Cond.codeWith (mY M2) (mB M2) (mL M2) (mR M2) (mH M2) :: ALLG := by
            unfold wsM hdw
            cases hq : mH M2 with
            | nil => exact absurd hq hH
            | cons a b => rfl
          exact vx_runSX (Ts := ALLG) ⟨hx, hb, hml, hown, hts⟩ hM2 (vx_cwSW k hts hG hw2 rfl rfl ⟨g3.1, g3.2, by rw [← hA]; exact g4⟩ (room M2 f1)) ⟨PcM_blind, pre vs⟩ rfl e2 hsz e3 (lvr r f2) hd ⟨hcc, hss⟩
      · cases h1
    · split at h1
      · obtain ⟨y, r, rfl, h2⟩ := qi_inv h1
        obtain ⟨x, r, rfl, h3⟩ := qi_inv h2
        cases h3
      · cases h1
    · split at h1
      · obtain ⟨y, r, rfl, h2⟩ := qi_inv h1
        obtain ⟨x, r, rfl, h3⟩ := qi_inv h2
        cases h3
      · cases h1
    · cases h1
  case invokevirtual idx =>
    obtain ⟨rfl, h1⟩ := g1_inv h
    split at h1
    · rename_i M2 k hcall
      split at h1
      · rename_i vs r0 hpop
        obtain ⟨b, r, hr0, h2⟩ := qr_inv h1
        obtain ⟨hrc, h3⟩ := gc_inv h2
        obtain ⟨f1, f2, rfl⟩ := xcl_inv h3
        obtain ⟨us, e1, e2, e3, e4⟩ := popv_inv _ _ _ _ _ hpop
        rw [List.append_nil] at e1
        subst e1
        subst hr0
        obtain ⟨r9, hm9, -, -, e5⟩ := call_ok hcall
        have h9 := List.all_eq_true.mp CT_ok r9 hm9
        unfold okC at h9
        rw [e5] at h9
        simp only [Bool.and_eq_true, decide_eq_true_eq, beq_iff_eq, Bool.not_eq_true', List.isEmpty_iff] at h9
        obtain ⟨⟨⟨⟨hM, hT⟩, hI⟩, hH⟩, hA⟩ := h9
        obtain ⟨⟨g1, g2, g3, g4⟩, g5, g6, g7, g8⟩ := mth_ok hM
        have hlink : Cond.methodLink (cname (mN M)) idx (mY M2) ∈ ALLG := call_w hcall (by decide)
        have hsw : Cond.instanceMethod (mY M2) ∈ ALLG := by unfold stw at g6; rw [hT] at g6; exact g6
        refine ⟨hM, fun v hv => ?_, fun o hM2 => ⟨(Value.ref b :: vs).toArray, ?_⟩⟩
        · rcases List.mem_cons.mp hv with rfl | hv
          · rfl
          · exact e4 v hv
        have hG : GoodIn ALLG (wsV (cname (mN M)) idx (mY M2).cls (mY M2) (wsM M2)) := by
          intro w9 hw9
          unfold wsV at hw9
          rcases List.mem_append.mp hw9 with h8 | h8
          · simp only [List.mem_cons, List.not_mem_nil, or_false] at h8
            rcases h8 with rfl | rfl | rfl | rfl
            · exact good_ALLG hlink
            · exact good_ALLG hsw
            · exact good_ALLG (g7 hT hI)
            · exact good_ALLG g8
          · exact ws_good hM w9 h8
        have hw2 : wsM M2 = Cond.code (mY M2) (mB M2) (mL M2) (mR M2) :: ALLG := by unfold wsM hdw; rw [hH]
        exact vx_runV (Ts := ALLG) ⟨hx, hb, hml, hown, hts⟩ hM2 (cwV k hts hG hw2 rfl rfl ⟨rfl, g3.1, g3.2, by rw [← hA]; exact g4⟩ (room M2 f1)) ⟨PcM_blind, rcv_ok hM hT hE hW hS hrc, pre (.ref b :: vs)⟩ rfl e2 hsz e3 (lvr r f2) hd ⟨hcc, hss⟩
      · cases h1
    · cases h1
  case invokespecial idx =>
    obtain ⟨rfl, h1⟩ := g1_inv h
    split at h1
    · obtain ⟨y, r, rfl, h2⟩ := qr_inv h1
      split at h2 <;> cases h2
    · rename_i M2 k hcall
      split at h1
      · rename_i vs r0 hpop
        obtain ⟨b, r, hr0, h3⟩ := qr_inv h1
        obtain ⟨f1, f2, rfl⟩ := xcl_inv h3
        obtain ⟨us, e1, e2, e3, e4⟩ := popv_inv _ _ _ _ _ hpop
        rw [List.append_nil] at e1
        subst e1
        subst hr0
        obtain ⟨r9, hm9, -, -, e5⟩ := call_ok hcall
        have h9 := List.all_eq_true.mp CT_ok r9 hm9
        unfold okC at h9
        rw [e5] at h9
        simp only [Bool.and_eq_true, decide_eq_true_eq, beq_iff_eq, Bool.not_eq_true', List.isEmpty_iff] at h9
        obtain ⟨⟨⟨⟨⟨hM, hT⟩, hI⟩, hH⟩, hRt⟩, hA⟩ := h9
        obtain ⟨⟨g1, g2, g3, g4⟩, g5, g6, -, g8⟩ := mth_ok hM
        have hlink : Cond.methodLink (cname (mN M)) idx (mY M2) ∈ ALLG := call_w hcall (by decide)
        have hsw : Cond.instanceMethod (mY M2) ∈ ALLG := by unfold stw at g6; rw [hT] at g6; exact g6
        refine ⟨hM, fun v hv => ?_, fun o hM2 => ⟨(Value.ref b :: vs).toArray, ?_⟩⟩
        · rcases List.mem_cons.mp hv with rfl | hv
          · rfl
          · exact e4 v hv
        have hw2 : wsM M2 = Cond.code (mY M2) (mB M2) (mL M2) none :: ALLG := by unfold wsM hdw; rw [hH, hRt]
        exact vx_runI (Ts := ALLG) ⟨hx, hb, hml, hown, hts⟩ hM2 (cwI k hts (ws_good hM) hw2 rfl rfl (hts _ g8) (hts _ hlink) (hts _ hsw) (beq_iff_eq.mp hI) ⟨g3.1, g3.2, by rw [← hA]; exact g4⟩ (room M2 f1)) ⟨PcM_blind, pre (.ref b :: vs)⟩ rfl e2 hsz e3 (lvr r f2) hd ⟨hcc, hss⟩
      · cases h1
    · rename_i M2 k hcall
      split at h1
      · rename_i vs r0 hpop
        obtain ⟨b, r, hr0, h3⟩ := qr_inv h1
        obtain ⟨f1, f2, rfl⟩ := xcl_inv h3
        obtain ⟨us, e1, e2, e3, e4⟩ := popv_inv _ _ _ _ _ hpop
        rw [List.append_nil] at e1
        subst e1
        subst hr0
        obtain ⟨r9, hm9, e6, e7, e5⟩ := call_ok hcall
        have h9 := List.all_eq_true.mp CT_ok r9 hm9
        unfold okC at h9
        rw [e5] at h9
        simp only [Bool.and_eq_true, decide_eq_true_eq, beq_iff_eq, Bool.not_eq_true', List.isEmpty_iff] at h9
        obtain ⟨⟨⟨⟨⟨hM, hT⟩, hI⟩, hH⟩, hRt⟩, hA⟩ := h9
        obtain ⟨⟨g1, g2, g3, g4⟩, g5, g6, -, g8⟩ := mth_ok hM
        have hnest : va_Nw (.methodLinkNest (cname (mN M)) idx (mY M2) "SoupTable") s := by
          rcases List.mem_append.mp hm9 with h7 | h7
          · have h6 := Bool.and_eq_true_iff.mp (List.all_eq_true.mp CTN_ok r9 h7)
            have h4 := of_decide_eq_true h6.2
            rw [e6, e7, e5] at h4
            exact hE.2.2.2.2.2.2.1.1 _ h4 rfl
          · have h6 := of_decide_eq_true (List.all_eq_true.mp CTA_no3 r9 h7)
            rw [e5] at h6
            exact absurd rfl h6
        have hsw : Cond.instanceMethod (mY M2) ∈ ALLG := by unfold stw at g6; rw [hT] at g6; exact g6
        refine ⟨hM, fun v hv => ?_, fun o hM2 => ⟨(Value.ref b :: vs).toArray, ?_⟩⟩
        · rcases List.mem_cons.mp hv with rfl | hv
          · rfl
          · exact e4 v hv
        have hw2 : wsM M2 = Cond.code (mY M2) (mB M2) (mL M2) none :: ALLG := by unfold wsM hdw; rw [hH, hRt]
        exact vx_runIN (Ts := ALLG) (host := "SoupTable") ⟨hx, hb, hml, hown, hts⟩ hM2 ⟨va_cnB k hts (ws_good hM) hw2 rfl rfl hnest (hts _ g8) ⟨g3.1, g3.2, by rw [← hA]; exact g4⟩ (room M2 f1), beq_iff_eq.mp hI, hts _ hsw⟩ ⟨PcM_blind, pre (.ref b :: vs)⟩ rfl e2 hsz e3 (lvr r f2) hd ⟨hcc, hss⟩
      · cases h1
    · cases h1
  case getfield idx =>
    obtain ⟨-, h1⟩ := g1_inv h
    obtain ⟨_, _, _, h2⟩ := qr_inv h1
    (repeat' split at h2) <;> first | cases h2 | (obtain ⟨-, h8⟩ := gc_inv h2; cases h8)
  case putfield idx =>
    obtain ⟨-, h1⟩ := g1_inv h
    obtain ⟨_, _, _, _, h2⟩ := q1_inv h1
    obtain ⟨_, _, _, h3⟩ := qr_inv h2
    (repeat' split at h3) <;> first | cases h3 | (obtain ⟨-, h8⟩ := gc_inv h3; cases h8)
  case iaload =>
    obtain ⟨-, h1⟩ := g1_inv h
    obtain ⟨_, _, _, h2⟩ := qi_inv h1
    obtain ⟨_, _, _, h3⟩ := qr_inv h2
    (repeat' split at h3) <;> first | cases h3 | (obtain ⟨-, h8⟩ := gc_inv h3; cases h8)
  case caload =>
    obtain ⟨-, h1⟩ := g1_inv h
    obtain ⟨_, _, _, h2⟩ := qi_inv h1
    obtain ⟨_, _, _, h3⟩ := qr_inv h2
    (repeat' split at h3) <;> first | cases h3 | (obtain ⟨-, h8⟩ := gc_inv h3; cases h8)
  case laload =>
    obtain ⟨-, h1⟩ := g1_inv h
    obtain ⟨_, _, _, h2⟩ := qi_inv h1
    obtain ⟨_, _, _, h3⟩ := qr_inv h2
    (repeat' split at h3) <;> first | cases h3 | (obtain ⟨-, h8⟩ := gc_inv h3; cases h8)
  case daload =>
    obtain ⟨-, h1⟩ := g1_inv h
    obtain ⟨_, _, _, h2⟩ := qi_inv h1
    obtain ⟨_, _, _, h3⟩ := qr_inv h2
    (repeat' split at h3) <;> first | cases h3 | (obtain ⟨-, h8⟩ := gc_inv h3; cases h8)
  case aaload =>
    obtain ⟨-, h1⟩ := g1_inv h
    obtain ⟨_, _, _, h2⟩ := qi_inv h1
    obtain ⟨_, _, _, h3⟩ := qr_inv h2
    (repeat' split at h3) <;> first | cases h3 | (obtain ⟨-, h8⟩ := gc_inv h3; cases h8)
  case iastore =>
    obtain ⟨-, h1⟩ := g1_inv h
    obtain ⟨_, _, _, h2⟩ := qi_inv h1
    obtain ⟨_, _, _, h3⟩ := qi_inv h2
    obtain ⟨_, _, _, h4⟩ := qr_inv h3
    (repeat' split at h4) <;> first | cases h4 | (obtain ⟨-, h8⟩ := gc_inv h4; cases h8)
  case castore =>
    obtain ⟨-, h1⟩ := g1_inv h
    obtain ⟨_, _, _, h2⟩ := qi_inv h1
    obtain ⟨_, _, _, h3⟩ := qi_inv h2
    obtain ⟨_, _, _, h4⟩ := qr_inv h3
    (repeat' split at h4) <;> first | cases h4 | (obtain ⟨-, h8⟩ := gc_inv h4; cases h8)
  case lastore =>
    obtain ⟨-, h1⟩ := g1_inv h
    obtain ⟨_, _, _, h2⟩ := ql_inv h1
    obtain ⟨_, _, _, h3⟩ := qi_inv h2
    obtain ⟨_, _, _, h4⟩ := qr_inv h3
    (repeat' split at h4) <;> first | cases h4 | (obtain ⟨-, h8⟩ := gc_inv h4; cases h8)
  case dastore =>
    obtain ⟨-, h1⟩ := g1_inv h
    obtain ⟨_, _, _, h2⟩ := qd_inv h1
    obtain ⟨_, _, _, h3⟩ := qi_inv h2
    obtain ⟨_, _, _, h4⟩ := qr_inv h3
    (repeat' split at h4) <;> first | cases h4 | (obtain ⟨-, h8⟩ := gc_inv h4; cases h8)
  case aastore =>
    obtain ⟨-, h1⟩ := g1_inv h
    obtain ⟨_, _, _, h2⟩ := qr_inv h1
    obtain ⟨_, _, _, h3⟩ := qi_inv h2
    obtain ⟨_, _, _, h4⟩ := qr_inv h3
    (repeat' split at h4) <;> first | cases h4 | (obtain ⟨-, h8⟩ := gc_inv h4; cases h8)
  case arraylength =>
    obtain ⟨-, h1⟩ := g1_inv h
    obtain ⟨_, _, _, h2⟩ := qr_inv h1
    (repeat' split at h2) <;> first | cases h2 | (obtain ⟨-, h8⟩ := gc_inv h2; cases h8)
  case baload =>
    obtain ⟨-, h1⟩ := g1_inv h
    obtain ⟨_, _, _, h2⟩ := qi_inv h1
    obtain ⟨_, _, _, h3⟩ := qr_inv h2
    (repeat' split at h3) <;> first | cases h3 | (obtain ⟨-, h8⟩ := gc_inv h3; cases h8)
  case getstatic idx =>
    obtain ⟨-, h1⟩ := g1_inv h
    (repeat' split at h1) <;> first | cases h1 | (obtain ⟨-, h8⟩ := gc_inv h1; cases h8)
  case ldc idx =>
    obtain ⟨-, h1⟩ := g1_inv h
    (repeat' split at h1) <;> first | cases h1 | (obtain ⟨-, h8⟩ := gc_inv h1; cases h8)
  case ldc_w idx =>
    obtain ⟨-, h1⟩ := g1_inv h
    (repeat' split at h1) <;> first | cases h1 | (obtain ⟨-, h8⟩ := gc_inv h1; cases h8)
  case new idx =>
    obtain ⟨-, h1⟩ := g1_inv h
    (repeat' split at h1) <;> first | cases h1 | (obtain ⟨-, h8⟩ := gc_inv h1; cases h8)
  case newarray ty =>
    obtain ⟨-, h1⟩ := g1_inv h
    obtain ⟨_, _, _, h2⟩ := qi_inv h1
    (repeat' split at h2) <;> first | cases h2 | (obtain ⟨-, h8⟩ := gc_inv h2; cases h8)
  case anewarray idx =>
    obtain ⟨-, h1⟩ := g1_inv h
    obtain ⟨_, _, _, h2⟩ := qi_inv h1
    (repeat' split at h2) <;> first | cases h2 | (obtain ⟨-, h8⟩ := gc_inv h2; cases h8)
  case ireturn =>
    obtain ⟨-, h1⟩ := g1_inv h
    obtain ⟨_, _, _, h2⟩ := qi_inv h1
    (repeat' split at h2) <;> first | cases h2 | (obtain ⟨-, h8⟩ := gc_inv h2; cases h8)
  case freturn =>
    obtain ⟨-, h1⟩ := g1_inv h
    obtain ⟨_, _, _, h2⟩ := qf_inv h1
    (repeat' split at h2) <;> first | cases h2 | (obtain ⟨-, h8⟩ := gc_inv h2; cases h8)
  case dreturn =>
    obtain ⟨-, h1⟩ := g1_inv h
    obtain ⟨_, _, _, h2⟩ := qd_inv h1
    (repeat' split at h2) <;> first | cases h2 | (obtain ⟨-, h8⟩ := gc_inv h2; cases h8)
  case areturn =>
    obtain ⟨-, h1⟩ := g1_inv h
    obtain ⟨_, _, _, h2⟩ := qr_inv h1
    (repeat' split at h2) <;> first | cases h2 | (obtain ⟨-, h8⟩ := gc_inv h2; cases h8)
  case return_ =>
    obtain ⟨-, h1⟩ := g1_inv h
    (repeat' split at h1) <;> first | cases h1 | (obtain ⟨-, h8⟩ := gc_inv h1; cases h8)
  all_goals exact (xst_call_not (ls := ls) (st := st) (w := w) (n := n) (c := c) (sl := sl) hd h).elim
end CALLS
end
section
/-! ===== SOUNDNESS of returns and throws ===== -/
theorem own_any {own own2 X9 : String} {ic ic2 : Nat} {N9 : List String} {w : Cond} (h : w ∈ Bundle.ownAtoms own ic X9 N9) : w = .methodLink own ic (Bundle.initS X9) ∨ w ∈ Bundle.ownAtoms own2 ic2 X9 N9 := by
  unfold Bundle.ownAtoms at h ⊢
  rcases List.mem_append.mp h with h | h
  · exact Or.inr (List.mem_append_left _ h)
  · rcases List.mem_cons.mp h with h | h
    · exact Or.inl h
    · exact Or.inr (List.mem_append_right _ (List.mem_cons_of_mem _ h))
theorem no_q : ∀ k, k < 5 → (Bundle.ownAtoms "q" 1 (EXN.getD k "") NMX).all (fun w => decide (w ≠ .methodLink "" 0 (Bundle.initS (EXN.getD k "")))) = true := by
  intro k hk
  rcases (show k = 0 ∨ k = 1 ∨ k = 2 ∨ k = 3 ∨ k = 4 by omega) with rfl | rfl | rfl | rfl | rfl <;> decide +kernel
theorem okX_all : ∀ k, k < 5 → okX (EXN.getD k "") = true := by
  intro k hk
  rcases (show k = 0 ∨ k = 1 ∨ k = 2 ∨ k = 3 ∨ k = 4 by omega) with rfl | rfl | rfl | rfl | rfl
  · exact okX_0
  · exact okX_1
  · exact okX_2
  · exact okX_3
  · exact okX_4
theorem goodOn {w : Cond} (h : goodWord w = true) : vx_ot w = true := by unfold vx_ot; rw [h]; exact Bool.or_true _
theorem ngwOt {w : Cond} (h : ngw w = true) : vx_ot w = true := by unfold vx_ot; rw [ngw_on h]; rfl
/-- the words of a throw -/
theorem thw_ok {own : String} {ic k : Nat} (hk : k < 5) (hlk : Cond.methodLink own ic (Bundle.initS (EXN.getD k "")) ∈ ALLG) : ∀ w ∈ vx_atS own ic (EXN.getD k "") NMX, w ∈ ALLG ∨ (w ∈ lw_tbl ∧ ngw w = true) := by
  intro w hw
  unfold vx_atS at hw
  obtain ⟨h1, h2⟩ := List.mem_filter.mp hw
  rcases own_any (own2 := "") (ic2 := 0) h1 with rfl | h3
  · exact Or.inl hlk
  · have h4 : w ∈ thw (EXN.getD k "") := List.mem_filter.mpr ⟨h3, h2⟩
    have h5 := okX_all k hk
    unfold okX at h5
    have h6 := List.all_eq_true.mp (Bool.and_eq_true_iff.mp h5).2 w h4
    rcases Bool.or_eq_true_iff.mp h6 with h7 | h7
    · rcases own_any (own2 := "q") (ic2 := 1) h1 with rfl | h8
      · exact Or.inl hlk
      · exact absurd (of_decide_eq_true h7) (of_decide_eq_true (List.all_eq_true.mp (no_q k hk) w h8))
    · have h8 := Bool.and_eq_true_iff.mp h7
      rcases Bool.or_eq_true_iff.mp h8.2 with h9 | h9
      · exact Or.inl (List.mem_filter.mpr ⟨of_decide_eq_true h8.1, h9⟩)
      · exact Or.inr ⟨of_decide_eq_true h8.1, h9⟩
/-- a throw's instructions, its own link, its class's link; the room -/
def okT (q : Nat × Nat × Nat × Nat × Nat × Nat × Nat) : Bool :=
  decide (decode (mB q.1) q.2.1 = .ok (.new q.2.2.2.2.1, 3)) && decide (decode (mB q.1) (q.2.1 + 3) = .ok (.dup, 1)) &&
  (match q.2.2.1 with
    | 0 => decide (decode (mB q.1) (q.2.1 + 4) = .ok (.ldc q.2.2.2.2.2.1, 2)) && decide (decode (mB q.1) (q.2.1 + 6) = .ok (.invokespecial q.2.2.2.2.2.2, 3)) && decide (decode (mB q.1) (q.2.1 + 9) = .ok (.athrow, 1))
    | _ => decide (decode (mB q.1) (q.2.1 + 4) = .ok (.ldc_w q.2.2.2.2.2.1, 3)) && decide (decode (mB q.1) (q.2.1 + 7) = .ok (.invokespecial q.2.2.2.2.2.2, 3)) && decide (decode (mB q.1) (q.2.1 + 10) = .ok (.athrow, 1))) &&
  (mH q.1).isEmpty && decide (6 ≤ mF q.1) && decide (100 ≤ mO q.1) && decide (mN q.1 = 5)
theorem TT_ok : TT.all okT = true := by decide +kernel
/-- the links out of SoupTable that throws use: the class, its constructor -/
def TLK : List (Nat × Nat × Nat) := (TT.map fun q => (q.2.2.2.1, q.2.2.2.2.1, q.2.2.2.2.2.2)).eraseDups
theorem TLK_in : ∀ q ∈ TT, (q.2.2.2.1, q.2.2.2.2.1, q.2.2.2.2.2.2) ∈ TLK := by
  have h : TT.all (fun q => decide ((q.2.2.2.1, q.2.2.2.2.1, q.2.2.2.2.2.2) ∈ TLK)) = true := by decide +kernel
  exact fun q hq => of_decide_eq_true (List.all_eq_true.mp h q hq)
def inG (w : Cond) : Bool := decide (w ∈ lw_tbl) && goodWord w
theorem inG_ok {w : Cond} (h : inG w = true) : w ∈ ALLG := List.mem_filter.mpr ⟨of_decide_eq_true (Bool.and_eq_true_iff.mp h).1, (Bool.and_eq_true_iff.mp h).2⟩
theorem TLK_ok : TLK.all (fun q => inG (.classLink "SoupTable" q.2.1 (EXN.getD q.1 "")) && inG (.initialized (EXN.getD q.1 "")) && inG (.methodLink "SoupTable" q.2.2 (Bundle.initS (EXN.getD q.1 "")))) = true := by decide +kernel
theorem xcl_no2 {M M2 : Nat} {vs : List Value} {r : Stk} {o : Otc} : ¬ xcl M M2 vs r = some (.inr (.inl o)) := by
  unfold xcl
  split
  · intro h; cases h
  · intro h; cases h
section ENDS
variable {p : Program} {l : Launch} {e : Env} {s : State} {m : MethodId} {args : Array Value} {below : List Frame} {meth : Method} {cd : Code} {H : Heap} {locs : List Loc} {Q : State → Prop}
variable {X : Cxt} {b0 : Nat} {D : va_G} {dA : Nat → ClassId} {M : Nat} {pc len : Nat} {ls : Lcs} {st : Stk} {w : Wld} {n : Option Nat} {c sl : Nat} {lsR : Array Slot}
/-- the throw of a NoSuchElementException (its constructor's entry is not the kit's) -/
theorem thr_nse (B : Bd l X b0 D dA M p s m args meth cd) (hL : LH (m2 M) (mL M) lsR ls) (hW : WOK b0 D dA w n H) (hS : va_S (KA b0) s.heap H locs) (hc : c + 1 ≤ mC M) (hs : sl + 6 ≤ mS M) (hst : st.length ≤ 4)
    {q : Nat × Nat × Nat × Nat × Nat × Nat × Nat} (hq : q ∈ TT) (hM : q.1 = M) (hpc : q.2.1 = pc) (hk : q.2.2.2.1 = 5) :
    W p l e (rmM M) s m args below meth cd H locs c sl (vx_MQ below (QcM b0 D dA (.inr "java/util/NoSuchElementException", w, none)) (XcM b0 D dA (.inr "java/util/NoSuchElementException", w, none)) args s (mC M) (mS M) (KA b0)) (F0 m pc lsR st) := by
  sorry
set_option maxHeartbeats 4000000 in
theorem thr_ok (B : Bd l X b0 D dA M p s m args meth cd) (hL : LH (m2 M) (mL M) lsR ls) (hW : WOK b0 D dA w n H) (hS : va_S (KA b0) s.heap H locs) (hc : c + 1 ≤ mC M) (hs : sl + 6 ≤ mS M) (hst : st.length ≤ 4) {E : String} (h : thr M pc = some E) :
    W p l e (rmM M) s m args below meth cd H locs c sl (vx_MQ below (QcM b0 D dA (.inr E, w, none)) (XcM b0 D dA (.inr E, w, none)) args s (mC M) (mS M) (KA b0)) (F0 m pc lsR st) := by
  unfold thr ttf at h
  obtain ⟨q, hq, rfl⟩ := Option.map_eq_some_iff.mp h
  obtain ⟨hm, hp⟩ := find_inv hq
  simp only [Bool.and_eq_true, beq_iff_eq] at hp
  by_cases h5 : q.2.2.2.1 = 5
  · rw [h5]
    exact thr_nse B hL hW hS hc hs hst hm hp.1 hp.2 h5
  · have hk : q.2.2.2.1 < 5 := by
      have h9 : TT.all (fun q => decide (q.2.2.2.1 < 6)) = true := by decide +kernel
      have := of_decide_eq_true (List.all_eq_true.mp h9 q hm)
      omega
    obtain ⟨⟨hx, hb, -, hml⟩, ⟨hown, hts, hlk, hnm⟩, htb, hE, hfl⟩ := B
    obtain ⟨q1, q2, q3, q4, q5, q6, q7⟩ := q
    dsimp only at hp hk h5 ⊢
    obtain ⟨rfl, rfl⟩ := hp
    have hT := List.all_eq_true.mp TT_ok _ hm
    unfold okT at hT
    simp only [Bool.and_eq_true, decide_eq_true_eq, List.isEmpty_iff] at hT
    obtain ⟨⟨⟨⟨⟨⟨d0, d3⟩, dd⟩, hH⟩, hF⟩, hO⟩, hN⟩ := hT
    have hlks := List.all_eq_true.mp TLK_ok _ (TLK_in _ hm)
    simp only [Bool.and_eq_true] at hlks
    obtain ⟨⟨l1, l2⟩, l3⟩ := hlks
    have hown5 : s.vm.findClass "SoupTable" = some m.cls := by rw [hN] at hown; exact hown
    obtain ⟨tx, sa, hvk⟩ := hE.2.1.2 _ hm
    dsimp only at hvk
    rw [hN] at hvk
    have hat := thw_ok (own := "SoupTable") hk (inG_ok l3)
    have hat2 : ∀ w ∈ vx_atS "SoupTable" q7 (EXN.getD q4 "") NMX, w.before args s = true := fun w hw => by
      rcases hat w hw with h | h
      · exact hts w h
      · exact (hE.2.2.2.2.2.2.1.1 w h.1 h.2).use (ngw_on h.2)
    have hgood : ∀ w ∈ Cond.classLink "SoupTable" q5 (EXN.getD q4 "") :: Cond.initialized (EXN.getD q4 "") :: vx_atS "SoupTable" q7 (EXN.getD q4 "") NMX, vx_ot w = true := fun w hw => by
      rcases List.mem_cons.mp hw with rfl | hw
      · exact goodOn (List.mem_filter.mp (inG_ok l1)).2
      · rcases List.mem_cons.mp hw with rfl | hw
        · exact goodOn (List.mem_filter.mp (inG_ok l2)).2
        · rcases hat w hw with h | h
          · exact goodOn (List.mem_filter.mp h).2
          · exact ngwOt h.2
    have hfit : Bundle.fit (EXN.getD q4 "") = true := (Bool.and_eq_true_iff.mp (okX_all q4 hk)).1
    have hout : ∀ x ∈ cd.exceptionTable.toList, ∀ k : Nat, covers x k = false := by
      rw [htb, hH]
      intro x hx
      exact nomatch hx
    have hXc : ∀ t : State, s.vm.Alike t.vm → H.size ≤ t.heap.size → (∀ q : Nat, q < H.size → t.heap[q]? = H[q]?) → XcM b0 D dA (.inr (EXN.getD q4 ""), w, none) (EXN.getD q4 "") s t := fun t _ hz ho =>
      ⟨rfl, hW.forget hz ho, Nat.le_trans hS.1 hz, fun q h1 h2 => (ho q (Nat.lt_of_lt_of_le h1 hS.1)).trans (hS.2.1 q h1 h2)⟩
    have hcat := cat_sum st
    have hRl : (st.map fun v => v.category).sum + (13 * (NMX.length + 1) + 43) ≤ (rmM q1).locals := by
      show _ + (13 * (2 + 1) + 43) ≤ mO q1
      omega
    match q3, dd with
    | 0, dd =>
      simp only [Bool.and_eq_true, decide_eq_true_eq] at dd
      obtain ⟨⟨d4, d6⟩, d9⟩ := dd
      exact vx_throwS (own := "SoupTable") (names := NMX) (text := tx) (sa := sa) (A := KA b0) hx hb hfl hown5 hfit NMX_ok (hts _ (inG_ok l1)) (hts _ (inG_ok l2)) hvk hat2 hgood hE.2.2.2.2.2.1.1 hE.2.2.2.2.2.1.2 hS (hL.2.1.1.trans hml.symm) d0 d3 d4 d6 d9 (fun x hx => hout x hx _) (by show 2 + 3 < mF q1; omega) hRl hc hs hlk hXc hS.2.2 hc hs
    | k + 1, dd =>
      simp only [Bool.and_eq_true, decide_eq_true_eq] at dd
      obtain ⟨⟨d4, d7⟩, d10⟩ := dd
      exact vx_throwSW (own := "SoupTable") (names := NMX) (text := tx) (sa := sa) (A := KA b0) hx hb hfl hown5 hfit NMX_ok (hts _ (inG_ok l1)) (hts _ (inG_ok l2)) hvk hat2 hgood hE.2.2.2.2.2.1.1 hE.2.2.2.2.2.1.2 hS (hL.2.1.1.trans hml.symm) d0 d3 d4 d7 d10 (fun x hx => hout x hx _) (by show 2 + 3 < mF q1; omega) hRl hc hs hlk hXc hS.2.2 hc hs
theorem xst_end_not {i : Instr} {o : Otc} (_ : decode (mB M) pc = .ok (i, len)) (h : xpst M pc i len ls st w n c sl = some (.inr (.inl o))) : False := by
  unfold xpst at h
  split at h <;> cases h
set_option maxHeartbeats 4000000 in
set_option maxRecDepth 100000 in
/-- a method's end -/
theorem xst_end {i : Instr} (B : Bd l X b0 D dA M p s m args meth cd) (hd : decode (mB M) pc = .ok (i, len)) (hL : LH (m2 M) (mL M) lsR ls) (hW : WOK b0 D dA w n H) (hS : va_S (KA b0) s.heap H locs) (hc : c ≤ mC M) (hs : sl ≤ mS M) {o : Otc} (h : xst X M pc i len ls st w n c sl = some (.inr (.inl o))) :
    W p l e (rmM M) s m args below meth cd H locs c sl (vx_MQ below (QcM b0 D dA o) (XcM b0 D dA o) args s (mC M) (mS M) (KA b0)) (F0 m pc lsR st) := by
  have B' := B
  obtain ⟨⟨hx, hb, hr, hml⟩, ⟨hown, hts, hlk, hnm⟩, htb, hE, hfl⟩ := B
  have hq : ∀ (v : Option Value) (w : Wld) (n : Option Nat), WOK b0 D dA w n H → ∀ t : State, t.heap = H → s.WarmedH t.vm → QcM b0 D dA (.inl v, w, n) args s (.returned v) t := fun v w n hW t ht _ => ⟨v, rfl, rfl, by rw [ht]; exact hW, hS.F ht⟩
  cases i
  case new idx =>
    obtain ⟨rfl, h1⟩ := g1_inv h
    split at h1
    · rename_i E hE9
      split at h1
      · rename_i hroom
        cases h1
        exact thr_ok B' hL hW hS hroom.1 hroom.2.1 hroom.2.2 hE9
      · cases h1
    · (repeat' split at h1) <;> cases h1
  case ireturn =>
    obtain ⟨rfl, h1⟩ := g1_inv h
    obtain ⟨x, r, rfl, h2⟩ := qi_inv h1
    split at h2
    · obtain ⟨h3, h4⟩ := gc_inv h2
      cases h4
      refine vx_ret (W.widen hc hs ?_)
      unfold okr at h3
      split at h3
      · rename_i hret
        exact W.iret hx hb (hr.trans hret) (hq _ _ _ hW) hS.2.2 hd hlk
      · rename_i hret
        exact W.zret hx hb (hr.trans hret) (of_decide_eq_true h3) (hq _ _ _ hW) hS.2.2 hd hlk
      · rename_i hret
        exact W.zret hx hb (hr.trans hret) (of_decide_eq_true h3) (hq _ _ _ hW) hS.2.2 hd hlk
      · rename_i hret
        exact W.zret hx hb (hr.trans hret) (of_decide_eq_true h3) (hq _ _ _ hW) hS.2.2 hd hlk
      · cases h3
    · cases h2
  case freturn =>
    obtain ⟨rfl, h1⟩ := g1_inv h
    obtain ⟨x, r, rfl, h2⟩ := qf_inv h1
    split at h2
    · obtain ⟨h3, h4⟩ := gc_inv h2
      cases h4
      exact vx_ret (W.widen hc hs (W.fret hx hb (hr.trans (of_decide_eq_true h3)) (hq _ _ _ hW) hS.2.2 hd hlk))
    · cases h2
  case dreturn =>
    obtain ⟨rfl, h1⟩ := g1_inv h
    obtain ⟨x, r, rfl, h2⟩ := qd_inv h1
    split at h2
    · obtain ⟨h3, h4⟩ := gc_inv h2
      cases h4
      exact vx_ret (W.widen hc hs (W.dret hx hb (hr.trans (of_decide_eq_true h3)) (hq _ _ _ hW) hS.2.2 hd hlk))
    · cases h2
  case areturn =>
    obtain ⟨rfl, h1⟩ := g1_inv h
    obtain ⟨x, r, rfl, h2⟩ := qr_inv h1
    split at h2
    · obtain ⟨h3, h4⟩ := gc_inv h2
      cases h4
      unfold isob at h3
      split at h3
      · rename_i nm9 hret
        exact vx_ret (W.widen hc hs (W.aret hx hb (hr.trans hret) (Or.inl ⟨_, rfl⟩) (Or.inr ⟨_, rfl⟩) (hq _ _ _ hW) hS.2.2 hd hlk))
      · cases h3
    · cases h2
  case return_ =>
    obtain ⟨rfl, h1⟩ := g1_inv h
    split at h1
    · obtain ⟨h3, h4⟩ := gc_inv h1
      cases h4
      exact vx_ret (W.widen hc hs (W.vret hx hb (hr.trans (of_decide_eq_true h3)) (hq _ _ _ hW) hS.2.2 hd hlk))
    · cases h1
  case getfield idx =>
    obtain ⟨-, h1⟩ := g1_inv h
    obtain ⟨_, _, _, h2⟩ := qr_inv h1
    (repeat' split at h2) <;> first | cases h2 | (obtain ⟨-, h8⟩ := gc_inv h2; cases h8)
  case putfield idx =>
    obtain ⟨-, h1⟩ := g1_inv h
    obtain ⟨_, _, _, _, h2⟩ := q1_inv h1
    obtain ⟨_, _, _, h3⟩ := qr_inv h2
    (repeat' split at h3) <;> first | cases h3 | (obtain ⟨-, h8⟩ := gc_inv h3; cases h8)
  case iaload =>
    obtain ⟨-, h1⟩ := g1_inv h
    obtain ⟨_, _, _, h2⟩ := qi_inv h1
    obtain ⟨_, _, _, h3⟩ := qr_inv h2
    (repeat' split at h3) <;> first | cases h3 | (obtain ⟨-, h8⟩ := gc_inv h3; cases h8)
  case caload =>
    obtain ⟨-, h1⟩ := g1_inv h
    obtain ⟨_, _, _, h2⟩ := qi_inv h1
    obtain ⟨_, _, _, h3⟩ := qr_inv h2
    (repeat' split at h3) <;> first | cases h3 | (obtain ⟨-, h8⟩ := gc_inv h3; cases h8)
  case laload =>
    obtain ⟨-, h1⟩ := g1_inv h
    obtain ⟨_, _, _, h2⟩ := qi_inv h1
    obtain ⟨_, _, _, h3⟩ := qr_inv h2
    (repeat' split at h3) <;> first | cases h3 | (obtain ⟨-, h8⟩ := gc_inv h3; cases h8)
  case daload =>
    obtain ⟨-, h1⟩ := g1_inv h
    obtain ⟨_, _, _, h2⟩ := qi_inv h1
    obtain ⟨_, _, _, h3⟩ := qr_inv h2
    (repeat' split at h3) <;> first | cases h3 | (obtain ⟨-, h8⟩ := gc_inv h3; cases h8)
  case aaload =>
    obtain ⟨-, h1⟩ := g1_inv h
    obtain ⟨_, _, _, h2⟩ := qi_inv h1
    obtain ⟨_, _, _, h3⟩ := qr_inv h2
    (repeat' split at h3) <;> first | cases h3 | (obtain ⟨-, h8⟩ := gc_inv h3; cases h8)
  case iastore =>
    obtain ⟨-, h1⟩ := g1_inv h
    obtain ⟨_, _, _, h2⟩ := qi_inv h1
    obtain ⟨_, _, _, h3⟩ := qi_inv h2
    obtain ⟨_, _, _, h4⟩ := qr_inv h3
    (repeat' split at h4) <;> first | cases h4 | (obtain ⟨-, h8⟩ := gc_inv h4; cases h8)
  case castore =>
    obtain ⟨-, h1⟩ := g1_inv h
    obtain ⟨_, _, _, h2⟩ := qi_inv h1
    obtain ⟨_, _, _, h3⟩ := qi_inv h2
    obtain ⟨_, _, _, h4⟩ := qr_inv h3
    (repeat' split at h4) <;> first | cases h4 | (obtain ⟨-, h8⟩ := gc_inv h4; cases h8)
  case lastore =>
    obtain ⟨-, h1⟩ := g1_inv h
    obtain ⟨_, _, _, h2⟩ := ql_inv h1
    obtain ⟨_, _, _, h3⟩ := qi_inv h2
    obtain ⟨_, _, _, h4⟩ := qr_inv h3
    (repeat' split at h4) <;> first | cases h4 | (obtain ⟨-, h8⟩ := gc_inv h4; cases h8)
  case dastore =>
    obtain ⟨-, h1⟩ := g1_inv h
    obtain ⟨_, _, _, h2⟩ := qd_inv h1
    obtain ⟨_, _, _, h3⟩ := qi_inv h2
    obtain ⟨_, _, _, h4⟩ := qr_inv h3
    (repeat' split at h4) <;> first | cases h4 | (obtain ⟨-, h8⟩ := gc_inv h4; cases h8)
  case aastore =>
    obtain ⟨-, h1⟩ := g1_inv h
    obtain ⟨_, _, _, h2⟩ := qr_inv h1
    obtain ⟨_, _, _, h3⟩ := qi_inv h2
    obtain ⟨_, _, _, h4⟩ := qr_inv h3
    (repeat' split at h4) <;> first | cases h4 | (obtain ⟨-, h8⟩ := gc_inv h4; cases h8)
  case arraylength =>
    obtain ⟨-, h1⟩ := g1_inv h
    obtain ⟨_, _, _, h2⟩ := qr_inv h1
    (repeat' split at h2) <;> first | cases h2 | (obtain ⟨-, h8⟩ := gc_inv h2; cases h8)
  case baload =>
    obtain ⟨-, h1⟩ := g1_inv h
    obtain ⟨_, _, _, h2⟩ := qi_inv h1
    obtain ⟨_, _, _, h3⟩ := qr_inv h2
    (repeat' split at h3) <;> first | cases h3 | (obtain ⟨-, h8⟩ := gc_inv h3; cases h8)
  case getstatic idx =>
    obtain ⟨-, h1⟩ := g1_inv h
    (repeat' split at h1) <;> first | cases h1 | (obtain ⟨-, h8⟩ := gc_inv h1; cases h8)
  case ldc idx =>
    obtain ⟨-, h1⟩ := g1_inv h
    (repeat' split at h1) <;> first | cases h1 | (obtain ⟨-, h8⟩ := gc_inv h1; cases h8)
  case ldc_w idx =>
    obtain ⟨-, h1⟩ := g1_inv h
    (repeat' split at h1) <;> first | cases h1 | (obtain ⟨-, h8⟩ := gc_inv h1; cases h8)
  case newarray ty =>
    obtain ⟨-, h1⟩ := g1_inv h
    obtain ⟨_, _, _, h2⟩ := qi_inv h1
    (repeat' split at h2) <;> first | cases h2 | (obtain ⟨-, h8⟩ := gc_inv h2; cases h8)
  case anewarray idx =>
    obtain ⟨-, h1⟩ := g1_inv h
    obtain ⟨_, _, _, h2⟩ := qi_inv h1
    (repeat' split at h2) <;> first | cases h2 | (obtain ⟨-, h8⟩ := gc_inv h2; cases h8)
  case invokestatic idx =>
    obtain ⟨-, h1⟩ := g1_inv h
    split at h1
    · split at h1
      · exact absurd h1 xcl_no2
      · cases h1
    · split at h1
      · obtain ⟨_, _, -, h2⟩ := qi_inv h1
        obtain ⟨_, _, -, h3⟩ := qi_inv h2
        cases h3
      · cases h1
    · split at h1
      · obtain ⟨_, _, -, h2⟩ := qi_inv h1
        obtain ⟨_, _, -, h3⟩ := qi_inv h2
        cases h3
      · cases h1
    · cases h1
  case invokevirtual idx =>
    obtain ⟨-, h1⟩ := g1_inv h
    split at h1
    · split at h1
      · obtain ⟨_, _, -, h2⟩ := qr_inv h1
        obtain ⟨-, h3⟩ := gc_inv h2
        exact absurd h3 xcl_no2
      · cases h1
    · cases h1
  case invokespecial idx =>
    obtain ⟨-, h1⟩ := g1_inv h
    split at h1
    · obtain ⟨_, _, -, h2⟩ := qr_inv h1
      split at h2 <;> cases h2
    · split at h1
      · obtain ⟨_, _, -, h2⟩ := qr_inv h1
        exact absurd h2 xcl_no2
      · cases h1
    · split at h1
      · obtain ⟨_, _, -, h2⟩ := qr_inv h1
        exact absurd h2 xcl_no2
      · cases h1
    · cases h1
  all_goals exact (xst_end_not (ls := ls) (st := st) (w := w) (n := n) (c := c) (sl := sl) hd h).elim
end ENDS
end
section
/-! ===== SOUNDNESS of a run ===== -/
theorem LH.mono {c2 : Bool} {nL : Nat} {lsR : Array Slot} {ls ls2 : Lcs} (h : LH c2 nL lsR ls) (hlen : ls2.length = ls.length) (hs : ∀ (i : Nat) (v : Value), ls2[i]? = some (some v) → ls[i]? = some (some v)) : LH c2 nL lsR ls2 := by
  refine ⟨hlen.trans h.1, ⟨h.2.1.1, h.2.1.2.1, fun q hq => ?_⟩, fun hf i v hv => h.2.2 hf i v (hs i v hv)⟩
  obtain ⟨j, u⟩ := q
  exact h.2.1.2.2 (j, u) (mem_prs.mpr (hs j u (mem_prs.mp hq)))
theorem LAW_L : mL LAWM = 9 := by decide +kernel
theorem LH.mk {M pc : Nat} {lsR : Array Slot} {ls : Lcs} (h : LH (m2 M) (mL M) lsR ls) : LH (m2 M) (mL M) lsR (e_mk M pc ls) := by
  unfold e_mk
  split
  · rename_i hh
    have hM : M = LAWM := hh.1
    have hl : ls.length = 9 := by rw [h.1, hM, LAW_L]
    refine h.mono (by simp; omega) (fun i v hv => ?_)
    by_cases hi : i < 6
    · rw [List.getElem?_append_left (by simp; omega)] at hv
      rw [List.getElem?_take_of_lt hi] at hv
      exact hv
    · rw [List.getElem?_append_right (by simp; omega)] at hv
      have hv2 := List.mem_of_getElem? hv
      simp at hv2
  · exact h
theorem lv_args_at : ∀ (vs : List Value) (k : Nat), (∀ v ∈ vs, v.category = 1) → ∀ (j : Nat) (v : Value), vs[j]? = some v → (k + j, v) ∈ lv_args k vs := by
  intro vs
  induction vs with
  | nil => intro k _ j v hv; simp at hv
  | cons a vs ih =>
    intro k hc j v hv
    have hca := hc a List.mem_cons_self
    unfold lv_args
    match j, hv with
    | 0, hv =>
      cases hv
      exact List.mem_cons_self
    | j + 1, hv =>
      refine List.mem_cons_of_mem _ ?_
      have h9 := ih (k + 1) (fun u hu => hc u (List.mem_cons_of_mem _ hu)) j v hv
      rw [show k + (j + 1) = k + 1 + j by omega]
      first
        | exact h9
        | (rw [hca]; exact h9)
        | (simp only [hca]; exact h9)
theorem sl_len : ∀ vs : List Value, (∀ v ∈ vs, v.category = 1) → (lg_sl vs).length = vs.length := by
  intro vs
  induction vs with
  | nil => intro _; rfl
  | cons a vs ih =>
    intro hc
    have hca := hc a List.mem_cons_self
    have h9 := ih (fun u hu => hc u (List.mem_cons_of_mem _ hu))
    unfold lg_sl at h9 ⊢
    rw [List.flatMap_cons, List.length_append, h9, if_neg (by rw [hca]; decide)]
    simp only [List.length_cons, List.length_nil]
    omega
theorem LH_entry {M : Nat} {vs : List Value} (hc : ∀ v ∈ vs, v.category = 1) (hl : vs.length ≤ mL M) : LH (m2 M) (mL M) (lg_sl vs ++ List.replicate (mL M - (lg_sl vs).length) Slot.unset).toArray (entl M vs) := by
  have h1 := lv_entry vs (n := mL M) (by rw [sl_len vs hc]; exact hl)
  have hat : ∀ (i : Nat) (v : Value), (entl M vs)[i]? = some (some v) → vs[i]? = some v := by
    intro i v hv
    unfold entl at hv
    by_cases hi : i < vs.length
    · rw [List.getElem?_append_left (by simpa using hi), List.getElem?_map] at hv
      cases hx : vs[i]? with
      | none => rw [hx] at hv; cases hv
      | some u => rw [hx] at hv; cases hv; rfl
    · rw [List.getElem?_append_right (by simpa using hi)] at hv
      have := List.mem_of_getElem? hv
      have := List.eq_of_mem_replicate this
      cases this
  refine ⟨by unfold entl; simp; omega, ⟨h1.1, h1.2.1, fun q hq => ?_⟩, fun _ i v hv => hc v (List.mem_of_getElem? (hat i v hv))⟩
  obtain ⟨j, u⟩ := q
  have h2 := lv_args_at vs 0 hc j u (hat j u (mem_prs.mp hq))
  rw [Nat.zero_add] at h2
  exact h1.2.2 (j, u) h2
/-- a handler's row: its entry of the table, the words, what is ahead of it, its first instruction -/
def okH (q : Hrw) : Bool := match q with
  | (M, e, hp, k, nx, a, b, ct, ln, pc1, pc2, j, pe, pp) =>
    decide (M < LAWM) && decide ((mH M)[j]? = some (a, b, hp, ct)) && decide (ct ≠ 0) && inG (.classLink (cname (mN M)) ct (EXN.getD e "")) && decide (Cond.castable (EXN.getD e "") (EXN.getD e "") ∈ lw_tbl) && decide (k < mL M) && decide (m2 M = false) && decide (nx = hp + ln) &&
    (decide (∃ kk : Fin 4, (kk : Nat) = k ∧ decode (mB M) hp = .ok (.astore_n kk, 1) ∧ ln = 1) || decide (decode (mB M) hp = .ok (.astore k, 2) ∧ ln = 2)) &&
    (match j with
      | 0 => true
      | 1 => (match (mH M)[0]? with
        | some h => decide (h.2.2.2 ≠ 0) && inG (.classLink (cname (mN M)) h.2.2.2 (EXN.getD pe "")) && decide ((e, pe) ∈ NCP)
        | none => false)
      | _ => false)
theorem HT_ok : HT.all okH = true := by decide +kernel
end
section
section SOUND
variable {p : Program} {l : Launch} {e : Env} {s : State} {m : MethodId} {args : Array Value} {below : List Frame} {meth : Method} {cd : Code} {H : Heap} {locs : List Loc} {Q : State → Prop}
variable {X : Cxt} {b0 : Nat} {D : va_G} {dA : Nat → ClassId} {M : Nat} {pc len : Nat} {ls : Lcs} {st : Stk} {w : Wld} {n : Option Nat} {c sl : Nat} {lsR : Array Slot}
theorem hdl_ok {E : String} {kq : Nat × Nat} (B : Bd l X b0 D dA M p s m args meth cd) (hL : LH (m2 M) (mL M) lsR ls) (hh : hdl M pc E = some kq) {ce : Cell} {q9 : Addr} (hce : H[q9]? = some ce) (hv : ce.vm = .none) (hcl : s.vm.findClass E = some ce.cls)
    (kk : ∀ lsR2 : Array Slot, LH (m2 M) (mL M) lsR2 (ls.set kq.1 none) → W p l e (rmM M) s m args below meth cd H locs c sl Q (F0 m kq.2 lsR2 [])) {rest : Stk} : vx_W p l e (rmM M) s m args below meth cd H locs c sl Q (F0 m pc lsR rest) q9 := by
  obtain ⟨⟨hx, hb, -, hml⟩, ⟨hown, hts, hlk, hnm⟩, htb, hE, hfl⟩ := B
  unfold hdl hdf at hh
  obtain ⟨q, hq, rfl⟩ := Option.map_eq_some_iff.mp hh
  obtain ⟨hm, hp⟩ := find_inv hq
  have h1 := List.all_eq_true.mp HT_ok q hm
  obtain ⟨M9, e9, hp9, k9, nx9, a9, b9, ct9, ln9, p1, p2, j9, pe9, pp9⟩ := q
  simp only [Bool.and_eq_true, beq_iff_eq, decide_eq_true_eq] at hp
  obtain ⟨⟨⟨rfl, rfl⟩, ha⟩, hbb⟩ := hp
  unfold okH at h1
  simp only [Bool.and_eq_true, decide_eq_true_eq, Bool.or_eq_true] at h1
  obtain ⟨⟨⟨⟨⟨⟨⟨⟨⟨hMl, hj⟩, hct⟩, hcl9⟩, hcs⟩, hk⟩, hc2⟩, hnx⟩, hst⟩, hpre⟩ := h1
  dsimp only at kk hcl ⊢
  have hxe : (tableOf (mH M9))[j9]? = some ⟨a9, b9, hp9, ct9⟩ := by
    unfold tableOf
    rw [List.getElem?_map, hj]
    rfl
  have hsplit : cd.exceptionTable.toList = (tableOf (mH M9)).take j9 ++ ⟨a9, b9, hp9, ct9⟩ :: (tableOf (mH M9)).drop (j9 + 1) := by
    rw [htb]
    obtain ⟨hlt, he⟩ := List.getElem?_eq_some_iff.mp hxe
    rw [← he, ← List.drop_eq_getElem_cons hlt, List.take_append_drop]
  refine vx_catch (own := cname (mN M9)) (name := EXN.getD e9 "") (E := EXN.getD e9 "") hown _ _ _ hsplit ?_ ?_ hct (hts _ (inG_ok hcl9)) ((hE.2.2.2.2.2.2.1.1 _ hcs rfl).use rfl) hce hv hcl ?_
  · intro z hz
    refine Or.inr ?_
    split at hpre
    · simp at hz
    · split at hpre
      · rename_i h0 hh0
        simp only [Bool.and_eq_true, decide_eq_true_eq] at hpre
        obtain ⟨⟨u1, u2⟩, u3⟩ := hpre
        have hz0 : z = ⟨h0.1, h0.2.1, h0.2.2.1, h0.2.2.2⟩ := by
          have h9 : (tableOf (mH M9)).take 1 = [⟨h0.1, h0.2.1, h0.2.2.1, h0.2.2.2⟩] := by
            unfold tableOf
            cases hmm : mH M9 with
            | nil => rw [hmm] at hh0; cases hh0
            | cons x y => rw [hmm] at hh0; cases hh0; rfl
          rw [h9] at hz
          exact List.mem_singleton.mp hz
        subst hz0
        exact ⟨u1, EXN.getD pe9 "", hts _ (inG_ok u2), hE.2.2.2.2.2.2.1.2 _ u3⟩
      · cases hpre
    · cases hpre
  · show (decide (a9 ≤ pc) && decide (pc < b9)) = true
    simp only [Bool.and_eq_true, decide_eq_true_eq]
    exact ⟨ha, hbb⟩
  · have hkl : k9 < ls.length := by rw [hL.1]; exact hk
    have fin : ∀ lsR2 : Array Slot, LH (m2 M9) (mL M9) lsR2 (e_st (m2 M9) ls k9 (.ref q9)) → LH (m2 M9) (mL M9) lsR2 (ls.set k9 none) := by
      intro lsR2 h2
      refine h2.mono (by unfold e_st; rw [hc2]; simp) (fun i v hi => ?_)
      unfold e_st
      rw [hc2]
      rw [List.getElem?_set] at hi ⊢
      by_cases hik : k9 = i
      · rw [if_pos hik] at hi
        split at hi <;> cases hi
      · rw [if_neg hik] at hi ⊢
        exact hi
    rcases hst with ⟨kf, hkf, hdd, hln⟩ | ⟨hdd, hln⟩
    · refine pst_ok (c2 := m2 M9) hx hb hdd hL (ls2 := e_st (m2 M9) ls k9 (.ref q9)) (st2 := []) (pc2 := nx9) ?_ (fun lsR2 h2 => kk lsR2 (fin lsR2 h2))
      subst hln
      subst hkf
      rw [hnx]
      show g1 1 1 (qr [Value.ref q9] fun x r => gst ls (kf : Nat) (some (hp9 + 1, e_st (m2 M9) ls (kf : Nat) (.ref x), r))) = _
      rw [g1_same]
      show gst ls (kf : Nat) _ = _
      unfold gst
      rw [if_pos hkl]
    · refine pst_ok (c2 := m2 M9) hx hb hdd hL (ls2 := e_st (m2 M9) ls k9 (.ref q9)) (st2 := []) (pc2 := nx9) ?_ (fun lsR2 h2 => kk lsR2 (fin lsR2 h2))
      subst hln
      rw [hnx]
      show g1 2 2 (qr [Value.ref q9] fun x r => gst ls k9 (some (hp9 + 2, e_st (m2 M9) ls k9 (.ref x), r))) = _
      rw [g1_same]
      show gst ls k9 _ = _
      unfold gst
      rw [if_pos hkl]
/-- what is shown of every run of f turns -/
def Snd (l : Launch) (X : Cxt) (b0 : Nat) (D : va_G) (dA : Nat → ClassId) (f : Nat) : Prop :=
  ∀ (M pc : Nat) (ls : Lcs) (st : Stk) (w : Wld) (n : Option Nat) (c sl : Nat) (o : Otc), ex X f M pc ls st w n c sl = some o → ∀ (p : Program) (e : Env) (s : State) (m : MethodId) (args : Array Value) (below : List Frame) (meth : Method) (cd : Code) (H : Heap) (locs : List Loc) (lsR : Array Slot), Bd l X b0 D dA M p s m args meth cd → LH (m2 M) (mL M) lsR ls → WOK b0 D dA w n H → va_S (KA b0) s.heap H locs → c ≤ mC M → sl ≤ mS M →
    W p l e (rmM M) s m args below meth cd H locs c sl (vx_MQ below (QcM b0 D dA o) (XcM b0 D dA o) args s (mC M) (mS M) (KA b0)) (F0 m pc lsR st)
theorem ctr_of {f : Nat} (IH : Snd l X b0 D dA f) (hfl : l.stackTraces = false) (hM : M < LAWM) {vs : List Value} (hcat : ∀ v ∈ vs, v.category = 1) (hl : vs.length ≤ mL M) {o : Otc} (h : ex X f M 0 (entl M vs) [] w n 0 0 = some o) : CtrM l X b0 D dA M vs w n o := by
  obtain ⟨⟨g1, g2, g3, g4⟩, g5, g6, g7, g8⟩ := mth_ok hM
  have body : ∀ (p : Program) (e : Env) (s : State) (m : MethodId) (args : Array Value) (below : List Frame) (meth : Method) (cd : Code) (s₁ : State), BodyLoose p l (mY M) (headSpec (wsM M) (rmM M)) (mB M) (mL M) (mR M) e s m args below meth cd s₁ → cd.maxLocals = mL M → cd.exceptionTable.toList = tableOf (mH M) → PcM X b0 D dA vs w n args s →
      W p l e (headSpec (wsM M) (rmM M)).room s m args below meth cd s.heap [] 0 0 (vx_MQ below (QcM b0 D dA o) (XcM b0 D dA o) args s (mC M) (mS M) (KA b0)) (entryFrame m args (mL M)) := by
    intro p e s m args below meth cd s₁ B hml htb hv
    obtain ⟨rfl, hW, hE⟩ := hv
    have hts := atoms_spec (ws := wsM M) B.pre
    have hown : s.vm.findClass (mY M).cls = some m.cls := findClass_of_methodNamed B.named
    rw [lg_entry_eq]
    refine IH M 0 (entl M vs) [] w n 0 0 o h p e s m _ below meth cd s.heap [] _ ⟨⟨B.exec, B.bytes, B.returns, hml⟩, ⟨by rw [g2]; exact hown, fun w hw => hts w (List.mem_cons_of_mem _ hw), B.notSynchronized, (name_of_methodNamed B.named B.method).1⟩, htb, hE, hfl⟩ (LH_entry hcat hl) hW va_S.rf (Nat.zero_le _) (Nat.zero_le _)
  unfold CtrM
  by_cases hH : mH M = []
  · have hw2 : wsM M = Cond.code (mY M) (mB M) (mL M) (mR M) :: ALLG := by unfold wsM hdw; rw [hH]
    refine vx_ofW (cc := mB M) (maxL := mL M) (ret := mR M) g1 hw2 ?_
    intro p e s m args below meth cd s₁ B hml htb hv
    refine body p e s m args below meth cd s₁ B hml ?_ hv
    rw [hH]
    cases hx : cd.exceptionTable.toList with
    | nil => rfl
    | cons a b => exact absurd (htb a (by rw [hx]; exact List.mem_cons_self)) id
  · have hw2 : wsM M = Cond.codeWith (mY M) (mB M) (mL M) (mR M) (mH M) :: ALLG := by
      unfold wsM hdw
      cases hq : mH M with
      | nil => exact absurd hq hH
      | cons a b => rfl
    refine vx_ofWH (cc := mB M) (maxL := mL M) (ret := mR M) (hh := mH M) g1 hw2 ?_
    intro p e s m args below meth cd s₁ B hml hv
    exact body p e s m args below meth cd s₁ B hml (vx_table (x := mY M) B (atoms_spec (ws := wsM M) B.pre _ (by rw [hw2]; exact List.mem_cons_self))) hv
theorem sound (hfl : l.stackTraces = false) : ∀ f : Nat, Snd l X b0 D dA f := by
  intro f
  induction f with
  | zero => intro M pc ls st w n c sl o h; cases h
  | succ f ih =>
    intro M pc ls st w n c sl o h p e s m args below meth cd H locs lsR B hL hW hS hc hs
    rw [ex] at h
    have hL2 := hL.mk (pc := pc)
    split at h
    · cases h
    · rename_i i len hd
      split at h
      · cases h
      · rename_i q hq
        refine xst_ok B hd hL2 hW hS hc hs hq ?_
        intro H1 locs1 lsR1 hL1 hW1 hS1 hc1 hs1
        exact ih _ _ _ _ _ _ _ _ _ h p e s m args below meth cd H1 locs1 lsR1 B hL1 hW1 hS1 hc1 hs1
      · rename_i q hq
        cases h
        exact xst_end B hd hL2 hW hS hc hs hq
      · rename_i q hq
        split at h
        · cases h
        · rename_i o2 ho2
          split at h
          · rename_i hroom
            obtain ⟨r1, r2, r3⟩ := hroom
            obtain ⟨hM, hcat, hcall⟩ := xst_call B hd hL2 hW hS hq r1 r2
            obtain ⟨a9, hrun⟩ := hcall o2 (ctr_of ih hfl hM hcat r3 ho2)
            refine vx_go hrun hS (fun v hv H1 locs1 hW1 hS1 => ?_) (fun E hE9 ce q9 H1 locs1 hW1 hS1 hce hcv hcl => ?_)
            · rw [hv] at h
              exact ih _ _ _ _ _ _ _ _ _ h p e s m args below meth cd H1 locs1 lsR B hL2 hW1 hS1 r1 r2
            · rw [hE9] at h
              dsimp only at h
              split at h
              · rename_i hmh
                cases h
                refine vx_out (fun x hx => ?_) B.2.1.2.2.1 hce hcv hcl (fun t ht _ => ⟨rfl, by rw [ht]; exact hW1, hS1.F ht⟩) hS1.2.2 r1 r2
                rw [B.2.2.1, hmh] at hx
                exact nomatch hx
              · split at h
                · rename_i kq hkq
                  exact hdl_ok B hL2 hkq hce hcv hcl (fun lsR2 h2 => ih _ _ _ _ _ _ _ _ _ h p e s m args below meth cd H1 locs1 lsR2 B h2 hW1 hS1 r1 r2)
                · cases h
          · cases h
end SOUND
end
section
/-! ===== ROWS of the abstract machine: what a run from here needs, an instruction each ===== -/
section ROWS
variable {X : Cxt} {M pc : Nat} {ls : Lcs} {st : Stk} {w : Wld} {n : Option Nat} {c sl : Nat} {Q : (Option Value ⊕ String) → Wld → Option Nat → Prop}
def isP : Instr → Bool
  | .getfield _ | .putfield _ | .iaload | .caload | .laload | .daload | .aaload | .iastore | .castore | .lastore | .dastore | .aastore | .arraylength | .baload | .getstatic _ | .ldc _ | .ldc_w _ | .new _ | .newarray _ | .anewarray _ | .ireturn | .freturn | .dreturn | .areturn | .return_ | .invokestatic _ | .invokevirtual _ | .invokespecial _ => false
  | _ => true
theorem isP_x {i : Instr} (h : isP i = true) {len : Nat} : xst X M pc i len ls st w n c sl = xpst M pc i len ls st w n c sl := by
  cases i <;> first | rfl | cases h
theorem ex_det {f g : Nat} {o1 o2 : Otc} (h1 : ex X f M pc ls st w n c sl = some o1) (h2 : ex X g M pc ls st w n c sl = some o2) : o1 = o2 := by
  have a := ex_up X h1 (Nat.le_max_left f g)
  have b := ex_up X h2 (Nat.le_max_right f g)
  exact Option.some.inj (a.symm.trans b)
/-- a method whose locals hold no long, no double; not the law -/
def okP (M : Nat) : Bool := !m2 M && !Nat.beq M LAWM
theorem okP_m {M : Nat} (h : okP M = true) : m2 M = false := by
  unfold okP at h
  simp only [Bool.and_eq_true, Bool.not_eq_true'] at h
  exact h.1
theorem okP_mk {M pc : Nat} {ls : Lcs} (h : okP M = true) : e_mk M pc ls = ls := by
  unfold okP at h
  simp only [Bool.and_eq_true, Bool.not_eq_true'] at h
  unfold e_mk
  rw [if_neg]
  rintro ⟨e1, -⟩
  rw [e1] at h
  exact absurd h.2 (by decide)
theorem Ev_nx {i : Instr} {len : Nat} (hd : decode (mB M) pc = .ok (i, len)) {q : Nxt} (h : xst X M pc i len (e_mk M pc ls) st w n c sl = some (.inl q)) : Ev X M pc ls st w n c sl Q ↔ Ev X M q.1 q.2.1 q.2.2.1 q.2.2.2.1 q.2.2.2.2.1 q.2.2.2.2.2.1 q.2.2.2.2.2.2 Q := by
  constructor
  · rintro ⟨f, o, h1, h2⟩
    cases f with
    | zero => cases h1
    | succ f =>
      rw [ex, hd] at h1
      dsimp only at h1
      rw [h] at h1
      exact ⟨f, o, h1, h2⟩
  · rintro ⟨f, o, h1, h2⟩
    refine ⟨f + 1, o, ?_, h2⟩
    rw [ex, hd]
    dsimp only
    rw [h]
    exact h1
theorem Ev_no {i : Instr} {len : Nat} (hd : decode (mB M) pc = .ok (i, len)) (h : xst X M pc i len (e_mk M pc ls) st w n c sl = none) : ¬ Ev X M pc ls st w n c sl Q := by
  rintro ⟨f, o, h1, h2⟩
  cases f with
  | zero => cases h1
  | succ f =>
    rw [ex, hd] at h1
    dsimp only at h1
    rw [h] at h1
    cases h1
theorem Ev_out {i : Instr} {len : Nat} (hd : decode (mB M) pc = .ok (i, len)) {o : Otc} (h : xst X M pc i len (e_mk M pc ls) st w n c sl = some (.inr (.inl o))) : Ev X M pc ls st w n c sl Q ↔ Q o.1 o.2.1 o.2.2 := by
  constructor
  · rintro ⟨f, o2, h1, h2⟩
    cases f with
    | zero => cases h1
    | succ f =>
      rw [ex, hd] at h1
      dsimp only at h1
      rw [h] at h1
      cases h1
      exact h2
  · intro h2
    refine ⟨1, o, ?_, h2⟩
    rw [ex, hd]
    dsimp only
    rw [h]
theorem E_p {i : Instr} {len : Nat} {pc2 : Nat} {ls2 : Lcs} {st2 : Stk} (hk : okP M = true) (hd : decode (mB M) pc = .ok (i, len)) (hi : isP i = true) (hp : pst false i len pc ls st = some (pc2, ls2, st2)) : Ev X M pc ls st w n c sl Q ↔ Ev X M pc2 ls2 st2 w n c sl Q := by
  refine Ev_nx (q := (pc2, ls2, st2, w, n, c, sl)) hd ?_
  rw [okP_mk hk, isP_x hi]
  unfold xpst
  rw [okP_m hk, hp]
  rfl
/-- a row's pure part with a branch: the place alone depends -/
theorem E_b {i : Instr} {len : Nat} {P : Prop} [Decidable P] {t1 t2 : Nat} {ls2 : Lcs} {st2 : Stk} (hk : okP M = true) (hd : decode (mB M) pc = .ok (i, len)) (hi : isP i = true) (hp : pst false i len pc ls st = some (if P then t1 else t2, ls2, st2)) : Ev X M pc ls st w n c sl Q ↔ if P then Ev X M t1 ls2 st2 w n c sl Q else Ev X M t2 ls2 st2 w n c sl Q := by
  rw [E_p hk hd hi hp]
  split <;> rfl
theorem pst_if {cd : ClassFile.Cond} {off : Int} {t : Nat} {x : Int32} {r : Stk} (ht : tgt pc off = some t) : pst false (.ifCond cd off) 3 pc ls (.int x :: r) = some (if cmp0 cd x = true then t else pc + 3, ls, r) := by
  show g1 3 3 (qi (.int x :: r) fun x r => gt pc off fun t => some (if cmp0 cd x = true then t else pc + 3, ls, r)) = _
  rw [g1_same]
  show gt pc off _ = _
  unfold gt
  rw [ht]
theorem pst_icmp {cd : ClassFile.Cond} {off : Int} {t : Nat} {x y : Int32} {r : Stk} (ht : tgt pc off = some t) : pst false (.if_icmp cd off) 3 pc ls (.int y :: .int x :: r) = some (if cmp2 cd x y = true then t else pc + 3, ls, r) := by
  show g1 3 3 (qi (.int y :: .int x :: r) fun y r => qi r fun x r => gt pc off fun t => some (if cmp2 cd x y = true then t else pc + 3, ls, r)) = _
  rw [g1_same]
  show gt pc off _ = _
  unfold gt
  rw [ht]
theorem ite_not' {α : Sort _} {P R : Prop} [Decidable P] [Decidable R] (h : P ↔ ¬ R) (a b : α) : (if P then a else b) = if R then b else a := by
  by_cases hr : R
  · rw [if_neg (fun p => (h.mp p) hr), if_pos hr]
  · rw [if_pos (h.mpr hr), if_neg hr]
theorem E_ifeq {off : Int} {t : Nat} {x : Int32} (hk : okP M = true) (hd : decode (mB M) pc = .ok (.ifCond .eq off, 3)) (ht : tgt pc off = some t) : Ev X M pc ls (.int x :: st) w n c sl Q ↔ if x = 0 then Ev X M t ls st w n c sl Q else Ev X M (pc + 3) ls st w n c sl Q :=
  E_b hk hd rfl (by rw [pst_if ht]; simp only [cmp0, decide_eq_true_eq])
theorem E_ifne {off : Int} {t : Nat} {x : Int32} (hk : okP M = true) (hd : decode (mB M) pc = .ok (.ifCond .ne off, 3)) (ht : tgt pc off = some t) : Ev X M pc ls (.int x :: st) w n c sl Q ↔ if x = 0 then Ev X M (pc + 3) ls st w n c sl Q else Ev X M t ls st w n c sl Q :=
  E_b hk hd rfl (by rw [pst_if ht, ite_not' (R := x = 0) (by simp only [cmp0, decide_eq_true_eq])])
theorem E_iflt {off : Int} {t : Nat} {x : Int32} (hk : okP M = true) (hd : decode (mB M) pc = .ok (.ifCond .lt off, 3)) (ht : tgt pc off = some t) : Ev X M pc ls (.int x :: st) w n c sl Q ↔ if x < 0 then Ev X M t ls st w n c sl Q else Ev X M (pc + 3) ls st w n c sl Q :=
  E_b hk hd rfl (by rw [pst_if ht]; simp only [cmp0, decide_eq_true_eq])
theorem E_ifge {off : Int} {t : Nat} {x : Int32} (hk : okP M = true) (hd : decode (mB M) pc = .ok (.ifCond .ge off, 3)) (ht : tgt pc off = some t) : Ev X M pc ls (.int x :: st) w n c sl Q ↔ if x < 0 then Ev X M (pc + 3) ls st w n c sl Q else Ev X M t ls st w n c sl Q :=
  E_b hk hd rfl (by rw [pst_if ht, ite_not' (R := x < 0) (by simp only [cmp0, decide_eq_true_eq]; exact Int32.not_lt.symm)])
theorem E_ifgt {off : Int} {t : Nat} {x : Int32} (hk : okP M = true) (hd : decode (mB M) pc = .ok (.ifCond .gt off, 3)) (ht : tgt pc off = some t) : Ev X M pc ls (.int x :: st) w n c sl Q ↔ if 0 < x then Ev X M t ls st w n c sl Q else Ev X M (pc + 3) ls st w n c sl Q :=
  E_b hk hd rfl (by rw [pst_if ht]; simp only [cmp0, decide_eq_true_eq])
theorem E_ifle {off : Int} {t : Nat} {x : Int32} (hk : okP M = true) (hd : decode (mB M) pc = .ok (.ifCond .le off, 3)) (ht : tgt pc off = some t) : Ev X M pc ls (.int x :: st) w n c sl Q ↔ if 0 < x then Ev X M (pc + 3) ls st w n c sl Q else Ev X M t ls st w n c sl Q :=
  E_b hk hd rfl (by rw [pst_if ht, ite_not' (R := 0 < x) (by simp only [cmp0, decide_eq_true_eq]; exact Int32.not_lt.symm)])
theorem E_iceq {off : Int} {t : Nat} {x y : Int32} (hk : okP M = true) (hd : decode (mB M) pc = .ok (.if_icmp .eq off, 3)) (ht : tgt pc off = some t) : Ev X M pc ls (.int y :: .int x :: st) w n c sl Q ↔ if x = y then Ev X M t ls st w n c sl Q else Ev X M (pc + 3) ls st w n c sl Q :=
  E_b hk hd rfl (by rw [pst_icmp ht]; simp only [cmp2, decide_eq_true_eq])
theorem E_icne {off : Int} {t : Nat} {x y : Int32} (hk : okP M = true) (hd : decode (mB M) pc = .ok (.if_icmp .ne off, 3)) (ht : tgt pc off = some t) : Ev X M pc ls (.int y :: .int x :: st) w n c sl Q ↔ if x = y then Ev X M (pc + 3) ls st w n c sl Q else Ev X M t ls st w n c sl Q :=
  E_b hk hd rfl (by rw [pst_icmp ht, ite_not' (R := x = y) (by simp only [cmp2, decide_eq_true_eq])])
theorem E_iclt {off : Int} {t : Nat} {x y : Int32} (hk : okP M = true) (hd : decode (mB M) pc = .ok (.if_icmp .lt off, 3)) (ht : tgt pc off = some t) : Ev X M pc ls (.int y :: .int x :: st) w n c sl Q ↔ if x < y then Ev X M t ls st w n c sl Q else Ev X M (pc + 3) ls st w n c sl Q :=
  E_b hk hd rfl (by rw [pst_icmp ht]; simp only [cmp2, decide_eq_true_eq])
theorem E_icge {off : Int} {t : Nat} {x y : Int32} (hk : okP M = true) (hd : decode (mB M) pc = .ok (.if_icmp .ge off, 3)) (ht : tgt pc off = some t) : Ev X M pc ls (.int y :: .int x :: st) w n c sl Q ↔ if x < y then Ev X M (pc + 3) ls st w n c sl Q else Ev X M t ls st w n c sl Q :=
  E_b hk hd rfl (by rw [pst_icmp ht, ite_not' (R := x < y) (by simp only [cmp2, decide_eq_true_eq]; exact Int32.not_lt.symm)])
theorem E_icgt {off : Int} {t : Nat} {x y : Int32} (hk : okP M = true) (hd : decode (mB M) pc = .ok (.if_icmp .gt off, 3)) (ht : tgt pc off = some t) : Ev X M pc ls (.int y :: .int x :: st) w n c sl Q ↔ if y < x then Ev X M t ls st w n c sl Q else Ev X M (pc + 3) ls st w n c sl Q :=
  E_b hk hd rfl (by rw [pst_icmp ht]; simp only [cmp2, decide_eq_true_eq])
theorem E_icle {off : Int} {t : Nat} {x y : Int32} (hk : okP M = true) (hd : decode (mB M) pc = .ok (.if_icmp .le off, 3)) (ht : tgt pc off = some t) : Ev X M pc ls (.int y :: .int x :: st) w n c sl Q ↔ if y < x then Ev X M (pc + 3) ls st w n c sl Q else Ev X M t ls st w n c sl Q :=
  E_b hk hd rfl (by rw [pst_icmp ht, ite_not' (R := y < x) (by simp only [cmp2, decide_eq_true_eq]; exact Int32.not_lt.symm)])
/-- a step that reads: none, or it goes on with what was read -/
theorem E_rd {i : Instr} {len : Nat} {α : Type} {r : Option α} {q : α → Nxt} (hd : decode (mB M) pc = .ok (i, len)) (hx : xst X M pc i len (e_mk M pc ls) st w n c sl = r.bind fun v => some (.inl (q v))) : Ev X M pc ls st w n c sl Q ↔ ∃ v, r = some v ∧ Ev X M (q v).1 (q v).2.1 (q v).2.2.1 (q v).2.2.2.1 (q v).2.2.2.2.1 (q v).2.2.2.2.2.1 (q v).2.2.2.2.2.2 Q := by
  cases r with
  | none =>
    constructor
    · intro h; exact absurd h (Ev_no hd hx)
    · rintro ⟨v, h, -⟩; cases h
  | some v =>
    rw [Ev_nx hd hx]
    constructor
    · intro h; exact ⟨v, rfl, h⟩
    · rintro ⟨v2, h, h2⟩; cases h; exact h2
theorem match_bind {α β : Type} (r : Option α) (f : α → Option β) : (match r with | some v => f v | none => none) = r.bind f := by cases r <;> rfl
theorem E_getf {idx ci k a : Nat} (hk : okP M = true) (hn : Nat.beq (mK M) 1 = false) (hd : decode (mB M) pc = .ok (.getfield idx, 3)) (hf : fld (mN M) idx = some (ci, k)) : Ev X M pc ls (.ref a :: st) w n c sl Q ↔ ∃ v, gf w a ci k = some v ∧ Ev X M (pc + 3) ls (v :: st) w n c sl Q := by
  refine E_rd (r := gf w a ci k) (q := fun v => (pc + 3, ls, v :: st, w, n, c, sl)) hd ?_
  rw [okP_mk hk]
  show g1 3 3 _ = _
  rw [g1_same]
  show (match mK M with | 1 => _ | _ => _) = _
  split
  · rename_i h1
    rw [h1] at hn
    cases hn
  · rw [hf]
    dsimp only; cases gf w a ci k <;> rfl
theorem E_putf {idx ci k a : Nat} {v : Value} (hk : okP M = true) (hv : v.category = 1) (hd : decode (mB M) pc = .ok (.putfield idx, 3)) (hf : fld (mN M) idx = some (ci, k)) (hp : pok M ci k = true) : Ev X M pc ls (v :: .ref a :: st) w n c sl Q ↔ ∃ w2, pf w a ci k v = some w2 ∧ Ev X M (pc + 3) ls st w2 n c sl Q := by
  refine E_rd (r := pf w a ci k v) (q := fun w2 => (pc + 3, ls, st, w2, n, c, sl)) hd ?_
  rw [okP_mk hk]
  show g1 3 3 _ = _
  rw [g1_same]
  show (if v.category = 1 then _ else _) = _
  rw [if_pos hv]
  show (match fld (mN M) idx with | some q => _ | none => none) = _
  rw [hf]
  dsimp only
  rw [hp]
  cases pf w a ci k v <;> rfl
theorem E_iald {a : Nat} {j : Int32} (hk : okP M = true) (hn : Nat.beq (mK M) 2 = false) (hd : decode (mB M) pc = .ok (.iaload, 1)) : Ev X M pc ls (.int j :: .ref a :: st) w n c sl Q ↔ ∃ v, ga w a 0 j = some v ∧ Ev X M (pc + 1) ls (v :: st) w n c sl Q := by
  refine E_rd (r := ga w a 0 j) (q := fun v => (pc + 1, ls, v :: st, w, n, c, sl)) hd ?_
  rw [okP_mk hk]
  show g1 1 1 _ = _
  rw [g1_same]
  show (match mK M with | 2 => _ | _ => _) = _
  split
  · rename_i h1
    rw [h1] at hn
    cases hn
  · cases ga w a 0 j <;> rfl
theorem E_cald {a : Nat} {j : Int32} (hk : okP M = true) (hd : decode (mB M) pc = .ok (.caload, 1)) : Ev X M pc ls (.int j :: .ref a :: st) w n c sl Q ↔ ∃ v, ga w a 1 j = some v ∧ Ev X M (pc + 1) ls (v :: st) w n c sl Q := by
  refine E_rd (r := ga w a 1 j) (q := fun v => (pc + 1, ls, v :: st, w, n, c, sl)) hd ?_
  rw [okP_mk hk]
  show g1 1 1 (match ga w a 1 j with | some v => nxt (pc + 1) ls (v :: st) w n c sl | none => none) = _
  cases ga w a 1 j <;> rfl
theorem E_aald {a : Nat} {j : Int32} (hk : okP M = true) (hd : decode (mB M) pc = .ok (.aaload, 1)) : Ev X M pc ls (.int j :: .ref a :: st) w n c sl Q ↔ ∃ v, ((ga w a 4 j).or (ga w a 5 j)) = some v ∧ Ev X M (pc + 1) ls (v :: st) w n c sl Q := by
  refine E_rd (r := (ga w a 4 j).or (ga w a 5 j)) (q := fun v => (pc + 1, ls, v :: st, w, n, c, sl)) hd ?_
  rw [okP_mk hk]
  show (match ga w a 4 j with | some v => _ | none => (match ga w a 5 j with | some v => _ | none => none)) = _
  cases ga w a 4 j with
  | some v => rfl
  | none => cases ga w a 5 j <;> rfl
theorem E_iast {a : Nat} {j x : Int32} (hk : okP M = true) (hd : decode (mB M) pc = .ok (.iastore, 1)) : Ev X M pc ls (.int x :: .int j :: .ref a :: st) w n c sl Q ↔ ∃ w2, sa w a 0 j (.int x) = some w2 ∧ Ev X M (pc + 1) ls st w2 n c sl Q := by
  refine E_rd (r := sa w a 0 j (.int x)) (q := fun w2 => (pc + 1, ls, st, w2, n, c, sl)) hd ?_
  rw [okP_mk hk]
  show g1 1 1 (match sa w a 0 j (.int x) with | some w2 => nxt (pc + 1) ls st w2 n c sl | none => none) = _
  cases sa w a 0 j (.int x) <;> rfl
theorem E_cast {a : Nat} {j x : Int32} (hk : okP M = true) (hd : decode (mB M) pc = .ok (.castore, 1)) : Ev X M pc ls (.int x :: .int j :: .ref a :: st) w n c sl Q ↔ ∃ w2, sa w a 1 j (narrow .char (.int x)) = some w2 ∧ Ev X M (pc + 1) ls st w2 n c sl Q := by
  refine E_rd (r := sa w a 1 j (narrow .char (.int x))) (q := fun w2 => (pc + 1, ls, st, w2, n, c, sl)) hd ?_
  rw [okP_mk hk]
  show g1 1 1 (match sa w a 1 j (narrow .char (.int x)) with | some w2 => nxt (pc + 1) ls st w2 n c sl | none => none) = _
  cases sa w a 1 j (narrow .char (.int x)) <;> rfl
theorem E_ldc {idx j : Nat} (hk : okP M = true) (hd : decode (mB M) pc = .ok (.ldc idx, 2)) (hl : lit (mN M) idx = some j) : Ev X M pc ls st w n c sl Q ↔ Ev X M (pc + 2) ls (.ref (X.1 j) :: st) w n c sl Q := by
  refine Ev_nx (q := (pc + 2, ls, .ref (X.1 j) :: st, w, n, c, sl)) hd ?_
  rw [okP_mk hk]
  show g1 2 2 _ = _
  rw [g1_same, hl]
  rfl
theorem E_reti {x : Int32} (hk : okP M = true) (hd : decode (mB M) pc = .ok (.ireturn, 1)) (hr : mR M = some .int) : Ev X M pc ls [.int x] w n c sl Q ↔ Q (.inl (some (.int x))) w n := by
  refine Ev_out (o := (.inl (some (.int x)), w, n)) hd ?_
  rw [okP_mk hk]
  show g1 1 1 (gc (okr (mR M) x) _) = _
  rw [g1_same, hr]
  rfl
theorem E_retz {x : Int32} {ty : FieldType} (hk : okP M = true) (hd : decode (mB M) pc = .ok (.ireturn, 1)) (hr : mR M = some ty) (ho : okr (some ty) x = true) : Ev X M pc ls [.int x] w n c sl Q ↔ Q (.inl (some (.int x))) w n := by
  refine Ev_out (o := (.inl (some (.int x)), w, n)) hd ?_
  rw [okP_mk hk]
  show g1 1 1 (gc (okr (mR M) x) _) = _
  rw [g1_same, hr, ho]
  rfl
theorem E_reta {a : Nat} (hk : okP M = true) (hd : decode (mB M) pc = .ok (.areturn, 1)) (hr : isob (mR M) = true) : Ev X M pc ls [.ref a] w n c sl Q ↔ Q (.inl (some (.ref a))) w n := by
  refine Ev_out (o := (.inl (some (.ref a)), w, n)) hd ?_
  rw [okP_mk hk]
  show g1 1 1 (gc (isob (mR M)) _) = _
  rw [g1_same, hr]
  rfl
theorem E_retv (hk : okP M = true) (hd : decode (mB M) pc = .ok (.return_, 1)) (hr : mR M = none) : Ev X M pc ls [] w n c sl Q ↔ Q (.inl none) w n := by
  refine Ev_out (o := (.inl none, w, n)) hd ?_
  rw [okP_mk hk]
  show g1 1 1 (gc (decide (mR M = none)) _) = _
  rw [g1_same, hr]
  rfl
theorem E_thr {idx : Nat} {E : String} (hk : okP M = true) (hd : decode (mB M) pc = .ok (.new idx, 3)) (ht : thr M pc = some E) (hr : c + 1 ≤ mC M ∧ sl + 6 ≤ mS M ∧ st.length ≤ 4) : Ev X M pc ls st w n c sl Q ↔ Q (.inr E) w none := by
  refine Ev_out (o := (.inr E, w, none)) hd ?_
  rw [okP_mk hk]
  show g1 3 3 (match thr M pc with | some e => _ | none => _) = _
  rw [g1_same, ht]
  dsimp only
  rw [if_pos hr]
/-- what goes on behind a call -/
def Kr (X : Cxt) (M pc : Nat) (ls : Lcs) (st : Stk) (c sl : Nat) (Q : (Option Value ⊕ String) → Wld → Option Nat → Prop) : (Option Value ⊕ String) → Wld → Option Nat → Prop := fun o w n => match o with
  | .inl v => Ev X M pc ls (v.toList ++ st) w n c sl Q
  | .inr e => Q (.inr e) w n
theorem Kr_v {v : Value} : Kr X M pc ls st c sl Q (.inl (some v)) w n = Ev X M pc ls (v :: st) w n c sl Q := rfl
theorem Kr_n : Kr X M pc ls st c sl Q (.inl none) w n = Ev X M pc ls st w n c sl Q := rfl
theorem Kr_e {e : String} : Kr X M pc ls st c sl Q (.inr e) w n = Q (.inr e) w n := rfl
theorem Ev_call {i : Instr} {len : Nat} (hd : decode (mB M) pc = .ok (i, len)) {M2 : Nat} {vs : List Value} {r : Stk} (h : xst X M pc i len (e_mk M pc ls) st w n c sl = some (.inr (.inr (M2, vs, r)))) (hg : c + mC M2 ≤ mC M ∧ sl + mS M2 ≤ mS M ∧ vs.length ≤ mL M2) (hm : mH M = []) :
    Ev X M pc ls st w n c sl Q ↔ Ev X M2 0 (entl M2 vs) [] w n 0 0 (Kr X M (pc + 3) (e_mk M pc ls) r (c + mC M2) (sl + mS M2) Q) := by
  constructor
  · rintro ⟨f, o, h1, h2⟩
    cases f with
    | zero => cases h1
    | succ f =>
      rw [ex, hd] at h1
      dsimp only at h1
      rw [h] at h1
      dsimp only at h1
      split at h1
      · cases h1
      · rename_i o2 ho2
        rw [if_pos hg] at h1
        refine ⟨f, o2, ho2, ?_⟩
        obtain ⟨u, w2, n2⟩ := o2
        cases u with
        | inl v => exact ⟨f, o, h1, h2⟩
        | inr e =>
          dsimp only at h1
          rw [hm] at h1
          cases h1
          exact h2
  · rintro ⟨f, ⟨u, w2, n2⟩, ho2, h2⟩
    cases u with
    | inl v =>
      obtain ⟨g, o, h3, h4⟩ := h2
      refine ⟨max f g + 1, o, ?_, h4⟩
      rw [ex, hd]
      dsimp only
      rw [h]
      dsimp only
      rw [ex_up X ho2 (Nat.le_max_left f g)]
      dsimp only
      rw [if_pos hg]
      exact ex_up X h3 (Nat.le_max_right f g)
    | inr e =>
      refine ⟨f + 1, (.inr e, w2, n2), ?_, h2⟩
      rw [ex, hd]
      dsimp only
      rw [h]
      dsimp only
      rw [ho2]
      dsimp only
      rw [if_pos hg, hm]
theorem E_cs {idx M2 k : Nat} {vs : List Value} {st2 : Stk} (hk : okP M = true) (hd : decode (mB M) pc = .ok (.invokestatic idx, 3)) (hc : call (mN M) idx = some (1, M2, k)) (hf : fits2 M M2 = true) (hm : mH M = []) (hp : popv k st2 [] = some (vs, st)) (hr : st.length ≤ 4) (hg : c + mC M2 ≤ mC M ∧ sl + mS M2 ≤ mS M ∧ vs.length ≤ mL M2) {en : Lcs} (hen : entl M2 vs = en) {c2 s2 : Nat} (ec : c + mC M2 = c2) (es : sl + mS M2 = s2) :
    Ev X M pc ls st2 w n c sl Q ↔ Ev X M2 0 en [] w n 0 0 (Kr X M (pc + 3) ls st c2 s2 Q) := by
  subst hen; subst ec; subst es
  have h := Ev_call (X := X) (ls := ls) (w := w) (n := n) (Q := Q) hd (M2 := M2) (vs := vs) (r := st) (st := st2) (c := c) (sl := sl) ?_ hg hm
  · rw [okP_mk hk] at h
    exact h
  · rw [okP_mk hk]
    show g1 3 3 _ = _
    rw [g1_same, hc]
    show (match popv k st2 [] with | some (vs, r) => xcl M M2 vs r | none => none) = _
    rw [hp]
    show xcl M M2 vs st = _
    unfold xcl
    rw [if_pos ⟨hf, hr⟩]
theorem E_cv {idx M2 k b : Nat} {vs : List Value} {st2 : Stk} (hk : okP M = true) (hd : decode (mB M) pc = .ok (.invokevirtual idx, 3)) (hc : call (mN M) idx = some (0, M2, k)) (hf : fits2 M M2 = true) (hm : mH M = []) (hp : popv k st2 [] = some (vs, .ref b :: st)) (hb : rcv X w M2 b = true) (hr : st.length ≤ 4) (hg : c + mC M2 ≤ mC M ∧ sl + mS M2 ≤ mS M ∧ vs.length + 1 ≤ mL M2) {en : Lcs} (hen : entl M2 (.ref b :: vs) = en) {c2 s2 : Nat} (ec : c + mC M2 = c2) (es : sl + mS M2 = s2) :
    Ev X M pc ls st2 w n c sl Q ↔ Ev X M2 0 en [] w n 0 0 (Kr X M (pc + 3) ls st c2 s2 Q) := by
  subst hen; subst ec; subst es
  have h := Ev_call (X := X) (ls := ls) (w := w) (n := n) (Q := Q) hd (M2 := M2) (vs := .ref b :: vs) (r := st) (st := st2) (c := c) (sl := sl) ?_ hg hm
  · rw [okP_mk hk] at h
    exact h
  · rw [okP_mk hk]
    show g1 3 3 _ = _
    rw [g1_same, hc]
    show (match popv k st2 [] with | some (vs, r) => qr r fun b r => gc (rcv X w M2 b) (xcl M M2 (.ref b :: vs) r) | none => none) = _
    rw [hp]
    show gc (rcv X w M2 b) (xcl M M2 (.ref b :: vs) st) = _
    rw [hb]
    show xcl M M2 (.ref b :: vs) st = _
    unfold xcl
    rw [if_pos ⟨hf, hr⟩]
/-- a receiver's class -/
theorem rcv_eq {M2 ci b : Nat} (hn : Nat.beq (mK M2) 1 = false) (hc : ∀ j : Nat, j < 6 → ((KL.getD j ("", TX0, 0)).1 = (mY M2).cls ↔ j = ci)) (he : ¬ "" = (mY M2).cls) (hci : ci < 6) : rcv X w M2 b = hasc w b ci := by
  unfold rcv hasc
  split
  · rename_i h1
    rw [h1] at hn
    cases hn
  · split
    · rename_i cj fs hw
      by_cases hj : cj < 6
      · exact decide_eq_decide.mpr (hc cj hj)
      · have e1 : (KL.getD cj ("", TX0, 0)).1 = "" := by
          rw [List.getD_eq_getElem?_getD, List.getElem?_eq_none (by show 6 ≤ cj; omega)]
          rfl
        rw [e1]
        exact decide_eq_decide.mpr ⟨fun h => absurd h he, fun h => absurd (h ▸ hci) hj⟩
    · rfl
/-- a run ends in one way -/
theorem Ev_iff {o : Option Value ⊕ String} {w2 : Wld} {n2 : Option Nat} (h : Ev X M pc ls st w n c sl (fun o' w' n' => o' = o ∧ w' = w2 ∧ n' = n2)) : Ev X M pc ls st w n c sl Q ↔ Q o w2 n2 := by
  obtain ⟨f, o1, h1, rfl, rfl, rfl⟩ := h
  constructor
  · rintro ⟨g, o2, h3, h4⟩
    rw [ex_det h1 h3]
    exact h4
  · intro h4
    exact ⟨f, o1, h1, h4⟩
end ROWS
section ROWS2
variable {X : Cxt} {M pc : Nat} {ls : Lcs} {st : Stk} {w : Wld} {n : Option Nat} {c sl : Nat} {Q : (Option Value ⊕ String) → Wld → Option Nat → Prop}
theorem E_iconst {k : Int} {v : Int32} (hk : okP M = true) (hd : decode (mB M) pc = .ok (.iconst k, 1)) (hv : Int32.ofInt k = v) : Ev X M pc ls st w n c sl Q ↔ Ev X M (pc + 1) ls (.int v :: st) w n c sl Q := by
  subst hv
  exact E_p hk hd rfl rfl
theorem E_bipush {k : Int} {v : Int32} (hk : okP M = true) (hd : decode (mB M) pc = .ok (.bipush k, 2)) (hv : (Int8.ofInt k).toInt32 = v) : Ev X M pc ls st w n c sl Q ↔ Ev X M (pc + 2) ls (.int v :: st) w n c sl Q := by
  subst hv
  exact E_p hk hd rfl rfl
theorem E_sipush {k : Int} {v : Int32} (hk : okP M = true) (hd : decode (mB M) pc = .ok (.sipush k, 3)) (hv : (Int16.ofInt k).toInt32 = v) : Ev X M pc ls st w n c sl Q ↔ Ev X M (pc + 3) ls (.int v :: st) w n c sl Q := by
  subst hv
  exact E_p hk hd rfl rfl
theorem E_iinc {i : Nat} {k : Int} {x v : Int32} {ls2 : Lcs} (hk : okP M = true) (hd : decode (mB M) pc = .ok (.iinc i k, 3)) (hl : ls[i]? = some (some (.int x))) (hi : i < ls.length) (hv : Int32.ofInt k = v) (h2 : ls.set i (some (.int (x + v))) = ls2) : Ev X M pc ls st w n c sl Q ↔ Ev X M (pc + 3) ls2 st w n c sl Q := by
  subst hv; subst h2
  refine E_p hk hd rfl ?_
  show g1 3 3 (li ls i fun x => gst ls i (some (pc + 3, e_st false ls i (.int (x + Int32.ofInt k)), st))) = _
  rw [g1_same]
  unfold li
  rw [hl]
  show gst ls i _ = _
  unfold gst
  rw [if_pos hi]
  rfl
theorem E_goto {off : Int} {t : Nat} (hk : okP M = true) (hd : decode (mB M) pc = .ok (.goto off, 3)) (ht : tgt pc off = some t) : Ev X M pc ls st w n c sl Q ↔ Ev X M t ls st w n c sl Q := by
  refine E_p hk hd rfl ?_
  show g1 3 3 (gt pc off fun t => some (t, ls, st)) = _
  rw [g1_same]
  unfold gt
  rw [ht]
theorem E_ldcw {idx : Nat} {v : Int32} (hk : okP M = true) (hd : decode (mB M) pc = .ok (.ldc_w idx, 3)) (hl : icst (mN M) idx = some v) : Ev X M pc ls st w n c sl Q ↔ Ev X M (pc + 3) ls (.int v :: st) w n c sl Q := by
  refine Ev_nx (q := (pc + 3, ls, .int v :: st, w, n, c, sl)) hd ?_
  rw [okP_mk hk]
  show g1 3 3 _ = _
  rw [g1_same, hl]
  rfl
theorem E_mx {idx u v : Nat} {x y : Int32} (hk : okP M = true) (hd : decode (mB M) pc = .ok (.invokestatic idx, 3)) (hc : call (mN M) idx = some (6, u, v)) (hr : 1 ≤ mF M ∧ 2 * (st.length + 2) + 13 ≤ mO M) : Ev X M pc ls (.int y :: .int x :: st) w n c sl Q ↔ Ev X M (pc + 3) ls (.int (imx x y) :: st) w n c sl Q := by
  refine Ev_nx (q := (pc + 3, ls, .int (imx x y) :: st, w, n, c, sl)) hd ?_
  rw [okP_mk hk]
  show g1 3 3 _ = _
  rw [g1_same, hc]
  show (if 1 ≤ mF M ∧ 2 * (st.length + 2) + 13 ≤ mO M then _ else none) = _
  rw [if_pos hr]
  rfl
theorem E_mn {idx u v : Nat} {x y : Int32} (hk : okP M = true) (hd : decode (mB M) pc = .ok (.invokestatic idx, 3)) (hc : call (mN M) idx = some (7, u, v)) (hr : 1 ≤ mF M ∧ 2 * (st.length + 2) + 13 ≤ mO M) : Ev X M pc ls (.int y :: .int x :: st) w n c sl Q ↔ Ev X M (pc + 3) ls (.int (imn x y) :: st) w n c sl Q := by
  refine Ev_nx (q := (pc + 3, ls, .int (imn x y) :: st, w, n, c, sl)) hd ?_
  rw [okP_mk hk]
  show g1 3 3 _ = _
  rw [g1_same, hc]
  show (if 1 ≤ mF M ∧ 2 * (st.length + 2) + 13 ≤ mO M then _ else none) = _
  rw [if_pos hr]
  rfl
end ROWS2
end
section
section ROWS3
variable {X : Cxt} {M pc : Nat} {ls : Lcs} {st : Stk} {w : Wld} {n : Option Nat} {c sl : Nat} {Q : (Option Value ⊕ String) → Wld → Option Nat → Prop}
theorem ent_eq {M k : Nat} {vs : List Value} (h : mL M - vs.length = k) : entl M vs = vs.map some ++ List.replicate k none := by
  unfold entl
  rw [h]
def only (cls : String) (ci : Nat) : Bool := (List.range 6).all (fun j => ((KL.getD j ("", TX0, 0)).1 == cls) == Nat.beq j ci) && !("" == cls) && decide (ci < 6)
theorem rc_gen {M2 ci b : Nat} (hn : Nat.beq (mK M2) 1 = false) (ho : only (mY M2).cls ci = true) : rcv X w M2 b = hasc w b ci := by
  unfold only at ho
  simp only [Bool.and_eq_true, List.all_eq_true, Bool.not_eq_true', beq_eq_false_iff_ne, decide_eq_true_eq] at ho
  refine rcv_eq hn (fun j hj => ?_) ho.1.2 ho.2
  have h1 := ho.1.1 j (List.mem_range.mpr hj)
  rw [beq_iff_eq] at h1
  constructor
  · intro h
    have h2 : ((KL.getD j ("", TX0, 0)).1 == (mY M2).cls) = true := beq_iff_eq.mpr h
    rw [h1] at h2
    exact Nat.eq_of_beq_eq_true h2
  · intro h
    have h2 : Nat.beq j ci = true := by rw [h]; exact Nat.beq_refl ci
    rw [h2] at h1
    exact beq_iff_eq.mp h1
theorem rc_Refusal {M2 b : Nat} (hn : Nat.beq (mK M2) 1 = false) (ho : only (mY M2).cls 0 = true) : rcv X w M2 b = hasc w b 0 := rc_gen hn ho
theorem rc_Seat {M2 b : Nat} (hn : Nat.beq (mK M2) 1 = false) (ho : only (mY M2).cls 1 = true) : rcv X w M2 b = hasc w b 1 := rc_gen hn ho
theorem rc_Table {M2 b : Nat} (hn : Nat.beq (mK M2) 1 = false) (ho : only (mY M2).cls 2 = true) : rcv X w M2 b = hasc w b 2 := rc_gen hn ho
theorem rc_Text {M2 b : Nat} (hn : Nat.beq (mK M2) 1 = false) (ho : only (mY M2).cls 3 = true) : rcv X w M2 b = hasc w b 3 := rc_gen hn ho
theorem rc_SoupTable {M2 b : Nat} (hn : Nat.beq (mK M2) 1 = false) (ho : only (mY M2).cls 4 = true) : rcv X w M2 b = hasc w b 4 := rc_gen hn ho
theorem rc_SoupTableModel {M2 b : Nat} (hn : Nat.beq (mK M2) 1 = false) (ho : only (mY M2).cls 5 = true) : rcv X w M2 b = hasc w b 5 := rc_gen hn ho
theorem rcS {M2 b : Nat} (hn : mK M2 = 1) : rcv X w M2 b = (X.2.1 b).isSome := by
  unfold rcv
  rw [hn]
  rfl
end ROWS3
end
section
/-! ===== rows: Refusal, Seat, Table, Waiting ===== -/
section RW
variable {X : Cxt} {w : Wld} {n : Option Nat} {Q : (Option Value ⊕ String) → Wld → Option Nat → Prop} {st : Stk} {l0 l1 l2 l3 l4 l5 l6 l7 l8 : Option Value} {x y x0 x1 x2 y0 y1 y2 y3 z0 z1 z2 z3 : Int32} {a b a0 a1 a2 b0 b1 b2 b3 e0 e1 e2 e3 : Nat}
theorem ok_X1_copyFrom : okP 6 = true := by decide +kernel
theorem X1_copyFrom_0 : Ev X 6 0 [some (.ref a), l1] (st) w n 0 0 Q ↔ Ev X 6 1 [some (.ref a), l1] (.ref a :: st) w n 0 0 Q := E_p ok_X1_copyFrom (show decode (mB 6) 0 = .ok (.aload_n 0, 1) by decide +kernel) rfl rfl
theorem X1_copyFrom_1 : Ev X 6 1 [l0, some (.ref a)] (st) w n 0 0 Q ↔ Ev X 6 2 [l0, some (.ref a)] (.ref a :: st) w n 0 0 Q := E_p ok_X1_copyFrom (show decode (mB 6) 1 = .ok (.aload_n 1, 1) by decide +kernel) rfl rfl
theorem X1_copyFrom_2 : Ev X 6 2 [l0, l1] (.ref a :: st) w n 0 0 Q ↔ ∃ v, gf w a 1 0 = some v ∧ Ev X 6 5 [l0, l1] (v :: st) w n 0 0 Q := E_getf ok_X1_copyFrom (by decide +kernel) (show decode (mB 6) 2 = .ok (.getfield 9, 3) by decide +kernel) (by decide +kernel)
theorem X1_copyFrom_5 : Ev X 6 5 [l0, l1] (.int x :: .ref a :: st) w n 0 0 Q ↔ ∃ w2, pf w a 1 0 (.int x) = some w2 ∧ Ev X 6 8 [l0, l1] (st) w2 n 0 0 Q := E_putf ok_X1_copyFrom rfl (show decode (mB 6) 5 = .ok (.putfield 9, 3) by decide +kernel) (by decide +kernel) (by decide +kernel)
theorem X1_copyFrom_8 : Ev X 6 8 [some (.ref a), l1] (st) w n 0 0 Q ↔ Ev X 6 9 [some (.ref a), l1] (.ref a :: st) w n 0 0 Q := E_p ok_X1_copyFrom (show decode (mB 6) 8 = .ok (.aload_n 0, 1) by decide +kernel) rfl rfl
theorem X1_copyFrom_9 : Ev X 6 9 [l0, some (.ref a)] (st) w n 0 0 Q ↔ Ev X 6 10 [l0, some (.ref a)] (.ref a :: st) w n 0 0 Q := E_p ok_X1_copyFrom (show decode (mB 6) 9 = .ok (.aload_n 1, 1) by decide +kernel) rfl rfl
theorem X1_copyFrom_10 : Ev X 6 10 [l0, l1] (.ref a :: st) w n 0 0 Q ↔ ∃ v, gf w a 1 1 = some v ∧ Ev X 6 13 [l0, l1] (v :: st) w n 0 0 Q := E_getf ok_X1_copyFrom (by decide +kernel) (show decode (mB 6) 10 = .ok (.getfield 15, 3) by decide +kernel) (by decide +kernel)
theorem X1_copyFrom_13 : Ev X 6 13 [l0, l1] (.int x :: .ref a :: st) w n 0 0 Q ↔ ∃ w2, pf w a 1 1 (.int x) = some w2 ∧ Ev X 6 16 [l0, l1] (st) w2 n 0 0 Q := E_putf ok_X1_copyFrom rfl (show decode (mB 6) 13 = .ok (.putfield 15, 3) by decide +kernel) (by decide +kernel) (by decide +kernel)
theorem X1_copyFrom_16 : Ev X 6 16 [some (.ref a), l1] (st) w n 0 0 Q ↔ Ev X 6 17 [some (.ref a), l1] (.ref a :: st) w n 0 0 Q := E_p ok_X1_copyFrom (show decode (mB 6) 16 = .ok (.aload_n 0, 1) by decide +kernel) rfl rfl
theorem X1_copyFrom_17 : Ev X 6 17 [l0, some (.ref a)] (st) w n 0 0 Q ↔ Ev X 6 18 [l0, some (.ref a)] (.ref a :: st) w n 0 0 Q := E_p ok_X1_copyFrom (show decode (mB 6) 17 = .ok (.aload_n 1, 1) by decide +kernel) rfl rfl
theorem X1_copyFrom_18 : Ev X 6 18 [l0, l1] (.ref a :: st) w n 0 0 Q ↔ ∃ v, gf w a 1 2 = some v ∧ Ev X 6 21 [l0, l1] (v :: st) w n 0 0 Q := E_getf ok_X1_copyFrom (by decide +kernel) (show decode (mB 6) 18 = .ok (.getfield 18, 3) by decide +kernel) (by decide +kernel)
theorem X1_copyFrom_21 : Ev X 6 21 [l0, l1] (.int x :: .ref a :: st) w n 0 0 Q ↔ ∃ w2, pf w a 1 2 (.int x) = some w2 ∧ Ev X 6 24 [l0, l1] (st) w2 n 0 0 Q := E_putf ok_X1_copyFrom rfl (show decode (mB 6) 21 = .ok (.putfield 18, 3) by decide +kernel) (by decide +kernel) (by decide +kernel)
theorem X1_copyFrom_24 : Ev X 6 24 [some (.ref a), l1] (st) w n 0 0 Q ↔ Ev X 6 25 [some (.ref a), l1] (.ref a :: st) w n 0 0 Q := E_p ok_X1_copyFrom (show decode (mB 6) 24 = .ok (.aload_n 0, 1) by decide +kernel) rfl rfl
theorem X1_copyFrom_25 : Ev X 6 25 [l0, some (.ref a)] (st) w n 0 0 Q ↔ Ev X 6 26 [l0, some (.ref a)] (.ref a :: st) w n 0 0 Q := E_p ok_X1_copyFrom (show decode (mB 6) 25 = .ok (.aload_n 1, 1) by decide +kernel) rfl rfl
theorem X1_copyFrom_26 : Ev X 6 26 [l0, l1] (.ref a :: st) w n 0 0 Q ↔ ∃ v, gf w a 1 3 = some v ∧ Ev X 6 29 [l0, l1] (v :: st) w n 0 0 Q := E_getf ok_X1_copyFrom (by decide +kernel) (show decode (mB 6) 26 = .ok (.getfield 36, 3) by decide +kernel) (by decide +kernel)
theorem X1_copyFrom_29 : Ev X 6 29 [l0, l1] (.int x :: .ref a :: st) w n 0 0 Q ↔ ∃ w2, pf w a 1 3 (.int x) = some w2 ∧ Ev X 6 32 [l0, l1] (st) w2 n 0 0 Q := E_putf ok_X1_copyFrom rfl (show decode (mB 6) 29 = .ok (.putfield 36, 3) by decide +kernel) (by decide +kernel) (by decide +kernel)
theorem X1_copyFrom_32 : Ev X 6 32 [some (.ref a), l1] (st) w n 0 0 Q ↔ Ev X 6 33 [some (.ref a), l1] (.ref a :: st) w n 0 0 Q := E_p ok_X1_copyFrom (show decode (mB 6) 32 = .ok (.aload_n 0, 1) by decide +kernel) rfl rfl
theorem X1_copyFrom_33 : Ev X 6 33 [l0, some (.ref a)] (st) w n 0 0 Q ↔ Ev X 6 34 [l0, some (.ref a)] (.ref a :: st) w n 0 0 Q := E_p ok_X1_copyFrom (show decode (mB 6) 33 = .ok (.aload_n 1, 1) by decide +kernel) rfl rfl
theorem X1_copyFrom_34 : Ev X 6 34 [l0, l1] (.ref a :: st) w n 0 0 Q ↔ ∃ v, gf w a 1 4 = some v ∧ Ev X 6 37 [l0, l1] (v :: st) w n 0 0 Q := E_getf ok_X1_copyFrom (by decide +kernel) (show decode (mB 6) 34 = .ok (.getfield 39, 3) by decide +kernel) (by decide +kernel)
theorem X1_copyFrom_37 : Ev X 6 37 [l0, l1] (.int x :: .ref a :: st) w n 0 0 Q ↔ ∃ w2, pf w a 1 4 (.int x) = some w2 ∧ Ev X 6 40 [l0, l1] (st) w2 n 0 0 Q := E_putf ok_X1_copyFrom rfl (show decode (mB 6) 37 = .ok (.putfield 39, 3) by decide +kernel) (by decide +kernel) (by decide +kernel)
theorem X1_copyFrom_40 : Ev X 6 40 [some (.ref a), l1] (st) w n 0 0 Q ↔ Ev X 6 41 [some (.ref a), l1] (.ref a :: st) w n 0 0 Q := E_p ok_X1_copyFrom (show decode (mB 6) 40 = .ok (.aload_n 0, 1) by decide +kernel) rfl rfl
theorem X1_copyFrom_41 : Ev X 6 41 [l0, some (.ref a)] (st) w n 0 0 Q ↔ Ev X 6 42 [l0, some (.ref a)] (.ref a :: st) w n 0 0 Q := E_p ok_X1_copyFrom (show decode (mB 6) 41 = .ok (.aload_n 1, 1) by decide +kernel) rfl rfl
theorem X1_copyFrom_42 : Ev X 6 42 [l0, l1] (.ref a :: st) w n 0 0 Q ↔ ∃ v, gf w a 1 5 = some v ∧ Ev X 6 45 [l0, l1] (v :: st) w n 0 0 Q := E_getf ok_X1_copyFrom (by decide +kernel) (show decode (mB 6) 42 = .ok (.getfield 21, 3) by decide +kernel) (by decide +kernel)
theorem X1_copyFrom_45 : Ev X 6 45 [l0, l1] (.int x :: .ref a :: st) w n 0 0 Q ↔ ∃ w2, pf w a 1 5 (.int x) = some w2 ∧ Ev X 6 48 [l0, l1] (st) w2 n 0 0 Q := E_putf ok_X1_copyFrom rfl (show decode (mB 6) 45 = .ok (.putfield 21, 3) by decide +kernel) (by decide +kernel) (by decide +kernel)
theorem X1_copyFrom_48 : Ev X 6 48 [some (.ref a), l1] (st) w n 0 0 Q ↔ Ev X 6 49 [some (.ref a), l1] (.ref a :: st) w n 0 0 Q := E_p ok_X1_copyFrom (show decode (mB 6) 48 = .ok (.aload_n 0, 1) by decide +kernel) rfl rfl
theorem X1_copyFrom_49 : Ev X 6 49 [l0, some (.ref a)] (st) w n 0 0 Q ↔ Ev X 6 50 [l0, some (.ref a)] (.ref a :: st) w n 0 0 Q := E_p ok_X1_copyFrom (show decode (mB 6) 49 = .ok (.aload_n 1, 1) by decide +kernel) rfl rfl
theorem X1_copyFrom_50 : Ev X 6 50 [l0, l1] (.ref a :: st) w n 0 0 Q ↔ ∃ v, gf w a 1 6 = some v ∧ Ev X 6 53 [l0, l1] (v :: st) w n 0 0 Q := E_getf ok_X1_copyFrom (by decide +kernel) (show decode (mB 6) 50 = .ok (.getfield 24, 3) by decide +kernel) (by decide +kernel)
theorem X1_copyFrom_53 : Ev X 6 53 [l0, l1] (.int x :: .ref a :: st) w n 0 0 Q ↔ ∃ w2, pf w a 1 6 (.int x) = some w2 ∧ Ev X 6 56 [l0, l1] (st) w2 n 0 0 Q := E_putf ok_X1_copyFrom rfl (show decode (mB 6) 53 = .ok (.putfield 24, 3) by decide +kernel) (by decide +kernel) (by decide +kernel)
theorem X1_copyFrom_56 : Ev X 6 56 [some (.ref a), l1] (st) w n 0 0 Q ↔ Ev X 6 57 [some (.ref a), l1] (.ref a :: st) w n 0 0 Q := E_p ok_X1_copyFrom (show decode (mB 6) 56 = .ok (.aload_n 0, 1) by decide +kernel) rfl rfl
theorem X1_copyFrom_57 : Ev X 6 57 [l0, some (.ref a)] (st) w n 0 0 Q ↔ Ev X 6 58 [l0, some (.ref a)] (.ref a :: st) w n 0 0 Q := E_p ok_X1_copyFrom (show decode (mB 6) 57 = .ok (.aload_n 1, 1) by decide +kernel) rfl rfl
theorem X1_copyFrom_58 : Ev X 6 58 [l0, l1] (.ref a :: st) w n 0 0 Q ↔ ∃ v, gf w a 1 7 = some v ∧ Ev X 6 61 [l0, l1] (v :: st) w n 0 0 Q := E_getf ok_X1_copyFrom (by decide +kernel) (show decode (mB 6) 58 = .ok (.getfield 27, 3) by decide +kernel) (by decide +kernel)
theorem X1_copyFrom_61 : Ev X 6 61 [l0, l1] (.int x :: .ref a :: st) w n 0 0 Q ↔ ∃ w2, pf w a 1 7 (.int x) = some w2 ∧ Ev X 6 64 [l0, l1] (st) w2 n 0 0 Q := E_putf ok_X1_copyFrom rfl (show decode (mB 6) 61 = .ok (.putfield 27, 3) by decide +kernel) (by decide +kernel) (by decide +kernel)
theorem X1_copyFrom_64 : Ev X 6 64 [some (.ref a), l1] (st) w n 0 0 Q ↔ Ev X 6 65 [some (.ref a), l1] (.ref a :: st) w n 0 0 Q := E_p ok_X1_copyFrom (show decode (mB 6) 64 = .ok (.aload_n 0, 1) by decide +kernel) rfl rfl
theorem X1_copyFrom_65 : Ev X 6 65 [l0, some (.ref a)] (st) w n 0 0 Q ↔ Ev X 6 66 [l0, some (.ref a)] (.ref a :: st) w n 0 0 Q := E_p ok_X1_copyFrom (show decode (mB 6) 65 = .ok (.aload_n 1, 1) by decide +kernel) rfl rfl
theorem X1_copyFrom_66 : Ev X 6 66 [l0, l1] (.ref a :: st) w n 0 0 Q ↔ ∃ v, gf w a 1 8 = some v ∧ Ev X 6 69 [l0, l1] (v :: st) w n 0 0 Q := E_getf ok_X1_copyFrom (by decide +kernel) (show decode (mB 6) 66 = .ok (.getfield 30, 3) by decide +kernel) (by decide +kernel)
theorem X1_copyFrom_69 : Ev X 6 69 [l0, l1] (.int x :: .ref a :: st) w n 0 0 Q ↔ ∃ w2, pf w a 1 8 (.int x) = some w2 ∧ Ev X 6 72 [l0, l1] (st) w2 n 0 0 Q := E_putf ok_X1_copyFrom rfl (show decode (mB 6) 69 = .ok (.putfield 30, 3) by decide +kernel) (by decide +kernel) (by decide +kernel)
theorem X1_copyFrom_72 : Ev X 6 72 [l0, l1] ([]) w n 0 0 Q ↔ Q (.inl none) w n := E_retv ok_X1_copyFrom (show decode (mB 6) 72 = .ok (.return_, 1) by decide +kernel) (by decide +kernel)
theorem ok_X2_copyFrom : okP 7 = true := by decide +kernel
theorem X2_copyFrom_0 : Ev X 7 0 [l0, l1, l2] (st) w n 0 0 Q ↔ Ev X 7 1 [l0, l1, l2] (.int (0) :: st) w n 0 0 Q := E_iconst ok_X2_copyFrom (show decode (mB 7) 0 = .ok (.iconst 0, 1) by decide +kernel) (by decide)
theorem X2_copyFrom_1 : Ev X 7 1 [l0, l1, l2] (.int x :: st) w n 0 0 Q ↔ Ev X 7 2 [l0, l1, some (.int x)] (st) w n 0 0 Q := E_p ok_X2_copyFrom (show decode (mB 7) 1 = .ok (.istore_n 2, 1) by decide +kernel) rfl rfl
theorem X2_copyFrom_2 : Ev X 7 2 [l0, l1, some (.int x)] (st) w n 0 0 Q ↔ Ev X 7 3 [l0, l1, some (.int x)] (.int x :: st) w n 0 0 Q := E_p ok_X2_copyFrom (show decode (mB 7) 2 = .ok (.iload_n 2, 1) by decide +kernel) rfl rfl
theorem X2_copyFrom_3 : Ev X 7 3 [l0, l1, l2] (st) w n 0 0 Q ↔ Ev X 7 5 [l0, l1, l2] (.int (8) :: st) w n 0 0 Q := E_bipush ok_X2_copyFrom (show decode (mB 7) 3 = .ok (.bipush 8, 2) by decide +kernel) (by decide)
theorem X2_copyFrom_5 : Ev X 7 5 [l0, l1, l2] (.int y :: .int x :: st) w n 0 0 Q ↔ if x < y then Ev X 7 8 [l0, l1, l2] (st) w n 0 0 Q else Ev X 7 41 [l0, l1, l2] (st) w n 0 0 Q := E_icge ok_X2_copyFrom (show decode (mB 7) 5 = .ok (.if_icmp .ge 36, 3) by decide +kernel) rfl
theorem X2_copyFrom_8 : Ev X 7 8 [some (.ref a), l1, l2] (st) w n 0 0 Q ↔ Ev X 7 9 [some (.ref a), l1, l2] (.ref a :: st) w n 0 0 Q := E_p ok_X2_copyFrom (show decode (mB 7) 8 = .ok (.aload_n 0, 1) by decide +kernel) rfl rfl
theorem X2_copyFrom_9 : Ev X 7 9 [l0, l1, l2] (.ref a :: st) w n 0 0 Q ↔ ∃ v, gf w a 2 0 = some v ∧ Ev X 7 12 [l0, l1, l2] (v :: st) w n 0 0 Q := E_getf ok_X2_copyFrom (by decide +kernel) (show decode (mB 7) 9 = .ok (.getfield 11, 3) by decide +kernel) (by decide +kernel)
theorem X2_copyFrom_12 : Ev X 7 12 [l0, l1, some (.int x)] (st) w n 0 0 Q ↔ Ev X 7 13 [l0, l1, some (.int x)] (.int x :: st) w n 0 0 Q := E_p ok_X2_copyFrom (show decode (mB 7) 12 = .ok (.iload_n 2, 1) by decide +kernel) rfl rfl
theorem X2_copyFrom_13 : Ev X 7 13 [l0, l1, l2] (.int x :: .ref a :: st) w n 0 0 Q ↔ ∃ v, (ga w a 4 x).or (ga w a 5 x) = some v ∧ Ev X 7 14 [l0, l1, l2] (v :: st) w n 0 0 Q := E_aald ok_X2_copyFrom (show decode (mB 7) 13 = .ok (.aaload, 1) by decide +kernel)
theorem X2_copyFrom_14 : Ev X 7 14 [l0, some (.ref a), l2] (st) w n 0 0 Q ↔ Ev X 7 15 [l0, some (.ref a), l2] (.ref a :: st) w n 0 0 Q := E_p ok_X2_copyFrom (show decode (mB 7) 14 = .ok (.aload_n 1, 1) by decide +kernel) rfl rfl
theorem X2_copyFrom_15 : Ev X 7 15 [l0, l1, l2] (.ref a :: st) w n 0 0 Q ↔ ∃ v, gf w a 2 0 = some v ∧ Ev X 7 18 [l0, l1, l2] (v :: st) w n 0 0 Q := E_getf ok_X2_copyFrom (by decide +kernel) (show decode (mB 7) 15 = .ok (.getfield 11, 3) by decide +kernel) (by decide +kernel)
theorem X2_copyFrom_18 : Ev X 7 18 [l0, l1, some (.int x)] (st) w n 0 0 Q ↔ Ev X 7 19 [l0, l1, some (.int x)] (.int x :: st) w n 0 0 Q := E_p ok_X2_copyFrom (show decode (mB 7) 18 = .ok (.iload_n 2, 1) by decide +kernel) rfl rfl
theorem X2_copyFrom_19 : Ev X 7 19 [l0, l1, l2] (.int x :: .ref a :: st) w n 0 0 Q ↔ ∃ v, (ga w a 4 x).or (ga w a 5 x) = some v ∧ Ev X 7 20 [l0, l1, l2] (v :: st) w n 0 0 Q := E_aald ok_X2_copyFrom (show decode (mB 7) 19 = .ok (.aaload, 1) by decide +kernel)
theorem X2_copyFrom_20 (h : hasc w a 1 = true) : Ev X 7 20 [l0, l1, l2] (.ref b0 :: .ref a :: []) w n 0 0 Q ↔ Ev X 6 0 [some (.ref a), some (.ref b0)] [] w n 0 0 (Kr X 7 23 [l0, l1, l2] ([]) 0 0 Q) := E_cv ok_X2_copyFrom (show decode (mB 7) 20 = .ok (.invokevirtual 29, 3) by decide +kernel) (by decide +kernel) (by decide +kernel) (by decide +kernel) (k := 1) (vs := [.ref b0]) rfl ((rc_Seat (M2 := 6) (by decide +kernel) (by decide +kernel)).trans h) (by simp only [List.length_cons, List.length_nil]; decide) (by simp only [List.length_cons, List.length_nil]; decide +kernel) (ent_eq (k := 0) (by simp only [List.length_cons, List.length_nil]; decide +kernel)) (by decide +kernel) (by decide +kernel)
theorem X2_copyFrom_23 : Ev X 7 23 [some (.ref a), l1, l2] (st) w n 0 0 Q ↔ Ev X 7 24 [some (.ref a), l1, l2] (.ref a :: st) w n 0 0 Q := E_p ok_X2_copyFrom (show decode (mB 7) 23 = .ok (.aload_n 0, 1) by decide +kernel) rfl rfl
theorem X2_copyFrom_24 : Ev X 7 24 [l0, l1, l2] (.ref a :: st) w n 0 0 Q ↔ ∃ v, gf w a 2 1 = some v ∧ Ev X 7 27 [l0, l1, l2] (v :: st) w n 0 0 Q := E_getf ok_X2_copyFrom (by decide +kernel) (show decode (mB 7) 24 = .ok (.getfield 17, 3) by decide +kernel) (by decide +kernel)
theorem X2_copyFrom_27 : Ev X 7 27 [l0, l1, some (.int x)] (st) w n 0 0 Q ↔ Ev X 7 28 [l0, l1, some (.int x)] (.int x :: st) w n 0 0 Q := E_p ok_X2_copyFrom (show decode (mB 7) 27 = .ok (.iload_n 2, 1) by decide +kernel) rfl rfl
theorem X2_copyFrom_28 : Ev X 7 28 [l0, some (.ref a), l2] (st) w n 0 0 Q ↔ Ev X 7 29 [l0, some (.ref a), l2] (.ref a :: st) w n 0 0 Q := E_p ok_X2_copyFrom (show decode (mB 7) 28 = .ok (.aload_n 1, 1) by decide +kernel) rfl rfl
theorem X2_copyFrom_29 : Ev X 7 29 [l0, l1, l2] (.ref a :: st) w n 0 0 Q ↔ ∃ v, gf w a 2 1 = some v ∧ Ev X 7 32 [l0, l1, l2] (v :: st) w n 0 0 Q := E_getf ok_X2_copyFrom (by decide +kernel) (show decode (mB 7) 29 = .ok (.getfield 17, 3) by decide +kernel) (by decide +kernel)
theorem X2_copyFrom_32 : Ev X 7 32 [l0, l1, some (.int x)] (st) w n 0 0 Q ↔ Ev X 7 33 [l0, l1, some (.int x)] (.int x :: st) w n 0 0 Q := E_p ok_X2_copyFrom (show decode (mB 7) 32 = .ok (.iload_n 2, 1) by decide +kernel) rfl rfl
theorem X2_copyFrom_33 : Ev X 7 33 [l0, l1, l2] (.int x :: .ref a :: st) w n 0 0 Q ↔ ∃ v, ga w a 0 x = some v ∧ Ev X 7 34 [l0, l1, l2] (v :: st) w n 0 0 Q := E_iald ok_X2_copyFrom (by decide +kernel) (show decode (mB 7) 33 = .ok (.iaload, 1) by decide +kernel)
theorem X2_copyFrom_34 : Ev X 7 34 [l0, l1, l2] (.int y :: .int x :: .ref a :: st) w n 0 0 Q ↔ ∃ w2, sa w a 0 x (.int y) = some w2 ∧ Ev X 7 35 [l0, l1, l2] (st) w2 n 0 0 Q := E_iast ok_X2_copyFrom (show decode (mB 7) 34 = .ok (.iastore, 1) by decide +kernel)
theorem X2_copyFrom_35 : Ev X 7 35 [l0, l1, some (.int x)] (st) w n 0 0 Q ↔ Ev X 7 38 [l0, l1, some (.int (x + (1)))] (st) w n 0 0 Q := E_iinc ok_X2_copyFrom (show decode (mB 7) 35 = .ok (.iinc 2 1, 3) by decide +kernel) rfl (by simp only [List.length_cons, List.length_nil]; decide) (by decide) rfl
theorem X2_copyFrom_38 : Ev X 7 38 [l0, l1, l2] (st) w n 0 0 Q ↔ Ev X 7 2 [l0, l1, l2] (st) w n 0 0 Q := E_goto ok_X2_copyFrom (show decode (mB 7) 38 = .ok (.goto (-36), 3) by decide +kernel) rfl
theorem X2_copyFrom_41 : Ev X 7 41 [some (.ref a), l1, l2] (st) w n 0 0 Q ↔ Ev X 7 42 [some (.ref a), l1, l2] (.ref a :: st) w n 0 0 Q := E_p ok_X2_copyFrom (show decode (mB 7) 41 = .ok (.aload_n 0, 1) by decide +kernel) rfl rfl
theorem X2_copyFrom_42 : Ev X 7 42 [l0, some (.ref a), l2] (st) w n 0 0 Q ↔ Ev X 7 43 [l0, some (.ref a), l2] (.ref a :: st) w n 0 0 Q := E_p ok_X2_copyFrom (show decode (mB 7) 42 = .ok (.aload_n 1, 1) by decide +kernel) rfl rfl
theorem X2_copyFrom_43 : Ev X 7 43 [l0, l1, l2] (.ref a :: st) w n 0 0 Q ↔ ∃ v, gf w a 2 2 = some v ∧ Ev X 7 46 [l0, l1, l2] (v :: st) w n 0 0 Q := E_getf ok_X2_copyFrom (by decide +kernel) (show decode (mB 7) 43 = .ok (.getfield 33, 3) by decide +kernel) (by decide +kernel)
theorem X2_copyFrom_46 : Ev X 7 46 [l0, l1, l2] (.int x :: .ref a :: st) w n 0 0 Q ↔ ∃ w2, pf w a 2 2 (.int x) = some w2 ∧ Ev X 7 49 [l0, l1, l2] (st) w2 n 0 0 Q := E_putf ok_X2_copyFrom rfl (show decode (mB 7) 46 = .ok (.putfield 33, 3) by decide +kernel) (by decide +kernel) (by decide +kernel)
theorem X2_copyFrom_49 : Ev X 7 49 [some (.ref a), l1, l2] (st) w n 0 0 Q ↔ Ev X 7 50 [some (.ref a), l1, l2] (.ref a :: st) w n 0 0 Q := E_p ok_X2_copyFrom (show decode (mB 7) 49 = .ok (.aload_n 0, 1) by decide +kernel) rfl rfl
theorem X2_copyFrom_50 : Ev X 7 50 [l0, some (.ref a), l2] (st) w n 0 0 Q ↔ Ev X 7 51 [l0, some (.ref a), l2] (.ref a :: st) w n 0 0 Q := E_p ok_X2_copyFrom (show decode (mB 7) 50 = .ok (.aload_n 1, 1) by decide +kernel) rfl rfl
theorem X2_copyFrom_51 : Ev X 7 51 [l0, l1, l2] (.ref a :: st) w n 0 0 Q ↔ ∃ v, gf w a 2 3 = some v ∧ Ev X 7 54 [l0, l1, l2] (v :: st) w n 0 0 Q := E_getf ok_X2_copyFrom (by decide +kernel) (show decode (mB 7) 51 = .ok (.getfield 21, 3) by decide +kernel) (by decide +kernel)
theorem X2_copyFrom_54 : Ev X 7 54 [l0, l1, l2] (.int x :: .ref a :: st) w n 0 0 Q ↔ ∃ w2, pf w a 2 3 (.int x) = some w2 ∧ Ev X 7 57 [l0, l1, l2] (st) w2 n 0 0 Q := E_putf ok_X2_copyFrom rfl (show decode (mB 7) 54 = .ok (.putfield 21, 3) by decide +kernel) (by decide +kernel) (by decide +kernel)
theorem X2_copyFrom_57 : Ev X 7 57 [some (.ref a), l1, l2] (st) w n 0 0 Q ↔ Ev X 7 58 [some (.ref a), l1, l2] (.ref a :: st) w n 0 0 Q := E_p ok_X2_copyFrom (show decode (mB 7) 57 = .ok (.aload_n 0, 1) by decide +kernel) rfl rfl
theorem X2_copyFrom_58 : Ev X 7 58 [l0, some (.ref a), l2] (st) w n 0 0 Q ↔ Ev X 7 59 [l0, some (.ref a), l2] (.ref a :: st) w n 0 0 Q := E_p ok_X2_copyFrom (show decode (mB 7) 58 = .ok (.aload_n 1, 1) by decide +kernel) rfl rfl
theorem X2_copyFrom_59 : Ev X 7 59 [l0, l1, l2] (.ref a :: st) w n 0 0 Q ↔ ∃ v, gf w a 2 4 = some v ∧ Ev X 7 62 [l0, l1, l2] (v :: st) w n 0 0 Q := E_getf ok_X2_copyFrom (by decide +kernel) (show decode (mB 7) 59 = .ok (.getfield 25, 3) by decide +kernel) (by decide +kernel)
theorem X2_copyFrom_62 : Ev X 7 62 [l0, l1, l2] (.int x :: .ref a :: st) w n 0 0 Q ↔ ∃ w2, pf w a 2 4 (.int x) = some w2 ∧ Ev X 7 65 [l0, l1, l2] (st) w2 n 0 0 Q := E_putf ok_X2_copyFrom rfl (show decode (mB 7) 62 = .ok (.putfield 25, 3) by decide +kernel) (by decide +kernel) (by decide +kernel)
theorem X2_copyFrom_65 : Ev X 7 65 [some (.ref a), l1, l2] (st) w n 0 0 Q ↔ Ev X 7 66 [some (.ref a), l1, l2] (.ref a :: st) w n 0 0 Q := E_p ok_X2_copyFrom (show decode (mB 7) 65 = .ok (.aload_n 0, 1) by decide +kernel) rfl rfl
theorem X2_copyFrom_66 : Ev X 7 66 [l0, some (.ref a), l2] (st) w n 0 0 Q ↔ Ev X 7 67 [l0, some (.ref a), l2] (.ref a :: st) w n 0 0 Q := E_p ok_X2_copyFrom (show decode (mB 7) 66 = .ok (.aload_n 1, 1) by decide +kernel) rfl rfl
theorem X2_copyFrom_67 : Ev X 7 67 [l0, l1, l2] (.ref a :: st) w n 0 0 Q ↔ ∃ v, gf w a 2 5 = some v ∧ Ev X 7 70 [l0, l1, l2] (v :: st) w n 0 0 Q := E_getf ok_X2_copyFrom (by decide +kernel) (show decode (mB 7) 67 = .ok (.getfield 36, 3) by decide +kernel) (by decide +kernel)
theorem X2_copyFrom_70 : Ev X 7 70 [l0, l1, l2] (.int x :: .ref a :: st) w n 0 0 Q ↔ ∃ w2, pf w a 2 5 (.int x) = some w2 ∧ Ev X 7 73 [l0, l1, l2] (st) w2 n 0 0 Q := E_putf ok_X2_copyFrom rfl (show decode (mB 7) 70 = .ok (.putfield 36, 3) by decide +kernel) (by decide +kernel) (by decide +kernel)
theorem X2_copyFrom_73 : Ev X 7 73 [some (.ref a), l1, l2] (st) w n 0 0 Q ↔ Ev X 7 74 [some (.ref a), l1, l2] (.ref a :: st) w n 0 0 Q := E_p ok_X2_copyFrom (show decode (mB 7) 73 = .ok (.aload_n 0, 1) by decide +kernel) rfl rfl
theorem X2_copyFrom_74 : Ev X 7 74 [l0, some (.ref a), l2] (st) w n 0 0 Q ↔ Ev X 7 75 [l0, some (.ref a), l2] (.ref a :: st) w n 0 0 Q := E_p ok_X2_copyFrom (show decode (mB 7) 74 = .ok (.aload_n 1, 1) by decide +kernel) rfl rfl
theorem X2_copyFrom_75 : Ev X 7 75 [l0, l1, l2] (.ref a :: st) w n 0 0 Q ↔ ∃ v, gf w a 2 6 = some v ∧ Ev X 7 78 [l0, l1, l2] (v :: st) w n 0 0 Q := E_getf ok_X2_copyFrom (by decide +kernel) (show decode (mB 7) 75 = .ok (.getfield 39, 3) by decide +kernel) (by decide +kernel)
theorem X2_copyFrom_78 : Ev X 7 78 [l0, l1, l2] (.int x :: .ref a :: st) w n 0 0 Q ↔ ∃ w2, pf w a 2 6 (.int x) = some w2 ∧ Ev X 7 81 [l0, l1, l2] (st) w2 n 0 0 Q := E_putf ok_X2_copyFrom rfl (show decode (mB 7) 78 = .ok (.putfield 39, 3) by decide +kernel) (by decide +kernel) (by decide +kernel)
theorem X2_copyFrom_81 : Ev X 7 81 [some (.ref a), l1, l2] (st) w n 0 0 Q ↔ Ev X 7 82 [some (.ref a), l1, l2] (.ref a :: st) w n 0 0 Q := E_p ok_X2_copyFrom (show decode (mB 7) 81 = .ok (.aload_n 0, 1) by decide +kernel) rfl rfl
theorem X2_copyFrom_82 : Ev X 7 82 [l0, some (.ref a), l2] (st) w n 0 0 Q ↔ Ev X 7 83 [l0, some (.ref a), l2] (.ref a :: st) w n 0 0 Q := E_p ok_X2_copyFrom (show decode (mB 7) 82 = .ok (.aload_n 1, 1) by decide +kernel) rfl rfl
theorem X2_copyFrom_83 : Ev X 7 83 [l0, l1, l2] (.ref a :: st) w n 0 0 Q ↔ ∃ v, gf w a 2 7 = some v ∧ Ev X 7 86 [l0, l1, l2] (v :: st) w n 0 0 Q := E_getf ok_X2_copyFrom (by decide +kernel) (show decode (mB 7) 83 = .ok (.getfield 42, 3) by decide +kernel) (by decide +kernel)
theorem X2_copyFrom_86 : Ev X 7 86 [l0, l1, l2] (.int x :: .ref a :: st) w n 0 0 Q ↔ ∃ w2, pf w a 2 7 (.int x) = some w2 ∧ Ev X 7 89 [l0, l1, l2] (st) w2 n 0 0 Q := E_putf ok_X2_copyFrom rfl (show decode (mB 7) 86 = .ok (.putfield 42, 3) by decide +kernel) (by decide +kernel) (by decide +kernel)
theorem X2_copyFrom_89 : Ev X 7 89 [l0, l1, l2] ([]) w n 0 0 Q ↔ Q (.inl none) w n := E_retv ok_X2_copyFrom (show decode (mB 7) 89 = .ok (.return_, 1) by decide +kernel) (by decide +kernel)
theorem ok_X2_isManner : okP 8 = true := by decide +kernel
theorem X2_isManner_0 : Ev X 8 0 [some (.int x)] (st) w n 0 0 Q ↔ Ev X 8 1 [some (.int x)] (.int x :: st) w n 0 0 Q := E_p ok_X2_isManner (show decode (mB 8) 0 = .ok (.iload_n 0, 1) by decide +kernel) rfl rfl
theorem X2_isManner_1 : Ev X 8 1 [l0] (.int x :: st) w n 0 0 Q ↔ if x = 0 then Ev X 8 9 [l0] (st) w n 0 0 Q else Ev X 8 4 [l0] (st) w n 0 0 Q := E_ifeq ok_X2_isManner (show decode (mB 8) 1 = .ok (.ifCond .eq 8, 3) by decide +kernel) rfl
theorem X2_isManner_4 : Ev X 8 4 [some (.int x)] (st) w n 0 0 Q ↔ Ev X 8 5 [some (.int x)] (.int x :: st) w n 0 0 Q := E_p ok_X2_isManner (show decode (mB 8) 4 = .ok (.iload_n 0, 1) by decide +kernel) rfl rfl
theorem X2_isManner_5 : Ev X 8 5 [l0] (st) w n 0 0 Q ↔ Ev X 8 6 [l0] (.int (1) :: st) w n 0 0 Q := E_iconst ok_X2_isManner (show decode (mB 8) 5 = .ok (.iconst 1, 1) by decide +kernel) (by decide)
theorem X2_isManner_6 : Ev X 8 6 [l0] (.int y :: .int x :: st) w n 0 0 Q ↔ if x = y then Ev X 8 9 [l0] (st) w n 0 0 Q else Ev X 8 13 [l0] (st) w n 0 0 Q := E_icne ok_X2_isManner (show decode (mB 8) 6 = .ok (.if_icmp .ne 7, 3) by decide +kernel) rfl
theorem X2_isManner_9 : Ev X 8 9 [l0] (st) w n 0 0 Q ↔ Ev X 8 10 [l0] (.int (1) :: st) w n 0 0 Q := E_iconst ok_X2_isManner (show decode (mB 8) 9 = .ok (.iconst 1, 1) by decide +kernel) (by decide)
theorem X2_isManner_10 : Ev X 8 10 [l0] (st) w n 0 0 Q ↔ Ev X 8 14 [l0] (st) w n 0 0 Q := E_goto ok_X2_isManner (show decode (mB 8) 10 = .ok (.goto 4, 3) by decide +kernel) rfl
theorem X2_isManner_13 : Ev X 8 13 [l0] (st) w n 0 0 Q ↔ Ev X 8 14 [l0] (.int (0) :: st) w n 0 0 Q := E_iconst ok_X2_isManner (show decode (mB 8) 13 = .ok (.iconst 0, 1) by decide +kernel) (by decide)
theorem X2_isManner_14 (h : okr (some .boolean) x = true) : Ev X 8 14 [l0] ([.int x]) w n 0 0 Q ↔ Q (.inl (some (.int x))) w n := E_retz ok_X2_isManner (show decode (mB 8) 14 = .ok (.ireturn, 1) by decide +kernel) (by decide +kernel) h
theorem ok_X2_isClock : okP 9 = true := by decide +kernel
theorem X2_isClock_0 : Ev X 9 0 [some (.int x)] (st) w n 0 0 Q ↔ Ev X 9 1 [some (.int x)] (.int x :: st) w n 0 0 Q := E_p ok_X2_isClock (show decode (mB 9) 0 = .ok (.iload_n 0, 1) by decide +kernel) rfl rfl
theorem X2_isClock_1 : Ev X 9 1 [l0] (st) w n 0 0 Q ↔ Ev X 9 2 [l0] (.int (1) :: st) w n 0 0 Q := E_iconst ok_X2_isClock (show decode (mB 9) 1 = .ok (.iconst 1, 1) by decide +kernel) (by decide)
theorem X2_isClock_2 : Ev X 9 2 [l0] (.int y :: .int x :: st) w n 0 0 Q ↔ if x < y then Ev X 9 15 [l0] (st) w n 0 0 Q else Ev X 9 5 [l0] (st) w n 0 0 Q := E_iclt ok_X2_isClock (show decode (mB 9) 2 = .ok (.if_icmp .lt 13, 3) by decide +kernel) rfl
theorem X2_isClock_5 : Ev X 9 5 [some (.int x)] (st) w n 0 0 Q ↔ Ev X 9 6 [some (.int x)] (.int x :: st) w n 0 0 Q := E_p ok_X2_isClock (show decode (mB 9) 5 = .ok (.iload_n 0, 1) by decide +kernel) rfl rfl
theorem X2_isClock_6 : Ev X 9 6 [l0] (st) w n 0 0 Q ↔ Ev X 9 8 [l0] (.int (9) :: st) w n 0 0 Q := E_bipush ok_X2_isClock (show decode (mB 9) 6 = .ok (.bipush 9, 2) by decide +kernel) (by decide)
theorem X2_isClock_8 : Ev X 9 8 [l0] (.int y :: .int x :: st) w n 0 0 Q ↔ if y < x then Ev X 9 15 [l0] (st) w n 0 0 Q else Ev X 9 11 [l0] (st) w n 0 0 Q := E_icgt ok_X2_isClock (show decode (mB 9) 8 = .ok (.if_icmp .gt 7, 3) by decide +kernel) rfl
theorem X2_isClock_11 : Ev X 9 11 [l0] (st) w n 0 0 Q ↔ Ev X 9 12 [l0] (.int (1) :: st) w n 0 0 Q := E_iconst ok_X2_isClock (show decode (mB 9) 11 = .ok (.iconst 1, 1) by decide +kernel) (by decide)
theorem X2_isClock_12 : Ev X 9 12 [l0] (st) w n 0 0 Q ↔ Ev X 9 16 [l0] (st) w n 0 0 Q := E_goto ok_X2_isClock (show decode (mB 9) 12 = .ok (.goto 4, 3) by decide +kernel) rfl
theorem X2_isClock_15 : Ev X 9 15 [l0] (st) w n 0 0 Q ↔ Ev X 9 16 [l0] (.int (0) :: st) w n 0 0 Q := E_iconst ok_X2_isClock (show decode (mB 9) 15 = .ok (.iconst 0, 1) by decide +kernel) (by decide)
theorem X2_isClock_16 (h : okr (some .boolean) x = true) : Ev X 9 16 [l0] ([.int x]) w n 0 0 Q ↔ Q (.inl (some (.int x))) w n := E_retz ok_X2_isClock (show decode (mB 9) 16 = .ok (.ireturn, 1) by decide +kernel) (by decide +kernel) h
theorem ok_X0_refuse : okP 10 = true := by decide +kernel
theorem X0_refuse_0 : Ev X 10 0 [some (.ref a), l1, l2] (st) w n 0 0 Q ↔ Ev X 10 1 [some (.ref a), l1, l2] (.ref a :: st) w n 0 0 Q := E_p ok_X0_refuse (show decode (mB 10) 0 = .ok (.aload_n 0, 1) by decide +kernel) rfl rfl
theorem X0_refuse_1 : Ev X 10 1 [l0, some (.int x), l2] (st) w n 0 0 Q ↔ Ev X 10 2 [l0, some (.int x), l2] (.int x :: st) w n 0 0 Q := E_p ok_X0_refuse (show decode (mB 10) 1 = .ok (.iload_n 1, 1) by decide +kernel) rfl rfl
theorem X0_refuse_2 : Ev X 10 2 [l0, l1, l2] (.int x :: .ref a :: st) w n 0 0 Q ↔ ∃ w2, pf w a 0 0 (.int x) = some w2 ∧ Ev X 10 5 [l0, l1, l2] (st) w2 n 0 0 Q := E_putf ok_X0_refuse rfl (show decode (mB 10) 2 = .ok (.putfield 9, 3) by decide +kernel) (by decide +kernel) (by decide +kernel)
theorem X0_refuse_5 : Ev X 10 5 [some (.ref a), l1, l2] (st) w n 0 0 Q ↔ Ev X 10 6 [some (.ref a), l1, l2] (.ref a :: st) w n 0 0 Q := E_p ok_X0_refuse (show decode (mB 10) 5 = .ok (.aload_n 0, 1) by decide +kernel) rfl rfl
theorem X0_refuse_6 : Ev X 10 6 [l0, l1, some (.int x)] (st) w n 0 0 Q ↔ Ev X 10 7 [l0, l1, some (.int x)] (.int x :: st) w n 0 0 Q := E_p ok_X0_refuse (show decode (mB 10) 6 = .ok (.iload_n 2, 1) by decide +kernel) rfl rfl
theorem X0_refuse_7 : Ev X 10 7 [l0, l1, l2] (.int x :: .ref a :: st) w n 0 0 Q ↔ ∃ w2, pf w a 0 1 (.int x) = some w2 ∧ Ev X 10 10 [l0, l1, l2] (st) w2 n 0 0 Q := E_putf ok_X0_refuse rfl (show decode (mB 10) 7 = .ok (.putfield 15, 3) by decide +kernel) (by decide +kernel) (by decide +kernel)
theorem X0_refuse_10 : Ev X 10 10 [l0, l1, l2] (st) w n 0 0 Q ↔ Ev X 10 11 [l0, l1, l2] (.int (-1) :: st) w n 0 0 Q := E_iconst ok_X0_refuse (show decode (mB 10) 10 = .ok (.iconst (-1), 1) by decide +kernel) (by decide)
theorem X0_refuse_11 : Ev X 10 11 [l0, l1, l2] ([.int x]) w n 0 0 Q ↔ Q (.inl (some (.int x))) w n := E_reti ok_X0_refuse (show decode (mB 10) 11 = .ok (.ireturn, 1) by decide +kernel) (by decide +kernel)
theorem ok_X2_heldLadles : okP 11 = true := by decide +kernel
theorem X2_heldLadles_0 : Ev X 11 0 [l0, l1, l2] (st) w n 0 0 Q ↔ Ev X 11 1 [l0, l1, l2] (.int (0) :: st) w n 0 0 Q := E_iconst ok_X2_heldLadles (show decode (mB 11) 0 = .ok (.iconst 0, 1) by decide +kernel) (by decide)
theorem X2_heldLadles_1 : Ev X 11 1 [l0, l1, l2] (.int x :: st) w n 0 0 Q ↔ Ev X 11 2 [l0, some (.int x), l2] (st) w n 0 0 Q := E_p ok_X2_heldLadles (show decode (mB 11) 1 = .ok (.istore_n 1, 1) by decide +kernel) rfl rfl
theorem X2_heldLadles_2 : Ev X 11 2 [l0, l1, l2] (st) w n 0 0 Q ↔ Ev X 11 3 [l0, l1, l2] (.int (0) :: st) w n 0 0 Q := E_iconst ok_X2_heldLadles (show decode (mB 11) 2 = .ok (.iconst 0, 1) by decide +kernel) (by decide)
theorem X2_heldLadles_3 : Ev X 11 3 [l0, l1, l2] (.int x :: st) w n 0 0 Q ↔ Ev X 11 4 [l0, l1, some (.int x)] (st) w n 0 0 Q := E_p ok_X2_heldLadles (show decode (mB 11) 3 = .ok (.istore_n 2, 1) by decide +kernel) rfl rfl
theorem X2_heldLadles_4 : Ev X 11 4 [l0, l1, some (.int x)] (st) w n 0 0 Q ↔ Ev X 11 5 [l0, l1, some (.int x)] (.int x :: st) w n 0 0 Q := E_p ok_X2_heldLadles (show decode (mB 11) 4 = .ok (.iload_n 2, 1) by decide +kernel) rfl rfl
theorem X2_heldLadles_5 : Ev X 11 5 [some (.ref a), l1, l2] (st) w n 0 0 Q ↔ Ev X 11 6 [some (.ref a), l1, l2] (.ref a :: st) w n 0 0 Q := E_p ok_X2_heldLadles (show decode (mB 11) 5 = .ok (.aload_n 0, 1) by decide +kernel) rfl rfl
theorem X2_heldLadles_6 : Ev X 11 6 [l0, l1, l2] (.ref a :: st) w n 0 0 Q ↔ ∃ v, gf w a 2 2 = some v ∧ Ev X 11 9 [l0, l1, l2] (v :: st) w n 0 0 Q := E_getf ok_X2_heldLadles (by decide +kernel) (show decode (mB 11) 6 = .ok (.getfield 33, 3) by decide +kernel) (by decide +kernel)
theorem X2_heldLadles_9 : Ev X 11 9 [l0, l1, l2] (.int y :: .int x :: st) w n 0 0 Q ↔ if x < y then Ev X 11 12 [l0, l1, l2] (st) w n 0 0 Q else Ev X 11 31 [l0, l1, l2] (st) w n 0 0 Q := E_icge ok_X2_heldLadles (show decode (mB 11) 9 = .ok (.if_icmp .ge 22, 3) by decide +kernel) rfl
theorem X2_heldLadles_12 : Ev X 11 12 [some (.ref a), l1, l2] (st) w n 0 0 Q ↔ Ev X 11 13 [some (.ref a), l1, l2] (.ref a :: st) w n 0 0 Q := E_p ok_X2_heldLadles (show decode (mB 11) 12 = .ok (.aload_n 0, 1) by decide +kernel) rfl rfl
theorem X2_heldLadles_13 : Ev X 11 13 [l0, l1, l2] (.ref a :: st) w n 0 0 Q ↔ ∃ v, gf w a 2 1 = some v ∧ Ev X 11 16 [l0, l1, l2] (v :: st) w n 0 0 Q := E_getf ok_X2_heldLadles (by decide +kernel) (show decode (mB 11) 13 = .ok (.getfield 17, 3) by decide +kernel) (by decide +kernel)
theorem X2_heldLadles_16 : Ev X 11 16 [l0, l1, some (.int x)] (st) w n 0 0 Q ↔ Ev X 11 17 [l0, l1, some (.int x)] (.int x :: st) w n 0 0 Q := E_p ok_X2_heldLadles (show decode (mB 11) 16 = .ok (.iload_n 2, 1) by decide +kernel) rfl rfl
theorem X2_heldLadles_17 : Ev X 11 17 [l0, l1, l2] (.int x :: .ref a :: st) w n 0 0 Q ↔ ∃ v, ga w a 0 x = some v ∧ Ev X 11 18 [l0, l1, l2] (v :: st) w n 0 0 Q := E_iald ok_X2_heldLadles (by decide +kernel) (show decode (mB 11) 17 = .ok (.iaload, 1) by decide +kernel)
theorem X2_heldLadles_18 : Ev X 11 18 [l0, l1, l2] (st) w n 0 0 Q ↔ Ev X 11 19 [l0, l1, l2] (.int (-1) :: st) w n 0 0 Q := E_iconst ok_X2_heldLadles (show decode (mB 11) 18 = .ok (.iconst (-1), 1) by decide +kernel) (by decide)
theorem X2_heldLadles_19 : Ev X 11 19 [l0, l1, l2] (.int y :: .int x :: st) w n 0 0 Q ↔ if x = y then Ev X 11 25 [l0, l1, l2] (st) w n 0 0 Q else Ev X 11 22 [l0, l1, l2] (st) w n 0 0 Q := E_iceq ok_X2_heldLadles (show decode (mB 11) 19 = .ok (.if_icmp .eq 6, 3) by decide +kernel) rfl
theorem X2_heldLadles_22 : Ev X 11 22 [l0, some (.int x), l2] (st) w n 0 0 Q ↔ Ev X 11 25 [l0, some (.int (x + (1))), l2] (st) w n 0 0 Q := E_iinc ok_X2_heldLadles (show decode (mB 11) 22 = .ok (.iinc 1 1, 3) by decide +kernel) rfl (by simp only [List.length_cons, List.length_nil]; decide) (by decide) rfl
theorem X2_heldLadles_25 : Ev X 11 25 [l0, l1, some (.int x)] (st) w n 0 0 Q ↔ Ev X 11 28 [l0, l1, some (.int (x + (1)))] (st) w n 0 0 Q := E_iinc ok_X2_heldLadles (show decode (mB 11) 25 = .ok (.iinc 2 1, 3) by decide +kernel) rfl (by simp only [List.length_cons, List.length_nil]; decide) (by decide) rfl
theorem X2_heldLadles_28 : Ev X 11 28 [l0, l1, l2] (st) w n 0 0 Q ↔ Ev X 11 4 [l0, l1, l2] (st) w n 0 0 Q := E_goto ok_X2_heldLadles (show decode (mB 11) 28 = .ok (.goto (-24), 3) by decide +kernel) rfl
theorem X2_heldLadles_31 : Ev X 11 31 [l0, some (.int x), l2] (st) w n 0 0 Q ↔ Ev X 11 32 [l0, some (.int x), l2] (.int x :: st) w n 0 0 Q := E_p ok_X2_heldLadles (show decode (mB 11) 31 = .ok (.iload_n 1, 1) by decide +kernel) rfl rfl
theorem X2_heldLadles_32 : Ev X 11 32 [l0, l1, l2] ([.int x]) w n 0 0 Q ↔ Q (.inl (some (.int x))) w n := E_reti ok_X2_heldLadles (show decode (mB 11) 32 = .ok (.ireturn, 1) by decide +kernel) (by decide +kernel)
theorem ok_X1_beginToThink : okP 12 = true := by decide +kernel
theorem X1_beginToThink_0 : Ev X 12 0 [some (.ref a)] (st) w n 0 0 Q ↔ Ev X 12 1 [some (.ref a)] (.ref a :: st) w n 0 0 Q := E_p ok_X1_beginToThink (show decode (mB 12) 0 = .ok (.aload_n 0, 1) by decide +kernel) rfl rfl
theorem X1_beginToThink_1 : Ev X 12 1 [l0] (st) w n 0 0 Q ↔ Ev X 12 2 [l0] (.int (0) :: st) w n 0 0 Q := E_iconst ok_X1_beginToThink (show decode (mB 12) 1 = .ok (.iconst 0, 1) by decide +kernel) (by decide)
theorem X1_beginToThink_2 : Ev X 12 2 [l0] (.int x :: .ref a :: st) w n 0 0 Q ↔ ∃ w2, pf w a 1 3 (.int x) = some w2 ∧ Ev X 12 5 [l0] (st) w2 n 0 0 Q := E_putf ok_X1_beginToThink rfl (show decode (mB 12) 2 = .ok (.putfield 36, 3) by decide +kernel) (by decide +kernel) (by decide +kernel)
theorem X1_beginToThink_5 : Ev X 12 5 [some (.ref a)] (st) w n 0 0 Q ↔ Ev X 12 6 [some (.ref a)] (.ref a :: st) w n 0 0 Q := E_p ok_X1_beginToThink (show decode (mB 12) 5 = .ok (.aload_n 0, 1) by decide +kernel) rfl rfl
theorem X1_beginToThink_6 : Ev X 12 6 [some (.ref a)] (st) w n 0 0 Q ↔ Ev X 12 7 [some (.ref a)] (.ref a :: st) w n 0 0 Q := E_p ok_X1_beginToThink (show decode (mB 12) 6 = .ok (.aload_n 0, 1) by decide +kernel) rfl rfl
theorem X1_beginToThink_7 : Ev X 12 7 [l0] (.ref a :: st) w n 0 0 Q ↔ ∃ v, gf w a 1 1 = some v ∧ Ev X 12 10 [l0] (v :: st) w n 0 0 Q := E_getf ok_X1_beginToThink (by decide +kernel) (show decode (mB 12) 7 = .ok (.getfield 15, 3) by decide +kernel) (by decide +kernel)
theorem X1_beginToThink_10 : Ev X 12 10 [l0] (.int x :: .ref a :: st) w n 0 0 Q ↔ ∃ w2, pf w a 1 4 (.int x) = some w2 ∧ Ev X 12 13 [l0] (st) w2 n 0 0 Q := E_putf ok_X1_beginToThink rfl (show decode (mB 12) 10 = .ok (.putfield 39, 3) by decide +kernel) (by decide +kernel) (by decide +kernel)
theorem X1_beginToThink_13 : Ev X 12 13 [l0] ([]) w n 0 0 Q ↔ Q (.inl none) w n := E_retv ok_X1_beginToThink (show decode (mB 12) 13 = .ok (.return_, 1) by decide +kernel) (by decide +kernel)
theorem ok_X1_begin : okP 13 = true := by decide +kernel
theorem X1_begin_0 : Ev X 13 0 [some (.ref a), l1, l2, l3] (st) w n 0 0 Q ↔ Ev X 13 1 [some (.ref a), l1, l2, l3] (.ref a :: st) w n 0 0 Q := E_p ok_X1_begin (show decode (mB 13) 0 = .ok (.aload_n 0, 1) by decide +kernel) rfl rfl
theorem X1_begin_1 : Ev X 13 1 [l0, some (.int x), l2, l3] (st) w n 0 0 Q ↔ Ev X 13 2 [l0, some (.int x), l2, l3] (.int x :: st) w n 0 0 Q := E_p ok_X1_begin (show decode (mB 13) 1 = .ok (.iload_n 1, 1) by decide +kernel) rfl rfl
theorem X1_begin_2 : Ev X 13 2 [l0, l1, l2, l3] (.int x :: .ref a :: st) w n 0 0 Q ↔ ∃ w2, pf w a 1 0 (.int x) = some w2 ∧ Ev X 13 5 [l0, l1, l2, l3] (st) w2 n 0 0 Q := E_putf ok_X1_begin rfl (show decode (mB 13) 2 = .ok (.putfield 9, 3) by decide +kernel) (by decide +kernel) (by decide +kernel)
theorem X1_begin_5 : Ev X 13 5 [some (.ref a), l1, l2, l3] (st) w n 0 0 Q ↔ Ev X 13 6 [some (.ref a), l1, l2, l3] (.ref a :: st) w n 0 0 Q := E_p ok_X1_begin (show decode (mB 13) 5 = .ok (.aload_n 0, 1) by decide +kernel) rfl rfl
theorem X1_begin_6 : Ev X 13 6 [l0, l1, some (.int x), l3] (st) w n 0 0 Q ↔ Ev X 13 7 [l0, l1, some (.int x), l3] (.int x :: st) w n 0 0 Q := E_p ok_X1_begin (show decode (mB 13) 6 = .ok (.iload_n 2, 1) by decide +kernel) rfl rfl
theorem X1_begin_7 : Ev X 13 7 [l0, l1, l2, l3] (.int x :: .ref a :: st) w n 0 0 Q ↔ ∃ w2, pf w a 1 1 (.int x) = some w2 ∧ Ev X 13 10 [l0, l1, l2, l3] (st) w2 n 0 0 Q := E_putf ok_X1_begin rfl (show decode (mB 13) 7 = .ok (.putfield 15, 3) by decide +kernel) (by decide +kernel) (by decide +kernel)
theorem X1_begin_10 : Ev X 13 10 [some (.ref a), l1, l2, l3] (st) w n 0 0 Q ↔ Ev X 13 11 [some (.ref a), l1, l2, l3] (.ref a :: st) w n 0 0 Q := E_p ok_X1_begin (show decode (mB 13) 10 = .ok (.aload_n 0, 1) by decide +kernel) rfl rfl
theorem X1_begin_11 : Ev X 13 11 [l0, l1, l2, some (.int x)] (st) w n 0 0 Q ↔ Ev X 13 12 [l0, l1, l2, some (.int x)] (.int x :: st) w n 0 0 Q := E_p ok_X1_begin (show decode (mB 13) 11 = .ok (.iload_n 3, 1) by decide +kernel) rfl rfl
theorem X1_begin_12 : Ev X 13 12 [l0, l1, l2, l3] (.int x :: .ref a :: st) w n 0 0 Q ↔ ∃ w2, pf w a 1 2 (.int x) = some w2 ∧ Ev X 13 15 [l0, l1, l2, l3] (st) w2 n 0 0 Q := E_putf ok_X1_begin rfl (show decode (mB 13) 12 = .ok (.putfield 18, 3) by decide +kernel) (by decide +kernel) (by decide +kernel)
theorem X1_begin_15 : Ev X 13 15 [some (.ref a), l1, l2, l3] (st) w n 0 0 Q ↔ Ev X 13 16 [some (.ref a), l1, l2, l3] (.ref a :: st) w n 0 0 Q := E_p ok_X1_begin (show decode (mB 13) 15 = .ok (.aload_n 0, 1) by decide +kernel) rfl rfl
theorem X1_begin_16 : Ev X 13 16 [l0, l1, l2, l3] (st) w n 0 0 Q ↔ Ev X 13 17 [l0, l1, l2, l3] (.int (0) :: st) w n 0 0 Q := E_iconst ok_X1_begin (show decode (mB 13) 16 = .ok (.iconst 0, 1) by decide +kernel) (by decide)
theorem X1_begin_17 : Ev X 13 17 [l0, l1, l2, l3] (.int x :: .ref a :: st) w n 0 0 Q ↔ ∃ w2, pf w a 1 5 (.int x) = some w2 ∧ Ev X 13 20 [l0, l1, l2, l3] (st) w2 n 0 0 Q := E_putf ok_X1_begin rfl (show decode (mB 13) 17 = .ok (.putfield 21, 3) by decide +kernel) (by decide +kernel) (by decide +kernel)
theorem X1_begin_20 : Ev X 13 20 [some (.ref a), l1, l2, l3] (st) w n 0 0 Q ↔ Ev X 13 21 [some (.ref a), l1, l2, l3] (.ref a :: st) w n 0 0 Q := E_p ok_X1_begin (show decode (mB 13) 20 = .ok (.aload_n 0, 1) by decide +kernel) rfl rfl
theorem X1_begin_21 : Ev X 13 21 [l0, l1, l2, l3] (st) w n 0 0 Q ↔ Ev X 13 22 [l0, l1, l2, l3] (.int (0) :: st) w n 0 0 Q := E_iconst ok_X1_begin (show decode (mB 13) 21 = .ok (.iconst 0, 1) by decide +kernel) (by decide)
theorem X1_begin_22 : Ev X 13 22 [l0, l1, l2, l3] (.int x :: .ref a :: st) w n 0 0 Q ↔ ∃ w2, pf w a 1 6 (.int x) = some w2 ∧ Ev X 13 25 [l0, l1, l2, l3] (st) w2 n 0 0 Q := E_putf ok_X1_begin rfl (show decode (mB 13) 22 = .ok (.putfield 24, 3) by decide +kernel) (by decide +kernel) (by decide +kernel)
theorem X1_begin_25 : Ev X 13 25 [some (.ref a), l1, l2, l3] (st) w n 0 0 Q ↔ Ev X 13 26 [some (.ref a), l1, l2, l3] (.ref a :: st) w n 0 0 Q := E_p ok_X1_begin (show decode (mB 13) 25 = .ok (.aload_n 0, 1) by decide +kernel) rfl rfl
theorem X1_begin_26 : Ev X 13 26 [l0, l1, l2, l3] (st) w n 0 0 Q ↔ Ev X 13 27 [l0, l1, l2, l3] (.int (0) :: st) w n 0 0 Q := E_iconst ok_X1_begin (show decode (mB 13) 26 = .ok (.iconst 0, 1) by decide +kernel) (by decide)
theorem X1_begin_27 : Ev X 13 27 [l0, l1, l2, l3] (.int x :: .ref a :: st) w n 0 0 Q ↔ ∃ w2, pf w a 1 7 (.int x) = some w2 ∧ Ev X 13 30 [l0, l1, l2, l3] (st) w2 n 0 0 Q := E_putf ok_X1_begin rfl (show decode (mB 13) 27 = .ok (.putfield 27, 3) by decide +kernel) (by decide +kernel) (by decide +kernel)
theorem X1_begin_30 : Ev X 13 30 [some (.ref a), l1, l2, l3] (st) w n 0 0 Q ↔ Ev X 13 31 [some (.ref a), l1, l2, l3] (.ref a :: st) w n 0 0 Q := E_p ok_X1_begin (show decode (mB 13) 30 = .ok (.aload_n 0, 1) by decide +kernel) rfl rfl
theorem X1_begin_31 : Ev X 13 31 [l0, l1, l2, l3] (st) w n 0 0 Q ↔ Ev X 13 32 [l0, l1, l2, l3] (.int (0) :: st) w n 0 0 Q := E_iconst ok_X1_begin (show decode (mB 13) 31 = .ok (.iconst 0, 1) by decide +kernel) (by decide)
theorem X1_begin_32 : Ev X 13 32 [l0, l1, l2, l3] (.int x :: .ref a :: st) w n 0 0 Q ↔ ∃ w2, pf w a 1 8 (.int x) = some w2 ∧ Ev X 13 35 [l0, l1, l2, l3] (st) w2 n 0 0 Q := E_putf ok_X1_begin rfl (show decode (mB 13) 32 = .ok (.putfield 30, 3) by decide +kernel) (by decide +kernel) (by decide +kernel)
theorem X1_begin_35 : Ev X 13 35 [some (.ref a), l1, l2, l3] (st) w n 0 0 Q ↔ Ev X 13 36 [some (.ref a), l1, l2, l3] (.ref a :: st) w n 0 0 Q := E_p ok_X1_begin (show decode (mB 13) 35 = .ok (.aload_n 0, 1) by decide +kernel) rfl rfl
theorem X1_begin_36 (h : hasc w a 1 = true) : Ev X 13 36 [l0, l1, l2, l3] (.ref a :: []) w n 0 0 Q ↔ Ev X 12 0 [some (.ref a)] [] w n 0 0 (Kr X 13 39 [l0, l1, l2, l3] ([]) 0 0 Q) := E_cv ok_X1_begin (show decode (mB 13) 36 = .ok (.invokevirtual 33, 3) by decide +kernel) (by decide +kernel) (by decide +kernel) (by decide +kernel) (k := 0) (vs := []) rfl ((rc_Seat (M2 := 12) (by decide +kernel) (by decide +kernel)).trans h) (by simp only [List.length_cons, List.length_nil]; decide) (by simp only [List.length_cons, List.length_nil]; decide +kernel) (ent_eq (k := 0) (by simp only [List.length_cons, List.length_nil]; decide +kernel)) (by decide +kernel) (by decide +kernel)
theorem X1_begin_39 : Ev X 13 39 [l0, l1, l2, l3] ([]) w n 0 0 Q ↔ Q (.inl none) w n := E_retv ok_X1_begin (show decode (mB 13) 39 = .ok (.return_, 1) by decide +kernel) (by decide +kernel)
theorem ok_X2_addSeat : okP 14 = true := by decide +kernel
theorem X2_addSeat_0 : Ev X 14 0 [l0, some (.int x), l2, l3, l4] (st) w n 0 0 Q ↔ Ev X 14 1 [l0, some (.int x), l2, l3, l4] (.int x :: st) w n 0 0 Q := E_p ok_X2_addSeat (show decode (mB 14) 0 = .ok (.iload_n 1, 1) by decide +kernel) rfl rfl
theorem X2_addSeat_1 : Ev X 14 1 [l0, l1, l2, l3, l4] (.int y0 :: []) w n 0 0 Q ↔ Ev X 8 0 [some (.int y0)] [] w n 0 0 (Kr X 14 4 [l0, l1, l2, l3, l4] ([]) 0 0 Q) := E_cs ok_X2_addSeat (show decode (mB 14) 1 = .ok (.invokestatic 81, 3) by decide +kernel) (by decide +kernel) (by decide +kernel) (by decide +kernel) (k := 1) (vs := [.int y0]) rfl (by simp only [List.length_cons, List.length_nil]; decide) (by simp only [List.length_cons, List.length_nil]; decide +kernel) (ent_eq (k := 0) (by simp only [List.length_cons, List.length_nil]; decide +kernel)) (by decide +kernel) (by decide +kernel)
theorem X2_addSeat_4 : Ev X 14 4 [l0, l1, l2, l3, l4] (.int x :: st) w n 0 0 Q ↔ if x = 0 then Ev X 14 21 [l0, l1, l2, l3, l4] (st) w n 0 0 Q else Ev X 14 7 [l0, l1, l2, l3, l4] (st) w n 0 0 Q := E_ifeq ok_X2_addSeat (show decode (mB 14) 4 = .ok (.ifCond .eq 17, 3) by decide +kernel) rfl
theorem X2_addSeat_7 : Ev X 14 7 [l0, l1, some (.int x), l3, l4] (st) w n 0 0 Q ↔ Ev X 14 8 [l0, l1, some (.int x), l3, l4] (.int x :: st) w n 0 0 Q := E_p ok_X2_addSeat (show decode (mB 14) 7 = .ok (.iload_n 2, 1) by decide +kernel) rfl rfl
theorem X2_addSeat_8 : Ev X 14 8 [l0, l1, l2, l3, l4] (.int y0 :: []) w n 0 0 Q ↔ Ev X 9 0 [some (.int y0)] [] w n 0 0 (Kr X 14 11 [l0, l1, l2, l3, l4] ([]) 0 0 Q) := E_cs ok_X2_addSeat (show decode (mB 14) 8 = .ok (.invokestatic 85, 3) by decide +kernel) (by decide +kernel) (by decide +kernel) (by decide +kernel) (k := 1) (vs := [.int y0]) rfl (by simp only [List.length_cons, List.length_nil]; decide) (by simp only [List.length_cons, List.length_nil]; decide +kernel) (ent_eq (k := 0) (by simp only [List.length_cons, List.length_nil]; decide +kernel)) (by decide +kernel) (by decide +kernel)
theorem X2_addSeat_11 : Ev X 14 11 [l0, l1, l2, l3, l4] (.int x :: st) w n 0 0 Q ↔ if x = 0 then Ev X 14 21 [l0, l1, l2, l3, l4] (st) w n 0 0 Q else Ev X 14 14 [l0, l1, l2, l3, l4] (st) w n 0 0 Q := E_ifeq ok_X2_addSeat (show decode (mB 14) 11 = .ok (.ifCond .eq 10, 3) by decide +kernel) rfl
theorem X2_addSeat_14 : Ev X 14 14 [l0, l1, l2, some (.int x), l4] (st) w n 0 0 Q ↔ Ev X 14 15 [l0, l1, l2, some (.int x), l4] (.int x :: st) w n 0 0 Q := E_p ok_X2_addSeat (show decode (mB 14) 14 = .ok (.iload_n 3, 1) by decide +kernel) rfl rfl
theorem X2_addSeat_15 : Ev X 14 15 [l0, l1, l2, l3, l4] (.int y0 :: []) w n 0 0 Q ↔ Ev X 9 0 [some (.int y0)] [] w n 0 0 (Kr X 14 18 [l0, l1, l2, l3, l4] ([]) 0 0 Q) := E_cs ok_X2_addSeat (show decode (mB 14) 15 = .ok (.invokestatic 85, 3) by decide +kernel) (by decide +kernel) (by decide +kernel) (by decide +kernel) (k := 1) (vs := [.int y0]) rfl (by simp only [List.length_cons, List.length_nil]; decide) (by simp only [List.length_cons, List.length_nil]; decide +kernel) (ent_eq (k := 0) (by simp only [List.length_cons, List.length_nil]; decide +kernel)) (by decide +kernel) (by decide +kernel)
theorem X2_addSeat_18 : Ev X 14 18 [l0, l1, l2, l3, l4] (.int x :: st) w n 0 0 Q ↔ if x = 0 then Ev X 14 21 [l0, l1, l2, l3, l4] (st) w n 0 0 Q else Ev X 14 29 [l0, l1, l2, l3, l4] (st) w n 0 0 Q := E_ifne ok_X2_addSeat (show decode (mB 14) 18 = .ok (.ifCond .ne 11, 3) by decide +kernel) rfl
theorem X2_addSeat_21 : Ev X 14 21 [l0, l1, l2, l3, some (.ref a)] (st) w n 0 0 Q ↔ Ev X 14 23 [l0, l1, l2, l3, some (.ref a)] (.ref a :: st) w n 0 0 Q := E_p ok_X2_addSeat (show decode (mB 14) 21 = .ok (.aload 4, 2) by decide +kernel) rfl rfl
theorem X2_addSeat_23 : Ev X 14 23 [l0, l1, l2, l3, l4] (st) w n 0 0 Q ↔ Ev X 14 24 [l0, l1, l2, l3, l4] (.int (1) :: st) w n 0 0 Q := E_iconst ok_X2_addSeat (show decode (mB 14) 23 = .ok (.iconst 1, 1) by decide +kernel) (by decide)
theorem X2_addSeat_24 : Ev X 14 24 [l0, l1, l2, l3, l4] (st) w n 0 0 Q ↔ Ev X 14 25 [l0, l1, l2, l3, l4] (.int (0) :: st) w n 0 0 Q := E_iconst ok_X2_addSeat (show decode (mB 14) 24 = .ok (.iconst 0, 1) by decide +kernel) (by decide)
theorem X2_addSeat_25 (h : hasc w a 0 = true) : Ev X 14 25 [l0, l1, l2, l3, l4] (.int y1 :: .int y0 :: .ref a :: []) w n 0 0 Q ↔ Ev X 10 0 [some (.ref a), some (.int y0), some (.int y1)] [] w n 0 0 (Kr X 14 28 [l0, l1, l2, l3, l4] ([]) 0 0 Q) := E_cv ok_X2_addSeat (show decode (mB 14) 25 = .ok (.invokevirtual 88, 3) by decide +kernel) (by decide +kernel) (by decide +kernel) (by decide +kernel) (k := 2) (vs := [.int y0, .int y1]) rfl ((rc_Refusal (M2 := 10) (by decide +kernel) (by decide +kernel)).trans h) (by simp only [List.length_cons, List.length_nil]; decide) (by simp only [List.length_cons, List.length_nil]; decide +kernel) (ent_eq (k := 0) (by simp only [List.length_cons, List.length_nil]; decide +kernel)) (by decide +kernel) (by decide +kernel)
theorem X2_addSeat_28 : Ev X 14 28 [l0, l1, l2, l3, l4] ([.int x]) w n 0 0 Q ↔ Q (.inl (some (.int x))) w n := E_reti ok_X2_addSeat (show decode (mB 14) 28 = .ok (.ireturn, 1) by decide +kernel) (by decide +kernel)
theorem X2_addSeat_29 : Ev X 14 29 [some (.ref a), l1, l2, l3, l4] (st) w n 0 0 Q ↔ Ev X 14 30 [some (.ref a), l1, l2, l3, l4] (.ref a :: st) w n 0 0 Q := E_p ok_X2_addSeat (show decode (mB 14) 29 = .ok (.aload_n 0, 1) by decide +kernel) rfl rfl
theorem X2_addSeat_30 : Ev X 14 30 [l0, l1, l2, l3, l4] (.ref a :: st) w n 0 0 Q ↔ ∃ v, gf w a 2 2 = some v ∧ Ev X 14 33 [l0, l1, l2, l3, l4] (v :: st) w n 0 0 Q := E_getf ok_X2_addSeat (by decide +kernel) (show decode (mB 14) 30 = .ok (.getfield 33, 3) by decide +kernel) (by decide +kernel)
theorem X2_addSeat_33 : Ev X 14 33 [l0, l1, l2, l3, l4] (st) w n 0 0 Q ↔ Ev X 14 35 [l0, l1, l2, l3, l4] (.int (8) :: st) w n 0 0 Q := E_bipush ok_X2_addSeat (show decode (mB 14) 33 = .ok (.bipush 8, 2) by decide +kernel) (by decide)
theorem X2_addSeat_35 : Ev X 14 35 [l0, l1, l2, l3, l4] (.int y :: .int x :: st) w n 0 0 Q ↔ if x < y then Ev X 14 47 [l0, l1, l2, l3, l4] (st) w n 0 0 Q else Ev X 14 38 [l0, l1, l2, l3, l4] (st) w n 0 0 Q := E_iclt ok_X2_addSeat (show decode (mB 14) 35 = .ok (.if_icmp .lt 12, 3) by decide +kernel) rfl
theorem X2_addSeat_38 : Ev X 14 38 [l0, l1, l2, l3, some (.ref a)] (st) w n 0 0 Q ↔ Ev X 14 40 [l0, l1, l2, l3, some (.ref a)] (.ref a :: st) w n 0 0 Q := E_p ok_X2_addSeat (show decode (mB 14) 38 = .ok (.aload 4, 2) by decide +kernel) rfl rfl
theorem X2_addSeat_40 : Ev X 14 40 [l0, l1, l2, l3, l4] (st) w n 0 0 Q ↔ Ev X 14 41 [l0, l1, l2, l3, l4] (.int (2) :: st) w n 0 0 Q := E_iconst ok_X2_addSeat (show decode (mB 14) 40 = .ok (.iconst 2, 1) by decide +kernel) (by decide)
theorem X2_addSeat_41 : Ev X 14 41 [l0, l1, l2, l3, l4] (st) w n 0 0 Q ↔ Ev X 14 43 [l0, l1, l2, l3, l4] (.int (8) :: st) w n 0 0 Q := E_bipush ok_X2_addSeat (show decode (mB 14) 41 = .ok (.bipush 8, 2) by decide +kernel) (by decide)
theorem X2_addSeat_43 (h : hasc w a 0 = true) : Ev X 14 43 [l0, l1, l2, l3, l4] (.int y1 :: .int y0 :: .ref a :: []) w n 0 0 Q ↔ Ev X 10 0 [some (.ref a), some (.int y0), some (.int y1)] [] w n 0 0 (Kr X 14 46 [l0, l1, l2, l3, l4] ([]) 0 0 Q) := E_cv ok_X2_addSeat (show decode (mB 14) 43 = .ok (.invokevirtual 88, 3) by decide +kernel) (by decide +kernel) (by decide +kernel) (by decide +kernel) (k := 2) (vs := [.int y0, .int y1]) rfl ((rc_Refusal (M2 := 10) (by decide +kernel) (by decide +kernel)).trans h) (by simp only [List.length_cons, List.length_nil]; decide) (by simp only [List.length_cons, List.length_nil]; decide +kernel) (ent_eq (k := 0) (by simp only [List.length_cons, List.length_nil]; decide +kernel)) (by decide +kernel) (by decide +kernel)
theorem X2_addSeat_46 : Ev X 14 46 [l0, l1, l2, l3, l4] ([.int x]) w n 0 0 Q ↔ Q (.inl (some (.int x))) w n := E_reti ok_X2_addSeat (show decode (mB 14) 46 = .ok (.ireturn, 1) by decide +kernel) (by decide +kernel)
theorem X2_addSeat_47 : Ev X 14 47 [some (.ref a), l1, l2, l3, l4] (st) w n 0 0 Q ↔ Ev X 14 48 [some (.ref a), l1, l2, l3, l4] (.ref a :: st) w n 0 0 Q := E_p ok_X2_addSeat (show decode (mB 14) 47 = .ok (.aload_n 0, 1) by decide +kernel) rfl rfl
theorem X2_addSeat_48 (h : hasc w a 2 = true) : Ev X 14 48 [l0, l1, l2, l3, l4] (.ref a :: []) w n 0 0 Q ↔ Ev X 11 0 [some (.ref a), none, none] [] w n 0 0 (Kr X 14 51 [l0, l1, l2, l3, l4] ([]) 0 0 Q) := E_cv ok_X2_addSeat (show decode (mB 14) 48 = .ok (.invokevirtual 94, 3) by decide +kernel) (by decide +kernel) (by decide +kernel) (by decide +kernel) (k := 0) (vs := []) rfl ((rc_Table (M2 := 11) (by decide +kernel) (by decide +kernel)).trans h) (by simp only [List.length_cons, List.length_nil]; decide) (by simp only [List.length_cons, List.length_nil]; decide +kernel) (ent_eq (k := 2) (by simp only [List.length_cons, List.length_nil]; decide +kernel)) (by decide +kernel) (by decide +kernel)
theorem X2_addSeat_51 : Ev X 14 51 [l0, l1, l2, l3, l4] (.int x :: st) w n 0 0 Q ↔ if 0 < x then Ev X 14 54 [l0, l1, l2, l3, l4] (st) w n 0 0 Q else Ev X 14 65 [l0, l1, l2, l3, l4] (st) w n 0 0 Q := E_ifle ok_X2_addSeat (show decode (mB 14) 51 = .ok (.ifCond .le 14, 3) by decide +kernel) rfl
theorem X2_addSeat_54 : Ev X 14 54 [l0, l1, l2, l3, some (.ref a)] (st) w n 0 0 Q ↔ Ev X 14 56 [l0, l1, l2, l3, some (.ref a)] (.ref a :: st) w n 0 0 Q := E_p ok_X2_addSeat (show decode (mB 14) 54 = .ok (.aload 4, 2) by decide +kernel) rfl rfl
theorem X2_addSeat_56 : Ev X 14 56 [l0, l1, l2, l3, l4] (st) w n 0 0 Q ↔ Ev X 14 57 [l0, l1, l2, l3, l4] (.int (4) :: st) w n 0 0 Q := E_iconst ok_X2_addSeat (show decode (mB 14) 56 = .ok (.iconst 4, 1) by decide +kernel) (by decide)
theorem X2_addSeat_57 : Ev X 14 57 [some (.ref a), l1, l2, l3, l4] (st) w n 0 0 Q ↔ Ev X 14 58 [some (.ref a), l1, l2, l3, l4] (.ref a :: st) w n 0 0 Q := E_p ok_X2_addSeat (show decode (mB 14) 57 = .ok (.aload_n 0, 1) by decide +kernel) rfl rfl
theorem X2_addSeat_58 (h : hasc w a 2 = true) : Ev X 14 58 [l0, l1, l2, l3, l4] (.ref a :: .int z0 :: .ref e1 :: []) w n 0 0 Q ↔ Ev X 11 0 [some (.ref a), none, none] [] w n 0 0 (Kr X 14 61 [l0, l1, l2, l3, l4] (.int z0 :: .ref e1 :: []) 0 0 Q) := E_cv ok_X2_addSeat (show decode (mB 14) 58 = .ok (.invokevirtual 94, 3) by decide +kernel) (by decide +kernel) (by decide +kernel) (by decide +kernel) (k := 0) (vs := []) rfl ((rc_Table (M2 := 11) (by decide +kernel) (by decide +kernel)).trans h) (by simp only [List.length_cons, List.length_nil]; decide) (by simp only [List.length_cons, List.length_nil]; decide +kernel) (ent_eq (k := 2) (by simp only [List.length_cons, List.length_nil]; decide +kernel)) (by decide +kernel) (by decide +kernel)
theorem X2_addSeat_61 (h : hasc w a 0 = true) : Ev X 14 61 [l0, l1, l2, l3, l4] (.int y1 :: .int y0 :: .ref a :: []) w n 0 0 Q ↔ Ev X 10 0 [some (.ref a), some (.int y0), some (.int y1)] [] w n 0 0 (Kr X 14 64 [l0, l1, l2, l3, l4] ([]) 0 0 Q) := E_cv ok_X2_addSeat (show decode (mB 14) 61 = .ok (.invokevirtual 88, 3) by decide +kernel) (by decide +kernel) (by decide +kernel) (by decide +kernel) (k := 2) (vs := [.int y0, .int y1]) rfl ((rc_Refusal (M2 := 10) (by decide +kernel) (by decide +kernel)).trans h) (by simp only [List.length_cons, List.length_nil]; decide) (by simp only [List.length_cons, List.length_nil]; decide +kernel) (ent_eq (k := 0) (by simp only [List.length_cons, List.length_nil]; decide +kernel)) (by decide +kernel) (by decide +kernel)
theorem X2_addSeat_64 : Ev X 14 64 [l0, l1, l2, l3, l4] ([.int x]) w n 0 0 Q ↔ Q (.inl (some (.int x))) w n := E_reti ok_X2_addSeat (show decode (mB 14) 64 = .ok (.ireturn, 1) by decide +kernel) (by decide +kernel)
theorem X2_addSeat_65 : Ev X 14 65 [some (.ref a), l1, l2, l3, l4] (st) w n 0 0 Q ↔ Ev X 14 66 [some (.ref a), l1, l2, l3, l4] (.ref a :: st) w n 0 0 Q := E_p ok_X2_addSeat (show decode (mB 14) 65 = .ok (.aload_n 0, 1) by decide +kernel) rfl rfl
theorem X2_addSeat_66 : Ev X 14 66 [l0, l1, l2, l3, l4] (.ref a :: st) w n 0 0 Q ↔ ∃ v, gf w a 2 0 = some v ∧ Ev X 14 69 [l0, l1, l2, l3, l4] (v :: st) w n 0 0 Q := E_getf ok_X2_addSeat (by decide +kernel) (show decode (mB 14) 66 = .ok (.getfield 11, 3) by decide +kernel) (by decide +kernel)
theorem X2_addSeat_69 : Ev X 14 69 [some (.ref a), l1, l2, l3, l4] (st) w n 0 0 Q ↔ Ev X 14 70 [some (.ref a), l1, l2, l3, l4] (.ref a :: st) w n 0 0 Q := E_p ok_X2_addSeat (show decode (mB 14) 69 = .ok (.aload_n 0, 1) by decide +kernel) rfl rfl
theorem X2_addSeat_70 : Ev X 14 70 [l0, l1, l2, l3, l4] (.ref a :: st) w n 0 0 Q ↔ ∃ v, gf w a 2 2 = some v ∧ Ev X 14 73 [l0, l1, l2, l3, l4] (v :: st) w n 0 0 Q := E_getf ok_X2_addSeat (by decide +kernel) (show decode (mB 14) 70 = .ok (.getfield 33, 3) by decide +kernel) (by decide +kernel)
theorem X2_addSeat_73 : Ev X 14 73 [l0, l1, l2, l3, l4] (.int x :: .ref a :: st) w n 0 0 Q ↔ ∃ v, (ga w a 4 x).or (ga w a 5 x) = some v ∧ Ev X 14 74 [l0, l1, l2, l3, l4] (v :: st) w n 0 0 Q := E_aald ok_X2_addSeat (show decode (mB 14) 73 = .ok (.aaload, 1) by decide +kernel)
theorem X2_addSeat_74 : Ev X 14 74 [l0, some (.int x), l2, l3, l4] (st) w n 0 0 Q ↔ Ev X 14 75 [l0, some (.int x), l2, l3, l4] (.int x :: st) w n 0 0 Q := E_p ok_X2_addSeat (show decode (mB 14) 74 = .ok (.iload_n 1, 1) by decide +kernel) rfl rfl
theorem X2_addSeat_75 : Ev X 14 75 [l0, l1, some (.int x), l3, l4] (st) w n 0 0 Q ↔ Ev X 14 76 [l0, l1, some (.int x), l3, l4] (.int x :: st) w n 0 0 Q := E_p ok_X2_addSeat (show decode (mB 14) 75 = .ok (.iload_n 2, 1) by decide +kernel) rfl rfl
theorem X2_addSeat_76 : Ev X 14 76 [l0, l1, l2, some (.int x), l4] (st) w n 0 0 Q ↔ Ev X 14 77 [l0, l1, l2, some (.int x), l4] (.int x :: st) w n 0 0 Q := E_p ok_X2_addSeat (show decode (mB 14) 76 = .ok (.iload_n 3, 1) by decide +kernel) rfl rfl
theorem X2_addSeat_77 (h : hasc w a 1 = true) : Ev X 14 77 [l0, l1, l2, l3, l4] (.int y2 :: .int y1 :: .int y0 :: .ref a :: []) w n 0 0 Q ↔ Ev X 13 0 [some (.ref a), some (.int y0), some (.int y1), some (.int y2)] [] w n 0 0 (Kr X 14 80 [l0, l1, l2, l3, l4] ([]) 0 0 Q) := E_cv ok_X2_addSeat (show decode (mB 14) 77 = .ok (.invokevirtual 98, 3) by decide +kernel) (by decide +kernel) (by decide +kernel) (by decide +kernel) (k := 3) (vs := [.int y0, .int y1, .int y2]) rfl ((rc_Seat (M2 := 13) (by decide +kernel) (by decide +kernel)).trans h) (by simp only [List.length_cons, List.length_nil]; decide) (by simp only [List.length_cons, List.length_nil]; decide +kernel) (ent_eq (k := 0) (by simp only [List.length_cons, List.length_nil]; decide +kernel)) (by decide +kernel) (by decide +kernel)
theorem X2_addSeat_80 : Ev X 14 80 [some (.ref a), l1, l2, l3, l4] (st) w n 0 0 Q ↔ Ev X 14 81 [some (.ref a), l1, l2, l3, l4] (.ref a :: st) w n 0 0 Q := E_p ok_X2_addSeat (show decode (mB 14) 80 = .ok (.aload_n 0, 1) by decide +kernel) rfl rfl
theorem X2_addSeat_81 : Ev X 14 81 [l0, l1, l2, l3, l4] (.ref a :: st) w n 0 0 Q ↔ Ev X 14 82 [l0, l1, l2, l3, l4] (.ref a :: .ref a :: st) w n 0 0 Q := E_p ok_X2_addSeat (show decode (mB 14) 81 = .ok (.dup, 1) by decide +kernel) rfl rfl
theorem X2_addSeat_82 : Ev X 14 82 [l0, l1, l2, l3, l4] (.ref a :: st) w n 0 0 Q ↔ ∃ v, gf w a 2 2 = some v ∧ Ev X 14 85 [l0, l1, l2, l3, l4] (v :: st) w n 0 0 Q := E_getf ok_X2_addSeat (by decide +kernel) (show decode (mB 14) 82 = .ok (.getfield 33, 3) by decide +kernel) (by decide +kernel)
theorem X2_addSeat_85 : Ev X 14 85 [l0, l1, l2, l3, l4] (st) w n 0 0 Q ↔ Ev X 14 86 [l0, l1, l2, l3, l4] (.int (1) :: st) w n 0 0 Q := E_iconst ok_X2_addSeat (show decode (mB 14) 85 = .ok (.iconst 1, 1) by decide +kernel) (by decide)
theorem X2_addSeat_86 : Ev X 14 86 [l0, l1, l2, l3, l4] (.int y :: .int x :: st) w n 0 0 Q ↔ Ev X 14 87 [l0, l1, l2, l3, l4] (.int (x + y) :: st) w n 0 0 Q := E_p ok_X2_addSeat (show decode (mB 14) 86 = .ok (.iadd, 1) by decide +kernel) rfl rfl
theorem X2_addSeat_87 : Ev X 14 87 [l0, l1, l2, l3, l4] (.int x :: .ref a :: st) w n 0 0 Q ↔ ∃ w2, pf w a 2 2 (.int x) = some w2 ∧ Ev X 14 90 [l0, l1, l2, l3, l4] (st) w2 n 0 0 Q := E_putf ok_X2_addSeat rfl (show decode (mB 14) 87 = .ok (.putfield 33, 3) by decide +kernel) (by decide +kernel) (by decide +kernel)
theorem X2_addSeat_90 : Ev X 14 90 [some (.ref a), l1, l2, l3, l4] (st) w n 0 0 Q ↔ Ev X 14 91 [some (.ref a), l1, l2, l3, l4] (.ref a :: st) w n 0 0 Q := E_p ok_X2_addSeat (show decode (mB 14) 90 = .ok (.aload_n 0, 1) by decide +kernel) rfl rfl
theorem X2_addSeat_91 : Ev X 14 91 [l0, l1, l2, l3, l4] (.ref a :: st) w n 0 0 Q ↔ ∃ v, gf w a 2 2 = some v ∧ Ev X 14 94 [l0, l1, l2, l3, l4] (v :: st) w n 0 0 Q := E_getf ok_X2_addSeat (by decide +kernel) (show decode (mB 14) 91 = .ok (.getfield 33, 3) by decide +kernel) (by decide +kernel)
theorem X2_addSeat_94 : Ev X 14 94 [l0, l1, l2, l3, l4] (st) w n 0 0 Q ↔ Ev X 14 95 [l0, l1, l2, l3, l4] (.int (1) :: st) w n 0 0 Q := E_iconst ok_X2_addSeat (show decode (mB 14) 94 = .ok (.iconst 1, 1) by decide +kernel) (by decide)
theorem X2_addSeat_95 : Ev X 14 95 [l0, l1, l2, l3, l4] (.int y :: .int x :: st) w n 0 0 Q ↔ Ev X 14 96 [l0, l1, l2, l3, l4] (.int (x - y) :: st) w n 0 0 Q := E_p ok_X2_addSeat (show decode (mB 14) 95 = .ok (.isub, 1) by decide +kernel) rfl rfl
theorem X2_addSeat_96 : Ev X 14 96 [l0, l1, l2, l3, l4] ([.int x]) w n 0 0 Q ↔ Q (.inl (some (.int x))) w n := E_reti ok_X2_addSeat (show decode (mB 14) 96 = .ok (.ireturn, 1) by decide +kernel) (by decide +kernel)
theorem ok_X2_removeSeat : okP 31 = true := by decide +kernel
theorem X2_removeSeat_0 : Ev X 31 0 [some (.ref a), l1] (st) w n 0 0 Q ↔ Ev X 31 1 [some (.ref a), l1] (.ref a :: st) w n 0 0 Q := E_p ok_X2_removeSeat (show decode (mB 31) 0 = .ok (.aload_n 0, 1) by decide +kernel) rfl rfl
theorem X2_removeSeat_1 : Ev X 31 1 [l0, l1] (.ref a :: st) w n 0 0 Q ↔ ∃ v, gf w a 2 2 = some v ∧ Ev X 31 4 [l0, l1] (v :: st) w n 0 0 Q := E_getf ok_X2_removeSeat (by decide +kernel) (show decode (mB 31) 1 = .ok (.getfield 33, 3) by decide +kernel) (by decide +kernel)
theorem X2_removeSeat_4 : Ev X 31 4 [l0, l1] (.int x :: st) w n 0 0 Q ↔ if x = 0 then Ev X 31 7 [l0, l1] (st) w n 0 0 Q else Ev X 31 14 [l0, l1] (st) w n 0 0 Q := E_ifne ok_X2_removeSeat (show decode (mB 31) 4 = .ok (.ifCond .ne 10, 3) by decide +kernel) rfl
theorem X2_removeSeat_7 : Ev X 31 7 [l0, some (.ref a)] (st) w n 0 0 Q ↔ Ev X 31 8 [l0, some (.ref a)] (.ref a :: st) w n 0 0 Q := E_p ok_X2_removeSeat (show decode (mB 31) 7 = .ok (.aload_n 1, 1) by decide +kernel) rfl rfl
theorem X2_removeSeat_8 : Ev X 31 8 [l0, l1] (st) w n 0 0 Q ↔ Ev X 31 9 [l0, l1] (.int (5) :: st) w n 0 0 Q := E_iconst ok_X2_removeSeat (show decode (mB 31) 8 = .ok (.iconst 5, 1) by decide +kernel) (by decide)
theorem X2_removeSeat_9 : Ev X 31 9 [l0, l1] (st) w n 0 0 Q ↔ Ev X 31 10 [l0, l1] (.int (0) :: st) w n 0 0 Q := E_iconst ok_X2_removeSeat (show decode (mB 31) 9 = .ok (.iconst 0, 1) by decide +kernel) (by decide)
theorem X2_removeSeat_10 (h : hasc w a 0 = true) : Ev X 31 10 [l0, l1] (.int y1 :: .int y0 :: .ref a :: []) w n 0 0 Q ↔ Ev X 10 0 [some (.ref a), some (.int y0), some (.int y1)] [] w n 0 0 (Kr X 31 13 [l0, l1] ([]) 0 0 Q) := E_cv ok_X2_removeSeat (show decode (mB 31) 10 = .ok (.invokevirtual 88, 3) by decide +kernel) (by decide +kernel) (by decide +kernel) (by decide +kernel) (k := 2) (vs := [.int y0, .int y1]) rfl ((rc_Refusal (M2 := 10) (by decide +kernel) (by decide +kernel)).trans h) (by simp only [List.length_cons, List.length_nil]; decide) (by simp only [List.length_cons, List.length_nil]; decide +kernel) (ent_eq (k := 0) (by simp only [List.length_cons, List.length_nil]; decide +kernel)) (by decide +kernel) (by decide +kernel)
theorem X2_removeSeat_13 : Ev X 31 13 [l0, l1] ([.int x]) w n 0 0 Q ↔ Q (.inl (some (.int x))) w n := E_reti ok_X2_removeSeat (show decode (mB 31) 13 = .ok (.ireturn, 1) by decide +kernel) (by decide +kernel)
theorem X2_removeSeat_14 : Ev X 31 14 [some (.ref a), l1] (st) w n 0 0 Q ↔ Ev X 31 15 [some (.ref a), l1] (.ref a :: st) w n 0 0 Q := E_p ok_X2_removeSeat (show decode (mB 31) 14 = .ok (.aload_n 0, 1) by decide +kernel) rfl rfl
theorem X2_removeSeat_15 (h : hasc w a 2 = true) : Ev X 31 15 [l0, l1] (.ref a :: []) w n 0 0 Q ↔ Ev X 11 0 [some (.ref a), none, none] [] w n 0 0 (Kr X 31 18 [l0, l1] ([]) 0 0 Q) := E_cv ok_X2_removeSeat (show decode (mB 31) 15 = .ok (.invokevirtual 94, 3) by decide +kernel) (by decide +kernel) (by decide +kernel) (by decide +kernel) (k := 0) (vs := []) rfl ((rc_Table (M2 := 11) (by decide +kernel) (by decide +kernel)).trans h) (by simp only [List.length_cons, List.length_nil]; decide) (by simp only [List.length_cons, List.length_nil]; decide +kernel) (ent_eq (k := 2) (by simp only [List.length_cons, List.length_nil]; decide +kernel)) (by decide +kernel) (by decide +kernel)
theorem X2_removeSeat_18 : Ev X 31 18 [l0, l1] (.int x :: st) w n 0 0 Q ↔ if 0 < x then Ev X 31 21 [l0, l1] (st) w n 0 0 Q else Ev X 31 31 [l0, l1] (st) w n 0 0 Q := E_ifle ok_X2_removeSeat (show decode (mB 31) 18 = .ok (.ifCond .le 13, 3) by decide +kernel) rfl
theorem X2_removeSeat_21 : Ev X 31 21 [l0, some (.ref a)] (st) w n 0 0 Q ↔ Ev X 31 22 [l0, some (.ref a)] (.ref a :: st) w n 0 0 Q := E_p ok_X2_removeSeat (show decode (mB 31) 21 = .ok (.aload_n 1, 1) by decide +kernel) rfl rfl
theorem X2_removeSeat_22 : Ev X 31 22 [l0, l1] (st) w n 0 0 Q ↔ Ev X 31 23 [l0, l1] (.int (4) :: st) w n 0 0 Q := E_iconst ok_X2_removeSeat (show decode (mB 31) 22 = .ok (.iconst 4, 1) by decide +kernel) (by decide)
theorem X2_removeSeat_23 : Ev X 31 23 [some (.ref a), l1] (st) w n 0 0 Q ↔ Ev X 31 24 [some (.ref a), l1] (.ref a :: st) w n 0 0 Q := E_p ok_X2_removeSeat (show decode (mB 31) 23 = .ok (.aload_n 0, 1) by decide +kernel) rfl rfl
theorem X2_removeSeat_24 (h : hasc w a 2 = true) : Ev X 31 24 [l0, l1] (.ref a :: .int z0 :: .ref e1 :: []) w n 0 0 Q ↔ Ev X 11 0 [some (.ref a), none, none] [] w n 0 0 (Kr X 31 27 [l0, l1] (.int z0 :: .ref e1 :: []) 0 0 Q) := E_cv ok_X2_removeSeat (show decode (mB 31) 24 = .ok (.invokevirtual 94, 3) by decide +kernel) (by decide +kernel) (by decide +kernel) (by decide +kernel) (k := 0) (vs := []) rfl ((rc_Table (M2 := 11) (by decide +kernel) (by decide +kernel)).trans h) (by simp only [List.length_cons, List.length_nil]; decide) (by simp only [List.length_cons, List.length_nil]; decide +kernel) (ent_eq (k := 2) (by simp only [List.length_cons, List.length_nil]; decide +kernel)) (by decide +kernel) (by decide +kernel)
theorem X2_removeSeat_27 (h : hasc w a 0 = true) : Ev X 31 27 [l0, l1] (.int y1 :: .int y0 :: .ref a :: []) w n 0 0 Q ↔ Ev X 10 0 [some (.ref a), some (.int y0), some (.int y1)] [] w n 0 0 (Kr X 31 30 [l0, l1] ([]) 0 0 Q) := E_cv ok_X2_removeSeat (show decode (mB 31) 27 = .ok (.invokevirtual 88, 3) by decide +kernel) (by decide +kernel) (by decide +kernel) (by decide +kernel) (k := 2) (vs := [.int y0, .int y1]) rfl ((rc_Refusal (M2 := 10) (by decide +kernel) (by decide +kernel)).trans h) (by simp only [List.length_cons, List.length_nil]; decide) (by simp only [List.length_cons, List.length_nil]; decide +kernel) (ent_eq (k := 0) (by simp only [List.length_cons, List.length_nil]; decide +kernel)) (by decide +kernel) (by decide +kernel)
theorem X2_removeSeat_30 : Ev X 31 30 [l0, l1] ([.int x]) w n 0 0 Q ↔ Q (.inl (some (.int x))) w n := E_reti ok_X2_removeSeat (show decode (mB 31) 30 = .ok (.ireturn, 1) by decide +kernel) (by decide +kernel)
theorem X2_removeSeat_31 : Ev X 31 31 [some (.ref a), l1] (st) w n 0 0 Q ↔ Ev X 31 32 [some (.ref a), l1] (.ref a :: st) w n 0 0 Q := E_p ok_X2_removeSeat (show decode (mB 31) 31 = .ok (.aload_n 0, 1) by decide +kernel) rfl rfl
theorem X2_removeSeat_32 : Ev X 31 32 [l0, l1] (.ref a :: st) w n 0 0 Q ↔ Ev X 31 33 [l0, l1] (.ref a :: .ref a :: st) w n 0 0 Q := E_p ok_X2_removeSeat (show decode (mB 31) 32 = .ok (.dup, 1) by decide +kernel) rfl rfl
theorem X2_removeSeat_33 : Ev X 31 33 [l0, l1] (.ref a :: st) w n 0 0 Q ↔ ∃ v, gf w a 2 2 = some v ∧ Ev X 31 36 [l0, l1] (v :: st) w n 0 0 Q := E_getf ok_X2_removeSeat (by decide +kernel) (show decode (mB 31) 33 = .ok (.getfield 33, 3) by decide +kernel) (by decide +kernel)
theorem X2_removeSeat_36 : Ev X 31 36 [l0, l1] (st) w n 0 0 Q ↔ Ev X 31 37 [l0, l1] (.int (1) :: st) w n 0 0 Q := E_iconst ok_X2_removeSeat (show decode (mB 31) 36 = .ok (.iconst 1, 1) by decide +kernel) (by decide)
theorem X2_removeSeat_37 : Ev X 31 37 [l0, l1] (.int y :: .int x :: st) w n 0 0 Q ↔ Ev X 31 38 [l0, l1] (.int (x - y) :: st) w n 0 0 Q := E_p ok_X2_removeSeat (show decode (mB 31) 37 = .ok (.isub, 1) by decide +kernel) rfl rfl
theorem X2_removeSeat_38 : Ev X 31 38 [l0, l1] (.int x :: .ref a :: st) w n 0 0 Q ↔ ∃ w2, pf w a 2 2 (.int x) = some w2 ∧ Ev X 31 41 [l0, l1] (st) w2 n 0 0 Q := E_putf ok_X2_removeSeat rfl (show decode (mB 31) 38 = .ok (.putfield 33, 3) by decide +kernel) (by decide +kernel) (by decide +kernel)
theorem X2_removeSeat_41 : Ev X 31 41 [some (.ref a), l1] (st) w n 0 0 Q ↔ Ev X 31 42 [some (.ref a), l1] (.ref a :: st) w n 0 0 Q := E_p ok_X2_removeSeat (show decode (mB 31) 41 = .ok (.aload_n 0, 1) by decide +kernel) rfl rfl
theorem X2_removeSeat_42 : Ev X 31 42 [l0, l1] (.ref a :: st) w n 0 0 Q ↔ ∃ v, gf w a 2 2 = some v ∧ Ev X 31 45 [l0, l1] (v :: st) w n 0 0 Q := E_getf ok_X2_removeSeat (by decide +kernel) (show decode (mB 31) 42 = .ok (.getfield 33, 3) by decide +kernel) (by decide +kernel)
theorem X2_removeSeat_45 : Ev X 31 45 [l0, l1] ([.int x]) w n 0 0 Q ↔ Q (.inl (some (.int x))) w n := E_reti ok_X2_removeSeat (show decode (mB 31) 45 = .ok (.ireturn, 1) by decide +kernel) (by decide +kernel)
theorem ok_X2_hasSeat : okP 37 = true := by decide +kernel
theorem X2_hasSeat_0 : Ev X 37 0 [l0, some (.int x)] (st) w n 0 0 Q ↔ Ev X 37 1 [l0, some (.int x)] (.int x :: st) w n 0 0 Q := E_p ok_X2_hasSeat (show decode (mB 37) 0 = .ok (.iload_n 1, 1) by decide +kernel) rfl rfl
theorem X2_hasSeat_1 : Ev X 37 1 [l0, l1] (.int x :: st) w n 0 0 Q ↔ if x < 0 then Ev X 37 16 [l0, l1] (st) w n 0 0 Q else Ev X 37 4 [l0, l1] (st) w n 0 0 Q := E_iflt ok_X2_hasSeat (show decode (mB 37) 1 = .ok (.ifCond .lt 15, 3) by decide +kernel) rfl
theorem X2_hasSeat_4 : Ev X 37 4 [l0, some (.int x)] (st) w n 0 0 Q ↔ Ev X 37 5 [l0, some (.int x)] (.int x :: st) w n 0 0 Q := E_p ok_X2_hasSeat (show decode (mB 37) 4 = .ok (.iload_n 1, 1) by decide +kernel) rfl rfl
theorem X2_hasSeat_5 : Ev X 37 5 [some (.ref a), l1] (st) w n 0 0 Q ↔ Ev X 37 6 [some (.ref a), l1] (.ref a :: st) w n 0 0 Q := E_p ok_X2_hasSeat (show decode (mB 37) 5 = .ok (.aload_n 0, 1) by decide +kernel) rfl rfl
theorem X2_hasSeat_6 : Ev X 37 6 [l0, l1] (.ref a :: st) w n 0 0 Q ↔ ∃ v, gf w a 2 2 = some v ∧ Ev X 37 9 [l0, l1] (v :: st) w n 0 0 Q := E_getf ok_X2_hasSeat (by decide +kernel) (show decode (mB 37) 6 = .ok (.getfield 33, 3) by decide +kernel) (by decide +kernel)
theorem X2_hasSeat_9 : Ev X 37 9 [l0, l1] (.int y :: .int x :: st) w n 0 0 Q ↔ if x < y then Ev X 37 12 [l0, l1] (st) w n 0 0 Q else Ev X 37 16 [l0, l1] (st) w n 0 0 Q := E_icge ok_X2_hasSeat (show decode (mB 37) 9 = .ok (.if_icmp .ge 7, 3) by decide +kernel) rfl
theorem X2_hasSeat_12 : Ev X 37 12 [l0, l1] (st) w n 0 0 Q ↔ Ev X 37 13 [l0, l1] (.int (1) :: st) w n 0 0 Q := E_iconst ok_X2_hasSeat (show decode (mB 37) 12 = .ok (.iconst 1, 1) by decide +kernel) (by decide)
theorem X2_hasSeat_13 : Ev X 37 13 [l0, l1] (st) w n 0 0 Q ↔ Ev X 37 17 [l0, l1] (st) w n 0 0 Q := E_goto ok_X2_hasSeat (show decode (mB 37) 13 = .ok (.goto 4, 3) by decide +kernel) rfl
theorem X2_hasSeat_16 : Ev X 37 16 [l0, l1] (st) w n 0 0 Q ↔ Ev X 37 17 [l0, l1] (.int (0) :: st) w n 0 0 Q := E_iconst ok_X2_hasSeat (show decode (mB 37) 16 = .ok (.iconst 0, 1) by decide +kernel) (by decide)
theorem X2_hasSeat_17 (h : okr (some .boolean) x = true) : Ev X 37 17 [l0, l1] ([.int x]) w n 0 0 Q ↔ Q (.inl (some (.int x))) w n := E_retz ok_X2_hasSeat (show decode (mB 37) 17 = .ok (.ireturn, 1) by decide +kernel) (by decide +kernel) h
theorem ok_X2_setManner : okP 38 = true := by decide +kernel
theorem X2_setManner_0 : Ev X 38 0 [some (.ref a), l1, l2, l3] (st) w n 0 0 Q ↔ Ev X 38 1 [some (.ref a), l1, l2, l3] (.ref a :: st) w n 0 0 Q := E_p ok_X2_setManner (show decode (mB 38) 0 = .ok (.aload_n 0, 1) by decide +kernel) rfl rfl
theorem X2_setManner_1 : Ev X 38 1 [l0, some (.int x), l2, l3] (st) w n 0 0 Q ↔ Ev X 38 2 [l0, some (.int x), l2, l3] (.int x :: st) w n 0 0 Q := E_p ok_X2_setManner (show decode (mB 38) 1 = .ok (.iload_n 1, 1) by decide +kernel) rfl rfl
theorem X2_setManner_2 (h : hasc w a 2 = true) : Ev X 38 2 [l0, l1, l2, l3] (.int y0 :: .ref a :: []) w n 0 0 Q ↔ Ev X 37 0 [some (.ref a), some (.int y0)] [] w n 0 0 (Kr X 38 5 [l0, l1, l2, l3] ([]) 0 0 Q) := E_cv ok_X2_setManner (show decode (mB 38) 2 = .ok (.invokevirtual 102, 3) by decide +kernel) (by decide +kernel) (by decide +kernel) (by decide +kernel) (k := 1) (vs := [.int y0]) rfl ((rc_Table (M2 := 37) (by decide +kernel) (by decide +kernel)).trans h) (by simp only [List.length_cons, List.length_nil]; decide) (by simp only [List.length_cons, List.length_nil]; decide +kernel) (ent_eq (k := 0) (by simp only [List.length_cons, List.length_nil]; decide +kernel)) (by decide +kernel) (by decide +kernel)
theorem X2_setManner_5 : Ev X 38 5 [l0, l1, l2, l3] (.int x :: st) w n 0 0 Q ↔ if x = 0 then Ev X 38 8 [l0, l1, l2, l3] (st) w n 0 0 Q else Ev X 38 15 [l0, l1, l2, l3] (st) w n 0 0 Q := E_ifne ok_X2_setManner (show decode (mB 38) 5 = .ok (.ifCond .ne 10, 3) by decide +kernel) rfl
theorem X2_setManner_8 : Ev X 38 8 [l0, l1, l2, some (.ref a)] (st) w n 0 0 Q ↔ Ev X 38 9 [l0, l1, l2, some (.ref a)] (.ref a :: st) w n 0 0 Q := E_p ok_X2_setManner (show decode (mB 38) 8 = .ok (.aload_n 3, 1) by decide +kernel) rfl rfl
theorem X2_setManner_9 : Ev X 38 9 [l0, l1, l2, l3] (st) w n 0 0 Q ↔ Ev X 38 10 [l0, l1, l2, l3] (.int (3) :: st) w n 0 0 Q := E_iconst ok_X2_setManner (show decode (mB 38) 9 = .ok (.iconst 3, 1) by decide +kernel) (by decide)
theorem X2_setManner_10 : Ev X 38 10 [l0, some (.int x), l2, l3] (st) w n 0 0 Q ↔ Ev X 38 11 [l0, some (.int x), l2, l3] (.int x :: st) w n 0 0 Q := E_p ok_X2_setManner (show decode (mB 38) 10 = .ok (.iload_n 1, 1) by decide +kernel) rfl rfl
theorem X2_setManner_11 (h : hasc w a 0 = true) : Ev X 38 11 [l0, l1, l2, l3] (.int y1 :: .int y0 :: .ref a :: []) w n 0 0 Q ↔ Ev X 10 0 [some (.ref a), some (.int y0), some (.int y1)] [] w n 0 0 (Kr X 38 14 [l0, l1, l2, l3] ([]) 0 0 Q) := E_cv ok_X2_setManner (show decode (mB 38) 11 = .ok (.invokevirtual 88, 3) by decide +kernel) (by decide +kernel) (by decide +kernel) (by decide +kernel) (k := 2) (vs := [.int y0, .int y1]) rfl ((rc_Refusal (M2 := 10) (by decide +kernel) (by decide +kernel)).trans h) (by simp only [List.length_cons, List.length_nil]; decide) (by simp only [List.length_cons, List.length_nil]; decide +kernel) (ent_eq (k := 0) (by simp only [List.length_cons, List.length_nil]; decide +kernel)) (by decide +kernel) (by decide +kernel)
theorem X2_setManner_14 : Ev X 38 14 [l0, l1, l2, l3] ([.int x]) w n 0 0 Q ↔ Q (.inl (some (.int x))) w n := E_reti ok_X2_setManner (show decode (mB 38) 14 = .ok (.ireturn, 1) by decide +kernel) (by decide +kernel)
theorem X2_setManner_15 : Ev X 38 15 [l0, l1, some (.int x), l3] (st) w n 0 0 Q ↔ Ev X 38 16 [l0, l1, some (.int x), l3] (.int x :: st) w n 0 0 Q := E_p ok_X2_setManner (show decode (mB 38) 15 = .ok (.iload_n 2, 1) by decide +kernel) rfl rfl
theorem X2_setManner_16 : Ev X 38 16 [l0, l1, l2, l3] (.int y0 :: []) w n 0 0 Q ↔ Ev X 8 0 [some (.int y0)] [] w n 0 0 (Kr X 38 19 [l0, l1, l2, l3] ([]) 0 0 Q) := E_cs ok_X2_setManner (show decode (mB 38) 16 = .ok (.invokestatic 81, 3) by decide +kernel) (by decide +kernel) (by decide +kernel) (by decide +kernel) (k := 1) (vs := [.int y0]) rfl (by simp only [List.length_cons, List.length_nil]; decide) (by simp only [List.length_cons, List.length_nil]; decide +kernel) (ent_eq (k := 0) (by simp only [List.length_cons, List.length_nil]; decide +kernel)) (by decide +kernel) (by decide +kernel)
theorem X2_setManner_19 : Ev X 38 19 [l0, l1, l2, l3] (.int x :: st) w n 0 0 Q ↔ if x = 0 then Ev X 38 22 [l0, l1, l2, l3] (st) w n 0 0 Q else Ev X 38 29 [l0, l1, l2, l3] (st) w n 0 0 Q := E_ifne ok_X2_setManner (show decode (mB 38) 19 = .ok (.ifCond .ne 10, 3) by decide +kernel) rfl
theorem X2_setManner_22 : Ev X 38 22 [l0, l1, l2, some (.ref a)] (st) w n 0 0 Q ↔ Ev X 38 23 [l0, l1, l2, some (.ref a)] (.ref a :: st) w n 0 0 Q := E_p ok_X2_setManner (show decode (mB 38) 22 = .ok (.aload_n 3, 1) by decide +kernel) rfl rfl
theorem X2_setManner_23 : Ev X 38 23 [l0, l1, l2, l3] (st) w n 0 0 Q ↔ Ev X 38 24 [l0, l1, l2, l3] (.int (1) :: st) w n 0 0 Q := E_iconst ok_X2_setManner (show decode (mB 38) 23 = .ok (.iconst 1, 1) by decide +kernel) (by decide)
theorem X2_setManner_24 : Ev X 38 24 [l0, l1, l2, l3] (st) w n 0 0 Q ↔ Ev X 38 25 [l0, l1, l2, l3] (.int (0) :: st) w n 0 0 Q := E_iconst ok_X2_setManner (show decode (mB 38) 24 = .ok (.iconst 0, 1) by decide +kernel) (by decide)
theorem X2_setManner_25 (h : hasc w a 0 = true) : Ev X 38 25 [l0, l1, l2, l3] (.int y1 :: .int y0 :: .ref a :: []) w n 0 0 Q ↔ Ev X 10 0 [some (.ref a), some (.int y0), some (.int y1)] [] w n 0 0 (Kr X 38 28 [l0, l1, l2, l3] ([]) 0 0 Q) := E_cv ok_X2_setManner (show decode (mB 38) 25 = .ok (.invokevirtual 88, 3) by decide +kernel) (by decide +kernel) (by decide +kernel) (by decide +kernel) (k := 2) (vs := [.int y0, .int y1]) rfl ((rc_Refusal (M2 := 10) (by decide +kernel) (by decide +kernel)).trans h) (by simp only [List.length_cons, List.length_nil]; decide) (by simp only [List.length_cons, List.length_nil]; decide +kernel) (ent_eq (k := 0) (by simp only [List.length_cons, List.length_nil]; decide +kernel)) (by decide +kernel) (by decide +kernel)
theorem X2_setManner_28 : Ev X 38 28 [l0, l1, l2, l3] ([.int x]) w n 0 0 Q ↔ Q (.inl (some (.int x))) w n := E_reti ok_X2_setManner (show decode (mB 38) 28 = .ok (.ireturn, 1) by decide +kernel) (by decide +kernel)
theorem X2_setManner_29 : Ev X 38 29 [some (.ref a), l1, l2, l3] (st) w n 0 0 Q ↔ Ev X 38 30 [some (.ref a), l1, l2, l3] (.ref a :: st) w n 0 0 Q := E_p ok_X2_setManner (show decode (mB 38) 29 = .ok (.aload_n 0, 1) by decide +kernel) rfl rfl
theorem X2_setManner_30 : Ev X 38 30 [l0, l1, l2, l3] (.ref a :: st) w n 0 0 Q ↔ ∃ v, gf w a 2 0 = some v ∧ Ev X 38 33 [l0, l1, l2, l3] (v :: st) w n 0 0 Q := E_getf ok_X2_setManner (by decide +kernel) (show decode (mB 38) 30 = .ok (.getfield 11, 3) by decide +kernel) (by decide +kernel)
theorem X2_setManner_33 : Ev X 38 33 [l0, some (.int x), l2, l3] (st) w n 0 0 Q ↔ Ev X 38 34 [l0, some (.int x), l2, l3] (.int x :: st) w n 0 0 Q := E_p ok_X2_setManner (show decode (mB 38) 33 = .ok (.iload_n 1, 1) by decide +kernel) rfl rfl
theorem X2_setManner_34 : Ev X 38 34 [l0, l1, l2, l3] (.int x :: .ref a :: st) w n 0 0 Q ↔ ∃ v, (ga w a 4 x).or (ga w a 5 x) = some v ∧ Ev X 38 35 [l0, l1, l2, l3] (v :: st) w n 0 0 Q := E_aald ok_X2_setManner (show decode (mB 38) 34 = .ok (.aaload, 1) by decide +kernel)
theorem X2_setManner_35 : Ev X 38 35 [l0, l1, l2, l3] (.ref a :: st) w n 0 0 Q ↔ ∃ v, gf w a 1 0 = some v ∧ Ev X 38 38 [l0, l1, l2, l3] (v :: st) w n 0 0 Q := E_getf ok_X2_setManner (by decide +kernel) (show decode (mB 38) 35 = .ok (.getfield 105, 3) by decide +kernel) (by decide +kernel)
theorem X2_setManner_38 : Ev X 38 38 [l0, l1, some (.int x), l3] (st) w n 0 0 Q ↔ Ev X 38 39 [l0, l1, some (.int x), l3] (.int x :: st) w n 0 0 Q := E_p ok_X2_setManner (show decode (mB 38) 38 = .ok (.iload_n 2, 1) by decide +kernel) rfl rfl
theorem X2_setManner_39 : Ev X 38 39 [l0, l1, l2, l3] (.int y :: .int x :: st) w n 0 0 Q ↔ if x = y then Ev X 38 42 [l0, l1, l2, l3] (st) w n 0 0 Q else Ev X 38 50 [l0, l1, l2, l3] (st) w n 0 0 Q := E_icne ok_X2_setManner (show decode (mB 38) 39 = .ok (.if_icmp .ne 11, 3) by decide +kernel) rfl
theorem X2_setManner_42 : Ev X 38 42 [l0, l1, l2, some (.ref a)] (st) w n 0 0 Q ↔ Ev X 38 43 [l0, l1, l2, some (.ref a)] (.ref a :: st) w n 0 0 Q := E_p ok_X2_setManner (show decode (mB 38) 42 = .ok (.aload_n 3, 1) by decide +kernel) rfl rfl
theorem X2_setManner_43 : Ev X 38 43 [l0, l1, l2, l3] (st) w n 0 0 Q ↔ Ev X 38 45 [l0, l1, l2, l3] (.int (7) :: st) w n 0 0 Q := E_bipush ok_X2_setManner (show decode (mB 38) 43 = .ok (.bipush 7, 2) by decide +kernel) (by decide)
theorem X2_setManner_45 : Ev X 38 45 [l0, l1, l2, l3] (st) w n 0 0 Q ↔ Ev X 38 46 [l0, l1, l2, l3] (.int (0) :: st) w n 0 0 Q := E_iconst ok_X2_setManner (show decode (mB 38) 45 = .ok (.iconst 0, 1) by decide +kernel) (by decide)
theorem X2_setManner_46 (h : hasc w a 0 = true) : Ev X 38 46 [l0, l1, l2, l3] (.int y1 :: .int y0 :: .ref a :: []) w n 0 0 Q ↔ Ev X 10 0 [some (.ref a), some (.int y0), some (.int y1)] [] w n 0 0 (Kr X 38 49 [l0, l1, l2, l3] ([]) 0 0 Q) := E_cv ok_X2_setManner (show decode (mB 38) 46 = .ok (.invokevirtual 88, 3) by decide +kernel) (by decide +kernel) (by decide +kernel) (by decide +kernel) (k := 2) (vs := [.int y0, .int y1]) rfl ((rc_Refusal (M2 := 10) (by decide +kernel) (by decide +kernel)).trans h) (by simp only [List.length_cons, List.length_nil]; decide) (by simp only [List.length_cons, List.length_nil]; decide +kernel) (ent_eq (k := 0) (by simp only [List.length_cons, List.length_nil]; decide +kernel)) (by decide +kernel) (by decide +kernel)
theorem X2_setManner_49 : Ev X 38 49 [l0, l1, l2, l3] ([.int x]) w n 0 0 Q ↔ Q (.inl (some (.int x))) w n := E_reti ok_X2_setManner (show decode (mB 38) 49 = .ok (.ireturn, 1) by decide +kernel) (by decide +kernel)
theorem X2_setManner_50 : Ev X 38 50 [some (.ref a), l1, l2, l3] (st) w n 0 0 Q ↔ Ev X 38 51 [some (.ref a), l1, l2, l3] (.ref a :: st) w n 0 0 Q := E_p ok_X2_setManner (show decode (mB 38) 50 = .ok (.aload_n 0, 1) by decide +kernel) rfl rfl
theorem X2_setManner_51 : Ev X 38 51 [l0, l1, l2, l3] (.ref a :: st) w n 0 0 Q ↔ ∃ v, gf w a 2 0 = some v ∧ Ev X 38 54 [l0, l1, l2, l3] (v :: st) w n 0 0 Q := E_getf ok_X2_setManner (by decide +kernel) (show decode (mB 38) 51 = .ok (.getfield 11, 3) by decide +kernel) (by decide +kernel)
theorem X2_setManner_54 : Ev X 38 54 [l0, some (.int x), l2, l3] (st) w n 0 0 Q ↔ Ev X 38 55 [l0, some (.int x), l2, l3] (.int x :: st) w n 0 0 Q := E_p ok_X2_setManner (show decode (mB 38) 54 = .ok (.iload_n 1, 1) by decide +kernel) rfl rfl
theorem X2_setManner_55 : Ev X 38 55 [l0, l1, l2, l3] (.int x :: .ref a :: st) w n 0 0 Q ↔ ∃ v, (ga w a 4 x).or (ga w a 5 x) = some v ∧ Ev X 38 56 [l0, l1, l2, l3] (v :: st) w n 0 0 Q := E_aald ok_X2_setManner (show decode (mB 38) 55 = .ok (.aaload, 1) by decide +kernel)
theorem X2_setManner_56 : Ev X 38 56 [l0, l1, some (.int x), l3] (st) w n 0 0 Q ↔ Ev X 38 57 [l0, l1, some (.int x), l3] (.int x :: st) w n 0 0 Q := E_p ok_X2_setManner (show decode (mB 38) 56 = .ok (.iload_n 2, 1) by decide +kernel) rfl rfl
theorem X2_setManner_57 : Ev X 38 57 [l0, l1, l2, l3] (.int x :: .ref a :: st) w n 0 0 Q ↔ ∃ w2, pf w a 1 0 (.int x) = some w2 ∧ Ev X 38 60 [l0, l1, l2, l3] (st) w2 n 0 0 Q := E_putf ok_X2_setManner rfl (show decode (mB 38) 57 = .ok (.putfield 105, 3) by decide +kernel) (by decide +kernel) (by decide +kernel)
theorem X2_setManner_60 : Ev X 38 60 [some (.ref a), l1, l2, l3] (st) w n 0 0 Q ↔ Ev X 38 61 [some (.ref a), l1, l2, l3] (.ref a :: st) w n 0 0 Q := E_p ok_X2_setManner (show decode (mB 38) 60 = .ok (.aload_n 0, 1) by decide +kernel) rfl rfl
theorem X2_setManner_61 : Ev X 38 61 [l0, l1, l2, l3] (.ref a :: st) w n 0 0 Q ↔ ∃ v, gf w a 2 0 = some v ∧ Ev X 38 64 [l0, l1, l2, l3] (v :: st) w n 0 0 Q := E_getf ok_X2_setManner (by decide +kernel) (show decode (mB 38) 61 = .ok (.getfield 11, 3) by decide +kernel) (by decide +kernel)
theorem X2_setManner_64 : Ev X 38 64 [l0, some (.int x), l2, l3] (st) w n 0 0 Q ↔ Ev X 38 65 [l0, some (.int x), l2, l3] (.int x :: st) w n 0 0 Q := E_p ok_X2_setManner (show decode (mB 38) 64 = .ok (.iload_n 1, 1) by decide +kernel) rfl rfl
theorem X2_setManner_65 : Ev X 38 65 [l0, l1, l2, l3] (.int x :: .ref a :: st) w n 0 0 Q ↔ ∃ v, (ga w a 4 x).or (ga w a 5 x) = some v ∧ Ev X 38 66 [l0, l1, l2, l3] (v :: st) w n 0 0 Q := E_aald ok_X2_setManner (show decode (mB 38) 65 = .ok (.aaload, 1) by decide +kernel)
theorem X2_setManner_66 : Ev X 38 66 [l0, l1, l2, l3] (.ref a :: st) w n 0 0 Q ↔ ∃ v, gf w a 1 3 = some v ∧ Ev X 38 69 [l0, l1, l2, l3] (v :: st) w n 0 0 Q := E_getf ok_X2_setManner (by decide +kernel) (show decode (mB 38) 66 = .ok (.getfield 108, 3) by decide +kernel) (by decide +kernel)
theorem X2_setManner_69 : Ev X 38 69 [l0, l1, l2, l3] ([.int x]) w n 0 0 Q ↔ Q (.inl (some (.int x))) w n := E_reti ok_X2_setManner (show decode (mB 38) 69 = .ok (.ireturn, 1) by decide +kernel) (by decide +kernel)
theorem ok_X2_setClocks : okP 46 = true := by decide +kernel
theorem X2_setClocks_0 : Ev X 46 0 [some (.ref a), l1, l2, l3, l4, l5] (st) w n 0 0 Q ↔ Ev X 46 1 [some (.ref a), l1, l2, l3, l4, l5] (.ref a :: st) w n 0 0 Q := E_p ok_X2_setClocks (show decode (mB 46) 0 = .ok (.aload_n 0, 1) by decide +kernel) rfl rfl
theorem X2_setClocks_1 : Ev X 46 1 [l0, some (.int x), l2, l3, l4, l5] (st) w n 0 0 Q ↔ Ev X 46 2 [l0, some (.int x), l2, l3, l4, l5] (.int x :: st) w n 0 0 Q := E_p ok_X2_setClocks (show decode (mB 46) 1 = .ok (.iload_n 1, 1) by decide +kernel) rfl rfl
theorem X2_setClocks_2 (h : hasc w a 2 = true) : Ev X 46 2 [l0, l1, l2, l3, l4, l5] (.int y0 :: .ref a :: []) w n 0 0 Q ↔ Ev X 37 0 [some (.ref a), some (.int y0)] [] w n 0 0 (Kr X 46 5 [l0, l1, l2, l3, l4, l5] ([]) 0 0 Q) := E_cv ok_X2_setClocks (show decode (mB 46) 2 = .ok (.invokevirtual 102, 3) by decide +kernel) (by decide +kernel) (by decide +kernel) (by decide +kernel) (k := 1) (vs := [.int y0]) rfl ((rc_Table (M2 := 37) (by decide +kernel) (by decide +kernel)).trans h) (by simp only [List.length_cons, List.length_nil]; decide) (by simp only [List.length_cons, List.length_nil]; decide +kernel) (ent_eq (k := 0) (by simp only [List.length_cons, List.length_nil]; decide +kernel)) (by decide +kernel) (by decide +kernel)
theorem X2_setClocks_5 : Ev X 46 5 [l0, l1, l2, l3, l4, l5] (.int x :: st) w n 0 0 Q ↔ if x = 0 then Ev X 46 8 [l0, l1, l2, l3, l4, l5] (st) w n 0 0 Q else Ev X 46 16 [l0, l1, l2, l3, l4, l5] (st) w n 0 0 Q := E_ifne ok_X2_setClocks (show decode (mB 46) 5 = .ok (.ifCond .ne 11, 3) by decide +kernel) rfl
theorem X2_setClocks_8 : Ev X 46 8 [l0, l1, l2, l3, some (.ref a), l5] (st) w n 0 0 Q ↔ Ev X 46 10 [l0, l1, l2, l3, some (.ref a), l5] (.ref a :: st) w n 0 0 Q := E_p ok_X2_setClocks (show decode (mB 46) 8 = .ok (.aload 4, 2) by decide +kernel) rfl rfl
theorem X2_setClocks_10 : Ev X 46 10 [l0, l1, l2, l3, l4, l5] (st) w n 0 0 Q ↔ Ev X 46 11 [l0, l1, l2, l3, l4, l5] (.int (3) :: st) w n 0 0 Q := E_iconst ok_X2_setClocks (show decode (mB 46) 10 = .ok (.iconst 3, 1) by decide +kernel) (by decide)
theorem X2_setClocks_11 : Ev X 46 11 [l0, some (.int x), l2, l3, l4, l5] (st) w n 0 0 Q ↔ Ev X 46 12 [l0, some (.int x), l2, l3, l4, l5] (.int x :: st) w n 0 0 Q := E_p ok_X2_setClocks (show decode (mB 46) 11 = .ok (.iload_n 1, 1) by decide +kernel) rfl rfl
theorem X2_setClocks_12 (h : hasc w a 0 = true) : Ev X 46 12 [l0, l1, l2, l3, l4, l5] (.int y1 :: .int y0 :: .ref a :: []) w n 0 0 Q ↔ Ev X 10 0 [some (.ref a), some (.int y0), some (.int y1)] [] w n 0 0 (Kr X 46 15 [l0, l1, l2, l3, l4, l5] ([]) 0 0 Q) := E_cv ok_X2_setClocks (show decode (mB 46) 12 = .ok (.invokevirtual 88, 3) by decide +kernel) (by decide +kernel) (by decide +kernel) (by decide +kernel) (k := 2) (vs := [.int y0, .int y1]) rfl ((rc_Refusal (M2 := 10) (by decide +kernel) (by decide +kernel)).trans h) (by simp only [List.length_cons, List.length_nil]; decide) (by simp only [List.length_cons, List.length_nil]; decide +kernel) (ent_eq (k := 0) (by simp only [List.length_cons, List.length_nil]; decide +kernel)) (by decide +kernel) (by decide +kernel)
theorem X2_setClocks_15 : Ev X 46 15 [l0, l1, l2, l3, l4, l5] ([.int x]) w n 0 0 Q ↔ Q (.inl (some (.int x))) w n := E_reti ok_X2_setClocks (show decode (mB 46) 15 = .ok (.ireturn, 1) by decide +kernel) (by decide +kernel)
theorem X2_setClocks_16 : Ev X 46 16 [l0, l1, some (.int x), l3, l4, l5] (st) w n 0 0 Q ↔ Ev X 46 17 [l0, l1, some (.int x), l3, l4, l5] (.int x :: st) w n 0 0 Q := E_p ok_X2_setClocks (show decode (mB 46) 16 = .ok (.iload_n 2, 1) by decide +kernel) rfl rfl
theorem X2_setClocks_17 : Ev X 46 17 [l0, l1, l2, l3, l4, l5] (.int y0 :: []) w n 0 0 Q ↔ Ev X 9 0 [some (.int y0)] [] w n 0 0 (Kr X 46 20 [l0, l1, l2, l3, l4, l5] ([]) 0 0 Q) := E_cs ok_X2_setClocks (show decode (mB 46) 17 = .ok (.invokestatic 85, 3) by decide +kernel) (by decide +kernel) (by decide +kernel) (by decide +kernel) (k := 1) (vs := [.int y0]) rfl (by simp only [List.length_cons, List.length_nil]; decide) (by simp only [List.length_cons, List.length_nil]; decide +kernel) (ent_eq (k := 0) (by simp only [List.length_cons, List.length_nil]; decide +kernel)) (by decide +kernel) (by decide +kernel)
theorem X2_setClocks_20 : Ev X 46 20 [l0, l1, l2, l3, l4, l5] (.int x :: st) w n 0 0 Q ↔ if x = 0 then Ev X 46 30 [l0, l1, l2, l3, l4, l5] (st) w n 0 0 Q else Ev X 46 23 [l0, l1, l2, l3, l4, l5] (st) w n 0 0 Q := E_ifeq ok_X2_setClocks (show decode (mB 46) 20 = .ok (.ifCond .eq 10, 3) by decide +kernel) rfl
theorem X2_setClocks_23 : Ev X 46 23 [l0, l1, l2, some (.int x), l4, l5] (st) w n 0 0 Q ↔ Ev X 46 24 [l0, l1, l2, some (.int x), l4, l5] (.int x :: st) w n 0 0 Q := E_p ok_X2_setClocks (show decode (mB 46) 23 = .ok (.iload_n 3, 1) by decide +kernel) rfl rfl
theorem X2_setClocks_24 : Ev X 46 24 [l0, l1, l2, l3, l4, l5] (.int y0 :: []) w n 0 0 Q ↔ Ev X 9 0 [some (.int y0)] [] w n 0 0 (Kr X 46 27 [l0, l1, l2, l3, l4, l5] ([]) 0 0 Q) := E_cs ok_X2_setClocks (show decode (mB 46) 24 = .ok (.invokestatic 85, 3) by decide +kernel) (by decide +kernel) (by decide +kernel) (by decide +kernel) (k := 1) (vs := [.int y0]) rfl (by simp only [List.length_cons, List.length_nil]; decide) (by simp only [List.length_cons, List.length_nil]; decide +kernel) (ent_eq (k := 0) (by simp only [List.length_cons, List.length_nil]; decide +kernel)) (by decide +kernel) (by decide +kernel)
theorem X2_setClocks_27 : Ev X 46 27 [l0, l1, l2, l3, l4, l5] (.int x :: st) w n 0 0 Q ↔ if x = 0 then Ev X 46 30 [l0, l1, l2, l3, l4, l5] (st) w n 0 0 Q else Ev X 46 38 [l0, l1, l2, l3, l4, l5] (st) w n 0 0 Q := E_ifne ok_X2_setClocks (show decode (mB 46) 27 = .ok (.ifCond .ne 11, 3) by decide +kernel) rfl
theorem X2_setClocks_30 : Ev X 46 30 [l0, l1, l2, l3, some (.ref a), l5] (st) w n 0 0 Q ↔ Ev X 46 32 [l0, l1, l2, l3, some (.ref a), l5] (.ref a :: st) w n 0 0 Q := E_p ok_X2_setClocks (show decode (mB 46) 30 = .ok (.aload 4, 2) by decide +kernel) rfl rfl
theorem X2_setClocks_32 : Ev X 46 32 [l0, l1, l2, l3, l4, l5] (st) w n 0 0 Q ↔ Ev X 46 33 [l0, l1, l2, l3, l4, l5] (.int (1) :: st) w n 0 0 Q := E_iconst ok_X2_setClocks (show decode (mB 46) 32 = .ok (.iconst 1, 1) by decide +kernel) (by decide)
theorem X2_setClocks_33 : Ev X 46 33 [l0, l1, l2, l3, l4, l5] (st) w n 0 0 Q ↔ Ev X 46 34 [l0, l1, l2, l3, l4, l5] (.int (0) :: st) w n 0 0 Q := E_iconst ok_X2_setClocks (show decode (mB 46) 33 = .ok (.iconst 0, 1) by decide +kernel) (by decide)
theorem X2_setClocks_34 (h : hasc w a 0 = true) : Ev X 46 34 [l0, l1, l2, l3, l4, l5] (.int y1 :: .int y0 :: .ref a :: []) w n 0 0 Q ↔ Ev X 10 0 [some (.ref a), some (.int y0), some (.int y1)] [] w n 0 0 (Kr X 46 37 [l0, l1, l2, l3, l4, l5] ([]) 0 0 Q) := E_cv ok_X2_setClocks (show decode (mB 46) 34 = .ok (.invokevirtual 88, 3) by decide +kernel) (by decide +kernel) (by decide +kernel) (by decide +kernel) (k := 2) (vs := [.int y0, .int y1]) rfl ((rc_Refusal (M2 := 10) (by decide +kernel) (by decide +kernel)).trans h) (by simp only [List.length_cons, List.length_nil]; decide) (by simp only [List.length_cons, List.length_nil]; decide +kernel) (ent_eq (k := 0) (by simp only [List.length_cons, List.length_nil]; decide +kernel)) (by decide +kernel) (by decide +kernel)
theorem X2_setClocks_37 : Ev X 46 37 [l0, l1, l2, l3, l4, l5] ([.int x]) w n 0 0 Q ↔ Q (.inl (some (.int x))) w n := E_reti ok_X2_setClocks (show decode (mB 46) 37 = .ok (.ireturn, 1) by decide +kernel) (by decide +kernel)
theorem X2_setClocks_38 : Ev X 46 38 [l0, l1, l2, l3, l4, l5] (st) w n 0 0 Q ↔ Ev X 46 40 [l0, l1, l2, l3, l4, l5] (.int (10) :: st) w n 0 0 Q := E_bipush ok_X2_setClocks (show decode (mB 46) 38 = .ok (.bipush 10, 2) by decide +kernel) (by decide)
theorem X2_setClocks_40 : Ev X 46 40 [some (.ref a), l1, l2, l3, l4, l5] (st) w n 0 0 Q ↔ Ev X 46 41 [some (.ref a), l1, l2, l3, l4, l5] (.ref a :: st) w n 0 0 Q := E_p ok_X2_setClocks (show decode (mB 46) 40 = .ok (.aload_n 0, 1) by decide +kernel) rfl rfl
theorem X2_setClocks_41 : Ev X 46 41 [l0, l1, l2, l3, l4, l5] (.ref a :: st) w n 0 0 Q ↔ ∃ v, gf w a 2 0 = some v ∧ Ev X 46 44 [l0, l1, l2, l3, l4, l5] (v :: st) w n 0 0 Q := E_getf ok_X2_setClocks (by decide +kernel) (show decode (mB 46) 41 = .ok (.getfield 11, 3) by decide +kernel) (by decide +kernel)
theorem X2_setClocks_44 : Ev X 46 44 [l0, some (.int x), l2, l3, l4, l5] (st) w n 0 0 Q ↔ Ev X 46 45 [l0, some (.int x), l2, l3, l4, l5] (.int x :: st) w n 0 0 Q := E_p ok_X2_setClocks (show decode (mB 46) 44 = .ok (.iload_n 1, 1) by decide +kernel) rfl rfl
theorem X2_setClocks_45 : Ev X 46 45 [l0, l1, l2, l3, l4, l5] (.int x :: .ref a :: st) w n 0 0 Q ↔ ∃ v, (ga w a 4 x).or (ga w a 5 x) = some v ∧ Ev X 46 46 [l0, l1, l2, l3, l4, l5] (v :: st) w n 0 0 Q := E_aald ok_X2_setClocks (show decode (mB 46) 45 = .ok (.aaload, 1) by decide +kernel)
theorem X2_setClocks_46 : Ev X 46 46 [l0, l1, l2, l3, l4, l5] (.ref a :: st) w n 0 0 Q ↔ ∃ v, gf w a 1 1 = some v ∧ Ev X 46 49 [l0, l1, l2, l3, l4, l5] (v :: st) w n 0 0 Q := E_getf ok_X2_setClocks (by decide +kernel) (show decode (mB 46) 46 = .ok (.getfield 111, 3) by decide +kernel) (by decide +kernel)
theorem X2_setClocks_49 : Ev X 46 49 [l0, l1, l2, l3, l4, l5] (.int y :: .int x :: st) w n 0 0 Q ↔ Ev X 46 50 [l0, l1, l2, l3, l4, l5] (.int (x * y) :: st) w n 0 0 Q := E_p ok_X2_setClocks (show decode (mB 46) 49 = .ok (.imul, 1) by decide +kernel) rfl rfl
theorem X2_setClocks_50 : Ev X 46 50 [some (.ref a), l1, l2, l3, l4, l5] (st) w n 0 0 Q ↔ Ev X 46 51 [some (.ref a), l1, l2, l3, l4, l5] (.ref a :: st) w n 0 0 Q := E_p ok_X2_setClocks (show decode (mB 46) 50 = .ok (.aload_n 0, 1) by decide +kernel) rfl rfl
theorem X2_setClocks_51 : Ev X 46 51 [l0, l1, l2, l3, l4, l5] (.ref a :: st) w n 0 0 Q ↔ ∃ v, gf w a 2 0 = some v ∧ Ev X 46 54 [l0, l1, l2, l3, l4, l5] (v :: st) w n 0 0 Q := E_getf ok_X2_setClocks (by decide +kernel) (show decode (mB 46) 51 = .ok (.getfield 11, 3) by decide +kernel) (by decide +kernel)
theorem X2_setClocks_54 : Ev X 46 54 [l0, some (.int x), l2, l3, l4, l5] (st) w n 0 0 Q ↔ Ev X 46 55 [l0, some (.int x), l2, l3, l4, l5] (.int x :: st) w n 0 0 Q := E_p ok_X2_setClocks (show decode (mB 46) 54 = .ok (.iload_n 1, 1) by decide +kernel) rfl rfl
theorem X2_setClocks_55 : Ev X 46 55 [l0, l1, l2, l3, l4, l5] (.int x :: .ref a :: st) w n 0 0 Q ↔ ∃ v, (ga w a 4 x).or (ga w a 5 x) = some v ∧ Ev X 46 56 [l0, l1, l2, l3, l4, l5] (v :: st) w n 0 0 Q := E_aald ok_X2_setClocks (show decode (mB 46) 55 = .ok (.aaload, 1) by decide +kernel)
theorem X2_setClocks_56 : Ev X 46 56 [l0, l1, l2, l3, l4, l5] (.ref a :: st) w n 0 0 Q ↔ ∃ v, gf w a 1 2 = some v ∧ Ev X 46 59 [l0, l1, l2, l3, l4, l5] (v :: st) w n 0 0 Q := E_getf ok_X2_setClocks (by decide +kernel) (show decode (mB 46) 56 = .ok (.getfield 114, 3) by decide +kernel) (by decide +kernel)
theorem X2_setClocks_59 : Ev X 46 59 [l0, l1, l2, l3, l4, l5] (.int y :: .int x :: st) w n 0 0 Q ↔ Ev X 46 60 [l0, l1, l2, l3, l4, l5] (.int (x + y) :: st) w n 0 0 Q := E_p ok_X2_setClocks (show decode (mB 46) 59 = .ok (.iadd, 1) by decide +kernel) rfl rfl
theorem X2_setClocks_60 : Ev X 46 60 [l0, l1, l2, l3, l4, l5] (.int x :: st) w n 0 0 Q ↔ Ev X 46 62 [l0, l1, l2, l3, l4, some (.int x)] (st) w n 0 0 Q := E_p ok_X2_setClocks (show decode (mB 46) 60 = .ok (.istore 5, 2) by decide +kernel) rfl rfl
theorem X2_setClocks_62 : Ev X 46 62 [some (.ref a), l1, l2, l3, l4, l5] (st) w n 0 0 Q ↔ Ev X 46 63 [some (.ref a), l1, l2, l3, l4, l5] (.ref a :: st) w n 0 0 Q := E_p ok_X2_setClocks (show decode (mB 46) 62 = .ok (.aload_n 0, 1) by decide +kernel) rfl rfl
theorem X2_setClocks_63 : Ev X 46 63 [l0, l1, l2, l3, l4, l5] (.ref a :: st) w n 0 0 Q ↔ ∃ v, gf w a 2 0 = some v ∧ Ev X 46 66 [l0, l1, l2, l3, l4, l5] (v :: st) w n 0 0 Q := E_getf ok_X2_setClocks (by decide +kernel) (show decode (mB 46) 63 = .ok (.getfield 11, 3) by decide +kernel) (by decide +kernel)
theorem X2_setClocks_66 : Ev X 46 66 [l0, some (.int x), l2, l3, l4, l5] (st) w n 0 0 Q ↔ Ev X 46 67 [l0, some (.int x), l2, l3, l4, l5] (.int x :: st) w n 0 0 Q := E_p ok_X2_setClocks (show decode (mB 46) 66 = .ok (.iload_n 1, 1) by decide +kernel) rfl rfl
theorem X2_setClocks_67 : Ev X 46 67 [l0, l1, l2, l3, l4, l5] (.int x :: .ref a :: st) w n 0 0 Q ↔ ∃ v, (ga w a 4 x).or (ga w a 5 x) = some v ∧ Ev X 46 68 [l0, l1, l2, l3, l4, l5] (v :: st) w n 0 0 Q := E_aald ok_X2_setClocks (show decode (mB 46) 67 = .ok (.aaload, 1) by decide +kernel)
theorem X2_setClocks_68 : Ev X 46 68 [l0, l1, some (.int x), l3, l4, l5] (st) w n 0 0 Q ↔ Ev X 46 69 [l0, l1, some (.int x), l3, l4, l5] (.int x :: st) w n 0 0 Q := E_p ok_X2_setClocks (show decode (mB 46) 68 = .ok (.iload_n 2, 1) by decide +kernel) rfl rfl
theorem X2_setClocks_69 : Ev X 46 69 [l0, l1, l2, l3, l4, l5] (.int x :: .ref a :: st) w n 0 0 Q ↔ ∃ w2, pf w a 1 1 (.int x) = some w2 ∧ Ev X 46 72 [l0, l1, l2, l3, l4, l5] (st) w2 n 0 0 Q := E_putf ok_X2_setClocks rfl (show decode (mB 46) 69 = .ok (.putfield 111, 3) by decide +kernel) (by decide +kernel) (by decide +kernel)
theorem X2_setClocks_72 : Ev X 46 72 [some (.ref a), l1, l2, l3, l4, l5] (st) w n 0 0 Q ↔ Ev X 46 73 [some (.ref a), l1, l2, l3, l4, l5] (.ref a :: st) w n 0 0 Q := E_p ok_X2_setClocks (show decode (mB 46) 72 = .ok (.aload_n 0, 1) by decide +kernel) rfl rfl
theorem X2_setClocks_73 : Ev X 46 73 [l0, l1, l2, l3, l4, l5] (.ref a :: st) w n 0 0 Q ↔ ∃ v, gf w a 2 0 = some v ∧ Ev X 46 76 [l0, l1, l2, l3, l4, l5] (v :: st) w n 0 0 Q := E_getf ok_X2_setClocks (by decide +kernel) (show decode (mB 46) 73 = .ok (.getfield 11, 3) by decide +kernel) (by decide +kernel)
theorem X2_setClocks_76 : Ev X 46 76 [l0, some (.int x), l2, l3, l4, l5] (st) w n 0 0 Q ↔ Ev X 46 77 [l0, some (.int x), l2, l3, l4, l5] (.int x :: st) w n 0 0 Q := E_p ok_X2_setClocks (show decode (mB 46) 76 = .ok (.iload_n 1, 1) by decide +kernel) rfl rfl
theorem X2_setClocks_77 : Ev X 46 77 [l0, l1, l2, l3, l4, l5] (.int x :: .ref a :: st) w n 0 0 Q ↔ ∃ v, (ga w a 4 x).or (ga w a 5 x) = some v ∧ Ev X 46 78 [l0, l1, l2, l3, l4, l5] (v :: st) w n 0 0 Q := E_aald ok_X2_setClocks (show decode (mB 46) 77 = .ok (.aaload, 1) by decide +kernel)
theorem X2_setClocks_78 : Ev X 46 78 [l0, l1, l2, some (.int x), l4, l5] (st) w n 0 0 Q ↔ Ev X 46 79 [l0, l1, l2, some (.int x), l4, l5] (.int x :: st) w n 0 0 Q := E_p ok_X2_setClocks (show decode (mB 46) 78 = .ok (.iload_n 3, 1) by decide +kernel) rfl rfl
theorem X2_setClocks_79 : Ev X 46 79 [l0, l1, l2, l3, l4, l5] (.int x :: .ref a :: st) w n 0 0 Q ↔ ∃ w2, pf w a 1 2 (.int x) = some w2 ∧ Ev X 46 82 [l0, l1, l2, l3, l4, l5] (st) w2 n 0 0 Q := E_putf ok_X2_setClocks rfl (show decode (mB 46) 79 = .ok (.putfield 114, 3) by decide +kernel) (by decide +kernel) (by decide +kernel)
theorem X2_setClocks_82 : Ev X 46 82 [l0, l1, l2, l3, l4, some (.int x)] (st) w n 0 0 Q ↔ Ev X 46 84 [l0, l1, l2, l3, l4, some (.int x)] (.int x :: st) w n 0 0 Q := E_p ok_X2_setClocks (show decode (mB 46) 82 = .ok (.iload 5, 2) by decide +kernel) rfl rfl
theorem X2_setClocks_84 : Ev X 46 84 [l0, l1, l2, l3, l4, l5] ([.int x]) w n 0 0 Q ↔ Q (.inl (some (.int x))) w n := E_reti ok_X2_setClocks (show decode (mB 46) 84 = .ok (.ireturn, 1) by decide +kernel) (by decide +kernel)
theorem ok_X2_setWaiter : okP 51 = true := by decide +kernel
theorem X2_setWaiter_0 : Ev X 51 0 [l0, some (.int x), l2, l3] (st) w n 0 0 Q ↔ Ev X 51 1 [l0, some (.int x), l2, l3] (.int x :: st) w n 0 0 Q := E_p ok_X2_setWaiter (show decode (mB 51) 0 = .ok (.iload_n 1, 1) by decide +kernel) rfl rfl
theorem X2_setWaiter_1 : Ev X 51 1 [l0, l1, l2, l3] (.int x :: st) w n 0 0 Q ↔ if x < 0 then Ev X 51 10 [l0, l1, l2, l3] (st) w n 0 0 Q else Ev X 51 4 [l0, l1, l2, l3] (st) w n 0 0 Q := E_iflt ok_X2_setWaiter (show decode (mB 51) 1 = .ok (.ifCond .lt 9, 3) by decide +kernel) rfl
theorem X2_setWaiter_4 : Ev X 51 4 [l0, some (.int x), l2, l3] (st) w n 0 0 Q ↔ Ev X 51 5 [l0, some (.int x), l2, l3] (.int x :: st) w n 0 0 Q := E_p ok_X2_setWaiter (show decode (mB 51) 4 = .ok (.iload_n 1, 1) by decide +kernel) rfl rfl
theorem X2_setWaiter_5 : Ev X 51 5 [l0, l1, l2, l3] (st) w n 0 0 Q ↔ Ev X 51 7 [l0, l1, l2, l3] (.int (8) :: st) w n 0 0 Q := E_bipush ok_X2_setWaiter (show decode (mB 51) 5 = .ok (.bipush 8, 2) by decide +kernel) (by decide)
theorem X2_setWaiter_7 : Ev X 51 7 [l0, l1, l2, l3] (.int y :: .int x :: st) w n 0 0 Q ↔ if y < x then Ev X 51 10 [l0, l1, l2, l3] (st) w n 0 0 Q else Ev X 51 17 [l0, l1, l2, l3] (st) w n 0 0 Q := E_icle ok_X2_setWaiter (show decode (mB 51) 7 = .ok (.if_icmp .le 10, 3) by decide +kernel) rfl
theorem X2_setWaiter_10 : Ev X 51 10 [l0, l1, some (.ref a), l3] (st) w n 0 0 Q ↔ Ev X 51 11 [l0, l1, some (.ref a), l3] (.ref a :: st) w n 0 0 Q := E_p ok_X2_setWaiter (show decode (mB 51) 10 = .ok (.aload_n 2, 1) by decide +kernel) rfl rfl
theorem X2_setWaiter_11 : Ev X 51 11 [l0, l1, l2, l3] (st) w n 0 0 Q ↔ Ev X 51 12 [l0, l1, l2, l3] (.int (1) :: st) w n 0 0 Q := E_iconst ok_X2_setWaiter (show decode (mB 51) 11 = .ok (.iconst 1, 1) by decide +kernel) (by decide)
theorem X2_setWaiter_12 : Ev X 51 12 [l0, l1, l2, l3] (st) w n 0 0 Q ↔ Ev X 51 13 [l0, l1, l2, l3] (.int (0) :: st) w n 0 0 Q := E_iconst ok_X2_setWaiter (show decode (mB 51) 12 = .ok (.iconst 0, 1) by decide +kernel) (by decide)
theorem X2_setWaiter_13 (h : hasc w a 0 = true) : Ev X 51 13 [l0, l1, l2, l3] (.int y1 :: .int y0 :: .ref a :: []) w n 0 0 Q ↔ Ev X 10 0 [some (.ref a), some (.int y0), some (.int y1)] [] w n 0 0 (Kr X 51 16 [l0, l1, l2, l3] ([]) 0 0 Q) := E_cv ok_X2_setWaiter (show decode (mB 51) 13 = .ok (.invokevirtual 88, 3) by decide +kernel) (by decide +kernel) (by decide +kernel) (by decide +kernel) (k := 2) (vs := [.int y0, .int y1]) rfl ((rc_Refusal (M2 := 10) (by decide +kernel) (by decide +kernel)).trans h) (by simp only [List.length_cons, List.length_nil]; decide) (by simp only [List.length_cons, List.length_nil]; decide +kernel) (ent_eq (k := 0) (by simp only [List.length_cons, List.length_nil]; decide +kernel)) (by decide +kernel) (by decide +kernel)
theorem X2_setWaiter_16 : Ev X 51 16 [l0, l1, l2, l3] ([.int x]) w n 0 0 Q ↔ Q (.inl (some (.int x))) w n := E_reti ok_X2_setWaiter (show decode (mB 51) 16 = .ok (.ireturn, 1) by decide +kernel) (by decide +kernel)
theorem X2_setWaiter_17 : Ev X 51 17 [l0, some (.int x), l2, l3] (st) w n 0 0 Q ↔ Ev X 51 18 [l0, some (.int x), l2, l3] (.int x :: st) w n 0 0 Q := E_p ok_X2_setWaiter (show decode (mB 51) 17 = .ok (.iload_n 1, 1) by decide +kernel) rfl rfl
theorem X2_setWaiter_18 : Ev X 51 18 [some (.ref a), l1, l2, l3] (st) w n 0 0 Q ↔ Ev X 51 19 [some (.ref a), l1, l2, l3] (.ref a :: st) w n 0 0 Q := E_p ok_X2_setWaiter (show decode (mB 51) 18 = .ok (.aload_n 0, 1) by decide +kernel) rfl rfl
theorem X2_setWaiter_19 : Ev X 51 19 [l0, l1, l2, l3] (.ref a :: st) w n 0 0 Q ↔ ∃ v, gf w a 2 3 = some v ∧ Ev X 51 22 [l0, l1, l2, l3] (v :: st) w n 0 0 Q := E_getf ok_X2_setWaiter (by decide +kernel) (show decode (mB 51) 19 = .ok (.getfield 21, 3) by decide +kernel) (by decide +kernel)
theorem X2_setWaiter_22 : Ev X 51 22 [l0, l1, l2, l3] (.int y :: .int x :: st) w n 0 0 Q ↔ if x = y then Ev X 51 25 [l0, l1, l2, l3] (st) w n 0 0 Q else Ev X 51 33 [l0, l1, l2, l3] (st) w n 0 0 Q := E_icne ok_X2_setWaiter (show decode (mB 51) 22 = .ok (.if_icmp .ne 11, 3) by decide +kernel) rfl
theorem X2_setWaiter_25 : Ev X 51 25 [l0, l1, some (.ref a), l3] (st) w n 0 0 Q ↔ Ev X 51 26 [l0, l1, some (.ref a), l3] (.ref a :: st) w n 0 0 Q := E_p ok_X2_setWaiter (show decode (mB 51) 25 = .ok (.aload_n 2, 1) by decide +kernel) rfl rfl
theorem X2_setWaiter_26 : Ev X 51 26 [l0, l1, l2, l3] (st) w n 0 0 Q ↔ Ev X 51 28 [l0, l1, l2, l3] (.int (7) :: st) w n 0 0 Q := E_bipush ok_X2_setWaiter (show decode (mB 51) 26 = .ok (.bipush 7, 2) by decide +kernel) (by decide)
theorem X2_setWaiter_28 : Ev X 51 28 [l0, l1, l2, l3] (st) w n 0 0 Q ↔ Ev X 51 29 [l0, l1, l2, l3] (.int (0) :: st) w n 0 0 Q := E_iconst ok_X2_setWaiter (show decode (mB 51) 28 = .ok (.iconst 0, 1) by decide +kernel) (by decide)
theorem X2_setWaiter_29 (h : hasc w a 0 = true) : Ev X 51 29 [l0, l1, l2, l3] (.int y1 :: .int y0 :: .ref a :: []) w n 0 0 Q ↔ Ev X 10 0 [some (.ref a), some (.int y0), some (.int y1)] [] w n 0 0 (Kr X 51 32 [l0, l1, l2, l3] ([]) 0 0 Q) := E_cv ok_X2_setWaiter (show decode (mB 51) 29 = .ok (.invokevirtual 88, 3) by decide +kernel) (by decide +kernel) (by decide +kernel) (by decide +kernel) (k := 2) (vs := [.int y0, .int y1]) rfl ((rc_Refusal (M2 := 10) (by decide +kernel) (by decide +kernel)).trans h) (by simp only [List.length_cons, List.length_nil]; decide) (by simp only [List.length_cons, List.length_nil]; decide +kernel) (ent_eq (k := 0) (by simp only [List.length_cons, List.length_nil]; decide +kernel)) (by decide +kernel) (by decide +kernel)
theorem X2_setWaiter_32 : Ev X 51 32 [l0, l1, l2, l3] ([.int x]) w n 0 0 Q ↔ Q (.inl (some (.int x))) w n := E_reti ok_X2_setWaiter (show decode (mB 51) 32 = .ok (.ireturn, 1) by decide +kernel) (by decide +kernel)
theorem X2_setWaiter_33 : Ev X 51 33 [some (.ref a), l1, l2, l3] (st) w n 0 0 Q ↔ Ev X 51 34 [some (.ref a), l1, l2, l3] (.ref a :: st) w n 0 0 Q := E_p ok_X2_setWaiter (show decode (mB 51) 33 = .ok (.aload_n 0, 1) by decide +kernel) rfl rfl
theorem X2_setWaiter_34 : Ev X 51 34 [l0, l1, l2, l3] (.ref a :: st) w n 0 0 Q ↔ ∃ v, gf w a 2 3 = some v ∧ Ev X 51 37 [l0, l1, l2, l3] (v :: st) w n 0 0 Q := E_getf ok_X2_setWaiter (by decide +kernel) (show decode (mB 51) 34 = .ok (.getfield 21, 3) by decide +kernel) (by decide +kernel)
theorem X2_setWaiter_37 : Ev X 51 37 [l0, l1, l2, l3] (.int x :: st) w n 0 0 Q ↔ Ev X 51 38 [l0, l1, l2, some (.int x)] (st) w n 0 0 Q := E_p ok_X2_setWaiter (show decode (mB 51) 37 = .ok (.istore_n 3, 1) by decide +kernel) rfl rfl
theorem X2_setWaiter_38 : Ev X 51 38 [some (.ref a), l1, l2, l3] (st) w n 0 0 Q ↔ Ev X 51 39 [some (.ref a), l1, l2, l3] (.ref a :: st) w n 0 0 Q := E_p ok_X2_setWaiter (show decode (mB 51) 38 = .ok (.aload_n 0, 1) by decide +kernel) rfl rfl
theorem X2_setWaiter_39 : Ev X 51 39 [l0, some (.int x), l2, l3] (st) w n 0 0 Q ↔ Ev X 51 40 [l0, some (.int x), l2, l3] (.int x :: st) w n 0 0 Q := E_p ok_X2_setWaiter (show decode (mB 51) 39 = .ok (.iload_n 1, 1) by decide +kernel) rfl rfl
theorem X2_setWaiter_40 : Ev X 51 40 [l0, l1, l2, l3] (.int x :: .ref a :: st) w n 0 0 Q ↔ ∃ w2, pf w a 2 3 (.int x) = some w2 ∧ Ev X 51 43 [l0, l1, l2, l3] (st) w2 n 0 0 Q := E_putf ok_X2_setWaiter rfl (show decode (mB 51) 40 = .ok (.putfield 21, 3) by decide +kernel) (by decide +kernel) (by decide +kernel)
theorem X2_setWaiter_43 : Ev X 51 43 [l0, l1, l2, some (.int x)] (st) w n 0 0 Q ↔ Ev X 51 44 [l0, l1, l2, some (.int x)] (.int x :: st) w n 0 0 Q := E_p ok_X2_setWaiter (show decode (mB 51) 43 = .ok (.iload_n 3, 1) by decide +kernel) rfl rfl
theorem X2_setWaiter_44 : Ev X 51 44 [l0, l1, l2, l3] ([.int x]) w n 0 0 Q ↔ Q (.inl (some (.int x))) w n := E_reti ok_X2_setWaiter (show decode (mB 51) 44 = .ok (.ireturn, 1) by decide +kernel) (by decide +kernel)
theorem ok_X2_addBowls : okP 56 = true := by decide +kernel
theorem X2_addBowls_0 : Ev X 56 0 [l0, some (.int x), l2] (st) w n 0 0 Q ↔ Ev X 56 1 [l0, some (.int x), l2] (.int x :: st) w n 0 0 Q := E_p ok_X2_addBowls (show decode (mB 56) 0 = .ok (.iload_n 1, 1) by decide +kernel) rfl rfl
theorem X2_addBowls_1 : Ev X 56 1 [l0, l1, l2] (st) w n 0 0 Q ↔ Ev X 56 2 [l0, l1, l2] (.int (1) :: st) w n 0 0 Q := E_iconst ok_X2_addBowls (show decode (mB 56) 1 = .ok (.iconst 1, 1) by decide +kernel) (by decide)
theorem X2_addBowls_2 : Ev X 56 2 [l0, l1, l2] (.int y :: .int x :: st) w n 0 0 Q ↔ if x < y then Ev X 56 11 [l0, l1, l2] (st) w n 0 0 Q else Ev X 56 5 [l0, l1, l2] (st) w n 0 0 Q := E_iclt ok_X2_addBowls (show decode (mB 56) 2 = .ok (.if_icmp .lt 9, 3) by decide +kernel) rfl
theorem X2_addBowls_5 : Ev X 56 5 [l0, some (.int x), l2] (st) w n 0 0 Q ↔ Ev X 56 6 [l0, some (.int x), l2] (.int x :: st) w n 0 0 Q := E_p ok_X2_addBowls (show decode (mB 56) 5 = .ok (.iload_n 1, 1) by decide +kernel) rfl rfl
theorem X2_addBowls_6 : Ev X 56 6 [l0, l1, l2] (st) w n 0 0 Q ↔ Ev X 56 8 [l0, l1, l2] (.int (99) :: st) w n 0 0 Q := E_bipush ok_X2_addBowls (show decode (mB 56) 6 = .ok (.bipush 99, 2) by decide +kernel) (by decide)
theorem X2_addBowls_8 : Ev X 56 8 [l0, l1, l2] (.int y :: .int x :: st) w n 0 0 Q ↔ if y < x then Ev X 56 11 [l0, l1, l2] (st) w n 0 0 Q else Ev X 56 18 [l0, l1, l2] (st) w n 0 0 Q := E_icle ok_X2_addBowls (show decode (mB 56) 8 = .ok (.if_icmp .le 10, 3) by decide +kernel) rfl
theorem X2_addBowls_11 : Ev X 56 11 [l0, l1, some (.ref a)] (st) w n 0 0 Q ↔ Ev X 56 12 [l0, l1, some (.ref a)] (.ref a :: st) w n 0 0 Q := E_p ok_X2_addBowls (show decode (mB 56) 11 = .ok (.aload_n 2, 1) by decide +kernel) rfl rfl
theorem X2_addBowls_12 : Ev X 56 12 [l0, l1, l2] (st) w n 0 0 Q ↔ Ev X 56 13 [l0, l1, l2] (.int (1) :: st) w n 0 0 Q := E_iconst ok_X2_addBowls (show decode (mB 56) 12 = .ok (.iconst 1, 1) by decide +kernel) (by decide)
theorem X2_addBowls_13 : Ev X 56 13 [l0, l1, l2] (st) w n 0 0 Q ↔ Ev X 56 14 [l0, l1, l2] (.int (0) :: st) w n 0 0 Q := E_iconst ok_X2_addBowls (show decode (mB 56) 13 = .ok (.iconst 0, 1) by decide +kernel) (by decide)
theorem X2_addBowls_14 (h : hasc w a 0 = true) : Ev X 56 14 [l0, l1, l2] (.int y1 :: .int y0 :: .ref a :: []) w n 0 0 Q ↔ Ev X 10 0 [some (.ref a), some (.int y0), some (.int y1)] [] w n 0 0 (Kr X 56 17 [l0, l1, l2] ([]) 0 0 Q) := E_cv ok_X2_addBowls (show decode (mB 56) 14 = .ok (.invokevirtual 88, 3) by decide +kernel) (by decide +kernel) (by decide +kernel) (by decide +kernel) (k := 2) (vs := [.int y0, .int y1]) rfl ((rc_Refusal (M2 := 10) (by decide +kernel) (by decide +kernel)).trans h) (by simp only [List.length_cons, List.length_nil]; decide) (by simp only [List.length_cons, List.length_nil]; decide +kernel) (ent_eq (k := 0) (by simp only [List.length_cons, List.length_nil]; decide +kernel)) (by decide +kernel) (by decide +kernel)
theorem X2_addBowls_17 : Ev X 56 17 [l0, l1, l2] ([.int x]) w n 0 0 Q ↔ Q (.inl (some (.int x))) w n := E_reti ok_X2_addBowls (show decode (mB 56) 17 = .ok (.ireturn, 1) by decide +kernel) (by decide +kernel)
theorem X2_addBowls_18 : Ev X 56 18 [some (.ref a), l1, l2] (st) w n 0 0 Q ↔ Ev X 56 19 [some (.ref a), l1, l2] (.ref a :: st) w n 0 0 Q := E_p ok_X2_addBowls (show decode (mB 56) 18 = .ok (.aload_n 0, 1) by decide +kernel) rfl rfl
theorem X2_addBowls_19 : Ev X 56 19 [l0, l1, l2] (.ref a :: st) w n 0 0 Q ↔ ∃ v, gf w a 2 4 = some v ∧ Ev X 56 22 [l0, l1, l2] (v :: st) w n 0 0 Q := E_getf ok_X2_addBowls (by decide +kernel) (show decode (mB 56) 19 = .ok (.getfield 25, 3) by decide +kernel) (by decide +kernel)
theorem X2_addBowls_22 : Ev X 56 22 [l0, some (.int x), l2] (st) w n 0 0 Q ↔ Ev X 56 23 [l0, some (.int x), l2] (.int x :: st) w n 0 0 Q := E_p ok_X2_addBowls (show decode (mB 56) 22 = .ok (.iload_n 1, 1) by decide +kernel) rfl rfl
theorem X2_addBowls_23 : Ev X 56 23 [l0, l1, l2] (.int y :: .int x :: st) w n 0 0 Q ↔ Ev X 56 24 [l0, l1, l2] (.int (x + y) :: st) w n 0 0 Q := E_p ok_X2_addBowls (show decode (mB 56) 23 = .ok (.iadd, 1) by decide +kernel) rfl rfl
theorem X2_addBowls_24 : Ev X 56 24 [l0, l1, l2] (st) w n 0 0 Q ↔ Ev X 56 26 [l0, l1, l2] (.int (99) :: st) w n 0 0 Q := E_bipush ok_X2_addBowls (show decode (mB 56) 24 = .ok (.bipush 99, 2) by decide +kernel) (by decide)
theorem X2_addBowls_26 : Ev X 56 26 [l0, l1, l2] (.int y :: .int x :: st) w n 0 0 Q ↔ if y < x then Ev X 56 29 [l0, l1, l2] (st) w n 0 0 Q else Ev X 56 37 [l0, l1, l2] (st) w n 0 0 Q := E_icle ok_X2_addBowls (show decode (mB 56) 26 = .ok (.if_icmp .le 11, 3) by decide +kernel) rfl
theorem X2_addBowls_29 : Ev X 56 29 [l0, l1, some (.ref a)] (st) w n 0 0 Q ↔ Ev X 56 30 [l0, l1, some (.ref a)] (.ref a :: st) w n 0 0 Q := E_p ok_X2_addBowls (show decode (mB 56) 29 = .ok (.aload_n 2, 1) by decide +kernel) rfl rfl
theorem X2_addBowls_30 : Ev X 56 30 [l0, l1, l2] (st) w n 0 0 Q ↔ Ev X 56 31 [l0, l1, l2] (.int (2) :: st) w n 0 0 Q := E_iconst ok_X2_addBowls (show decode (mB 56) 30 = .ok (.iconst 2, 1) by decide +kernel) (by decide)
theorem X2_addBowls_31 : Ev X 56 31 [l0, l1, l2] (st) w n 0 0 Q ↔ Ev X 56 33 [l0, l1, l2] (.int (99) :: st) w n 0 0 Q := E_bipush ok_X2_addBowls (show decode (mB 56) 31 = .ok (.bipush 99, 2) by decide +kernel) (by decide)
theorem X2_addBowls_33 (h : hasc w a 0 = true) : Ev X 56 33 [l0, l1, l2] (.int y1 :: .int y0 :: .ref a :: []) w n 0 0 Q ↔ Ev X 10 0 [some (.ref a), some (.int y0), some (.int y1)] [] w n 0 0 (Kr X 56 36 [l0, l1, l2] ([]) 0 0 Q) := E_cv ok_X2_addBowls (show decode (mB 56) 33 = .ok (.invokevirtual 88, 3) by decide +kernel) (by decide +kernel) (by decide +kernel) (by decide +kernel) (k := 2) (vs := [.int y0, .int y1]) rfl ((rc_Refusal (M2 := 10) (by decide +kernel) (by decide +kernel)).trans h) (by simp only [List.length_cons, List.length_nil]; decide) (by simp only [List.length_cons, List.length_nil]; decide +kernel) (ent_eq (k := 0) (by simp only [List.length_cons, List.length_nil]; decide +kernel)) (by decide +kernel) (by decide +kernel)
theorem X2_addBowls_36 : Ev X 56 36 [l0, l1, l2] ([.int x]) w n 0 0 Q ↔ Q (.inl (some (.int x))) w n := E_reti ok_X2_addBowls (show decode (mB 56) 36 = .ok (.ireturn, 1) by decide +kernel) (by decide +kernel)
theorem X2_addBowls_37 : Ev X 56 37 [some (.ref a), l1, l2] (st) w n 0 0 Q ↔ Ev X 56 38 [some (.ref a), l1, l2] (.ref a :: st) w n 0 0 Q := E_p ok_X2_addBowls (show decode (mB 56) 37 = .ok (.aload_n 0, 1) by decide +kernel) rfl rfl
theorem X2_addBowls_38 : Ev X 56 38 [l0, l1, l2] (.ref a :: st) w n 0 0 Q ↔ Ev X 56 39 [l0, l1, l2] (.ref a :: .ref a :: st) w n 0 0 Q := E_p ok_X2_addBowls (show decode (mB 56) 38 = .ok (.dup, 1) by decide +kernel) rfl rfl
theorem X2_addBowls_39 : Ev X 56 39 [l0, l1, l2] (.ref a :: st) w n 0 0 Q ↔ ∃ v, gf w a 2 4 = some v ∧ Ev X 56 42 [l0, l1, l2] (v :: st) w n 0 0 Q := E_getf ok_X2_addBowls (by decide +kernel) (show decode (mB 56) 39 = .ok (.getfield 25, 3) by decide +kernel) (by decide +kernel)
theorem X2_addBowls_42 : Ev X 56 42 [l0, some (.int x), l2] (st) w n 0 0 Q ↔ Ev X 56 43 [l0, some (.int x), l2] (.int x :: st) w n 0 0 Q := E_p ok_X2_addBowls (show decode (mB 56) 42 = .ok (.iload_n 1, 1) by decide +kernel) rfl rfl
theorem X2_addBowls_43 : Ev X 56 43 [l0, l1, l2] (.int y :: .int x :: st) w n 0 0 Q ↔ Ev X 56 44 [l0, l1, l2] (.int (x + y) :: st) w n 0 0 Q := E_p ok_X2_addBowls (show decode (mB 56) 43 = .ok (.iadd, 1) by decide +kernel) rfl rfl
theorem X2_addBowls_44 : Ev X 56 44 [l0, l1, l2] (.int x :: .ref a :: st) w n 0 0 Q ↔ ∃ w2, pf w a 2 4 (.int x) = some w2 ∧ Ev X 56 47 [l0, l1, l2] (st) w2 n 0 0 Q := E_putf ok_X2_addBowls rfl (show decode (mB 56) 44 = .ok (.putfield 25, 3) by decide +kernel) (by decide +kernel) (by decide +kernel)
theorem X2_addBowls_47 : Ev X 56 47 [some (.ref a), l1, l2] (st) w n 0 0 Q ↔ Ev X 56 48 [some (.ref a), l1, l2] (.ref a :: st) w n 0 0 Q := E_p ok_X2_addBowls (show decode (mB 56) 47 = .ok (.aload_n 0, 1) by decide +kernel) rfl rfl
theorem X2_addBowls_48 : Ev X 56 48 [l0, l1, l2] (.ref a :: st) w n 0 0 Q ↔ ∃ v, gf w a 2 4 = some v ∧ Ev X 56 51 [l0, l1, l2] (v :: st) w n 0 0 Q := E_getf ok_X2_addBowls (by decide +kernel) (show decode (mB 56) 48 = .ok (.getfield 25, 3) by decide +kernel) (by decide +kernel)
theorem X2_addBowls_51 : Ev X 56 51 [l0, l1, l2] ([.int x]) w n 0 0 Q ↔ Q (.inl (some (.int x))) w n := E_reti ok_X2_addBowls (show decode (mB 56) 51 = .ok (.ireturn, 1) by decide +kernel) (by decide +kernel)
theorem ok_X2_ladleOf : okP 61 = true := by decide +kernel
theorem X2_ladleOf_0 : Ev X 61 0 [l0, l1, some (.int x), l3] (st) w n 0 0 Q ↔ Ev X 61 1 [l0, l1, some (.int x), l3] (.int x :: st) w n 0 0 Q := E_p ok_X2_ladleOf (show decode (mB 61) 0 = .ok (.iload_n 2, 1) by decide +kernel) rfl rfl
theorem X2_ladleOf_1 : Ev X 61 1 [some (.ref a), l1, l2, l3] (st) w n 0 0 Q ↔ Ev X 61 2 [some (.ref a), l1, l2, l3] (.ref a :: st) w n 0 0 Q := E_p ok_X2_ladleOf (show decode (mB 61) 1 = .ok (.aload_n 0, 1) by decide +kernel) rfl rfl
theorem X2_ladleOf_2 : Ev X 61 2 [l0, l1, l2, l3] (.ref a :: st) w n 0 0 Q ↔ ∃ v, gf w a 2 0 = some v ∧ Ev X 61 5 [l0, l1, l2, l3] (v :: st) w n 0 0 Q := E_getf ok_X2_ladleOf (by decide +kernel) (show decode (mB 61) 2 = .ok (.getfield 11, 3) by decide +kernel) (by decide +kernel)
theorem X2_ladleOf_5 : Ev X 61 5 [l0, some (.int x), l2, l3] (st) w n 0 0 Q ↔ Ev X 61 6 [l0, some (.int x), l2, l3] (.int x :: st) w n 0 0 Q := E_p ok_X2_ladleOf (show decode (mB 61) 5 = .ok (.iload_n 1, 1) by decide +kernel) rfl rfl
theorem X2_ladleOf_6 : Ev X 61 6 [l0, l1, l2, l3] (.int x :: .ref a :: st) w n 0 0 Q ↔ ∃ v, (ga w a 4 x).or (ga w a 5 x) = some v ∧ Ev X 61 7 [l0, l1, l2, l3] (v :: st) w n 0 0 Q := E_aald ok_X2_ladleOf (show decode (mB 61) 6 = .ok (.aaload, 1) by decide +kernel)
theorem X2_ladleOf_7 : Ev X 61 7 [l0, l1, l2, l3] (.ref a :: st) w n 0 0 Q ↔ ∃ v, gf w a 1 0 = some v ∧ Ev X 61 10 [l0, l1, l2, l3] (v :: st) w n 0 0 Q := E_getf ok_X2_ladleOf (by decide +kernel) (show decode (mB 61) 7 = .ok (.getfield 105, 3) by decide +kernel) (by decide +kernel)
theorem X2_ladleOf_10 : Ev X 61 10 [l0, l1, l2, l3] (st) w n 0 0 Q ↔ Ev X 61 11 [l0, l1, l2, l3] (.int (1) :: st) w n 0 0 Q := E_iconst ok_X2_ladleOf (show decode (mB 61) 10 = .ok (.iconst 1, 1) by decide +kernel) (by decide)
theorem X2_ladleOf_11 : Ev X 61 11 [l0, l1, l2, l3] (.int y :: .int x :: st) w n 0 0 Q ↔ if x = y then Ev X 61 14 [l0, l1, l2, l3] (st) w n 0 0 Q else Ev X 61 18 [l0, l1, l2, l3] (st) w n 0 0 Q := E_icne ok_X2_ladleOf (show decode (mB 61) 11 = .ok (.if_icmp .ne 7, 3) by decide +kernel) rfl
theorem X2_ladleOf_14 : Ev X 61 14 [l0, l1, l2, l3] (st) w n 0 0 Q ↔ Ev X 61 15 [l0, l1, l2, l3] (.int (1) :: st) w n 0 0 Q := E_iconst ok_X2_ladleOf (show decode (mB 61) 14 = .ok (.iconst 1, 1) by decide +kernel) (by decide)
theorem X2_ladleOf_15 : Ev X 61 15 [l0, l1, l2, l3] (st) w n 0 0 Q ↔ Ev X 61 19 [l0, l1, l2, l3] (st) w n 0 0 Q := E_goto ok_X2_ladleOf (show decode (mB 61) 15 = .ok (.goto 4, 3) by decide +kernel) rfl
theorem X2_ladleOf_18 : Ev X 61 18 [l0, l1, l2, l3] (st) w n 0 0 Q ↔ Ev X 61 19 [l0, l1, l2, l3] (.int (0) :: st) w n 0 0 Q := E_iconst ok_X2_ladleOf (show decode (mB 61) 18 = .ok (.iconst 0, 1) by decide +kernel) (by decide)
theorem X2_ladleOf_19 : Ev X 61 19 [l0, l1, l2, l3] (.int y :: .int x :: st) w n 0 0 Q ↔ if x = y then Ev X 61 22 [l0, l1, l2, l3] (st) w n 0 0 Q else Ev X 61 26 [l0, l1, l2, l3] (st) w n 0 0 Q := E_icne ok_X2_ladleOf (show decode (mB 61) 19 = .ok (.if_icmp .ne 7, 3) by decide +kernel) rfl
theorem X2_ladleOf_22 : Ev X 61 22 [l0, l1, l2, l3] (st) w n 0 0 Q ↔ Ev X 61 23 [l0, l1, l2, l3] (.int (1) :: st) w n 0 0 Q := E_iconst ok_X2_ladleOf (show decode (mB 61) 22 = .ok (.iconst 1, 1) by decide +kernel) (by decide)
theorem X2_ladleOf_23 : Ev X 61 23 [l0, l1, l2, l3] (st) w n 0 0 Q ↔ Ev X 61 27 [l0, l1, l2, l3] (st) w n 0 0 Q := E_goto ok_X2_ladleOf (show decode (mB 61) 23 = .ok (.goto 4, 3) by decide +kernel) rfl
theorem X2_ladleOf_26 : Ev X 61 26 [l0, l1, l2, l3] (st) w n 0 0 Q ↔ Ev X 61 27 [l0, l1, l2, l3] (.int (0) :: st) w n 0 0 Q := E_iconst ok_X2_ladleOf (show decode (mB 61) 26 = .ok (.iconst 0, 1) by decide +kernel) (by decide)
theorem X2_ladleOf_27 : Ev X 61 27 [l0, l1, l2, l3] (.int x :: st) w n 0 0 Q ↔ Ev X 61 28 [l0, l1, l2, some (.int x)] (st) w n 0 0 Q := E_p ok_X2_ladleOf (show decode (mB 61) 27 = .ok (.istore_n 3, 1) by decide +kernel) rfl rfl
theorem X2_ladleOf_28 : Ev X 61 28 [l0, l1, l2, some (.int x)] (st) w n 0 0 Q ↔ Ev X 61 29 [l0, l1, l2, some (.int x)] (.int x :: st) w n 0 0 Q := E_p ok_X2_ladleOf (show decode (mB 61) 28 = .ok (.iload_n 3, 1) by decide +kernel) rfl rfl
theorem X2_ladleOf_29 : Ev X 61 29 [l0, l1, l2, l3] (.int x :: st) w n 0 0 Q ↔ if x = 0 then Ev X 61 34 [l0, l1, l2, l3] (st) w n 0 0 Q else Ev X 61 32 [l0, l1, l2, l3] (st) w n 0 0 Q := E_ifeq ok_X2_ladleOf (show decode (mB 61) 29 = .ok (.ifCond .eq 5, 3) by decide +kernel) rfl
theorem X2_ladleOf_32 : Ev X 61 32 [l0, some (.int x), l2, l3] (st) w n 0 0 Q ↔ Ev X 61 33 [l0, some (.int x), l2, l3] (.int x :: st) w n 0 0 Q := E_p ok_X2_ladleOf (show decode (mB 61) 32 = .ok (.iload_n 1, 1) by decide +kernel) rfl rfl
theorem X2_ladleOf_33 : Ev X 61 33 [l0, l1, l2, l3] ([.int x]) w n 0 0 Q ↔ Q (.inl (some (.int x))) w n := E_reti ok_X2_ladleOf (show decode (mB 61) 33 = .ok (.ireturn, 1) by decide +kernel) (by decide +kernel)
theorem X2_ladleOf_34 : Ev X 61 34 [l0, some (.int x), l2, l3] (st) w n 0 0 Q ↔ Ev X 61 35 [l0, some (.int x), l2, l3] (.int x :: st) w n 0 0 Q := E_p ok_X2_ladleOf (show decode (mB 61) 34 = .ok (.iload_n 1, 1) by decide +kernel) rfl rfl
theorem X2_ladleOf_35 : Ev X 61 35 [l0, l1, l2, l3] (.int x :: st) w n 0 0 Q ↔ if x = 0 then Ev X 61 38 [l0, l1, l2, l3] (st) w n 0 0 Q else Ev X 61 47 [l0, l1, l2, l3] (st) w n 0 0 Q := E_ifne ok_X2_ladleOf (show decode (mB 61) 35 = .ok (.ifCond .ne 12, 3) by decide +kernel) rfl
theorem X2_ladleOf_38 : Ev X 61 38 [some (.ref a), l1, l2, l3] (st) w n 0 0 Q ↔ Ev X 61 39 [some (.ref a), l1, l2, l3] (.ref a :: st) w n 0 0 Q := E_p ok_X2_ladleOf (show decode (mB 61) 38 = .ok (.aload_n 0, 1) by decide +kernel) rfl rfl
theorem X2_ladleOf_39 : Ev X 61 39 [l0, l1, l2, l3] (.ref a :: st) w n 0 0 Q ↔ ∃ v, gf w a 2 2 = some v ∧ Ev X 61 42 [l0, l1, l2, l3] (v :: st) w n 0 0 Q := E_getf ok_X2_ladleOf (by decide +kernel) (show decode (mB 61) 39 = .ok (.getfield 33, 3) by decide +kernel) (by decide +kernel)
theorem X2_ladleOf_42 : Ev X 61 42 [l0, l1, l2, l3] (st) w n 0 0 Q ↔ Ev X 61 43 [l0, l1, l2, l3] (.int (1) :: st) w n 0 0 Q := E_iconst ok_X2_ladleOf (show decode (mB 61) 42 = .ok (.iconst 1, 1) by decide +kernel) (by decide)
theorem X2_ladleOf_43 : Ev X 61 43 [l0, l1, l2, l3] (.int y :: .int x :: st) w n 0 0 Q ↔ Ev X 61 44 [l0, l1, l2, l3] (.int (x - y) :: st) w n 0 0 Q := E_p ok_X2_ladleOf (show decode (mB 61) 43 = .ok (.isub, 1) by decide +kernel) rfl rfl
theorem X2_ladleOf_44 : Ev X 61 44 [l0, l1, l2, l3] (st) w n 0 0 Q ↔ Ev X 61 50 [l0, l1, l2, l3] (st) w n 0 0 Q := E_goto ok_X2_ladleOf (show decode (mB 61) 44 = .ok (.goto 6, 3) by decide +kernel) rfl
theorem X2_ladleOf_47 : Ev X 61 47 [l0, some (.int x), l2, l3] (st) w n 0 0 Q ↔ Ev X 61 48 [l0, some (.int x), l2, l3] (.int x :: st) w n 0 0 Q := E_p ok_X2_ladleOf (show decode (mB 61) 47 = .ok (.iload_n 1, 1) by decide +kernel) rfl rfl
theorem X2_ladleOf_48 : Ev X 61 48 [l0, l1, l2, l3] (st) w n 0 0 Q ↔ Ev X 61 49 [l0, l1, l2, l3] (.int (1) :: st) w n 0 0 Q := E_iconst ok_X2_ladleOf (show decode (mB 61) 48 = .ok (.iconst 1, 1) by decide +kernel) (by decide)
theorem X2_ladleOf_49 : Ev X 61 49 [l0, l1, l2, l3] (.int y :: .int x :: st) w n 0 0 Q ↔ Ev X 61 50 [l0, l1, l2, l3] (.int (x - y) :: st) w n 0 0 Q := E_p ok_X2_ladleOf (show decode (mB 61) 49 = .ok (.isub, 1) by decide +kernel) rfl rfl
theorem X2_ladleOf_50 : Ev X 61 50 [l0, l1, l2, l3] ([.int x]) w n 0 0 Q ↔ Q (.inl (some (.int x))) w n := E_reti ok_X2_ladleOf (show decode (mB 61) 50 = .ok (.ireturn, 1) by decide +kernel) (by decide +kernel)
theorem ok_X2_takeAway : okP 62 = true := by decide +kernel
theorem X2_takeAway_0 : Ev X 62 0 [some (.ref a), l1, l2, l3, l4] (st) w n 0 0 Q ↔ Ev X 62 1 [some (.ref a), l1, l2, l3, l4] (.ref a :: st) w n 0 0 Q := E_p ok_X2_takeAway (show decode (mB 62) 0 = .ok (.aload_n 0, 1) by decide +kernel) rfl rfl
theorem X2_takeAway_1 : Ev X 62 1 [l0, some (.int x), l2, l3, l4] (st) w n 0 0 Q ↔ Ev X 62 2 [l0, some (.int x), l2, l3, l4] (.int x :: st) w n 0 0 Q := E_p ok_X2_takeAway (show decode (mB 62) 1 = .ok (.iload_n 1, 1) by decide +kernel) rfl rfl
theorem X2_takeAway_2 (h : hasc w a 2 = true) : Ev X 62 2 [l0, l1, l2, l3, l4] (.int y0 :: .ref a :: []) w n 0 0 Q ↔ Ev X 37 0 [some (.ref a), some (.int y0)] [] w n 0 0 (Kr X 62 5 [l0, l1, l2, l3, l4] ([]) 0 0 Q) := E_cv ok_X2_takeAway (show decode (mB 62) 2 = .ok (.invokevirtual 102, 3) by decide +kernel) (by decide +kernel) (by decide +kernel) (by decide +kernel) (k := 1) (vs := [.int y0]) rfl ((rc_Table (M2 := 37) (by decide +kernel) (by decide +kernel)).trans h) (by simp only [List.length_cons, List.length_nil]; decide) (by simp only [List.length_cons, List.length_nil]; decide +kernel) (ent_eq (k := 0) (by simp only [List.length_cons, List.length_nil]; decide +kernel)) (by decide +kernel) (by decide +kernel)
theorem X2_takeAway_5 : Ev X 62 5 [l0, l1, l2, l3, l4] (.int x :: st) w n 0 0 Q ↔ if x = 0 then Ev X 62 8 [l0, l1, l2, l3, l4] (st) w n 0 0 Q else Ev X 62 15 [l0, l1, l2, l3, l4] (st) w n 0 0 Q := E_ifne ok_X2_takeAway (show decode (mB 62) 5 = .ok (.ifCond .ne 10, 3) by decide +kernel) rfl
theorem X2_takeAway_8 : Ev X 62 8 [l0, l1, some (.ref a), l3, l4] (st) w n 0 0 Q ↔ Ev X 62 9 [l0, l1, some (.ref a), l3, l4] (.ref a :: st) w n 0 0 Q := E_p ok_X2_takeAway (show decode (mB 62) 8 = .ok (.aload_n 2, 1) by decide +kernel) rfl rfl
theorem X2_takeAway_9 : Ev X 62 9 [l0, l1, l2, l3, l4] (st) w n 0 0 Q ↔ Ev X 62 10 [l0, l1, l2, l3, l4] (.int (3) :: st) w n 0 0 Q := E_iconst ok_X2_takeAway (show decode (mB 62) 9 = .ok (.iconst 3, 1) by decide +kernel) (by decide)
theorem X2_takeAway_10 : Ev X 62 10 [l0, some (.int x), l2, l3, l4] (st) w n 0 0 Q ↔ Ev X 62 11 [l0, some (.int x), l2, l3, l4] (.int x :: st) w n 0 0 Q := E_p ok_X2_takeAway (show decode (mB 62) 10 = .ok (.iload_n 1, 1) by decide +kernel) rfl rfl
theorem X2_takeAway_11 (h : hasc w a 0 = true) : Ev X 62 11 [l0, l1, l2, l3, l4] (.int y1 :: .int y0 :: .ref a :: []) w n 0 0 Q ↔ Ev X 10 0 [some (.ref a), some (.int y0), some (.int y1)] [] w n 0 0 (Kr X 62 14 [l0, l1, l2, l3, l4] ([]) 0 0 Q) := E_cv ok_X2_takeAway (show decode (mB 62) 11 = .ok (.invokevirtual 88, 3) by decide +kernel) (by decide +kernel) (by decide +kernel) (by decide +kernel) (k := 2) (vs := [.int y0, .int y1]) rfl ((rc_Refusal (M2 := 10) (by decide +kernel) (by decide +kernel)).trans h) (by simp only [List.length_cons, List.length_nil]; decide) (by simp only [List.length_cons, List.length_nil]; decide +kernel) (ent_eq (k := 0) (by simp only [List.length_cons, List.length_nil]; decide +kernel)) (by decide +kernel) (by decide +kernel)
theorem X2_takeAway_14 : Ev X 62 14 [l0, l1, l2, l3, l4] ([.int x]) w n 0 0 Q ↔ Q (.inl (some (.int x))) w n := E_reti ok_X2_takeAway (show decode (mB 62) 14 = .ok (.ireturn, 1) by decide +kernel) (by decide +kernel)
theorem X2_takeAway_15 : Ev X 62 15 [some (.ref a), l1, l2, l3, l4] (st) w n 0 0 Q ↔ Ev X 62 16 [some (.ref a), l1, l2, l3, l4] (.ref a :: st) w n 0 0 Q := E_p ok_X2_takeAway (show decode (mB 62) 15 = .ok (.aload_n 0, 1) by decide +kernel) rfl rfl
theorem X2_takeAway_16 : Ev X 62 16 [l0, l1, l2, l3, l4] (.ref a :: st) w n 0 0 Q ↔ ∃ v, gf w a 2 0 = some v ∧ Ev X 62 19 [l0, l1, l2, l3, l4] (v :: st) w n 0 0 Q := E_getf ok_X2_takeAway (by decide +kernel) (show decode (mB 62) 16 = .ok (.getfield 11, 3) by decide +kernel) (by decide +kernel)
theorem X2_takeAway_19 : Ev X 62 19 [l0, some (.int x), l2, l3, l4] (st) w n 0 0 Q ↔ Ev X 62 20 [l0, some (.int x), l2, l3, l4] (.int x :: st) w n 0 0 Q := E_p ok_X2_takeAway (show decode (mB 62) 19 = .ok (.iload_n 1, 1) by decide +kernel) rfl rfl
theorem X2_takeAway_20 : Ev X 62 20 [l0, l1, l2, l3, l4] (.int x :: .ref a :: st) w n 0 0 Q ↔ ∃ v, (ga w a 4 x).or (ga w a 5 x) = some v ∧ Ev X 62 21 [l0, l1, l2, l3, l4] (v :: st) w n 0 0 Q := E_aald ok_X2_takeAway (show decode (mB 62) 20 = .ok (.aaload, 1) by decide +kernel)
theorem X2_takeAway_21 : Ev X 62 21 [l0, l1, l2, l3, l4] (.ref a :: st) w n 0 0 Q ↔ ∃ v, gf w a 1 3 = some v ∧ Ev X 62 24 [l0, l1, l2, l3, l4] (v :: st) w n 0 0 Q := E_getf ok_X2_takeAway (by decide +kernel) (show decode (mB 62) 21 = .ok (.getfield 108, 3) by decide +kernel) (by decide +kernel)
theorem X2_takeAway_24 : Ev X 62 24 [l0, l1, l2, l3, l4] (st) w n 0 0 Q ↔ Ev X 62 25 [l0, l1, l2, l3, l4] (.int (3) :: st) w n 0 0 Q := E_iconst ok_X2_takeAway (show decode (mB 62) 24 = .ok (.iconst 3, 1) by decide +kernel) (by decide)
theorem X2_takeAway_25 : Ev X 62 25 [l0, l1, l2, l3, l4] (.int y :: .int x :: st) w n 0 0 Q ↔ if x = y then Ev X 62 44 [l0, l1, l2, l3, l4] (st) w n 0 0 Q else Ev X 62 28 [l0, l1, l2, l3, l4] (st) w n 0 0 Q := E_iceq ok_X2_takeAway (show decode (mB 62) 25 = .ok (.if_icmp .eq 19, 3) by decide +kernel) rfl
theorem X2_takeAway_28 : Ev X 62 28 [l0, l1, some (.ref a), l3, l4] (st) w n 0 0 Q ↔ Ev X 62 29 [l0, l1, some (.ref a), l3, l4] (.ref a :: st) w n 0 0 Q := E_p ok_X2_takeAway (show decode (mB 62) 28 = .ok (.aload_n 2, 1) by decide +kernel) rfl rfl
theorem X2_takeAway_29 : Ev X 62 29 [l0, l1, l2, l3, l4] (st) w n 0 0 Q ↔ Ev X 62 31 [l0, l1, l2, l3, l4] (.int (6) :: st) w n 0 0 Q := E_bipush ok_X2_takeAway (show decode (mB 62) 29 = .ok (.bipush 6, 2) by decide +kernel) (by decide)
theorem X2_takeAway_31 : Ev X 62 31 [some (.ref a), l1, l2, l3, l4] (st) w n 0 0 Q ↔ Ev X 62 32 [some (.ref a), l1, l2, l3, l4] (.ref a :: st) w n 0 0 Q := E_p ok_X2_takeAway (show decode (mB 62) 31 = .ok (.aload_n 0, 1) by decide +kernel) rfl rfl
theorem X2_takeAway_32 : Ev X 62 32 [l0, l1, l2, l3, l4] (.ref a :: st) w n 0 0 Q ↔ ∃ v, gf w a 2 0 = some v ∧ Ev X 62 35 [l0, l1, l2, l3, l4] (v :: st) w n 0 0 Q := E_getf ok_X2_takeAway (by decide +kernel) (show decode (mB 62) 32 = .ok (.getfield 11, 3) by decide +kernel) (by decide +kernel)
theorem X2_takeAway_35 : Ev X 62 35 [l0, some (.int x), l2, l3, l4] (st) w n 0 0 Q ↔ Ev X 62 36 [l0, some (.int x), l2, l3, l4] (.int x :: st) w n 0 0 Q := E_p ok_X2_takeAway (show decode (mB 62) 35 = .ok (.iload_n 1, 1) by decide +kernel) rfl rfl
theorem X2_takeAway_36 : Ev X 62 36 [l0, l1, l2, l3, l4] (.int x :: .ref a :: st) w n 0 0 Q ↔ ∃ v, (ga w a 4 x).or (ga w a 5 x) = some v ∧ Ev X 62 37 [l0, l1, l2, l3, l4] (v :: st) w n 0 0 Q := E_aald ok_X2_takeAway (show decode (mB 62) 36 = .ok (.aaload, 1) by decide +kernel)
theorem X2_takeAway_37 : Ev X 62 37 [l0, l1, l2, l3, l4] (.ref a :: st) w n 0 0 Q ↔ ∃ v, gf w a 1 3 = some v ∧ Ev X 62 40 [l0, l1, l2, l3, l4] (v :: st) w n 0 0 Q := E_getf ok_X2_takeAway (by decide +kernel) (show decode (mB 62) 37 = .ok (.getfield 108, 3) by decide +kernel) (by decide +kernel)
theorem X2_takeAway_40 (h : hasc w a 0 = true) : Ev X 62 40 [l0, l1, l2, l3, l4] (.int y1 :: .int y0 :: .ref a :: []) w n 0 0 Q ↔ Ev X 10 0 [some (.ref a), some (.int y0), some (.int y1)] [] w n 0 0 (Kr X 62 43 [l0, l1, l2, l3, l4] ([]) 0 0 Q) := E_cv ok_X2_takeAway (show decode (mB 62) 40 = .ok (.invokevirtual 88, 3) by decide +kernel) (by decide +kernel) (by decide +kernel) (by decide +kernel) (k := 2) (vs := [.int y0, .int y1]) rfl ((rc_Refusal (M2 := 10) (by decide +kernel) (by decide +kernel)).trans h) (by simp only [List.length_cons, List.length_nil]; decide) (by simp only [List.length_cons, List.length_nil]; decide +kernel) (ent_eq (k := 0) (by simp only [List.length_cons, List.length_nil]; decide +kernel)) (by decide +kernel) (by decide +kernel)
theorem X2_takeAway_43 : Ev X 62 43 [l0, l1, l2, l3, l4] ([.int x]) w n 0 0 Q ↔ Q (.inl (some (.int x))) w n := E_reti ok_X2_takeAway (show decode (mB 62) 43 = .ok (.ireturn, 1) by decide +kernel) (by decide +kernel)
theorem X2_takeAway_44 : Ev X 62 44 [some (.ref a), l1, l2, l3, l4] (st) w n 0 0 Q ↔ Ev X 62 45 [some (.ref a), l1, l2, l3, l4] (.ref a :: st) w n 0 0 Q := E_p ok_X2_takeAway (show decode (mB 62) 44 = .ok (.aload_n 0, 1) by decide +kernel) rfl rfl
theorem X2_takeAway_45 : Ev X 62 45 [l0, some (.int x), l2, l3, l4] (st) w n 0 0 Q ↔ Ev X 62 46 [l0, some (.int x), l2, l3, l4] (.int x :: st) w n 0 0 Q := E_p ok_X2_takeAway (show decode (mB 62) 45 = .ok (.iload_n 1, 1) by decide +kernel) rfl rfl
theorem X2_takeAway_46 : Ev X 62 46 [l0, l1, l2, l3, l4] (st) w n 0 0 Q ↔ Ev X 62 47 [l0, l1, l2, l3, l4] (.int (1) :: st) w n 0 0 Q := E_iconst ok_X2_takeAway (show decode (mB 62) 46 = .ok (.iconst 1, 1) by decide +kernel) (by decide)
theorem X2_takeAway_47 (h : hasc w a 2 = true) : Ev X 62 47 [l0, l1, l2, l3, l4] (.int y1 :: .int y0 :: .ref a :: []) w n 0 0 Q ↔ Ev X 61 0 [some (.ref a), some (.int y0), some (.int y1), none] [] w n 0 0 (Kr X 62 50 [l0, l1, l2, l3, l4] ([]) 0 0 Q) := E_cv ok_X2_takeAway (show decode (mB 62) 47 = .ok (.invokevirtual 117, 3) by decide +kernel) (by decide +kernel) (by decide +kernel) (by decide +kernel) (k := 2) (vs := [.int y0, .int y1]) rfl ((rc_Table (M2 := 61) (by decide +kernel) (by decide +kernel)).trans h) (by simp only [List.length_cons, List.length_nil]; decide) (by simp only [List.length_cons, List.length_nil]; decide +kernel) (ent_eq (k := 1) (by simp only [List.length_cons, List.length_nil]; decide +kernel)) (by decide +kernel) (by decide +kernel)
theorem X2_takeAway_50 : Ev X 62 50 [l0, l1, l2, l3, l4] (.int x :: st) w n 0 0 Q ↔ Ev X 62 51 [l0, l1, l2, some (.int x), l4] (st) w n 0 0 Q := E_p ok_X2_takeAway (show decode (mB 62) 50 = .ok (.istore_n 3, 1) by decide +kernel) rfl rfl
theorem X2_takeAway_51 : Ev X 62 51 [some (.ref a), l1, l2, l3, l4] (st) w n 0 0 Q ↔ Ev X 62 52 [some (.ref a), l1, l2, l3, l4] (.ref a :: st) w n 0 0 Q := E_p ok_X2_takeAway (show decode (mB 62) 51 = .ok (.aload_n 0, 1) by decide +kernel) rfl rfl
theorem X2_takeAway_52 : Ev X 62 52 [l0, l1, l2, l3, l4] (.ref a :: st) w n 0 0 Q ↔ ∃ v, gf w a 2 1 = some v ∧ Ev X 62 55 [l0, l1, l2, l3, l4] (v :: st) w n 0 0 Q := E_getf ok_X2_takeAway (by decide +kernel) (show decode (mB 62) 52 = .ok (.getfield 17, 3) by decide +kernel) (by decide +kernel)
theorem X2_takeAway_55 : Ev X 62 55 [l0, l1, l2, some (.int x), l4] (st) w n 0 0 Q ↔ Ev X 62 56 [l0, l1, l2, some (.int x), l4] (.int x :: st) w n 0 0 Q := E_p ok_X2_takeAway (show decode (mB 62) 55 = .ok (.iload_n 3, 1) by decide +kernel) rfl rfl
theorem X2_takeAway_56 : Ev X 62 56 [l0, l1, l2, l3, l4] (.int x :: .ref a :: st) w n 0 0 Q ↔ ∃ v, ga w a 0 x = some v ∧ Ev X 62 57 [l0, l1, l2, l3, l4] (v :: st) w n 0 0 Q := E_iald ok_X2_takeAway (by decide +kernel) (show decode (mB 62) 56 = .ok (.iaload, 1) by decide +kernel)
theorem X2_takeAway_57 : Ev X 62 57 [l0, some (.int x), l2, l3, l4] (st) w n 0 0 Q ↔ Ev X 62 58 [l0, some (.int x), l2, l3, l4] (.int x :: st) w n 0 0 Q := E_p ok_X2_takeAway (show decode (mB 62) 57 = .ok (.iload_n 1, 1) by decide +kernel) rfl rfl
theorem X2_takeAway_58 : Ev X 62 58 [l0, l1, l2, l3, l4] (.int y :: .int x :: st) w n 0 0 Q ↔ if x = y then Ev X 62 61 [l0, l1, l2, l3, l4] (st) w n 0 0 Q else Ev X 62 65 [l0, l1, l2, l3, l4] (st) w n 0 0 Q := E_icne ok_X2_takeAway (show decode (mB 62) 58 = .ok (.if_icmp .ne 7, 3) by decide +kernel) rfl
theorem X2_takeAway_61 : Ev X 62 61 [l0, l1, l2, some (.int x), l4] (st) w n 0 0 Q ↔ Ev X 62 62 [l0, l1, l2, some (.int x), l4] (.int x :: st) w n 0 0 Q := E_p ok_X2_takeAway (show decode (mB 62) 61 = .ok (.iload_n 3, 1) by decide +kernel) rfl rfl
theorem X2_takeAway_62 : Ev X 62 62 [l0, l1, l2, l3, l4] (st) w n 0 0 Q ↔ Ev X 62 71 [l0, l1, l2, l3, l4] (st) w n 0 0 Q := E_goto ok_X2_takeAway (show decode (mB 62) 62 = .ok (.goto 9, 3) by decide +kernel) rfl
theorem X2_takeAway_65 : Ev X 62 65 [some (.ref a), l1, l2, l3, l4] (st) w n 0 0 Q ↔ Ev X 62 66 [some (.ref a), l1, l2, l3, l4] (.ref a :: st) w n 0 0 Q := E_p ok_X2_takeAway (show decode (mB 62) 65 = .ok (.aload_n 0, 1) by decide +kernel) rfl rfl
theorem X2_takeAway_66 : Ev X 62 66 [l0, some (.int x), l2, l3, l4] (st) w n 0 0 Q ↔ Ev X 62 67 [l0, some (.int x), l2, l3, l4] (.int x :: st) w n 0 0 Q := E_p ok_X2_takeAway (show decode (mB 62) 66 = .ok (.iload_n 1, 1) by decide +kernel) rfl rfl
theorem X2_takeAway_67 : Ev X 62 67 [l0, l1, l2, l3, l4] (st) w n 0 0 Q ↔ Ev X 62 68 [l0, l1, l2, l3, l4] (.int (0) :: st) w n 0 0 Q := E_iconst ok_X2_takeAway (show decode (mB 62) 67 = .ok (.iconst 0, 1) by decide +kernel) (by decide)
theorem X2_takeAway_68 (h : hasc w a 2 = true) : Ev X 62 68 [l0, l1, l2, l3, l4] (.int y1 :: .int y0 :: .ref a :: []) w n 0 0 Q ↔ Ev X 61 0 [some (.ref a), some (.int y0), some (.int y1), none] [] w n 0 0 (Kr X 62 71 [l0, l1, l2, l3, l4] ([]) 0 0 Q) := E_cv ok_X2_takeAway (show decode (mB 62) 68 = .ok (.invokevirtual 117, 3) by decide +kernel) (by decide +kernel) (by decide +kernel) (by decide +kernel) (k := 2) (vs := [.int y0, .int y1]) rfl ((rc_Table (M2 := 61) (by decide +kernel) (by decide +kernel)).trans h) (by simp only [List.length_cons, List.length_nil]; decide) (by simp only [List.length_cons, List.length_nil]; decide +kernel) (ent_eq (k := 1) (by simp only [List.length_cons, List.length_nil]; decide +kernel)) (by decide +kernel) (by decide +kernel)
theorem X2_takeAway_71 : Ev X 62 71 [l0, l1, l2, l3, l4] (.int x :: st) w n 0 0 Q ↔ Ev X 62 73 [l0, l1, l2, l3, some (.int x)] (st) w n 0 0 Q := E_p ok_X2_takeAway (show decode (mB 62) 71 = .ok (.istore 4, 2) by decide +kernel) rfl rfl
theorem X2_takeAway_73 : Ev X 62 73 [some (.ref a), l1, l2, l3, l4] (st) w n 0 0 Q ↔ Ev X 62 74 [some (.ref a), l1, l2, l3, l4] (.ref a :: st) w n 0 0 Q := E_p ok_X2_takeAway (show decode (mB 62) 73 = .ok (.aload_n 0, 1) by decide +kernel) rfl rfl
theorem X2_takeAway_74 : Ev X 62 74 [l0, l1, l2, l3, l4] (.ref a :: st) w n 0 0 Q ↔ ∃ v, gf w a 2 1 = some v ∧ Ev X 62 77 [l0, l1, l2, l3, l4] (v :: st) w n 0 0 Q := E_getf ok_X2_takeAway (by decide +kernel) (show decode (mB 62) 74 = .ok (.getfield 17, 3) by decide +kernel) (by decide +kernel)
theorem X2_takeAway_77 : Ev X 62 77 [l0, l1, l2, l3, some (.int x)] (st) w n 0 0 Q ↔ Ev X 62 79 [l0, l1, l2, l3, some (.int x)] (.int x :: st) w n 0 0 Q := E_p ok_X2_takeAway (show decode (mB 62) 77 = .ok (.iload 4, 2) by decide +kernel) rfl rfl
theorem X2_takeAway_79 : Ev X 62 79 [l0, l1, l2, l3, l4] (st) w n 0 0 Q ↔ Ev X 62 80 [l0, l1, l2, l3, l4] (.int (-1) :: st) w n 0 0 Q := E_iconst ok_X2_takeAway (show decode (mB 62) 79 = .ok (.iconst (-1), 1) by decide +kernel) (by decide)
theorem X2_takeAway_80 : Ev X 62 80 [l0, l1, l2, l3, l4] (.int y :: .int x :: .ref a :: st) w n 0 0 Q ↔ ∃ w2, sa w a 0 x (.int y) = some w2 ∧ Ev X 62 81 [l0, l1, l2, l3, l4] (st) w2 n 0 0 Q := E_iast ok_X2_takeAway (show decode (mB 62) 80 = .ok (.iastore, 1) by decide +kernel)
theorem X2_takeAway_81 : Ev X 62 81 [some (.ref a), l1, l2, l3, l4] (st) w n 0 0 Q ↔ Ev X 62 82 [some (.ref a), l1, l2, l3, l4] (.ref a :: st) w n 0 0 Q := E_p ok_X2_takeAway (show decode (mB 62) 81 = .ok (.aload_n 0, 1) by decide +kernel) rfl rfl
theorem X2_takeAway_82 : Ev X 62 82 [l0, l1, l2, l3, l4] (.ref a :: st) w n 0 0 Q ↔ ∃ v, gf w a 2 0 = some v ∧ Ev X 62 85 [l0, l1, l2, l3, l4] (v :: st) w n 0 0 Q := E_getf ok_X2_takeAway (by decide +kernel) (show decode (mB 62) 82 = .ok (.getfield 11, 3) by decide +kernel) (by decide +kernel)
theorem X2_takeAway_85 : Ev X 62 85 [l0, some (.int x), l2, l3, l4] (st) w n 0 0 Q ↔ Ev X 62 86 [l0, some (.int x), l2, l3, l4] (.int x :: st) w n 0 0 Q := E_p ok_X2_takeAway (show decode (mB 62) 85 = .ok (.iload_n 1, 1) by decide +kernel) rfl rfl
theorem X2_takeAway_86 : Ev X 62 86 [l0, l1, l2, l3, l4] (.int x :: .ref a :: st) w n 0 0 Q ↔ ∃ v, (ga w a 4 x).or (ga w a 5 x) = some v ∧ Ev X 62 87 [l0, l1, l2, l3, l4] (v :: st) w n 0 0 Q := E_aald ok_X2_takeAway (show decode (mB 62) 86 = .ok (.aaload, 1) by decide +kernel)
theorem X2_takeAway_87 : Ev X 62 87 [l0, l1, l2, l3, l4] (st) w n 0 0 Q ↔ Ev X 62 88 [l0, l1, l2, l3, l4] (.int (2) :: st) w n 0 0 Q := E_iconst ok_X2_takeAway (show decode (mB 62) 87 = .ok (.iconst 2, 1) by decide +kernel) (by decide)
theorem X2_takeAway_88 : Ev X 62 88 [l0, l1, l2, l3, l4] (.int x :: .ref a :: st) w n 0 0 Q ↔ ∃ w2, pf w a 1 3 (.int x) = some w2 ∧ Ev X 62 91 [l0, l1, l2, l3, l4] (st) w2 n 0 0 Q := E_putf ok_X2_takeAway rfl (show decode (mB 62) 88 = .ok (.putfield 108, 3) by decide +kernel) (by decide +kernel) (by decide +kernel)
theorem X2_takeAway_91 : Ev X 62 91 [some (.ref a), l1, l2, l3, l4] (st) w n 0 0 Q ↔ Ev X 62 92 [some (.ref a), l1, l2, l3, l4] (.ref a :: st) w n 0 0 Q := E_p ok_X2_takeAway (show decode (mB 62) 91 = .ok (.aload_n 0, 1) by decide +kernel) rfl rfl
theorem X2_takeAway_92 : Ev X 62 92 [l0, l1, l2, l3, l4] (.ref a :: st) w n 0 0 Q ↔ Ev X 62 93 [l0, l1, l2, l3, l4] (.ref a :: .ref a :: st) w n 0 0 Q := E_p ok_X2_takeAway (show decode (mB 62) 92 = .ok (.dup, 1) by decide +kernel) rfl rfl
theorem X2_takeAway_93 : Ev X 62 93 [l0, l1, l2, l3, l4] (.ref a :: st) w n 0 0 Q ↔ ∃ v, gf w a 2 7 = some v ∧ Ev X 62 96 [l0, l1, l2, l3, l4] (v :: st) w n 0 0 Q := E_getf ok_X2_takeAway (by decide +kernel) (show decode (mB 62) 93 = .ok (.getfield 42, 3) by decide +kernel) (by decide +kernel)
theorem X2_takeAway_96 : Ev X 62 96 [l0, l1, l2, l3, l4] (st) w n 0 0 Q ↔ Ev X 62 97 [l0, l1, l2, l3, l4] (.int (1) :: st) w n 0 0 Q := E_iconst ok_X2_takeAway (show decode (mB 62) 96 = .ok (.iconst 1, 1) by decide +kernel) (by decide)
theorem X2_takeAway_97 : Ev X 62 97 [l0, l1, l2, l3, l4] (.int y :: .int x :: st) w n 0 0 Q ↔ Ev X 62 98 [l0, l1, l2, l3, l4] (.int (x + y) :: st) w n 0 0 Q := E_p ok_X2_takeAway (show decode (mB 62) 97 = .ok (.iadd, 1) by decide +kernel) rfl rfl
theorem X2_takeAway_98 : Ev X 62 98 [l0, l1, l2, l3, l4] (.int x :: .ref a :: st) w n 0 0 Q ↔ ∃ w2, pf w a 2 7 (.int x) = some w2 ∧ Ev X 62 101 [l0, l1, l2, l3, l4] (st) w2 n 0 0 Q := E_putf ok_X2_takeAway rfl (show decode (mB 62) 98 = .ok (.putfield 42, 3) by decide +kernel) (by decide +kernel) (by decide +kernel)
theorem X2_takeAway_101 : Ev X 62 101 [l0, l1, l2, l3, some (.int x)] (st) w n 0 0 Q ↔ Ev X 62 103 [l0, l1, l2, l3, some (.int x)] (.int x :: st) w n 0 0 Q := E_p ok_X2_takeAway (show decode (mB 62) 101 = .ok (.iload 4, 2) by decide +kernel) rfl rfl
theorem X2_takeAway_103 : Ev X 62 103 [l0, l1, l2, l3, l4] ([.int x]) w n 0 0 Q ↔ Q (.inl (some (.int x))) w n := E_reti ok_X2_takeAway (show decode (mB 62) 103 = .ok (.ireturn, 1) by decide +kernel) (by decide +kernel)
theorem ok_X2_canTick : okP 69 = true := by decide +kernel
theorem X2_canTick_0 : Ev X 69 0 [some (.ref a)] (st) w n 0 0 Q ↔ Ev X 69 1 [some (.ref a)] (.ref a :: st) w n 0 0 Q := E_p ok_X2_canTick (show decode (mB 69) 0 = .ok (.aload_n 0, 1) by decide +kernel) rfl rfl
theorem X2_canTick_1 : Ev X 69 1 [l0] (.ref a :: st) w n 0 0 Q ↔ ∃ v, gf w a 2 2 = some v ∧ Ev X 69 4 [l0] (v :: st) w n 0 0 Q := E_getf ok_X2_canTick (by decide +kernel) (show decode (mB 69) 1 = .ok (.getfield 33, 3) by decide +kernel) (by decide +kernel)
theorem X2_canTick_4 : Ev X 69 4 [l0] (st) w n 0 0 Q ↔ Ev X 69 5 [l0] (.int (2) :: st) w n 0 0 Q := E_iconst ok_X2_canTick (show decode (mB 69) 4 = .ok (.iconst 2, 1) by decide +kernel) (by decide)
theorem X2_canTick_5 : Ev X 69 5 [l0] (.int y :: .int x :: st) w n 0 0 Q ↔ if x < y then Ev X 69 12 [l0] (st) w n 0 0 Q else Ev X 69 8 [l0] (st) w n 0 0 Q := E_iclt ok_X2_canTick (show decode (mB 69) 5 = .ok (.if_icmp .lt 7, 3) by decide +kernel) rfl
theorem X2_canTick_8 : Ev X 69 8 [l0] (st) w n 0 0 Q ↔ Ev X 69 9 [l0] (.int (1) :: st) w n 0 0 Q := E_iconst ok_X2_canTick (show decode (mB 69) 8 = .ok (.iconst 1, 1) by decide +kernel) (by decide)
theorem X2_canTick_9 : Ev X 69 9 [l0] (st) w n 0 0 Q ↔ Ev X 69 13 [l0] (st) w n 0 0 Q := E_goto ok_X2_canTick (show decode (mB 69) 9 = .ok (.goto 4, 3) by decide +kernel) rfl
theorem X2_canTick_12 : Ev X 69 12 [l0] (st) w n 0 0 Q ↔ Ev X 69 13 [l0] (.int (0) :: st) w n 0 0 Q := E_iconst ok_X2_canTick (show decode (mB 69) 12 = .ok (.iconst 0, 1) by decide +kernel) (by decide)
theorem X2_canTick_13 (h : okr (some .boolean) x = true) : Ev X 69 13 [l0] ([.int x]) w n 0 0 Q ↔ Q (.inl (some (.int x))) w n := E_retz ok_X2_canTick (show decode (mB 69) 13 = .ok (.ireturn, 1) by decide +kernel) (by decide +kernel) h
theorem ok_X2_mealsOfAll : okP 70 = true := by decide +kernel
theorem X2_mealsOfAll_0 : Ev X 70 0 [l0, l1, l2] (st) w n 0 0 Q ↔ Ev X 70 1 [l0, l1, l2] (.int (0) :: st) w n 0 0 Q := E_iconst ok_X2_mealsOfAll (show decode (mB 70) 0 = .ok (.iconst 0, 1) by decide +kernel) (by decide)
theorem X2_mealsOfAll_1 : Ev X 70 1 [l0, l1, l2] (.int x :: st) w n 0 0 Q ↔ Ev X 70 2 [l0, some (.int x), l2] (st) w n 0 0 Q := E_p ok_X2_mealsOfAll (show decode (mB 70) 1 = .ok (.istore_n 1, 1) by decide +kernel) rfl rfl
theorem X2_mealsOfAll_2 : Ev X 70 2 [l0, l1, l2] (st) w n 0 0 Q ↔ Ev X 70 3 [l0, l1, l2] (.int (0) :: st) w n 0 0 Q := E_iconst ok_X2_mealsOfAll (show decode (mB 70) 2 = .ok (.iconst 0, 1) by decide +kernel) (by decide)
theorem X2_mealsOfAll_3 : Ev X 70 3 [l0, l1, l2] (.int x :: st) w n 0 0 Q ↔ Ev X 70 4 [l0, l1, some (.int x)] (st) w n 0 0 Q := E_p ok_X2_mealsOfAll (show decode (mB 70) 3 = .ok (.istore_n 2, 1) by decide +kernel) rfl rfl
theorem X2_mealsOfAll_4 : Ev X 70 4 [l0, l1, some (.int x)] (st) w n 0 0 Q ↔ Ev X 70 5 [l0, l1, some (.int x)] (.int x :: st) w n 0 0 Q := E_p ok_X2_mealsOfAll (show decode (mB 70) 4 = .ok (.iload_n 2, 1) by decide +kernel) rfl rfl
theorem X2_mealsOfAll_5 : Ev X 70 5 [some (.ref a), l1, l2] (st) w n 0 0 Q ↔ Ev X 70 6 [some (.ref a), l1, l2] (.ref a :: st) w n 0 0 Q := E_p ok_X2_mealsOfAll (show decode (mB 70) 5 = .ok (.aload_n 0, 1) by decide +kernel) rfl rfl
theorem X2_mealsOfAll_6 : Ev X 70 6 [l0, l1, l2] (.ref a :: st) w n 0 0 Q ↔ ∃ v, gf w a 2 2 = some v ∧ Ev X 70 9 [l0, l1, l2] (v :: st) w n 0 0 Q := E_getf ok_X2_mealsOfAll (by decide +kernel) (show decode (mB 70) 6 = .ok (.getfield 33, 3) by decide +kernel) (by decide +kernel)
theorem X2_mealsOfAll_9 : Ev X 70 9 [l0, l1, l2] (.int y :: .int x :: st) w n 0 0 Q ↔ if x < y then Ev X 70 12 [l0, l1, l2] (st) w n 0 0 Q else Ev X 70 30 [l0, l1, l2] (st) w n 0 0 Q := E_icge ok_X2_mealsOfAll (show decode (mB 70) 9 = .ok (.if_icmp .ge 21, 3) by decide +kernel) rfl
theorem X2_mealsOfAll_12 : Ev X 70 12 [l0, some (.int x), l2] (st) w n 0 0 Q ↔ Ev X 70 13 [l0, some (.int x), l2] (.int x :: st) w n 0 0 Q := E_p ok_X2_mealsOfAll (show decode (mB 70) 12 = .ok (.iload_n 1, 1) by decide +kernel) rfl rfl
theorem X2_mealsOfAll_13 : Ev X 70 13 [some (.ref a), l1, l2] (st) w n 0 0 Q ↔ Ev X 70 14 [some (.ref a), l1, l2] (.ref a :: st) w n 0 0 Q := E_p ok_X2_mealsOfAll (show decode (mB 70) 13 = .ok (.aload_n 0, 1) by decide +kernel) rfl rfl
theorem X2_mealsOfAll_14 : Ev X 70 14 [l0, l1, l2] (.ref a :: st) w n 0 0 Q ↔ ∃ v, gf w a 2 0 = some v ∧ Ev X 70 17 [l0, l1, l2] (v :: st) w n 0 0 Q := E_getf ok_X2_mealsOfAll (by decide +kernel) (show decode (mB 70) 14 = .ok (.getfield 11, 3) by decide +kernel) (by decide +kernel)
theorem X2_mealsOfAll_17 : Ev X 70 17 [l0, l1, some (.int x)] (st) w n 0 0 Q ↔ Ev X 70 18 [l0, l1, some (.int x)] (.int x :: st) w n 0 0 Q := E_p ok_X2_mealsOfAll (show decode (mB 70) 17 = .ok (.iload_n 2, 1) by decide +kernel) rfl rfl
theorem X2_mealsOfAll_18 : Ev X 70 18 [l0, l1, l2] (.int x :: .ref a :: st) w n 0 0 Q ↔ ∃ v, (ga w a 4 x).or (ga w a 5 x) = some v ∧ Ev X 70 19 [l0, l1, l2] (v :: st) w n 0 0 Q := E_aald ok_X2_mealsOfAll (show decode (mB 70) 18 = .ok (.aaload, 1) by decide +kernel)
theorem X2_mealsOfAll_19 : Ev X 70 19 [l0, l1, l2] (.ref a :: st) w n 0 0 Q ↔ ∃ v, gf w a 1 5 = some v ∧ Ev X 70 22 [l0, l1, l2] (v :: st) w n 0 0 Q := E_getf ok_X2_mealsOfAll (by decide +kernel) (show decode (mB 70) 19 = .ok (.getfield 147, 3) by decide +kernel) (by decide +kernel)
theorem X2_mealsOfAll_22 : Ev X 70 22 [l0, l1, l2] (.int y :: .int x :: st) w n 0 0 Q ↔ Ev X 70 23 [l0, l1, l2] (.int (x + y) :: st) w n 0 0 Q := E_p ok_X2_mealsOfAll (show decode (mB 70) 22 = .ok (.iadd, 1) by decide +kernel) rfl rfl
theorem X2_mealsOfAll_23 : Ev X 70 23 [l0, l1, l2] (.int x :: st) w n 0 0 Q ↔ Ev X 70 24 [l0, some (.int x), l2] (st) w n 0 0 Q := E_p ok_X2_mealsOfAll (show decode (mB 70) 23 = .ok (.istore_n 1, 1) by decide +kernel) rfl rfl
theorem X2_mealsOfAll_24 : Ev X 70 24 [l0, l1, some (.int x)] (st) w n 0 0 Q ↔ Ev X 70 27 [l0, l1, some (.int (x + (1)))] (st) w n 0 0 Q := E_iinc ok_X2_mealsOfAll (show decode (mB 70) 24 = .ok (.iinc 2 1, 3) by decide +kernel) rfl (by simp only [List.length_cons, List.length_nil]; decide) (by decide) rfl
theorem X2_mealsOfAll_27 : Ev X 70 27 [l0, l1, l2] (st) w n 0 0 Q ↔ Ev X 70 4 [l0, l1, l2] (st) w n 0 0 Q := E_goto ok_X2_mealsOfAll (show decode (mB 70) 27 = .ok (.goto (-23), 3) by decide +kernel) rfl
theorem X2_mealsOfAll_30 : Ev X 70 30 [l0, some (.int x), l2] (st) w n 0 0 Q ↔ Ev X 70 31 [l0, some (.int x), l2] (.int x :: st) w n 0 0 Q := E_p ok_X2_mealsOfAll (show decode (mB 70) 30 = .ok (.iload_n 1, 1) by decide +kernel) rfl rfl
theorem X2_mealsOfAll_31 : Ev X 70 31 [l0, l1, l2] ([.int x]) w n 0 0 Q ↔ Q (.inl (some (.int x))) w n := E_reti ok_X2_mealsOfAll (show decode (mB 70) 31 = .ok (.ireturn, 1) by decide +kernel) (by decide +kernel)
theorem ok_X2_thinkOrEat : okP 71 = true := by decide +kernel
theorem X2_thinkOrEat_0 : Ev X 71 0 [some (.ref a), l1, l2] (st) w n 0 0 Q ↔ Ev X 71 1 [some (.ref a), l1, l2] (.ref a :: st) w n 0 0 Q := E_p ok_X2_thinkOrEat (show decode (mB 71) 0 = .ok (.aload_n 0, 1) by decide +kernel) rfl rfl
theorem X2_thinkOrEat_1 : Ev X 71 1 [l0, l1, l2] (.ref a :: st) w n 0 0 Q ↔ ∃ v, gf w a 2 0 = some v ∧ Ev X 71 4 [l0, l1, l2] (v :: st) w n 0 0 Q := E_getf ok_X2_thinkOrEat (by decide +kernel) (show decode (mB 71) 1 = .ok (.getfield 11, 3) by decide +kernel) (by decide +kernel)
theorem X2_thinkOrEat_4 : Ev X 71 4 [l0, some (.int x), l2] (st) w n 0 0 Q ↔ Ev X 71 5 [l0, some (.int x), l2] (.int x :: st) w n 0 0 Q := E_p ok_X2_thinkOrEat (show decode (mB 71) 4 = .ok (.iload_n 1, 1) by decide +kernel) rfl rfl
theorem X2_thinkOrEat_5 : Ev X 71 5 [l0, l1, l2] (.int x :: .ref a :: st) w n 0 0 Q ↔ ∃ v, (ga w a 4 x).or (ga w a 5 x) = some v ∧ Ev X 71 6 [l0, l1, l2] (v :: st) w n 0 0 Q := E_aald ok_X2_thinkOrEat (show decode (mB 71) 5 = .ok (.aaload, 1) by decide +kernel)
theorem X2_thinkOrEat_6 : Ev X 71 6 [l0, l1, l2] (.ref a :: st) w n 0 0 Q ↔ Ev X 71 7 [l0, l1, some (.ref a)] (st) w n 0 0 Q := E_p ok_X2_thinkOrEat (show decode (mB 71) 6 = .ok (.astore_n 2, 1) by decide +kernel) rfl rfl
theorem X2_thinkOrEat_7 : Ev X 71 7 [l0, l1, some (.ref a)] (st) w n 0 0 Q ↔ Ev X 71 8 [l0, l1, some (.ref a)] (.ref a :: st) w n 0 0 Q := E_p ok_X2_thinkOrEat (show decode (mB 71) 7 = .ok (.aload_n 2, 1) by decide +kernel) rfl rfl
theorem X2_thinkOrEat_8 : Ev X 71 8 [l0, l1, l2] (.ref a :: st) w n 0 0 Q ↔ ∃ v, gf w a 1 3 = some v ∧ Ev X 71 11 [l0, l1, l2] (v :: st) w n 0 0 Q := E_getf ok_X2_thinkOrEat (by decide +kernel) (show decode (mB 71) 8 = .ok (.getfield 108, 3) by decide +kernel) (by decide +kernel)
theorem X2_thinkOrEat_11 : Ev X 71 11 [l0, l1, l2] (.int x :: st) w n 0 0 Q ↔ if x = 0 then Ev X 71 23 [l0, l1, l2] (st) w n 0 0 Q else Ev X 71 14 [l0, l1, l2] (st) w n 0 0 Q := E_ifeq ok_X2_thinkOrEat (show decode (mB 71) 11 = .ok (.ifCond .eq 12, 3) by decide +kernel) rfl
theorem X2_thinkOrEat_14 : Ev X 71 14 [l0, l1, some (.ref a)] (st) w n 0 0 Q ↔ Ev X 71 15 [l0, l1, some (.ref a)] (.ref a :: st) w n 0 0 Q := E_p ok_X2_thinkOrEat (show decode (mB 71) 14 = .ok (.aload_n 2, 1) by decide +kernel) rfl rfl
theorem X2_thinkOrEat_15 : Ev X 71 15 [l0, l1, l2] (.ref a :: st) w n 0 0 Q ↔ ∃ v, gf w a 1 3 = some v ∧ Ev X 71 18 [l0, l1, l2] (v :: st) w n 0 0 Q := E_getf ok_X2_thinkOrEat (by decide +kernel) (show decode (mB 71) 15 = .ok (.getfield 108, 3) by decide +kernel) (by decide +kernel)
theorem X2_thinkOrEat_18 : Ev X 71 18 [l0, l1, l2] (st) w n 0 0 Q ↔ Ev X 71 19 [l0, l1, l2] (.int (4) :: st) w n 0 0 Q := E_iconst ok_X2_thinkOrEat (show decode (mB 71) 18 = .ok (.iconst 4, 1) by decide +kernel) (by decide)
theorem X2_thinkOrEat_19 : Ev X 71 19 [l0, l1, l2] (.int y :: .int x :: st) w n 0 0 Q ↔ if x = y then Ev X 71 23 [l0, l1, l2] (st) w n 0 0 Q else Ev X 71 22 [l0, l1, l2] (st) w n 0 0 Q := E_iceq ok_X2_thinkOrEat (show decode (mB 71) 19 = .ok (.if_icmp .eq 4, 3) by decide +kernel) rfl
theorem X2_thinkOrEat_22 : Ev X 71 22 [l0, l1, l2] ([]) w n 0 0 Q ↔ Q (.inl none) w n := E_retv ok_X2_thinkOrEat (show decode (mB 71) 22 = .ok (.return_, 1) by decide +kernel) (by decide +kernel)
theorem X2_thinkOrEat_23 : Ev X 71 23 [l0, l1, some (.ref a)] (st) w n 0 0 Q ↔ Ev X 71 24 [l0, l1, some (.ref a)] (.ref a :: st) w n 0 0 Q := E_p ok_X2_thinkOrEat (show decode (mB 71) 23 = .ok (.aload_n 2, 1) by decide +kernel) rfl rfl
theorem X2_thinkOrEat_24 : Ev X 71 24 [l0, l1, l2] (.ref a :: st) w n 0 0 Q ↔ Ev X 71 25 [l0, l1, l2] (.ref a :: .ref a :: st) w n 0 0 Q := E_p ok_X2_thinkOrEat (show decode (mB 71) 24 = .ok (.dup, 1) by decide +kernel) rfl rfl
theorem X2_thinkOrEat_25 : Ev X 71 25 [l0, l1, l2] (.ref a :: st) w n 0 0 Q ↔ ∃ v, gf w a 1 4 = some v ∧ Ev X 71 28 [l0, l1, l2] (v :: st) w n 0 0 Q := E_getf ok_X2_thinkOrEat (by decide +kernel) (show decode (mB 71) 25 = .ok (.getfield 144, 3) by decide +kernel) (by decide +kernel)
theorem X2_thinkOrEat_28 : Ev X 71 28 [l0, l1, l2] (st) w n 0 0 Q ↔ Ev X 71 29 [l0, l1, l2] (.int (1) :: st) w n 0 0 Q := E_iconst ok_X2_thinkOrEat (show decode (mB 71) 28 = .ok (.iconst 1, 1) by decide +kernel) (by decide)
theorem X2_thinkOrEat_29 : Ev X 71 29 [l0, l1, l2] (.int y :: .int x :: st) w n 0 0 Q ↔ Ev X 71 30 [l0, l1, l2] (.int (x - y) :: st) w n 0 0 Q := E_p ok_X2_thinkOrEat (show decode (mB 71) 29 = .ok (.isub, 1) by decide +kernel) rfl rfl
theorem X2_thinkOrEat_30 : Ev X 71 30 [l0, l1, l2] (.int x :: .ref a :: st) w n 0 0 Q ↔ ∃ w2, pf w a 1 4 (.int x) = some w2 ∧ Ev X 71 33 [l0, l1, l2] (st) w2 n 0 0 Q := E_putf ok_X2_thinkOrEat rfl (show decode (mB 71) 30 = .ok (.putfield 144, 3) by decide +kernel) (by decide +kernel) (by decide +kernel)
theorem X2_thinkOrEat_33 : Ev X 71 33 [l0, l1, some (.ref a)] (st) w n 0 0 Q ↔ Ev X 71 34 [l0, l1, some (.ref a)] (.ref a :: st) w n 0 0 Q := E_p ok_X2_thinkOrEat (show decode (mB 71) 33 = .ok (.aload_n 2, 1) by decide +kernel) rfl rfl
theorem X2_thinkOrEat_34 : Ev X 71 34 [l0, l1, l2] (.ref a :: st) w n 0 0 Q ↔ ∃ v, gf w a 1 4 = some v ∧ Ev X 71 37 [l0, l1, l2] (v :: st) w n 0 0 Q := E_getf ok_X2_thinkOrEat (by decide +kernel) (show decode (mB 71) 34 = .ok (.getfield 144, 3) by decide +kernel) (by decide +kernel)
theorem X2_thinkOrEat_37 : Ev X 71 37 [l0, l1, l2] (.int x :: st) w n 0 0 Q ↔ if 0 < x then Ev X 71 40 [l0, l1, l2] (st) w n 0 0 Q else Ev X 71 41 [l0, l1, l2] (st) w n 0 0 Q := E_ifle ok_X2_thinkOrEat (show decode (mB 71) 37 = .ok (.ifCond .le 4, 3) by decide +kernel) rfl
theorem X2_thinkOrEat_40 : Ev X 71 40 [l0, l1, l2] ([]) w n 0 0 Q ↔ Q (.inl none) w n := E_retv ok_X2_thinkOrEat (show decode (mB 71) 40 = .ok (.return_, 1) by decide +kernel) (by decide +kernel)
theorem X2_thinkOrEat_41 : Ev X 71 41 [l0, l1, some (.ref a)] (st) w n 0 0 Q ↔ Ev X 71 42 [l0, l1, some (.ref a)] (.ref a :: st) w n 0 0 Q := E_p ok_X2_thinkOrEat (show decode (mB 71) 41 = .ok (.aload_n 2, 1) by decide +kernel) rfl rfl
theorem X2_thinkOrEat_42 : Ev X 71 42 [l0, l1, l2] (.ref a :: st) w n 0 0 Q ↔ ∃ v, gf w a 1 3 = some v ∧ Ev X 71 45 [l0, l1, l2] (v :: st) w n 0 0 Q := E_getf ok_X2_thinkOrEat (by decide +kernel) (show decode (mB 71) 42 = .ok (.getfield 108, 3) by decide +kernel) (by decide +kernel)
theorem X2_thinkOrEat_45 : Ev X 71 45 [l0, l1, l2] (.int x :: st) w n 0 0 Q ↔ if x = 0 then Ev X 71 48 [l0, l1, l2] (st) w n 0 0 Q else Ev X 71 54 [l0, l1, l2] (st) w n 0 0 Q := E_ifne ok_X2_thinkOrEat (show decode (mB 71) 45 = .ok (.ifCond .ne 9, 3) by decide +kernel) rfl
theorem X2_thinkOrEat_48 : Ev X 71 48 [l0, l1, some (.ref a)] (st) w n 0 0 Q ↔ Ev X 71 49 [l0, l1, some (.ref a)] (.ref a :: st) w n 0 0 Q := E_p ok_X2_thinkOrEat (show decode (mB 71) 48 = .ok (.aload_n 2, 1) by decide +kernel) rfl rfl
theorem X2_thinkOrEat_49 : Ev X 71 49 [l0, l1, l2] (st) w n 0 0 Q ↔ Ev X 71 50 [l0, l1, l2] (.int (1) :: st) w n 0 0 Q := E_iconst ok_X2_thinkOrEat (show decode (mB 71) 49 = .ok (.iconst 1, 1) by decide +kernel) (by decide)
theorem X2_thinkOrEat_50 : Ev X 71 50 [l0, l1, l2] (.int x :: .ref a :: st) w n 0 0 Q ↔ ∃ w2, pf w a 1 3 (.int x) = some w2 ∧ Ev X 71 53 [l0, l1, l2] (st) w2 n 0 0 Q := E_putf ok_X2_thinkOrEat rfl (show decode (mB 71) 50 = .ok (.putfield 108, 3) by decide +kernel) (by decide +kernel) (by decide +kernel)
theorem X2_thinkOrEat_53 : Ev X 71 53 [l0, l1, l2] ([]) w n 0 0 Q ↔ Q (.inl none) w n := E_retv ok_X2_thinkOrEat (show decode (mB 71) 53 = .ok (.return_, 1) by decide +kernel) (by decide +kernel)
theorem X2_thinkOrEat_54 : Ev X 71 54 [some (.ref a), l1, l2] (st) w n 0 0 Q ↔ Ev X 71 55 [some (.ref a), l1, l2] (.ref a :: st) w n 0 0 Q := E_p ok_X2_thinkOrEat (show decode (mB 71) 54 = .ok (.aload_n 0, 1) by decide +kernel) rfl rfl
theorem X2_thinkOrEat_55 : Ev X 71 55 [l0, l1, l2] (.ref a :: st) w n 0 0 Q ↔ ∃ v, gf w a 2 1 = some v ∧ Ev X 71 58 [l0, l1, l2] (v :: st) w n 0 0 Q := E_getf ok_X2_thinkOrEat (by decide +kernel) (show decode (mB 71) 55 = .ok (.getfield 17, 3) by decide +kernel) (by decide +kernel)
theorem X2_thinkOrEat_58 : Ev X 71 58 [some (.ref a), l1, l2] (st) w n 0 0 Q ↔ Ev X 71 59 [some (.ref a), l1, l2] (.ref a :: st) w n 0 0 Q := E_p ok_X2_thinkOrEat (show decode (mB 71) 58 = .ok (.aload_n 0, 1) by decide +kernel) rfl rfl
theorem X2_thinkOrEat_59 : Ev X 71 59 [l0, some (.int x), l2] (st) w n 0 0 Q ↔ Ev X 71 60 [l0, some (.int x), l2] (.int x :: st) w n 0 0 Q := E_p ok_X2_thinkOrEat (show decode (mB 71) 59 = .ok (.iload_n 1, 1) by decide +kernel) rfl rfl
theorem X2_thinkOrEat_60 : Ev X 71 60 [l0, l1, l2] (st) w n 0 0 Q ↔ Ev X 71 61 [l0, l1, l2] (.int (1) :: st) w n 0 0 Q := E_iconst ok_X2_thinkOrEat (show decode (mB 71) 60 = .ok (.iconst 1, 1) by decide +kernel) (by decide)
theorem X2_thinkOrEat_61 (h : hasc w a 2 = true) : Ev X 71 61 [l0, l1, l2] (.int y1 :: .int y0 :: .ref a :: .ref e0 :: []) w n 0 0 Q ↔ Ev X 61 0 [some (.ref a), some (.int y0), some (.int y1), none] [] w n 0 0 (Kr X 71 64 [l0, l1, l2] (.ref e0 :: []) 0 0 Q) := E_cv ok_X2_thinkOrEat (show decode (mB 71) 61 = .ok (.invokevirtual 117, 3) by decide +kernel) (by decide +kernel) (by decide +kernel) (by decide +kernel) (k := 2) (vs := [.int y0, .int y1]) rfl ((rc_Table (M2 := 61) (by decide +kernel) (by decide +kernel)).trans h) (by simp only [List.length_cons, List.length_nil]; decide) (by simp only [List.length_cons, List.length_nil]; decide +kernel) (ent_eq (k := 1) (by simp only [List.length_cons, List.length_nil]; decide +kernel)) (by decide +kernel) (by decide +kernel)
theorem X2_thinkOrEat_64 : Ev X 71 64 [l0, l1, l2] (st) w n 0 0 Q ↔ Ev X 71 65 [l0, l1, l2] (.int (-1) :: st) w n 0 0 Q := E_iconst ok_X2_thinkOrEat (show decode (mB 71) 64 = .ok (.iconst (-1), 1) by decide +kernel) (by decide)
theorem X2_thinkOrEat_65 : Ev X 71 65 [l0, l1, l2] (.int y :: .int x :: .ref a :: st) w n 0 0 Q ↔ ∃ w2, sa w a 0 x (.int y) = some w2 ∧ Ev X 71 66 [l0, l1, l2] (st) w2 n 0 0 Q := E_iast ok_X2_thinkOrEat (show decode (mB 71) 65 = .ok (.iastore, 1) by decide +kernel)
theorem X2_thinkOrEat_66 : Ev X 71 66 [some (.ref a), l1, l2] (st) w n 0 0 Q ↔ Ev X 71 67 [some (.ref a), l1, l2] (.ref a :: st) w n 0 0 Q := E_p ok_X2_thinkOrEat (show decode (mB 71) 66 = .ok (.aload_n 0, 1) by decide +kernel) rfl rfl
theorem X2_thinkOrEat_67 : Ev X 71 67 [l0, l1, l2] (.ref a :: st) w n 0 0 Q ↔ ∃ v, gf w a 2 1 = some v ∧ Ev X 71 70 [l0, l1, l2] (v :: st) w n 0 0 Q := E_getf ok_X2_thinkOrEat (by decide +kernel) (show decode (mB 71) 67 = .ok (.getfield 17, 3) by decide +kernel) (by decide +kernel)
theorem X2_thinkOrEat_70 : Ev X 71 70 [some (.ref a), l1, l2] (st) w n 0 0 Q ↔ Ev X 71 71 [some (.ref a), l1, l2] (.ref a :: st) w n 0 0 Q := E_p ok_X2_thinkOrEat (show decode (mB 71) 70 = .ok (.aload_n 0, 1) by decide +kernel) rfl rfl
theorem X2_thinkOrEat_71 : Ev X 71 71 [l0, some (.int x), l2] (st) w n 0 0 Q ↔ Ev X 71 72 [l0, some (.int x), l2] (.int x :: st) w n 0 0 Q := E_p ok_X2_thinkOrEat (show decode (mB 71) 71 = .ok (.iload_n 1, 1) by decide +kernel) rfl rfl
theorem X2_thinkOrEat_72 : Ev X 71 72 [l0, l1, l2] (st) w n 0 0 Q ↔ Ev X 71 73 [l0, l1, l2] (.int (0) :: st) w n 0 0 Q := E_iconst ok_X2_thinkOrEat (show decode (mB 71) 72 = .ok (.iconst 0, 1) by decide +kernel) (by decide)
theorem X2_thinkOrEat_73 (h : hasc w a 2 = true) : Ev X 71 73 [l0, l1, l2] (.int y1 :: .int y0 :: .ref a :: .ref e0 :: []) w n 0 0 Q ↔ Ev X 61 0 [some (.ref a), some (.int y0), some (.int y1), none] [] w n 0 0 (Kr X 71 76 [l0, l1, l2] (.ref e0 :: []) 0 0 Q) := E_cv ok_X2_thinkOrEat (show decode (mB 71) 73 = .ok (.invokevirtual 117, 3) by decide +kernel) (by decide +kernel) (by decide +kernel) (by decide +kernel) (k := 2) (vs := [.int y0, .int y1]) rfl ((rc_Table (M2 := 61) (by decide +kernel) (by decide +kernel)).trans h) (by simp only [List.length_cons, List.length_nil]; decide) (by simp only [List.length_cons, List.length_nil]; decide +kernel) (ent_eq (k := 1) (by simp only [List.length_cons, List.length_nil]; decide +kernel)) (by decide +kernel) (by decide +kernel)
theorem X2_thinkOrEat_76 : Ev X 71 76 [l0, l1, l2] (st) w n 0 0 Q ↔ Ev X 71 77 [l0, l1, l2] (.int (-1) :: st) w n 0 0 Q := E_iconst ok_X2_thinkOrEat (show decode (mB 71) 76 = .ok (.iconst (-1), 1) by decide +kernel) (by decide)
theorem X2_thinkOrEat_77 : Ev X 71 77 [l0, l1, l2] (.int y :: .int x :: .ref a :: st) w n 0 0 Q ↔ ∃ w2, sa w a 0 x (.int y) = some w2 ∧ Ev X 71 78 [l0, l1, l2] (st) w2 n 0 0 Q := E_iast ok_X2_thinkOrEat (show decode (mB 71) 77 = .ok (.iastore, 1) by decide +kernel)
theorem X2_thinkOrEat_78 : Ev X 71 78 [l0, l1, some (.ref a)] (st) w n 0 0 Q ↔ Ev X 71 79 [l0, l1, some (.ref a)] (.ref a :: st) w n 0 0 Q := E_p ok_X2_thinkOrEat (show decode (mB 71) 78 = .ok (.aload_n 2, 1) by decide +kernel) rfl rfl
theorem X2_thinkOrEat_79 : Ev X 71 79 [l0, l1, l2] (.ref a :: st) w n 0 0 Q ↔ Ev X 71 80 [l0, l1, l2] (.ref a :: .ref a :: st) w n 0 0 Q := E_p ok_X2_thinkOrEat (show decode (mB 71) 79 = .ok (.dup, 1) by decide +kernel) rfl rfl
theorem X2_thinkOrEat_80 : Ev X 71 80 [l0, l1, l2] (.ref a :: st) w n 0 0 Q ↔ ∃ v, gf w a 1 5 = some v ∧ Ev X 71 83 [l0, l1, l2] (v :: st) w n 0 0 Q := E_getf ok_X2_thinkOrEat (by decide +kernel) (show decode (mB 71) 80 = .ok (.getfield 147, 3) by decide +kernel) (by decide +kernel)
theorem X2_thinkOrEat_83 : Ev X 71 83 [l0, l1, l2] (st) w n 0 0 Q ↔ Ev X 71 84 [l0, l1, l2] (.int (1) :: st) w n 0 0 Q := E_iconst ok_X2_thinkOrEat (show decode (mB 71) 83 = .ok (.iconst 1, 1) by decide +kernel) (by decide)
theorem X2_thinkOrEat_84 : Ev X 71 84 [l0, l1, l2] (.int y :: .int x :: st) w n 0 0 Q ↔ Ev X 71 85 [l0, l1, l2] (.int (x + y) :: st) w n 0 0 Q := E_p ok_X2_thinkOrEat (show decode (mB 71) 84 = .ok (.iadd, 1) by decide +kernel) rfl rfl
theorem X2_thinkOrEat_85 : Ev X 71 85 [l0, l1, l2] (.int x :: .ref a :: st) w n 0 0 Q ↔ ∃ w2, pf w a 1 5 (.int x) = some w2 ∧ Ev X 71 88 [l0, l1, l2] (st) w2 n 0 0 Q := E_putf ok_X2_thinkOrEat rfl (show decode (mB 71) 85 = .ok (.putfield 147, 3) by decide +kernel) (by decide +kernel) (by decide +kernel)
theorem X2_thinkOrEat_88 : Ev X 71 88 [l0, l1, some (.ref a)] (st) w n 0 0 Q ↔ Ev X 71 89 [l0, l1, some (.ref a)] (.ref a :: st) w n 0 0 Q := E_p ok_X2_thinkOrEat (show decode (mB 71) 88 = .ok (.aload_n 2, 1) by decide +kernel) rfl rfl
theorem X2_thinkOrEat_89 (h : hasc w a 1 = true) : Ev X 71 89 [l0, l1, l2] (.ref a :: []) w n 0 0 Q ↔ Ev X 12 0 [some (.ref a)] [] w n 0 0 (Kr X 71 92 [l0, l1, l2] ([]) 0 0 Q) := E_cv ok_X2_thinkOrEat (show decode (mB 71) 89 = .ok (.invokevirtual 150, 3) by decide +kernel) (by decide +kernel) (by decide +kernel) (by decide +kernel) (k := 0) (vs := []) rfl ((rc_Seat (M2 := 12) (by decide +kernel) (by decide +kernel)).trans h) (by simp only [List.length_cons, List.length_nil]; decide) (by simp only [List.length_cons, List.length_nil]; decide +kernel) (ent_eq (k := 0) (by simp only [List.length_cons, List.length_nil]; decide +kernel)) (by decide +kernel) (by decide +kernel)
theorem X2_thinkOrEat_92 : Ev X 71 92 [l0, l1, l2] ([]) w n 0 0 Q ↔ Q (.inl none) w n := E_retv ok_X2_thinkOrEat (show decode (mB 71) 92 = .ok (.return_, 1) by decide +kernel) (by decide +kernel)
theorem ok_X2_askersBefore : okP 72 = true := by decide +kernel
theorem X2_askersBefore_0 : Ev X 72 0 [l0, l1, l2, l3, l4] (st) w n 0 0 Q ↔ Ev X 72 1 [l0, l1, l2, l3, l4] (.int (0) :: st) w n 0 0 Q := E_iconst ok_X2_askersBefore (show decode (mB 72) 0 = .ok (.iconst 0, 1) by decide +kernel) (by decide)
theorem X2_askersBefore_1 : Ev X 72 1 [l0, l1, l2, l3, l4] (.int x :: st) w n 0 0 Q ↔ Ev X 72 2 [l0, l1, some (.int x), l3, l4] (st) w n 0 0 Q := E_p ok_X2_askersBefore (show decode (mB 72) 1 = .ok (.istore_n 2, 1) by decide +kernel) rfl rfl
theorem X2_askersBefore_2 : Ev X 72 2 [l0, l1, l2, l3, l4] (st) w n 0 0 Q ↔ Ev X 72 3 [l0, l1, l2, l3, l4] (.int (0) :: st) w n 0 0 Q := E_iconst ok_X2_askersBefore (show decode (mB 72) 2 = .ok (.iconst 0, 1) by decide +kernel) (by decide)
theorem X2_askersBefore_3 : Ev X 72 3 [l0, l1, l2, l3, l4] (.int x :: st) w n 0 0 Q ↔ Ev X 72 4 [l0, l1, l2, some (.int x), l4] (st) w n 0 0 Q := E_p ok_X2_askersBefore (show decode (mB 72) 3 = .ok (.istore_n 3, 1) by decide +kernel) rfl rfl
theorem X2_askersBefore_4 : Ev X 72 4 [l0, l1, l2, some (.int x), l4] (st) w n 0 0 Q ↔ Ev X 72 5 [l0, l1, l2, some (.int x), l4] (.int x :: st) w n 0 0 Q := E_p ok_X2_askersBefore (show decode (mB 72) 4 = .ok (.iload_n 3, 1) by decide +kernel) rfl rfl
theorem X2_askersBefore_5 : Ev X 72 5 [some (.ref a), l1, l2, l3, l4] (st) w n 0 0 Q ↔ Ev X 72 6 [some (.ref a), l1, l2, l3, l4] (.ref a :: st) w n 0 0 Q := E_p ok_X2_askersBefore (show decode (mB 72) 5 = .ok (.aload_n 0, 1) by decide +kernel) rfl rfl
theorem X2_askersBefore_6 : Ev X 72 6 [l0, l1, l2, l3, l4] (.ref a :: st) w n 0 0 Q ↔ ∃ v, gf w a 2 2 = some v ∧ Ev X 72 9 [l0, l1, l2, l3, l4] (v :: st) w n 0 0 Q := E_getf ok_X2_askersBefore (by decide +kernel) (show decode (mB 72) 6 = .ok (.getfield 33, 3) by decide +kernel) (by decide +kernel)
theorem X2_askersBefore_9 : Ev X 72 9 [l0, l1, l2, l3, l4] (.int y :: .int x :: st) w n 0 0 Q ↔ if x < y then Ev X 72 12 [l0, l1, l2, l3, l4] (st) w n 0 0 Q else Ev X 72 70 [l0, l1, l2, l3, l4] (st) w n 0 0 Q := E_icge ok_X2_askersBefore (show decode (mB 72) 9 = .ok (.if_icmp .ge 61, 3) by decide +kernel) rfl
theorem X2_askersBefore_12 : Ev X 72 12 [some (.ref a), l1, l2, l3, l4] (st) w n 0 0 Q ↔ Ev X 72 13 [some (.ref a), l1, l2, l3, l4] (.ref a :: st) w n 0 0 Q := E_p ok_X2_askersBefore (show decode (mB 72) 12 = .ok (.aload_n 0, 1) by decide +kernel) rfl rfl
theorem X2_askersBefore_13 : Ev X 72 13 [l0, l1, l2, l3, l4] (.ref a :: st) w n 0 0 Q ↔ ∃ v, gf w a 2 0 = some v ∧ Ev X 72 16 [l0, l1, l2, l3, l4] (v :: st) w n 0 0 Q := E_getf ok_X2_askersBefore (by decide +kernel) (show decode (mB 72) 13 = .ok (.getfield 11, 3) by decide +kernel) (by decide +kernel)
theorem X2_askersBefore_16 : Ev X 72 16 [l0, l1, l2, some (.int x), l4] (st) w n 0 0 Q ↔ Ev X 72 17 [l0, l1, l2, some (.int x), l4] (.int x :: st) w n 0 0 Q := E_p ok_X2_askersBefore (show decode (mB 72) 16 = .ok (.iload_n 3, 1) by decide +kernel) rfl rfl
theorem X2_askersBefore_17 : Ev X 72 17 [l0, l1, l2, l3, l4] (.int x :: .ref a :: st) w n 0 0 Q ↔ ∃ v, (ga w a 4 x).or (ga w a 5 x) = some v ∧ Ev X 72 18 [l0, l1, l2, l3, l4] (v :: st) w n 0 0 Q := E_aald ok_X2_askersBefore (show decode (mB 72) 17 = .ok (.aaload, 1) by decide +kernel)
theorem X2_askersBefore_18 : Ev X 72 18 [l0, l1, l2, l3, l4] (.ref a :: st) w n 0 0 Q ↔ ∃ v, gf w a 1 7 = some v ∧ Ev X 72 21 [l0, l1, l2, l3, l4] (v :: st) w n 0 0 Q := E_getf ok_X2_askersBefore (by decide +kernel) (show decode (mB 72) 18 = .ok (.getfield 180, 3) by decide +kernel) (by decide +kernel)
theorem X2_askersBefore_21 : Ev X 72 21 [some (.ref a), l1, l2, l3, l4] (st) w n 0 0 Q ↔ Ev X 72 22 [some (.ref a), l1, l2, l3, l4] (.ref a :: st) w n 0 0 Q := E_p ok_X2_askersBefore (show decode (mB 72) 21 = .ok (.aload_n 0, 1) by decide +kernel) rfl rfl
theorem X2_askersBefore_22 : Ev X 72 22 [l0, l1, l2, l3, l4] (.ref a :: st) w n 0 0 Q ↔ ∃ v, gf w a 2 0 = some v ∧ Ev X 72 25 [l0, l1, l2, l3, l4] (v :: st) w n 0 0 Q := E_getf ok_X2_askersBefore (by decide +kernel) (show decode (mB 72) 22 = .ok (.getfield 11, 3) by decide +kernel) (by decide +kernel)
theorem X2_askersBefore_25 : Ev X 72 25 [l0, some (.int x), l2, l3, l4] (st) w n 0 0 Q ↔ Ev X 72 26 [l0, some (.int x), l2, l3, l4] (.int x :: st) w n 0 0 Q := E_p ok_X2_askersBefore (show decode (mB 72) 25 = .ok (.iload_n 1, 1) by decide +kernel) rfl rfl
theorem X2_askersBefore_26 : Ev X 72 26 [l0, l1, l2, l3, l4] (.int x :: .ref a :: st) w n 0 0 Q ↔ ∃ v, (ga w a 4 x).or (ga w a 5 x) = some v ∧ Ev X 72 27 [l0, l1, l2, l3, l4] (v :: st) w n 0 0 Q := E_aald ok_X2_askersBefore (show decode (mB 72) 26 = .ok (.aaload, 1) by decide +kernel)
theorem X2_askersBefore_27 : Ev X 72 27 [l0, l1, l2, l3, l4] (.ref a :: st) w n 0 0 Q ↔ ∃ v, gf w a 1 7 = some v ∧ Ev X 72 30 [l0, l1, l2, l3, l4] (v :: st) w n 0 0 Q := E_getf ok_X2_askersBefore (by decide +kernel) (show decode (mB 72) 27 = .ok (.getfield 180, 3) by decide +kernel) (by decide +kernel)
theorem X2_askersBefore_30 : Ev X 72 30 [l0, l1, l2, l3, l4] (.int y :: .int x :: st) w n 0 0 Q ↔ Ev X 72 31 [l0, l1, l2, l3, l4] (.int (x - y) :: st) w n 0 0 Q := E_p ok_X2_askersBefore (show decode (mB 72) 30 = .ok (.isub, 1) by decide +kernel) rfl rfl
theorem X2_askersBefore_31 : Ev X 72 31 [l0, l1, l2, l3, l4] (.int x :: st) w n 0 0 Q ↔ Ev X 72 33 [l0, l1, l2, l3, some (.int x)] (st) w n 0 0 Q := E_p ok_X2_askersBefore (show decode (mB 72) 31 = .ok (.istore 4, 2) by decide +kernel) rfl rfl
theorem X2_askersBefore_33 : Ev X 72 33 [some (.ref a), l1, l2, l3, l4] (st) w n 0 0 Q ↔ Ev X 72 34 [some (.ref a), l1, l2, l3, l4] (.ref a :: st) w n 0 0 Q := E_p ok_X2_askersBefore (show decode (mB 72) 33 = .ok (.aload_n 0, 1) by decide +kernel) rfl rfl
theorem X2_askersBefore_34 : Ev X 72 34 [l0, l1, l2, l3, l4] (.ref a :: st) w n 0 0 Q ↔ ∃ v, gf w a 2 0 = some v ∧ Ev X 72 37 [l0, l1, l2, l3, l4] (v :: st) w n 0 0 Q := E_getf ok_X2_askersBefore (by decide +kernel) (show decode (mB 72) 34 = .ok (.getfield 11, 3) by decide +kernel) (by decide +kernel)
theorem X2_askersBefore_37 : Ev X 72 37 [l0, l1, l2, some (.int x), l4] (st) w n 0 0 Q ↔ Ev X 72 38 [l0, l1, l2, some (.int x), l4] (.int x :: st) w n 0 0 Q := E_p ok_X2_askersBefore (show decode (mB 72) 37 = .ok (.iload_n 3, 1) by decide +kernel) rfl rfl
theorem X2_askersBefore_38 : Ev X 72 38 [l0, l1, l2, l3, l4] (.int x :: .ref a :: st) w n 0 0 Q ↔ ∃ v, (ga w a 4 x).or (ga w a 5 x) = some v ∧ Ev X 72 39 [l0, l1, l2, l3, l4] (v :: st) w n 0 0 Q := E_aald ok_X2_askersBefore (show decode (mB 72) 38 = .ok (.aaload, 1) by decide +kernel)
theorem X2_askersBefore_39 : Ev X 72 39 [l0, l1, l2, l3, l4] (.ref a :: st) w n 0 0 Q ↔ ∃ v, gf w a 1 3 = some v ∧ Ev X 72 42 [l0, l1, l2, l3, l4] (v :: st) w n 0 0 Q := E_getf ok_X2_askersBefore (by decide +kernel) (show decode (mB 72) 39 = .ok (.getfield 108, 3) by decide +kernel) (by decide +kernel)
theorem X2_askersBefore_42 : Ev X 72 42 [l0, l1, l2, l3, l4] (st) w n 0 0 Q ↔ Ev X 72 43 [l0, l1, l2, l3, l4] (.int (1) :: st) w n 0 0 Q := E_iconst ok_X2_askersBefore (show decode (mB 72) 42 = .ok (.iconst 1, 1) by decide +kernel) (by decide)
theorem X2_askersBefore_43 : Ev X 72 43 [l0, l1, l2, l3, l4] (.int y :: .int x :: st) w n 0 0 Q ↔ if x = y then Ev X 72 46 [l0, l1, l2, l3, l4] (st) w n 0 0 Q else Ev X 72 64 [l0, l1, l2, l3, l4] (st) w n 0 0 Q := E_icne ok_X2_askersBefore (show decode (mB 72) 43 = .ok (.if_icmp .ne 21, 3) by decide +kernel) rfl
theorem X2_askersBefore_46 : Ev X 72 46 [l0, l1, l2, l3, some (.int x)] (st) w n 0 0 Q ↔ Ev X 72 48 [l0, l1, l2, l3, some (.int x)] (.int x :: st) w n 0 0 Q := E_p ok_X2_askersBefore (show decode (mB 72) 46 = .ok (.iload 4, 2) by decide +kernel) rfl rfl
theorem X2_askersBefore_48 : Ev X 72 48 [l0, l1, l2, l3, l4] (.int x :: st) w n 0 0 Q ↔ if 0 < x then Ev X 72 61 [l0, l1, l2, l3, l4] (st) w n 0 0 Q else Ev X 72 51 [l0, l1, l2, l3, l4] (st) w n 0 0 Q := E_ifgt ok_X2_askersBefore (show decode (mB 72) 48 = .ok (.ifCond .gt 13, 3) by decide +kernel) rfl
theorem X2_askersBefore_51 : Ev X 72 51 [l0, l1, l2, l3, some (.int x)] (st) w n 0 0 Q ↔ Ev X 72 53 [l0, l1, l2, l3, some (.int x)] (.int x :: st) w n 0 0 Q := E_p ok_X2_askersBefore (show decode (mB 72) 51 = .ok (.iload 4, 2) by decide +kernel) rfl rfl
theorem X2_askersBefore_53 : Ev X 72 53 [l0, l1, l2, l3, l4] (.int x :: st) w n 0 0 Q ↔ if x = 0 then Ev X 72 56 [l0, l1, l2, l3, l4] (st) w n 0 0 Q else Ev X 72 64 [l0, l1, l2, l3, l4] (st) w n 0 0 Q := E_ifne ok_X2_askersBefore (show decode (mB 72) 53 = .ok (.ifCond .ne 11, 3) by decide +kernel) rfl
theorem X2_askersBefore_56 : Ev X 72 56 [l0, l1, l2, some (.int x), l4] (st) w n 0 0 Q ↔ Ev X 72 57 [l0, l1, l2, some (.int x), l4] (.int x :: st) w n 0 0 Q := E_p ok_X2_askersBefore (show decode (mB 72) 56 = .ok (.iload_n 3, 1) by decide +kernel) rfl rfl
theorem X2_askersBefore_57 : Ev X 72 57 [l0, some (.int x), l2, l3, l4] (st) w n 0 0 Q ↔ Ev X 72 58 [l0, some (.int x), l2, l3, l4] (.int x :: st) w n 0 0 Q := E_p ok_X2_askersBefore (show decode (mB 72) 57 = .ok (.iload_n 1, 1) by decide +kernel) rfl rfl
theorem X2_askersBefore_58 : Ev X 72 58 [l0, l1, l2, l3, l4] (.int y :: .int x :: st) w n 0 0 Q ↔ if x < y then Ev X 72 61 [l0, l1, l2, l3, l4] (st) w n 0 0 Q else Ev X 72 64 [l0, l1, l2, l3, l4] (st) w n 0 0 Q := E_icge ok_X2_askersBefore (show decode (mB 72) 58 = .ok (.if_icmp .ge 6, 3) by decide +kernel) rfl
theorem X2_askersBefore_61 : Ev X 72 61 [l0, l1, some (.int x), l3, l4] (st) w n 0 0 Q ↔ Ev X 72 64 [l0, l1, some (.int (x + (1))), l3, l4] (st) w n 0 0 Q := E_iinc ok_X2_askersBefore (show decode (mB 72) 61 = .ok (.iinc 2 1, 3) by decide +kernel) rfl (by simp only [List.length_cons, List.length_nil]; decide) (by decide) rfl
theorem X2_askersBefore_64 : Ev X 72 64 [l0, l1, l2, some (.int x), l4] (st) w n 0 0 Q ↔ Ev X 72 67 [l0, l1, l2, some (.int (x + (1))), l4] (st) w n 0 0 Q := E_iinc ok_X2_askersBefore (show decode (mB 72) 64 = .ok (.iinc 3 1, 3) by decide +kernel) rfl (by simp only [List.length_cons, List.length_nil]; decide) (by decide) rfl
theorem X2_askersBefore_67 : Ev X 72 67 [l0, l1, l2, l3, l4] (st) w n 0 0 Q ↔ Ev X 72 4 [l0, l1, l2, l3, l4] (st) w n 0 0 Q := E_goto ok_X2_askersBefore (show decode (mB 72) 67 = .ok (.goto (-63), 3) by decide +kernel) rfl
theorem X2_askersBefore_70 : Ev X 72 70 [l0, l1, some (.int x), l3, l4] (st) w n 0 0 Q ↔ Ev X 72 71 [l0, l1, some (.int x), l3, l4] (.int x :: st) w n 0 0 Q := E_p ok_X2_askersBefore (show decode (mB 72) 70 = .ok (.iload_n 2, 1) by decide +kernel) rfl rfl
theorem X2_askersBefore_71 : Ev X 72 71 [l0, l1, l2, l3, l4] ([.int x]) w n 0 0 Q ↔ Q (.inl (some (.int x))) w n := E_reti ok_X2_askersBefore (show decode (mB 72) 71 = .ok (.ireturn, 1) by decide +kernel) (by decide +kernel)
theorem ok_X2_askerAt : okP 73 = true := by decide +kernel
theorem X2_askerAt_0 : Ev X 73 0 [l0, l1, l2] (st) w n 0 0 Q ↔ Ev X 73 1 [l0, l1, l2] (.int (0) :: st) w n 0 0 Q := E_iconst ok_X2_askerAt (show decode (mB 73) 0 = .ok (.iconst 0, 1) by decide +kernel) (by decide)
theorem X2_askerAt_1 : Ev X 73 1 [l0, l1, l2] (.int x :: st) w n 0 0 Q ↔ Ev X 73 2 [l0, l1, some (.int x)] (st) w n 0 0 Q := E_p ok_X2_askerAt (show decode (mB 73) 1 = .ok (.istore_n 2, 1) by decide +kernel) rfl rfl
theorem X2_askerAt_2 : Ev X 73 2 [l0, l1, some (.int x)] (st) w n 0 0 Q ↔ Ev X 73 3 [l0, l1, some (.int x)] (.int x :: st) w n 0 0 Q := E_p ok_X2_askerAt (show decode (mB 73) 2 = .ok (.iload_n 2, 1) by decide +kernel) rfl rfl
theorem X2_askerAt_3 : Ev X 73 3 [some (.ref a), l1, l2] (st) w n 0 0 Q ↔ Ev X 73 4 [some (.ref a), l1, l2] (.ref a :: st) w n 0 0 Q := E_p ok_X2_askerAt (show decode (mB 73) 3 = .ok (.aload_n 0, 1) by decide +kernel) rfl rfl
theorem X2_askerAt_4 : Ev X 73 4 [l0, l1, l2] (.ref a :: st) w n 0 0 Q ↔ ∃ v, gf w a 2 2 = some v ∧ Ev X 73 7 [l0, l1, l2] (v :: st) w n 0 0 Q := E_getf ok_X2_askerAt (by decide +kernel) (show decode (mB 73) 4 = .ok (.getfield 33, 3) by decide +kernel) (by decide +kernel)
theorem X2_askerAt_7 : Ev X 73 7 [l0, l1, l2] (.int y :: .int x :: st) w n 0 0 Q ↔ if x < y then Ev X 73 10 [l0, l1, l2] (st) w n 0 0 Q else Ev X 73 40 [l0, l1, l2] (st) w n 0 0 Q := E_icge ok_X2_askerAt (show decode (mB 73) 7 = .ok (.if_icmp .ge 33, 3) by decide +kernel) rfl
theorem X2_askerAt_10 : Ev X 73 10 [some (.ref a), l1, l2] (st) w n 0 0 Q ↔ Ev X 73 11 [some (.ref a), l1, l2] (.ref a :: st) w n 0 0 Q := E_p ok_X2_askerAt (show decode (mB 73) 10 = .ok (.aload_n 0, 1) by decide +kernel) rfl rfl
theorem X2_askerAt_11 : Ev X 73 11 [l0, l1, l2] (.ref a :: st) w n 0 0 Q ↔ ∃ v, gf w a 2 0 = some v ∧ Ev X 73 14 [l0, l1, l2] (v :: st) w n 0 0 Q := E_getf ok_X2_askerAt (by decide +kernel) (show decode (mB 73) 11 = .ok (.getfield 11, 3) by decide +kernel) (by decide +kernel)
theorem X2_askerAt_14 : Ev X 73 14 [l0, l1, some (.int x)] (st) w n 0 0 Q ↔ Ev X 73 15 [l0, l1, some (.int x)] (.int x :: st) w n 0 0 Q := E_p ok_X2_askerAt (show decode (mB 73) 14 = .ok (.iload_n 2, 1) by decide +kernel) rfl rfl
theorem X2_askerAt_15 : Ev X 73 15 [l0, l1, l2] (.int x :: .ref a :: st) w n 0 0 Q ↔ ∃ v, (ga w a 4 x).or (ga w a 5 x) = some v ∧ Ev X 73 16 [l0, l1, l2] (v :: st) w n 0 0 Q := E_aald ok_X2_askerAt (show decode (mB 73) 15 = .ok (.aaload, 1) by decide +kernel)
theorem X2_askerAt_16 : Ev X 73 16 [l0, l1, l2] (.ref a :: st) w n 0 0 Q ↔ ∃ v, gf w a 1 3 = some v ∧ Ev X 73 19 [l0, l1, l2] (v :: st) w n 0 0 Q := E_getf ok_X2_askerAt (by decide +kernel) (show decode (mB 73) 16 = .ok (.getfield 108, 3) by decide +kernel) (by decide +kernel)
theorem X2_askerAt_19 : Ev X 73 19 [l0, l1, l2] (st) w n 0 0 Q ↔ Ev X 73 20 [l0, l1, l2] (.int (1) :: st) w n 0 0 Q := E_iconst ok_X2_askerAt (show decode (mB 73) 19 = .ok (.iconst 1, 1) by decide +kernel) (by decide)
theorem X2_askerAt_20 : Ev X 73 20 [l0, l1, l2] (.int y :: .int x :: st) w n 0 0 Q ↔ if x = y then Ev X 73 23 [l0, l1, l2] (st) w n 0 0 Q else Ev X 73 34 [l0, l1, l2] (st) w n 0 0 Q := E_icne ok_X2_askerAt (show decode (mB 73) 20 = .ok (.if_icmp .ne 14, 3) by decide +kernel) rfl
theorem X2_askerAt_23 : Ev X 73 23 [some (.ref a), l1, l2] (st) w n 0 0 Q ↔ Ev X 73 24 [some (.ref a), l1, l2] (.ref a :: st) w n 0 0 Q := E_p ok_X2_askerAt (show decode (mB 73) 23 = .ok (.aload_n 0, 1) by decide +kernel) rfl rfl
theorem X2_askerAt_24 : Ev X 73 24 [l0, l1, some (.int x)] (st) w n 0 0 Q ↔ Ev X 73 25 [l0, l1, some (.int x)] (.int x :: st) w n 0 0 Q := E_p ok_X2_askerAt (show decode (mB 73) 24 = .ok (.iload_n 2, 1) by decide +kernel) rfl rfl
theorem X2_askerAt_25 (h : hasc w a 2 = true) : Ev X 73 25 [l0, l1, l2] (.int y0 :: .ref a :: []) w n 0 0 Q ↔ Ev X 72 0 [some (.ref a), some (.int y0), none, none, none] [] w n 0 0 (Kr X 73 28 [l0, l1, l2] ([]) 0 0 Q) := E_cv ok_X2_askerAt (show decode (mB 73) 25 = .ok (.invokevirtual 177, 3) by decide +kernel) (by decide +kernel) (by decide +kernel) (by decide +kernel) (k := 1) (vs := [.int y0]) rfl ((rc_Table (M2 := 72) (by decide +kernel) (by decide +kernel)).trans h) (by simp only [List.length_cons, List.length_nil]; decide) (by simp only [List.length_cons, List.length_nil]; decide +kernel) (ent_eq (k := 3) (by simp only [List.length_cons, List.length_nil]; decide +kernel)) (by decide +kernel) (by decide +kernel)
theorem X2_askerAt_28 : Ev X 73 28 [l0, some (.int x), l2] (st) w n 0 0 Q ↔ Ev X 73 29 [l0, some (.int x), l2] (.int x :: st) w n 0 0 Q := E_p ok_X2_askerAt (show decode (mB 73) 28 = .ok (.iload_n 1, 1) by decide +kernel) rfl rfl
theorem X2_askerAt_29 : Ev X 73 29 [l0, l1, l2] (.int y :: .int x :: st) w n 0 0 Q ↔ if x = y then Ev X 73 32 [l0, l1, l2] (st) w n 0 0 Q else Ev X 73 34 [l0, l1, l2] (st) w n 0 0 Q := E_icne ok_X2_askerAt (show decode (mB 73) 29 = .ok (.if_icmp .ne 5, 3) by decide +kernel) rfl
theorem X2_askerAt_32 : Ev X 73 32 [l0, l1, some (.int x)] (st) w n 0 0 Q ↔ Ev X 73 33 [l0, l1, some (.int x)] (.int x :: st) w n 0 0 Q := E_p ok_X2_askerAt (show decode (mB 73) 32 = .ok (.iload_n 2, 1) by decide +kernel) rfl rfl
theorem X2_askerAt_33 : Ev X 73 33 [l0, l1, l2] ([.int x]) w n 0 0 Q ↔ Q (.inl (some (.int x))) w n := E_reti ok_X2_askerAt (show decode (mB 73) 33 = .ok (.ireturn, 1) by decide +kernel) (by decide +kernel)
theorem X2_askerAt_34 : Ev X 73 34 [l0, l1, some (.int x)] (st) w n 0 0 Q ↔ Ev X 73 37 [l0, l1, some (.int (x + (1)))] (st) w n 0 0 Q := E_iinc ok_X2_askerAt (show decode (mB 73) 34 = .ok (.iinc 2 1, 3) by decide +kernel) rfl (by simp only [List.length_cons, List.length_nil]; decide) (by decide) rfl
theorem X2_askerAt_37 : Ev X 73 37 [l0, l1, l2] (st) w n 0 0 Q ↔ Ev X 73 2 [l0, l1, l2] (st) w n 0 0 Q := E_goto ok_X2_askerAt (show decode (mB 73) 37 = .ok (.goto (-35), 3) by decide +kernel) rfl
theorem X2_askerAt_40 : Ev X 73 40 [l0, l1, l2] (st) w n 0 0 Q ↔ Ev X 73 41 [l0, l1, l2] (.int (-1) :: st) w n 0 0 Q := E_iconst ok_X2_askerAt (show decode (mB 73) 40 = .ok (.iconst (-1), 1) by decide +kernel) (by decide)
theorem X2_askerAt_41 : Ev X 73 41 [l0, l1, l2] ([.int x]) w n 0 0 Q ↔ Q (.inl (some (.int x))) w n := E_reti ok_X2_askerAt (show decode (mB 73) 41 = .ok (.ireturn, 1) by decide +kernel) (by decide +kernel)
theorem ok_X2_setWithLeave : okP 74 = true := by decide +kernel
theorem X2_setWithLeave_0 : Ev X 74 0 [l0, l1, l2] (st) w n 0 0 Q ↔ Ev X 74 1 [l0, l1, l2] (.int (0) :: st) w n 0 0 Q := E_iconst ok_X2_setWithLeave (show decode (mB 74) 0 = .ok (.iconst 0, 1) by decide +kernel) (by decide)
theorem X2_setWithLeave_1 : Ev X 74 1 [l0, l1, l2] (.int x :: st) w n 0 0 Q ↔ Ev X 74 2 [l0, some (.int x), l2] (st) w n 0 0 Q := E_p ok_X2_setWithLeave (show decode (mB 74) 1 = .ok (.istore_n 1, 1) by decide +kernel) rfl rfl
theorem X2_setWithLeave_2 : Ev X 74 2 [l0, l1, l2] (st) w n 0 0 Q ↔ Ev X 74 3 [l0, l1, l2] (.int (0) :: st) w n 0 0 Q := E_iconst ok_X2_setWithLeave (show decode (mB 74) 2 = .ok (.iconst 0, 1) by decide +kernel) (by decide)
theorem X2_setWithLeave_3 : Ev X 74 3 [l0, l1, l2] (.int x :: st) w n 0 0 Q ↔ Ev X 74 4 [l0, l1, some (.int x)] (st) w n 0 0 Q := E_p ok_X2_setWithLeave (show decode (mB 74) 3 = .ok (.istore_n 2, 1) by decide +kernel) rfl rfl
theorem X2_setWithLeave_4 : Ev X 74 4 [l0, l1, some (.int x)] (st) w n 0 0 Q ↔ Ev X 74 5 [l0, l1, some (.int x)] (.int x :: st) w n 0 0 Q := E_p ok_X2_setWithLeave (show decode (mB 74) 4 = .ok (.iload_n 2, 1) by decide +kernel) rfl rfl
theorem X2_setWithLeave_5 : Ev X 74 5 [some (.ref a), l1, l2] (st) w n 0 0 Q ↔ Ev X 74 6 [some (.ref a), l1, l2] (.ref a :: st) w n 0 0 Q := E_p ok_X2_setWithLeave (show decode (mB 74) 5 = .ok (.aload_n 0, 1) by decide +kernel) rfl rfl
theorem X2_setWithLeave_6 : Ev X 74 6 [l0, l1, l2] (.ref a :: st) w n 0 0 Q ↔ ∃ v, gf w a 2 2 = some v ∧ Ev X 74 9 [l0, l1, l2] (v :: st) w n 0 0 Q := E_getf ok_X2_setWithLeave (by decide +kernel) (show decode (mB 74) 6 = .ok (.getfield 33, 3) by decide +kernel) (by decide +kernel)
theorem X2_setWithLeave_9 : Ev X 74 9 [l0, l1, l2] (.int y :: .int x :: st) w n 0 0 Q ↔ if x < y then Ev X 74 12 [l0, l1, l2] (st) w n 0 0 Q else Ev X 74 37 [l0, l1, l2] (st) w n 0 0 Q := E_icge ok_X2_setWithLeave (show decode (mB 74) 9 = .ok (.if_icmp .ge 28, 3) by decide +kernel) rfl
theorem X2_setWithLeave_12 : Ev X 74 12 [some (.ref a), l1, l2] (st) w n 0 0 Q ↔ Ev X 74 13 [some (.ref a), l1, l2] (.ref a :: st) w n 0 0 Q := E_p ok_X2_setWithLeave (show decode (mB 74) 12 = .ok (.aload_n 0, 1) by decide +kernel) rfl rfl
theorem X2_setWithLeave_13 : Ev X 74 13 [l0, l1, l2] (.ref a :: st) w n 0 0 Q ↔ ∃ v, gf w a 2 0 = some v ∧ Ev X 74 16 [l0, l1, l2] (v :: st) w n 0 0 Q := E_getf ok_X2_setWithLeave (by decide +kernel) (show decode (mB 74) 13 = .ok (.getfield 11, 3) by decide +kernel) (by decide +kernel)
theorem X2_setWithLeave_16 : Ev X 74 16 [l0, l1, some (.int x)] (st) w n 0 0 Q ↔ Ev X 74 17 [l0, l1, some (.int x)] (.int x :: st) w n 0 0 Q := E_p ok_X2_setWithLeave (show decode (mB 74) 16 = .ok (.iload_n 2, 1) by decide +kernel) rfl rfl
theorem X2_setWithLeave_17 : Ev X 74 17 [l0, l1, l2] (.int x :: .ref a :: st) w n 0 0 Q ↔ ∃ v, (ga w a 4 x).or (ga w a 5 x) = some v ∧ Ev X 74 18 [l0, l1, l2] (v :: st) w n 0 0 Q := E_aald ok_X2_setWithLeave (show decode (mB 74) 17 = .ok (.aaload, 1) by decide +kernel)
theorem X2_setWithLeave_18 : Ev X 74 18 [l0, l1, l2] (.ref a :: st) w n 0 0 Q ↔ ∃ v, gf w a 1 3 = some v ∧ Ev X 74 21 [l0, l1, l2] (v :: st) w n 0 0 Q := E_getf ok_X2_setWithLeave (by decide +kernel) (show decode (mB 74) 18 = .ok (.getfield 108, 3) by decide +kernel) (by decide +kernel)
theorem X2_setWithLeave_21 : Ev X 74 21 [l0, l1, l2] (st) w n 0 0 Q ↔ Ev X 74 22 [l0, l1, l2] (.int (2) :: st) w n 0 0 Q := E_iconst ok_X2_setWithLeave (show decode (mB 74) 21 = .ok (.iconst 2, 1) by decide +kernel) (by decide)
theorem X2_setWithLeave_22 : Ev X 74 22 [l0, l1, l2] (.int y :: .int x :: st) w n 0 0 Q ↔ if x < y then Ev X 74 31 [l0, l1, l2] (st) w n 0 0 Q else Ev X 74 25 [l0, l1, l2] (st) w n 0 0 Q := E_iclt ok_X2_setWithLeave (show decode (mB 74) 22 = .ok (.if_icmp .lt 9, 3) by decide +kernel) rfl
theorem X2_setWithLeave_25 : Ev X 74 25 [l0, some (.int x), l2] (st) w n 0 0 Q ↔ Ev X 74 26 [l0, some (.int x), l2] (.int x :: st) w n 0 0 Q := E_p ok_X2_setWithLeave (show decode (mB 74) 25 = .ok (.iload_n 1, 1) by decide +kernel) rfl rfl
theorem X2_setWithLeave_26 : Ev X 74 26 [l0, l1, l2] (st) w n 0 0 Q ↔ Ev X 74 27 [l0, l1, l2] (.int (1) :: st) w n 0 0 Q := E_iconst ok_X2_setWithLeave (show decode (mB 74) 26 = .ok (.iconst 1, 1) by decide +kernel) (by decide)
theorem X2_setWithLeave_27 : Ev X 74 27 [l0, l1, some (.int x)] (st) w n 0 0 Q ↔ Ev X 74 28 [l0, l1, some (.int x)] (.int x :: st) w n 0 0 Q := E_p ok_X2_setWithLeave (show decode (mB 74) 27 = .ok (.iload_n 2, 1) by decide +kernel) rfl rfl
theorem X2_setWithLeave_28 : Ev X 74 28 [l0, l1, l2] (.int y :: .int x :: st) w n 0 0 Q ↔ Ev X 74 29 [l0, l1, l2] (.int (x <<< (y &&& 31)) :: st) w n 0 0 Q := E_p ok_X2_setWithLeave (show decode (mB 74) 28 = .ok (.ishl, 1) by decide +kernel) rfl rfl
theorem X2_setWithLeave_29 : Ev X 74 29 [l0, l1, l2] (.int y :: .int x :: st) w n 0 0 Q ↔ Ev X 74 30 [l0, l1, l2] (.int (x ||| y) :: st) w n 0 0 Q := E_p ok_X2_setWithLeave (show decode (mB 74) 29 = .ok (.ior, 1) by decide +kernel) rfl rfl
theorem X2_setWithLeave_30 : Ev X 74 30 [l0, l1, l2] (.int x :: st) w n 0 0 Q ↔ Ev X 74 31 [l0, some (.int x), l2] (st) w n 0 0 Q := E_p ok_X2_setWithLeave (show decode (mB 74) 30 = .ok (.istore_n 1, 1) by decide +kernel) rfl rfl
theorem X2_setWithLeave_31 : Ev X 74 31 [l0, l1, some (.int x)] (st) w n 0 0 Q ↔ Ev X 74 34 [l0, l1, some (.int (x + (1)))] (st) w n 0 0 Q := E_iinc ok_X2_setWithLeave (show decode (mB 74) 31 = .ok (.iinc 2 1, 3) by decide +kernel) rfl (by simp only [List.length_cons, List.length_nil]; decide) (by decide) rfl
theorem X2_setWithLeave_34 : Ev X 74 34 [l0, l1, l2] (st) w n 0 0 Q ↔ Ev X 74 4 [l0, l1, l2] (st) w n 0 0 Q := E_goto ok_X2_setWithLeave (show decode (mB 74) 34 = .ok (.goto (-30), 3) by decide +kernel) rfl
theorem X2_setWithLeave_37 : Ev X 74 37 [l0, some (.int x), l2] (st) w n 0 0 Q ↔ Ev X 74 38 [l0, some (.int x), l2] (.int x :: st) w n 0 0 Q := E_p ok_X2_setWithLeave (show decode (mB 74) 37 = .ok (.iload_n 1, 1) by decide +kernel) rfl rfl
theorem X2_setWithLeave_38 : Ev X 74 38 [l0, l1, l2] ([.int x]) w n 0 0 Q ↔ Q (.inl (some (.int x))) w n := E_reti ok_X2_setWithLeave (show decode (mB 74) 38 = .ok (.ireturn, 1) by decide +kernel) (by decide +kernel)
theorem ok_X2_waiterLetsMore : okP 76 = true := by decide +kernel
theorem X2_waiterLetsMore_0 : Ev X 76 0 [some (.ref a)] (st) w n 0 0 Q ↔ Ev X 76 1 [some (.ref a)] (.ref a :: st) w n 0 0 Q := E_p ok_X2_waiterLetsMore (show decode (mB 76) 0 = .ok (.aload_n 0, 1) by decide +kernel) rfl rfl
theorem X2_waiterLetsMore_1 : Ev X 76 1 [l0] (.ref a :: st) w n 0 0 Q ↔ ∃ v, gf w a 2 3 = some v ∧ Ev X 76 4 [l0] (v :: st) w n 0 0 Q := E_getf ok_X2_waiterLetsMore (by decide +kernel) (show decode (mB 76) 1 = .ok (.getfield 21, 3) by decide +kernel) (by decide +kernel)
theorem X2_waiterLetsMore_4 : Ev X 76 4 [l0] (.int x :: st) w n 0 0 Q ↔ if x = 0 then Ev X 76 21 [l0] (st) w n 0 0 Q else Ev X 76 7 [l0] (st) w n 0 0 Q := E_ifeq ok_X2_waiterLetsMore (show decode (mB 76) 4 = .ok (.ifCond .eq 17, 3) by decide +kernel) rfl
theorem X2_waiterLetsMore_7 : Ev X 76 7 [some (.ref a)] (st) w n 0 0 Q ↔ Ev X 76 8 [some (.ref a)] (.ref a :: st) w n 0 0 Q := E_p ok_X2_waiterLetsMore (show decode (mB 76) 7 = .ok (.aload_n 0, 1) by decide +kernel) rfl rfl
theorem X2_waiterLetsMore_8 (h : hasc w a 2 = true) : Ev X 76 8 [l0] (.ref a :: []) w n 0 0 Q ↔ Ev X 74 0 [some (.ref a), none, none] [] w n 0 0 (Kr X 76 11 [l0] ([]) 0 0 Q) := E_cv ok_X2_waiterLetsMore (show decode (mB 76) 8 = .ok (.invokevirtual 169, 3) by decide +kernel) (by decide +kernel) (by decide +kernel) (by decide +kernel) (k := 0) (vs := []) rfl ((rc_Table (M2 := 74) (by decide +kernel) (by decide +kernel)).trans h) (by simp only [List.length_cons, List.length_nil]; decide) (by simp only [List.length_cons, List.length_nil]; decide +kernel) (ent_eq (k := 2) (by simp only [List.length_cons, List.length_nil]; decide +kernel)) (by decide +kernel) (by decide +kernel)
theorem X2_waiterLetsMore_11 : Ev X 76 11 [l0] (.int y0 :: []) w n 0 0 Q ↔ Ev X 75 0 [some (.int y0)] [] w n 0 0 (Kr X 76 14 [l0] ([]) 0 0 Q) := E_cs ok_X2_waiterLetsMore (show decode (mB 76) 11 = .ok (.invokestatic 172, 3) by decide +kernel) (by decide +kernel) (by decide +kernel) (by decide +kernel) (k := 1) (vs := [.int y0]) rfl (by simp only [List.length_cons, List.length_nil]; decide) (by simp only [List.length_cons, List.length_nil]; decide +kernel) (ent_eq (k := 0) (by simp only [List.length_cons, List.length_nil]; decide +kernel)) (by decide +kernel) (by decide +kernel)
theorem X2_waiterLetsMore_14 : Ev X 76 14 [some (.ref a)] (st) w n 0 0 Q ↔ Ev X 76 15 [some (.ref a)] (.ref a :: st) w n 0 0 Q := E_p ok_X2_waiterLetsMore (show decode (mB 76) 14 = .ok (.aload_n 0, 1) by decide +kernel) rfl rfl
theorem X2_waiterLetsMore_15 : Ev X 76 15 [l0] (.ref a :: st) w n 0 0 Q ↔ ∃ v, gf w a 2 3 = some v ∧ Ev X 76 18 [l0] (v :: st) w n 0 0 Q := E_getf ok_X2_waiterLetsMore (by decide +kernel) (show decode (mB 76) 15 = .ok (.getfield 21, 3) by decide +kernel) (by decide +kernel)
theorem X2_waiterLetsMore_18 : Ev X 76 18 [l0] (.int y :: .int x :: st) w n 0 0 Q ↔ if x < y then Ev X 76 21 [l0] (st) w n 0 0 Q else Ev X 76 25 [l0] (st) w n 0 0 Q := E_icge ok_X2_waiterLetsMore (show decode (mB 76) 18 = .ok (.if_icmp .ge 7, 3) by decide +kernel) rfl
theorem X2_waiterLetsMore_21 : Ev X 76 21 [l0] (st) w n 0 0 Q ↔ Ev X 76 22 [l0] (.int (1) :: st) w n 0 0 Q := E_iconst ok_X2_waiterLetsMore (show decode (mB 76) 21 = .ok (.iconst 1, 1) by decide +kernel) (by decide)
theorem X2_waiterLetsMore_22 : Ev X 76 22 [l0] (st) w n 0 0 Q ↔ Ev X 76 26 [l0] (st) w n 0 0 Q := E_goto ok_X2_waiterLetsMore (show decode (mB 76) 22 = .ok (.goto 4, 3) by decide +kernel) rfl
theorem X2_waiterLetsMore_25 : Ev X 76 25 [l0] (st) w n 0 0 Q ↔ Ev X 76 26 [l0] (.int (0) :: st) w n 0 0 Q := E_iconst ok_X2_waiterLetsMore (show decode (mB 76) 25 = .ok (.iconst 0, 1) by decide +kernel) (by decide)
theorem X2_waiterLetsMore_26 (h : okr (some .boolean) x = true) : Ev X 76 26 [l0] ([.int x]) w n 0 0 Q ↔ Q (.inl (some (.int x))) w n := E_retz ok_X2_waiterLetsMore (show decode (mB 76) 26 = .ok (.ireturn, 1) by decide +kernel) (by decide +kernel) h
theorem ok_X2_giveLeave : okP 77 = true := by decide +kernel
theorem X2_giveLeave_0 : Ev X 77 0 [l0, l1, l2] (st) w n 0 0 Q ↔ Ev X 77 1 [l0, l1, l2] (.int (0) :: st) w n 0 0 Q := E_iconst ok_X2_giveLeave (show decode (mB 77) 0 = .ok (.iconst 0, 1) by decide +kernel) (by decide)
theorem X2_giveLeave_1 : Ev X 77 1 [l0, l1, l2] (.int x :: st) w n 0 0 Q ↔ Ev X 77 2 [l0, some (.int x), l2] (st) w n 0 0 Q := E_p ok_X2_giveLeave (show decode (mB 77) 1 = .ok (.istore_n 1, 1) by decide +kernel) rfl rfl
theorem X2_giveLeave_2 : Ev X 77 2 [l0, some (.int x), l2] (st) w n 0 0 Q ↔ Ev X 77 3 [l0, some (.int x), l2] (.int x :: st) w n 0 0 Q := E_p ok_X2_giveLeave (show decode (mB 77) 2 = .ok (.iload_n 1, 1) by decide +kernel) rfl rfl
theorem X2_giveLeave_3 : Ev X 77 3 [l0, l1, l2] (st) w n 0 0 Q ↔ Ev X 77 5 [l0, l1, l2] (.int (8) :: st) w n 0 0 Q := E_bipush ok_X2_giveLeave (show decode (mB 77) 3 = .ok (.bipush 8, 2) by decide +kernel) (by decide)
theorem X2_giveLeave_5 : Ev X 77 5 [l0, l1, l2] (.int y :: .int x :: st) w n 0 0 Q ↔ if x < y then Ev X 77 8 [l0, l1, l2] (st) w n 0 0 Q else Ev X 77 43 [l0, l1, l2] (st) w n 0 0 Q := E_icge ok_X2_giveLeave (show decode (mB 77) 5 = .ok (.if_icmp .ge 38, 3) by decide +kernel) rfl
theorem X2_giveLeave_8 : Ev X 77 8 [some (.ref a), l1, l2] (st) w n 0 0 Q ↔ Ev X 77 9 [some (.ref a), l1, l2] (.ref a :: st) w n 0 0 Q := E_p ok_X2_giveLeave (show decode (mB 77) 8 = .ok (.aload_n 0, 1) by decide +kernel) rfl rfl
theorem X2_giveLeave_9 : Ev X 77 9 [l0, l1, l2] (st) w n 0 0 Q ↔ Ev X 77 10 [l0, l1, l2] (.int (0) :: st) w n 0 0 Q := E_iconst ok_X2_giveLeave (show decode (mB 77) 9 = .ok (.iconst 0, 1) by decide +kernel) (by decide)
theorem X2_giveLeave_10 (h : hasc w a 2 = true) : Ev X 77 10 [l0, l1, l2] (.int y0 :: .ref a :: []) w n 0 0 Q ↔ Ev X 73 0 [some (.ref a), some (.int y0), none] [] w n 0 0 (Kr X 77 13 [l0, l1, l2] ([]) 0 0 Q) := E_cv ok_X2_giveLeave (show decode (mB 77) 10 = .ok (.invokevirtual 153, 3) by decide +kernel) (by decide +kernel) (by decide +kernel) (by decide +kernel) (k := 1) (vs := [.int y0]) rfl ((rc_Table (M2 := 73) (by decide +kernel) (by decide +kernel)).trans h) (by simp only [List.length_cons, List.length_nil]; decide) (by simp only [List.length_cons, List.length_nil]; decide +kernel) (ent_eq (k := 1) (by simp only [List.length_cons, List.length_nil]; decide +kernel)) (by decide +kernel) (by decide +kernel)
theorem X2_giveLeave_13 : Ev X 77 13 [l0, l1, l2] (.int x :: st) w n 0 0 Q ↔ Ev X 77 14 [l0, l1, some (.int x)] (st) w n 0 0 Q := E_p ok_X2_giveLeave (show decode (mB 77) 13 = .ok (.istore_n 2, 1) by decide +kernel) rfl rfl
theorem X2_giveLeave_14 : Ev X 77 14 [l0, l1, some (.int x)] (st) w n 0 0 Q ↔ Ev X 77 15 [l0, l1, some (.int x)] (.int x :: st) w n 0 0 Q := E_p ok_X2_giveLeave (show decode (mB 77) 14 = .ok (.iload_n 2, 1) by decide +kernel) rfl rfl
theorem X2_giveLeave_15 : Ev X 77 15 [l0, l1, l2] (st) w n 0 0 Q ↔ Ev X 77 16 [l0, l1, l2] (.int (-1) :: st) w n 0 0 Q := E_iconst ok_X2_giveLeave (show decode (mB 77) 15 = .ok (.iconst (-1), 1) by decide +kernel) (by decide)
theorem X2_giveLeave_16 : Ev X 77 16 [l0, l1, l2] (.int y :: .int x :: st) w n 0 0 Q ↔ if x = y then Ev X 77 26 [l0, l1, l2] (st) w n 0 0 Q else Ev X 77 19 [l0, l1, l2] (st) w n 0 0 Q := E_iceq ok_X2_giveLeave (show decode (mB 77) 16 = .ok (.if_icmp .eq 10, 3) by decide +kernel) rfl
theorem X2_giveLeave_19 : Ev X 77 19 [some (.ref a), l1, l2] (st) w n 0 0 Q ↔ Ev X 77 20 [some (.ref a), l1, l2] (.ref a :: st) w n 0 0 Q := E_p ok_X2_giveLeave (show decode (mB 77) 19 = .ok (.aload_n 0, 1) by decide +kernel) rfl rfl
theorem X2_giveLeave_20 (h : hasc w a 2 = true) : Ev X 77 20 [l0, l1, l2] (.ref a :: []) w n 0 0 Q ↔ Ev X 76 0 [some (.ref a)] [] w n 0 0 (Kr X 77 23 [l0, l1, l2] ([]) 0 0 Q) := E_cv ok_X2_giveLeave (show decode (mB 77) 20 = .ok (.invokevirtual 157, 3) by decide +kernel) (by decide +kernel) (by decide +kernel) (by decide +kernel) (k := 0) (vs := []) rfl ((rc_Table (M2 := 76) (by decide +kernel) (by decide +kernel)).trans h) (by simp only [List.length_cons, List.length_nil]; decide) (by simp only [List.length_cons, List.length_nil]; decide +kernel) (ent_eq (k := 0) (by simp only [List.length_cons, List.length_nil]; decide +kernel)) (by decide +kernel) (by decide +kernel)
theorem X2_giveLeave_23 : Ev X 77 23 [l0, l1, l2] (.int x :: st) w n 0 0 Q ↔ if x = 0 then Ev X 77 26 [l0, l1, l2] (st) w n 0 0 Q else Ev X 77 27 [l0, l1, l2] (st) w n 0 0 Q := E_ifne ok_X2_giveLeave (show decode (mB 77) 23 = .ok (.ifCond .ne 4, 3) by decide +kernel) rfl
theorem X2_giveLeave_26 : Ev X 77 26 [l0, l1, l2] ([]) w n 0 0 Q ↔ Q (.inl none) w n := E_retv ok_X2_giveLeave (show decode (mB 77) 26 = .ok (.return_, 1) by decide +kernel) (by decide +kernel)
theorem X2_giveLeave_27 : Ev X 77 27 [some (.ref a), l1, l2] (st) w n 0 0 Q ↔ Ev X 77 28 [some (.ref a), l1, l2] (.ref a :: st) w n 0 0 Q := E_p ok_X2_giveLeave (show decode (mB 77) 27 = .ok (.aload_n 0, 1) by decide +kernel) rfl rfl
theorem X2_giveLeave_28 : Ev X 77 28 [l0, l1, l2] (.ref a :: st) w n 0 0 Q ↔ ∃ v, gf w a 2 0 = some v ∧ Ev X 77 31 [l0, l1, l2] (v :: st) w n 0 0 Q := E_getf ok_X2_giveLeave (by decide +kernel) (show decode (mB 77) 28 = .ok (.getfield 11, 3) by decide +kernel) (by decide +kernel)
theorem X2_giveLeave_31 : Ev X 77 31 [l0, l1, some (.int x)] (st) w n 0 0 Q ↔ Ev X 77 32 [l0, l1, some (.int x)] (.int x :: st) w n 0 0 Q := E_p ok_X2_giveLeave (show decode (mB 77) 31 = .ok (.iload_n 2, 1) by decide +kernel) rfl rfl
theorem X2_giveLeave_32 : Ev X 77 32 [l0, l1, l2] (.int x :: .ref a :: st) w n 0 0 Q ↔ ∃ v, (ga w a 4 x).or (ga w a 5 x) = some v ∧ Ev X 77 33 [l0, l1, l2] (v :: st) w n 0 0 Q := E_aald ok_X2_giveLeave (show decode (mB 77) 32 = .ok (.aaload, 1) by decide +kernel)
theorem X2_giveLeave_33 : Ev X 77 33 [l0, l1, l2] (st) w n 0 0 Q ↔ Ev X 77 34 [l0, l1, l2] (.int (2) :: st) w n 0 0 Q := E_iconst ok_X2_giveLeave (show decode (mB 77) 33 = .ok (.iconst 2, 1) by decide +kernel) (by decide)
theorem X2_giveLeave_34 : Ev X 77 34 [l0, l1, l2] (.int x :: .ref a :: st) w n 0 0 Q ↔ ∃ w2, pf w a 1 3 (.int x) = some w2 ∧ Ev X 77 37 [l0, l1, l2] (st) w2 n 0 0 Q := E_putf ok_X2_giveLeave rfl (show decode (mB 77) 34 = .ok (.putfield 108, 3) by decide +kernel) (by decide +kernel) (by decide +kernel)
theorem X2_giveLeave_37 : Ev X 77 37 [l0, some (.int x), l2] (st) w n 0 0 Q ↔ Ev X 77 40 [l0, some (.int (x + (1))), l2] (st) w n 0 0 Q := E_iinc ok_X2_giveLeave (show decode (mB 77) 37 = .ok (.iinc 1 1, 3) by decide +kernel) rfl (by simp only [List.length_cons, List.length_nil]; decide) (by decide) rfl
theorem X2_giveLeave_40 : Ev X 77 40 [l0, l1, l2] (st) w n 0 0 Q ↔ Ev X 77 2 [l0, l1, l2] (st) w n 0 0 Q := E_goto ok_X2_giveLeave (show decode (mB 77) 40 = .ok (.goto (-38), 3) by decide +kernel) rfl
theorem X2_giveLeave_43 : Ev X 77 43 [l0, l1, l2] ([]) w n 0 0 Q ↔ Q (.inl none) w n := E_retv ok_X2_giveLeave (show decode (mB 77) 43 = .ok (.return_, 1) by decide +kernel) (by decide +kernel)
theorem ok_X2_wantedLadle : okP 78 = true := by decide +kernel
theorem X2_wantedLadle_0 : Ev X 78 0 [some (.ref a), l1, l2] (st) w n 0 0 Q ↔ Ev X 78 1 [some (.ref a), l1, l2] (.ref a :: st) w n 0 0 Q := E_p ok_X2_wantedLadle (show decode (mB 78) 0 = .ok (.aload_n 0, 1) by decide +kernel) rfl rfl
theorem X2_wantedLadle_1 : Ev X 78 1 [l0, some (.int x), l2] (st) w n 0 0 Q ↔ Ev X 78 2 [l0, some (.int x), l2] (.int x :: st) w n 0 0 Q := E_p ok_X2_wantedLadle (show decode (mB 78) 1 = .ok (.iload_n 1, 1) by decide +kernel) rfl rfl
theorem X2_wantedLadle_2 : Ev X 78 2 [l0, l1, l2] (st) w n 0 0 Q ↔ Ev X 78 3 [l0, l1, l2] (.int (1) :: st) w n 0 0 Q := E_iconst ok_X2_wantedLadle (show decode (mB 78) 2 = .ok (.iconst 1, 1) by decide +kernel) (by decide)
theorem X2_wantedLadle_3 (h : hasc w a 2 = true) : Ev X 78 3 [l0, l1, l2] (.int y1 :: .int y0 :: .ref a :: []) w n 0 0 Q ↔ Ev X 61 0 [some (.ref a), some (.int y0), some (.int y1), none] [] w n 0 0 (Kr X 78 6 [l0, l1, l2] ([]) 0 0 Q) := E_cv ok_X2_wantedLadle (show decode (mB 78) 3 = .ok (.invokevirtual 117, 3) by decide +kernel) (by decide +kernel) (by decide +kernel) (by decide +kernel) (k := 2) (vs := [.int y0, .int y1]) rfl ((rc_Table (M2 := 61) (by decide +kernel) (by decide +kernel)).trans h) (by simp only [List.length_cons, List.length_nil]; decide) (by simp only [List.length_cons, List.length_nil]; decide +kernel) (ent_eq (k := 1) (by simp only [List.length_cons, List.length_nil]; decide +kernel)) (by decide +kernel) (by decide +kernel)
theorem X2_wantedLadle_6 : Ev X 78 6 [l0, l1, l2] (.int x :: st) w n 0 0 Q ↔ Ev X 78 7 [l0, l1, some (.int x)] (st) w n 0 0 Q := E_p ok_X2_wantedLadle (show decode (mB 78) 6 = .ok (.istore_n 2, 1) by decide +kernel) rfl rfl
theorem X2_wantedLadle_7 : Ev X 78 7 [some (.ref a), l1, l2] (st) w n 0 0 Q ↔ Ev X 78 8 [some (.ref a), l1, l2] (.ref a :: st) w n 0 0 Q := E_p ok_X2_wantedLadle (show decode (mB 78) 7 = .ok (.aload_n 0, 1) by decide +kernel) rfl rfl
theorem X2_wantedLadle_8 : Ev X 78 8 [l0, l1, l2] (.ref a :: st) w n 0 0 Q ↔ ∃ v, gf w a 2 0 = some v ∧ Ev X 78 11 [l0, l1, l2] (v :: st) w n 0 0 Q := E_getf ok_X2_wantedLadle (by decide +kernel) (show decode (mB 78) 8 = .ok (.getfield 11, 3) by decide +kernel) (by decide +kernel)
theorem X2_wantedLadle_11 : Ev X 78 11 [l0, some (.int x), l2] (st) w n 0 0 Q ↔ Ev X 78 12 [l0, some (.int x), l2] (.int x :: st) w n 0 0 Q := E_p ok_X2_wantedLadle (show decode (mB 78) 11 = .ok (.iload_n 1, 1) by decide +kernel) rfl rfl
theorem X2_wantedLadle_12 : Ev X 78 12 [l0, l1, l2] (.int x :: .ref a :: st) w n 0 0 Q ↔ ∃ v, (ga w a 4 x).or (ga w a 5 x) = some v ∧ Ev X 78 13 [l0, l1, l2] (v :: st) w n 0 0 Q := E_aald ok_X2_wantedLadle (show decode (mB 78) 12 = .ok (.aaload, 1) by decide +kernel)
theorem X2_wantedLadle_13 : Ev X 78 13 [l0, l1, l2] (.ref a :: st) w n 0 0 Q ↔ ∃ v, gf w a 1 3 = some v ∧ Ev X 78 16 [l0, l1, l2] (v :: st) w n 0 0 Q := E_getf ok_X2_wantedLadle (by decide +kernel) (show decode (mB 78) 13 = .ok (.getfield 108, 3) by decide +kernel) (by decide +kernel)
theorem X2_wantedLadle_16 : Ev X 78 16 [l0, l1, l2] (st) w n 0 0 Q ↔ Ev X 78 17 [l0, l1, l2] (.int (2) :: st) w n 0 0 Q := E_iconst ok_X2_wantedLadle (show decode (mB 78) 16 = .ok (.iconst 2, 1) by decide +kernel) (by decide)
theorem X2_wantedLadle_17 : Ev X 78 17 [l0, l1, l2] (.int y :: .int x :: st) w n 0 0 Q ↔ if x = y then Ev X 78 20 [l0, l1, l2] (st) w n 0 0 Q else Ev X 78 22 [l0, l1, l2] (st) w n 0 0 Q := E_icne ok_X2_wantedLadle (show decode (mB 78) 17 = .ok (.if_icmp .ne 5, 3) by decide +kernel) rfl
theorem X2_wantedLadle_20 : Ev X 78 20 [l0, l1, some (.int x)] (st) w n 0 0 Q ↔ Ev X 78 21 [l0, l1, some (.int x)] (.int x :: st) w n 0 0 Q := E_p ok_X2_wantedLadle (show decode (mB 78) 20 = .ok (.iload_n 2, 1) by decide +kernel) rfl rfl
theorem X2_wantedLadle_21 : Ev X 78 21 [l0, l1, l2] ([.int x]) w n 0 0 Q ↔ Q (.inl (some (.int x))) w n := E_reti ok_X2_wantedLadle (show decode (mB 78) 21 = .ok (.ireturn, 1) by decide +kernel) (by decide +kernel)
theorem X2_wantedLadle_22 : Ev X 78 22 [some (.ref a), l1, l2] (st) w n 0 0 Q ↔ Ev X 78 23 [some (.ref a), l1, l2] (.ref a :: st) w n 0 0 Q := E_p ok_X2_wantedLadle (show decode (mB 78) 22 = .ok (.aload_n 0, 1) by decide +kernel) rfl rfl
theorem X2_wantedLadle_23 : Ev X 78 23 [l0, l1, l2] (.ref a :: st) w n 0 0 Q ↔ ∃ v, gf w a 2 0 = some v ∧ Ev X 78 26 [l0, l1, l2] (v :: st) w n 0 0 Q := E_getf ok_X2_wantedLadle (by decide +kernel) (show decode (mB 78) 23 = .ok (.getfield 11, 3) by decide +kernel) (by decide +kernel)
theorem X2_wantedLadle_26 : Ev X 78 26 [l0, some (.int x), l2] (st) w n 0 0 Q ↔ Ev X 78 27 [l0, some (.int x), l2] (.int x :: st) w n 0 0 Q := E_p ok_X2_wantedLadle (show decode (mB 78) 26 = .ok (.iload_n 1, 1) by decide +kernel) rfl rfl
theorem X2_wantedLadle_27 : Ev X 78 27 [l0, l1, l2] (.int x :: .ref a :: st) w n 0 0 Q ↔ ∃ v, (ga w a 4 x).or (ga w a 5 x) = some v ∧ Ev X 78 28 [l0, l1, l2] (v :: st) w n 0 0 Q := E_aald ok_X2_wantedLadle (show decode (mB 78) 27 = .ok (.aaload, 1) by decide +kernel)
theorem X2_wantedLadle_28 : Ev X 78 28 [l0, l1, l2] (.ref a :: st) w n 0 0 Q ↔ ∃ v, gf w a 1 3 = some v ∧ Ev X 78 31 [l0, l1, l2] (v :: st) w n 0 0 Q := E_getf ok_X2_wantedLadle (by decide +kernel) (show decode (mB 78) 28 = .ok (.getfield 108, 3) by decide +kernel) (by decide +kernel)
theorem X2_wantedLadle_31 : Ev X 78 31 [l0, l1, l2] (st) w n 0 0 Q ↔ Ev X 78 32 [l0, l1, l2] (.int (3) :: st) w n 0 0 Q := E_iconst ok_X2_wantedLadle (show decode (mB 78) 31 = .ok (.iconst 3, 1) by decide +kernel) (by decide)
theorem X2_wantedLadle_32 : Ev X 78 32 [l0, l1, l2] (.int y :: .int x :: st) w n 0 0 Q ↔ if x = y then Ev X 78 37 [l0, l1, l2] (st) w n 0 0 Q else Ev X 78 35 [l0, l1, l2] (st) w n 0 0 Q := E_iceq ok_X2_wantedLadle (show decode (mB 78) 32 = .ok (.if_icmp .eq 5, 3) by decide +kernel) rfl
theorem X2_wantedLadle_35 : Ev X 78 35 [l0, l1, l2] (st) w n 0 0 Q ↔ Ev X 78 36 [l0, l1, l2] (.int (-1) :: st) w n 0 0 Q := E_iconst ok_X2_wantedLadle (show decode (mB 78) 35 = .ok (.iconst (-1), 1) by decide +kernel) (by decide)
theorem X2_wantedLadle_36 : Ev X 78 36 [l0, l1, l2] ([.int x]) w n 0 0 Q ↔ Q (.inl (some (.int x))) w n := E_reti ok_X2_wantedLadle (show decode (mB 78) 36 = .ok (.ireturn, 1) by decide +kernel) (by decide +kernel)
theorem X2_wantedLadle_37 : Ev X 78 37 [some (.ref a), l1, l2] (st) w n 0 0 Q ↔ Ev X 78 38 [some (.ref a), l1, l2] (.ref a :: st) w n 0 0 Q := E_p ok_X2_wantedLadle (show decode (mB 78) 37 = .ok (.aload_n 0, 1) by decide +kernel) rfl rfl
theorem X2_wantedLadle_38 : Ev X 78 38 [l0, l1, l2] (.ref a :: st) w n 0 0 Q ↔ ∃ v, gf w a 2 1 = some v ∧ Ev X 78 41 [l0, l1, l2] (v :: st) w n 0 0 Q := E_getf ok_X2_wantedLadle (by decide +kernel) (show decode (mB 78) 38 = .ok (.getfield 17, 3) by decide +kernel) (by decide +kernel)
theorem X2_wantedLadle_41 : Ev X 78 41 [l0, l1, some (.int x)] (st) w n 0 0 Q ↔ Ev X 78 42 [l0, l1, some (.int x)] (.int x :: st) w n 0 0 Q := E_p ok_X2_wantedLadle (show decode (mB 78) 41 = .ok (.iload_n 2, 1) by decide +kernel) rfl rfl
theorem X2_wantedLadle_42 : Ev X 78 42 [l0, l1, l2] (.int x :: .ref a :: st) w n 0 0 Q ↔ ∃ v, ga w a 0 x = some v ∧ Ev X 78 43 [l0, l1, l2] (v :: st) w n 0 0 Q := E_iald ok_X2_wantedLadle (by decide +kernel) (show decode (mB 78) 42 = .ok (.iaload, 1) by decide +kernel)
theorem X2_wantedLadle_43 : Ev X 78 43 [l0, some (.int x), l2] (st) w n 0 0 Q ↔ Ev X 78 44 [l0, some (.int x), l2] (.int x :: st) w n 0 0 Q := E_p ok_X2_wantedLadle (show decode (mB 78) 43 = .ok (.iload_n 1, 1) by decide +kernel) rfl rfl
theorem X2_wantedLadle_44 : Ev X 78 44 [l0, l1, l2] (.int y :: .int x :: st) w n 0 0 Q ↔ if x = y then Ev X 78 47 [l0, l1, l2] (st) w n 0 0 Q else Ev X 78 56 [l0, l1, l2] (st) w n 0 0 Q := E_icne ok_X2_wantedLadle (show decode (mB 78) 44 = .ok (.if_icmp .ne 12, 3) by decide +kernel) rfl
theorem X2_wantedLadle_47 : Ev X 78 47 [some (.ref a), l1, l2] (st) w n 0 0 Q ↔ Ev X 78 48 [some (.ref a), l1, l2] (.ref a :: st) w n 0 0 Q := E_p ok_X2_wantedLadle (show decode (mB 78) 47 = .ok (.aload_n 0, 1) by decide +kernel) rfl rfl
theorem X2_wantedLadle_48 : Ev X 78 48 [l0, some (.int x), l2] (st) w n 0 0 Q ↔ Ev X 78 49 [l0, some (.int x), l2] (.int x :: st) w n 0 0 Q := E_p ok_X2_wantedLadle (show decode (mB 78) 48 = .ok (.iload_n 1, 1) by decide +kernel) rfl rfl
theorem X2_wantedLadle_49 : Ev X 78 49 [l0, l1, l2] (st) w n 0 0 Q ↔ Ev X 78 50 [l0, l1, l2] (.int (0) :: st) w n 0 0 Q := E_iconst ok_X2_wantedLadle (show decode (mB 78) 49 = .ok (.iconst 0, 1) by decide +kernel) (by decide)
theorem X2_wantedLadle_50 (h : hasc w a 2 = true) : Ev X 78 50 [l0, l1, l2] (.int y1 :: .int y0 :: .ref a :: []) w n 0 0 Q ↔ Ev X 61 0 [some (.ref a), some (.int y0), some (.int y1), none] [] w n 0 0 (Kr X 78 53 [l0, l1, l2] ([]) 0 0 Q) := E_cv ok_X2_wantedLadle (show decode (mB 78) 50 = .ok (.invokevirtual 117, 3) by decide +kernel) (by decide +kernel) (by decide +kernel) (by decide +kernel) (k := 2) (vs := [.int y0, .int y1]) rfl ((rc_Table (M2 := 61) (by decide +kernel) (by decide +kernel)).trans h) (by simp only [List.length_cons, List.length_nil]; decide) (by simp only [List.length_cons, List.length_nil]; decide +kernel) (ent_eq (k := 1) (by simp only [List.length_cons, List.length_nil]; decide +kernel)) (by decide +kernel) (by decide +kernel)
theorem X2_wantedLadle_53 : Ev X 78 53 [l0, l1, l2] (st) w n 0 0 Q ↔ Ev X 78 57 [l0, l1, l2] (st) w n 0 0 Q := E_goto ok_X2_wantedLadle (show decode (mB 78) 53 = .ok (.goto 4, 3) by decide +kernel) rfl
theorem X2_wantedLadle_56 : Ev X 78 56 [l0, l1, some (.int x)] (st) w n 0 0 Q ↔ Ev X 78 57 [l0, l1, some (.int x)] (.int x :: st) w n 0 0 Q := E_p ok_X2_wantedLadle (show decode (mB 78) 56 = .ok (.iload_n 2, 1) by decide +kernel) rfl rfl
theorem X2_wantedLadle_57 : Ev X 78 57 [l0, l1, l2] ([.int x]) w n 0 0 Q ↔ Q (.inl (some (.int x))) w n := E_reti ok_X2_wantedLadle (show decode (mB 78) 57 = .ok (.ireturn, 1) by decide +kernel) (by decide +kernel)
theorem ok_X2_isFree : okP 79 = true := by decide +kernel
theorem X2_isFree_0 : Ev X 79 0 [some (.ref a), l1] (st) w n 0 0 Q ↔ Ev X 79 1 [some (.ref a), l1] (.ref a :: st) w n 0 0 Q := E_p ok_X2_isFree (show decode (mB 79) 0 = .ok (.aload_n 0, 1) by decide +kernel) rfl rfl
theorem X2_isFree_1 : Ev X 79 1 [l0, some (.int x)] (st) w n 0 0 Q ↔ Ev X 79 2 [l0, some (.int x)] (.int x :: st) w n 0 0 Q := E_p ok_X2_isFree (show decode (mB 79) 1 = .ok (.iload_n 1, 1) by decide +kernel) rfl rfl
theorem X2_isFree_2 (h : hasc w a 2 = true) : Ev X 79 2 [l0, l1] (.int y0 :: .ref a :: []) w n 0 0 Q ↔ Ev X 37 0 [some (.ref a), some (.int y0)] [] w n 0 0 (Kr X 79 5 [l0, l1] ([]) 0 0 Q) := E_cv ok_X2_isFree (show decode (mB 79) 2 = .ok (.invokevirtual 102, 3) by decide +kernel) (by decide +kernel) (by decide +kernel) (by decide +kernel) (k := 1) (vs := [.int y0]) rfl ((rc_Table (M2 := 37) (by decide +kernel) (by decide +kernel)).trans h) (by simp only [List.length_cons, List.length_nil]; decide) (by simp only [List.length_cons, List.length_nil]; decide +kernel) (ent_eq (k := 0) (by simp only [List.length_cons, List.length_nil]; decide +kernel)) (by decide +kernel) (by decide +kernel)
theorem X2_isFree_5 : Ev X 79 5 [l0, l1] (.int x :: st) w n 0 0 Q ↔ if x = 0 then Ev X 79 22 [l0, l1] (st) w n 0 0 Q else Ev X 79 8 [l0, l1] (st) w n 0 0 Q := E_ifeq ok_X2_isFree (show decode (mB 79) 5 = .ok (.ifCond .eq 17, 3) by decide +kernel) rfl
theorem X2_isFree_8 : Ev X 79 8 [some (.ref a), l1] (st) w n 0 0 Q ↔ Ev X 79 9 [some (.ref a), l1] (.ref a :: st) w n 0 0 Q := E_p ok_X2_isFree (show decode (mB 79) 8 = .ok (.aload_n 0, 1) by decide +kernel) rfl rfl
theorem X2_isFree_9 : Ev X 79 9 [l0, l1] (.ref a :: st) w n 0 0 Q ↔ ∃ v, gf w a 2 1 = some v ∧ Ev X 79 12 [l0, l1] (v :: st) w n 0 0 Q := E_getf ok_X2_isFree (by decide +kernel) (show decode (mB 79) 9 = .ok (.getfield 17, 3) by decide +kernel) (by decide +kernel)
theorem X2_isFree_12 : Ev X 79 12 [l0, some (.int x)] (st) w n 0 0 Q ↔ Ev X 79 13 [l0, some (.int x)] (.int x :: st) w n 0 0 Q := E_p ok_X2_isFree (show decode (mB 79) 12 = .ok (.iload_n 1, 1) by decide +kernel) rfl rfl
theorem X2_isFree_13 : Ev X 79 13 [l0, l1] (.int x :: .ref a :: st) w n 0 0 Q ↔ ∃ v, ga w a 0 x = some v ∧ Ev X 79 14 [l0, l1] (v :: st) w n 0 0 Q := E_iald ok_X2_isFree (by decide +kernel) (show decode (mB 79) 13 = .ok (.iaload, 1) by decide +kernel)
theorem X2_isFree_14 : Ev X 79 14 [l0, l1] (st) w n 0 0 Q ↔ Ev X 79 15 [l0, l1] (.int (-1) :: st) w n 0 0 Q := E_iconst ok_X2_isFree (show decode (mB 79) 14 = .ok (.iconst (-1), 1) by decide +kernel) (by decide)
theorem X2_isFree_15 : Ev X 79 15 [l0, l1] (.int y :: .int x :: st) w n 0 0 Q ↔ if x = y then Ev X 79 18 [l0, l1] (st) w n 0 0 Q else Ev X 79 22 [l0, l1] (st) w n 0 0 Q := E_icne ok_X2_isFree (show decode (mB 79) 15 = .ok (.if_icmp .ne 7, 3) by decide +kernel) rfl
theorem X2_isFree_18 : Ev X 79 18 [l0, l1] (st) w n 0 0 Q ↔ Ev X 79 19 [l0, l1] (.int (1) :: st) w n 0 0 Q := E_iconst ok_X2_isFree (show decode (mB 79) 18 = .ok (.iconst 1, 1) by decide +kernel) (by decide)
theorem X2_isFree_19 : Ev X 79 19 [l0, l1] (st) w n 0 0 Q ↔ Ev X 79 23 [l0, l1] (st) w n 0 0 Q := E_goto ok_X2_isFree (show decode (mB 79) 19 = .ok (.goto 4, 3) by decide +kernel) rfl
theorem X2_isFree_22 : Ev X 79 22 [l0, l1] (st) w n 0 0 Q ↔ Ev X 79 23 [l0, l1] (.int (0) :: st) w n 0 0 Q := E_iconst ok_X2_isFree (show decode (mB 79) 22 = .ok (.iconst 0, 1) by decide +kernel) (by decide)
theorem X2_isFree_23 (h : okr (some .boolean) x = true) : Ev X 79 23 [l0, l1] ([.int x]) w n 0 0 Q ↔ Q (.inl (some (.int x))) w n := E_retz ok_X2_isFree (show decode (mB 79) 23 = .ok (.ireturn, 1) by decide +kernel) (by decide +kernel) h
theorem ok_X1_beginToEat : okP 80 = true := by decide +kernel
theorem X1_beginToEat_0 : Ev X 80 0 [some (.ref a)] (st) w n 0 0 Q ↔ Ev X 80 1 [some (.ref a)] (.ref a :: st) w n 0 0 Q := E_p ok_X1_beginToEat (show decode (mB 80) 0 = .ok (.aload_n 0, 1) by decide +kernel) rfl rfl
theorem X1_beginToEat_1 : Ev X 80 1 [l0] (st) w n 0 0 Q ↔ Ev X 80 2 [l0] (.int (4) :: st) w n 0 0 Q := E_iconst ok_X1_beginToEat (show decode (mB 80) 1 = .ok (.iconst 4, 1) by decide +kernel) (by decide)
theorem X1_beginToEat_2 : Ev X 80 2 [l0] (.int x :: .ref a :: st) w n 0 0 Q ↔ ∃ w2, pf w a 1 3 (.int x) = some w2 ∧ Ev X 80 5 [l0] (st) w2 n 0 0 Q := E_putf ok_X1_beginToEat rfl (show decode (mB 80) 2 = .ok (.putfield 36, 3) by decide +kernel) (by decide +kernel) (by decide +kernel)
theorem X1_beginToEat_5 : Ev X 80 5 [some (.ref a)] (st) w n 0 0 Q ↔ Ev X 80 6 [some (.ref a)] (.ref a :: st) w n 0 0 Q := E_p ok_X1_beginToEat (show decode (mB 80) 5 = .ok (.aload_n 0, 1) by decide +kernel) rfl rfl
theorem X1_beginToEat_6 : Ev X 80 6 [some (.ref a)] (st) w n 0 0 Q ↔ Ev X 80 7 [some (.ref a)] (.ref a :: st) w n 0 0 Q := E_p ok_X1_beginToEat (show decode (mB 80) 6 = .ok (.aload_n 0, 1) by decide +kernel) rfl rfl
theorem X1_beginToEat_7 : Ev X 80 7 [l0] (.ref a :: st) w n 0 0 Q ↔ ∃ v, gf w a 1 2 = some v ∧ Ev X 80 10 [l0] (v :: st) w n 0 0 Q := E_getf ok_X1_beginToEat (by decide +kernel) (show decode (mB 80) 7 = .ok (.getfield 18, 3) by decide +kernel) (by decide +kernel)
theorem X1_beginToEat_10 : Ev X 80 10 [l0] (.int x :: .ref a :: st) w n 0 0 Q ↔ ∃ w2, pf w a 1 4 (.int x) = some w2 ∧ Ev X 80 13 [l0] (st) w2 n 0 0 Q := E_putf ok_X1_beginToEat rfl (show decode (mB 80) 10 = .ok (.putfield 39, 3) by decide +kernel) (by decide +kernel) (by decide +kernel)
theorem X1_beginToEat_13 : Ev X 80 13 [some (.ref a)] (st) w n 0 0 Q ↔ Ev X 80 14 [some (.ref a)] (.ref a :: st) w n 0 0 Q := E_p ok_X1_beginToEat (show decode (mB 80) 13 = .ok (.aload_n 0, 1) by decide +kernel) rfl rfl
theorem X1_beginToEat_14 : Ev X 80 14 [l0] (st) w n 0 0 Q ↔ Ev X 80 15 [l0] (.int (0) :: st) w n 0 0 Q := E_iconst ok_X1_beginToEat (show decode (mB 80) 14 = .ok (.iconst 0, 1) by decide +kernel) (by decide)
theorem X1_beginToEat_15 : Ev X 80 15 [l0] (.int x :: .ref a :: st) w n 0 0 Q ↔ ∃ w2, pf w a 1 7 (.int x) = some w2 ∧ Ev X 80 18 [l0] (st) w2 n 0 0 Q := E_putf ok_X1_beginToEat rfl (show decode (mB 80) 15 = .ok (.putfield 27, 3) by decide +kernel) (by decide +kernel) (by decide +kernel)
theorem X1_beginToEat_18 : Ev X 80 18 [l0] ([]) w n 0 0 Q ↔ Q (.inl none) w n := E_retv ok_X1_beginToEat (show decode (mB 80) 18 = .ok (.return_, 1) by decide +kernel) (by decide +kernel)
theorem ok_X2_takeLadles : okP 81 = true := by decide +kernel
theorem X2_takeLadles_0 : Ev X 81 0 [some (.ref a), l1, l2, l3, l4] (st) w n 0 0 Q ↔ Ev X 81 1 [some (.ref a), l1, l2, l3, l4] (.ref a :: st) w n 0 0 Q := E_p ok_X2_takeLadles (show decode (mB 81) 0 = .ok (.aload_n 0, 1) by decide +kernel) rfl rfl
theorem X2_takeLadles_1 : Ev X 81 1 [l0, l1, l2, l3, l4] (.ref a :: st) w n 0 0 Q ↔ ∃ v, gf w a 2 0 = some v ∧ Ev X 81 4 [l0, l1, l2, l3, l4] (v :: st) w n 0 0 Q := E_getf ok_X2_takeLadles (by decide +kernel) (show decode (mB 81) 1 = .ok (.getfield 11, 3) by decide +kernel) (by decide +kernel)
theorem X2_takeLadles_4 : Ev X 81 4 [l0, some (.int x), l2, l3, l4] (st) w n 0 0 Q ↔ Ev X 81 5 [l0, some (.int x), l2, l3, l4] (.int x :: st) w n 0 0 Q := E_p ok_X2_takeLadles (show decode (mB 81) 4 = .ok (.iload_n 1, 1) by decide +kernel) rfl rfl
theorem X2_takeLadles_5 : Ev X 81 5 [l0, l1, l2, l3, l4] (.int x :: .ref a :: st) w n 0 0 Q ↔ ∃ v, (ga w a 4 x).or (ga w a 5 x) = some v ∧ Ev X 81 6 [l0, l1, l2, l3, l4] (v :: st) w n 0 0 Q := E_aald ok_X2_takeLadles (show decode (mB 81) 5 = .ok (.aaload, 1) by decide +kernel)
theorem X2_takeLadles_6 : Ev X 81 6 [l0, l1, l2, l3, l4] (.ref a :: st) w n 0 0 Q ↔ Ev X 81 7 [l0, l1, some (.ref a), l3, l4] (st) w n 0 0 Q := E_p ok_X2_takeLadles (show decode (mB 81) 6 = .ok (.astore_n 2, 1) by decide +kernel) rfl rfl
theorem X2_takeLadles_7 : Ev X 81 7 [some (.ref a), l1, l2, l3, l4] (st) w n 0 0 Q ↔ Ev X 81 8 [some (.ref a), l1, l2, l3, l4] (.ref a :: st) w n 0 0 Q := E_p ok_X2_takeLadles (show decode (mB 81) 7 = .ok (.aload_n 0, 1) by decide +kernel) rfl rfl
theorem X2_takeLadles_8 : Ev X 81 8 [l0, some (.int x), l2, l3, l4] (st) w n 0 0 Q ↔ Ev X 81 9 [l0, some (.int x), l2, l3, l4] (.int x :: st) w n 0 0 Q := E_p ok_X2_takeLadles (show decode (mB 81) 8 = .ok (.iload_n 1, 1) by decide +kernel) rfl rfl
theorem X2_takeLadles_9 (h : hasc w a 2 = true) : Ev X 81 9 [l0, l1, l2, l3, l4] (.int y0 :: .ref a :: []) w n 0 0 Q ↔ Ev X 78 0 [some (.ref a), some (.int y0), none] [] w n 0 0 (Kr X 81 12 [l0, l1, l2, l3, l4] ([]) 0 0 Q) := E_cv ok_X2_takeLadles (show decode (mB 81) 9 = .ok (.invokevirtual 160, 3) by decide +kernel) (by decide +kernel) (by decide +kernel) (by decide +kernel) (k := 1) (vs := [.int y0]) rfl ((rc_Table (M2 := 78) (by decide +kernel) (by decide +kernel)).trans h) (by simp only [List.length_cons, List.length_nil]; decide) (by simp only [List.length_cons, List.length_nil]; decide +kernel) (ent_eq (k := 1) (by simp only [List.length_cons, List.length_nil]; decide +kernel)) (by decide +kernel) (by decide +kernel)
theorem X2_takeLadles_12 : Ev X 81 12 [l0, l1, l2, l3, l4] (.int x :: st) w n 0 0 Q ↔ Ev X 81 13 [l0, l1, l2, some (.int x), l4] (st) w n 0 0 Q := E_p ok_X2_takeLadles (show decode (mB 81) 12 = .ok (.istore_n 3, 1) by decide +kernel) rfl rfl
theorem X2_takeLadles_13 : Ev X 81 13 [l0, l1, some (.ref a), l3, l4] (st) w n 0 0 Q ↔ Ev X 81 14 [l0, l1, some (.ref a), l3, l4] (.ref a :: st) w n 0 0 Q := E_p ok_X2_takeLadles (show decode (mB 81) 13 = .ok (.aload_n 2, 1) by decide +kernel) rfl rfl
theorem X2_takeLadles_14 : Ev X 81 14 [l0, l1, l2, l3, l4] (.ref a :: st) w n 0 0 Q ↔ ∃ v, gf w a 1 3 = some v ∧ Ev X 81 17 [l0, l1, l2, l3, l4] (v :: st) w n 0 0 Q := E_getf ok_X2_takeLadles (by decide +kernel) (show decode (mB 81) 14 = .ok (.getfield 108, 3) by decide +kernel) (by decide +kernel)
theorem X2_takeLadles_17 : Ev X 81 17 [l0, l1, l2, l3, l4] (st) w n 0 0 Q ↔ Ev X 81 18 [l0, l1, l2, l3, l4] (.int (2) :: st) w n 0 0 Q := E_iconst ok_X2_takeLadles (show decode (mB 81) 17 = .ok (.iconst 2, 1) by decide +kernel) (by decide)
theorem X2_takeLadles_18 : Ev X 81 18 [l0, l1, l2, l3, l4] (.int y :: .int x :: st) w n 0 0 Q ↔ if x = y then Ev X 81 21 [l0, l1, l2, l3, l4] (st) w n 0 0 Q else Ev X 81 41 [l0, l1, l2, l3, l4] (st) w n 0 0 Q := E_icne ok_X2_takeLadles (show decode (mB 81) 18 = .ok (.if_icmp .ne 23, 3) by decide +kernel) rfl
theorem X2_takeLadles_21 : Ev X 81 21 [some (.ref a), l1, l2, l3, l4] (st) w n 0 0 Q ↔ Ev X 81 22 [some (.ref a), l1, l2, l3, l4] (.ref a :: st) w n 0 0 Q := E_p ok_X2_takeLadles (show decode (mB 81) 21 = .ok (.aload_n 0, 1) by decide +kernel) rfl rfl
theorem X2_takeLadles_22 : Ev X 81 22 [l0, l1, l2, some (.int x), l4] (st) w n 0 0 Q ↔ Ev X 81 23 [l0, l1, l2, some (.int x), l4] (.int x :: st) w n 0 0 Q := E_p ok_X2_takeLadles (show decode (mB 81) 22 = .ok (.iload_n 3, 1) by decide +kernel) rfl rfl
theorem X2_takeLadles_23 (h : hasc w a 2 = true) : Ev X 81 23 [l0, l1, l2, l3, l4] (.int y0 :: .ref a :: []) w n 0 0 Q ↔ Ev X 79 0 [some (.ref a), some (.int y0)] [] w n 0 0 (Kr X 81 26 [l0, l1, l2, l3, l4] ([]) 0 0 Q) := E_cv ok_X2_takeLadles (show decode (mB 81) 23 = .ok (.invokevirtual 163, 3) by decide +kernel) (by decide +kernel) (by decide +kernel) (by decide +kernel) (k := 1) (vs := [.int y0]) rfl ((rc_Table (M2 := 79) (by decide +kernel) (by decide +kernel)).trans h) (by simp only [List.length_cons, List.length_nil]; decide) (by simp only [List.length_cons, List.length_nil]; decide +kernel) (ent_eq (k := 0) (by simp only [List.length_cons, List.length_nil]; decide +kernel)) (by decide +kernel) (by decide +kernel)
theorem X2_takeLadles_26 : Ev X 81 26 [l0, l1, l2, l3, l4] (.int x :: st) w n 0 0 Q ↔ if x = 0 then Ev X 81 41 [l0, l1, l2, l3, l4] (st) w n 0 0 Q else Ev X 81 29 [l0, l1, l2, l3, l4] (st) w n 0 0 Q := E_ifeq ok_X2_takeLadles (show decode (mB 81) 26 = .ok (.ifCond .eq 15, 3) by decide +kernel) rfl
theorem X2_takeLadles_29 : Ev X 81 29 [some (.ref a), l1, l2, l3, l4] (st) w n 0 0 Q ↔ Ev X 81 30 [some (.ref a), l1, l2, l3, l4] (.ref a :: st) w n 0 0 Q := E_p ok_X2_takeLadles (show decode (mB 81) 29 = .ok (.aload_n 0, 1) by decide +kernel) rfl rfl
theorem X2_takeLadles_30 : Ev X 81 30 [l0, l1, l2, l3, l4] (.ref a :: st) w n 0 0 Q ↔ ∃ v, gf w a 2 1 = some v ∧ Ev X 81 33 [l0, l1, l2, l3, l4] (v :: st) w n 0 0 Q := E_getf ok_X2_takeLadles (by decide +kernel) (show decode (mB 81) 30 = .ok (.getfield 17, 3) by decide +kernel) (by decide +kernel)
theorem X2_takeLadles_33 : Ev X 81 33 [l0, l1, l2, some (.int x), l4] (st) w n 0 0 Q ↔ Ev X 81 34 [l0, l1, l2, some (.int x), l4] (.int x :: st) w n 0 0 Q := E_p ok_X2_takeLadles (show decode (mB 81) 33 = .ok (.iload_n 3, 1) by decide +kernel) rfl rfl
theorem X2_takeLadles_34 : Ev X 81 34 [l0, some (.int x), l2, l3, l4] (st) w n 0 0 Q ↔ Ev X 81 35 [l0, some (.int x), l2, l3, l4] (.int x :: st) w n 0 0 Q := E_p ok_X2_takeLadles (show decode (mB 81) 34 = .ok (.iload_n 1, 1) by decide +kernel) rfl rfl
theorem X2_takeLadles_35 : Ev X 81 35 [l0, l1, l2, l3, l4] (.int y :: .int x :: .ref a :: st) w n 0 0 Q ↔ ∃ w2, sa w a 0 x (.int y) = some w2 ∧ Ev X 81 36 [l0, l1, l2, l3, l4] (st) w2 n 0 0 Q := E_iast ok_X2_takeLadles (show decode (mB 81) 35 = .ok (.iastore, 1) by decide +kernel)
theorem X2_takeLadles_36 : Ev X 81 36 [l0, l1, some (.ref a), l3, l4] (st) w n 0 0 Q ↔ Ev X 81 37 [l0, l1, some (.ref a), l3, l4] (.ref a :: st) w n 0 0 Q := E_p ok_X2_takeLadles (show decode (mB 81) 36 = .ok (.aload_n 2, 1) by decide +kernel) rfl rfl
theorem X2_takeLadles_37 : Ev X 81 37 [l0, l1, l2, l3, l4] (st) w n 0 0 Q ↔ Ev X 81 38 [l0, l1, l2, l3, l4] (.int (3) :: st) w n 0 0 Q := E_iconst ok_X2_takeLadles (show decode (mB 81) 37 = .ok (.iconst 3, 1) by decide +kernel) (by decide)
theorem X2_takeLadles_38 : Ev X 81 38 [l0, l1, l2, l3, l4] (.int x :: .ref a :: st) w n 0 0 Q ↔ ∃ w2, pf w a 1 3 (.int x) = some w2 ∧ Ev X 81 41 [l0, l1, l2, l3, l4] (st) w2 n 0 0 Q := E_putf ok_X2_takeLadles rfl (show decode (mB 81) 38 = .ok (.putfield 108, 3) by decide +kernel) (by decide +kernel) (by decide +kernel)
theorem X2_takeLadles_41 : Ev X 81 41 [some (.ref a), l1, l2, l3, l4] (st) w n 0 0 Q ↔ Ev X 81 42 [some (.ref a), l1, l2, l3, l4] (.ref a :: st) w n 0 0 Q := E_p ok_X2_takeLadles (show decode (mB 81) 41 = .ok (.aload_n 0, 1) by decide +kernel) rfl rfl
theorem X2_takeLadles_42 : Ev X 81 42 [l0, some (.int x), l2, l3, l4] (st) w n 0 0 Q ↔ Ev X 81 43 [l0, some (.int x), l2, l3, l4] (.int x :: st) w n 0 0 Q := E_p ok_X2_takeLadles (show decode (mB 81) 42 = .ok (.iload_n 1, 1) by decide +kernel) rfl rfl
theorem X2_takeLadles_43 (h : hasc w a 2 = true) : Ev X 81 43 [l0, l1, l2, l3, l4] (.int y0 :: .ref a :: []) w n 0 0 Q ↔ Ev X 78 0 [some (.ref a), some (.int y0), none] [] w n 0 0 (Kr X 81 46 [l0, l1, l2, l3, l4] ([]) 0 0 Q) := E_cv ok_X2_takeLadles (show decode (mB 81) 43 = .ok (.invokevirtual 160, 3) by decide +kernel) (by decide +kernel) (by decide +kernel) (by decide +kernel) (k := 1) (vs := [.int y0]) rfl ((rc_Table (M2 := 78) (by decide +kernel) (by decide +kernel)).trans h) (by simp only [List.length_cons, List.length_nil]; decide) (by simp only [List.length_cons, List.length_nil]; decide +kernel) (ent_eq (k := 1) (by simp only [List.length_cons, List.length_nil]; decide +kernel)) (by decide +kernel) (by decide +kernel)
theorem X2_takeLadles_46 : Ev X 81 46 [l0, l1, l2, l3, l4] (.int x :: st) w n 0 0 Q ↔ Ev X 81 48 [l0, l1, l2, l3, some (.int x)] (st) w n 0 0 Q := E_p ok_X2_takeLadles (show decode (mB 81) 46 = .ok (.istore 4, 2) by decide +kernel) rfl rfl
theorem X2_takeLadles_48 : Ev X 81 48 [l0, l1, some (.ref a), l3, l4] (st) w n 0 0 Q ↔ Ev X 81 49 [l0, l1, some (.ref a), l3, l4] (.ref a :: st) w n 0 0 Q := E_p ok_X2_takeLadles (show decode (mB 81) 48 = .ok (.aload_n 2, 1) by decide +kernel) rfl rfl
theorem X2_takeLadles_49 : Ev X 81 49 [l0, l1, l2, l3, l4] (.ref a :: st) w n 0 0 Q ↔ ∃ v, gf w a 1 3 = some v ∧ Ev X 81 52 [l0, l1, l2, l3, l4] (v :: st) w n 0 0 Q := E_getf ok_X2_takeLadles (by decide +kernel) (show decode (mB 81) 49 = .ok (.getfield 108, 3) by decide +kernel) (by decide +kernel)
theorem X2_takeLadles_52 : Ev X 81 52 [l0, l1, l2, l3, l4] (st) w n 0 0 Q ↔ Ev X 81 53 [l0, l1, l2, l3, l4] (.int (3) :: st) w n 0 0 Q := E_iconst ok_X2_takeLadles (show decode (mB 81) 52 = .ok (.iconst 3, 1) by decide +kernel) (by decide)
theorem X2_takeLadles_53 : Ev X 81 53 [l0, l1, l2, l3, l4] (.int y :: .int x :: st) w n 0 0 Q ↔ if x = y then Ev X 81 56 [l0, l1, l2, l3, l4] (st) w n 0 0 Q else Ev X 81 104 [l0, l1, l2, l3, l4] (st) w n 0 0 Q := E_icne ok_X2_takeLadles (show decode (mB 81) 53 = .ok (.if_icmp .ne 51, 3) by decide +kernel) rfl
theorem X2_takeLadles_56 : Ev X 81 56 [some (.ref a), l1, l2, l3, l4] (st) w n 0 0 Q ↔ Ev X 81 57 [some (.ref a), l1, l2, l3, l4] (.ref a :: st) w n 0 0 Q := E_p ok_X2_takeLadles (show decode (mB 81) 56 = .ok (.aload_n 0, 1) by decide +kernel) rfl rfl
theorem X2_takeLadles_57 : Ev X 81 57 [l0, l1, l2, l3, some (.int x)] (st) w n 0 0 Q ↔ Ev X 81 59 [l0, l1, l2, l3, some (.int x)] (.int x :: st) w n 0 0 Q := E_p ok_X2_takeLadles (show decode (mB 81) 57 = .ok (.iload 4, 2) by decide +kernel) rfl rfl
theorem X2_takeLadles_59 (h : hasc w a 2 = true) : Ev X 81 59 [l0, l1, l2, l3, l4] (.int y0 :: .ref a :: []) w n 0 0 Q ↔ Ev X 79 0 [some (.ref a), some (.int y0)] [] w n 0 0 (Kr X 81 62 [l0, l1, l2, l3, l4] ([]) 0 0 Q) := E_cv ok_X2_takeLadles (show decode (mB 81) 59 = .ok (.invokevirtual 163, 3) by decide +kernel) (by decide +kernel) (by decide +kernel) (by decide +kernel) (k := 1) (vs := [.int y0]) rfl ((rc_Table (M2 := 79) (by decide +kernel) (by decide +kernel)).trans h) (by simp only [List.length_cons, List.length_nil]; decide) (by simp only [List.length_cons, List.length_nil]; decide +kernel) (ent_eq (k := 0) (by simp only [List.length_cons, List.length_nil]; decide +kernel)) (by decide +kernel) (by decide +kernel)
theorem X2_takeLadles_62 : Ev X 81 62 [l0, l1, l2, l3, l4] (.int x :: st) w n 0 0 Q ↔ if x = 0 then Ev X 81 104 [l0, l1, l2, l3, l4] (st) w n 0 0 Q else Ev X 81 65 [l0, l1, l2, l3, l4] (st) w n 0 0 Q := E_ifeq ok_X2_takeLadles (show decode (mB 81) 62 = .ok (.ifCond .eq 42, 3) by decide +kernel) rfl
theorem X2_takeLadles_65 : Ev X 81 65 [some (.ref a), l1, l2, l3, l4] (st) w n 0 0 Q ↔ Ev X 81 66 [some (.ref a), l1, l2, l3, l4] (.ref a :: st) w n 0 0 Q := E_p ok_X2_takeLadles (show decode (mB 81) 65 = .ok (.aload_n 0, 1) by decide +kernel) rfl rfl
theorem X2_takeLadles_66 : Ev X 81 66 [l0, l1, l2, l3, l4] (.ref a :: st) w n 0 0 Q ↔ ∃ v, gf w a 2 4 = some v ∧ Ev X 81 69 [l0, l1, l2, l3, l4] (v :: st) w n 0 0 Q := E_getf ok_X2_takeLadles (by decide +kernel) (show decode (mB 81) 66 = .ok (.getfield 25, 3) by decide +kernel) (by decide +kernel)
theorem X2_takeLadles_69 : Ev X 81 69 [l0, l1, l2, l3, l4] (.int x :: st) w n 0 0 Q ↔ if 0 < x then Ev X 81 72 [l0, l1, l2, l3, l4] (st) w n 0 0 Q else Ev X 81 104 [l0, l1, l2, l3, l4] (st) w n 0 0 Q := E_ifle ok_X2_takeLadles (show decode (mB 81) 69 = .ok (.ifCond .le 35, 3) by decide +kernel) rfl
theorem X2_takeLadles_72 : Ev X 81 72 [some (.ref a), l1, l2, l3, l4] (st) w n 0 0 Q ↔ Ev X 81 73 [some (.ref a), l1, l2, l3, l4] (.ref a :: st) w n 0 0 Q := E_p ok_X2_takeLadles (show decode (mB 81) 72 = .ok (.aload_n 0, 1) by decide +kernel) rfl rfl
theorem X2_takeLadles_73 : Ev X 81 73 [l0, l1, l2, l3, l4] (.ref a :: st) w n 0 0 Q ↔ ∃ v, gf w a 2 1 = some v ∧ Ev X 81 76 [l0, l1, l2, l3, l4] (v :: st) w n 0 0 Q := E_getf ok_X2_takeLadles (by decide +kernel) (show decode (mB 81) 73 = .ok (.getfield 17, 3) by decide +kernel) (by decide +kernel)
theorem X2_takeLadles_76 : Ev X 81 76 [l0, l1, l2, l3, some (.int x)] (st) w n 0 0 Q ↔ Ev X 81 78 [l0, l1, l2, l3, some (.int x)] (.int x :: st) w n 0 0 Q := E_p ok_X2_takeLadles (show decode (mB 81) 76 = .ok (.iload 4, 2) by decide +kernel) rfl rfl
theorem X2_takeLadles_78 : Ev X 81 78 [l0, some (.int x), l2, l3, l4] (st) w n 0 0 Q ↔ Ev X 81 79 [l0, some (.int x), l2, l3, l4] (.int x :: st) w n 0 0 Q := E_p ok_X2_takeLadles (show decode (mB 81) 78 = .ok (.iload_n 1, 1) by decide +kernel) rfl rfl
theorem X2_takeLadles_79 : Ev X 81 79 [l0, l1, l2, l3, l4] (.int y :: .int x :: .ref a :: st) w n 0 0 Q ↔ ∃ w2, sa w a 0 x (.int y) = some w2 ∧ Ev X 81 80 [l0, l1, l2, l3, l4] (st) w2 n 0 0 Q := E_iast ok_X2_takeLadles (show decode (mB 81) 79 = .ok (.iastore, 1) by decide +kernel)
theorem X2_takeLadles_80 : Ev X 81 80 [some (.ref a), l1, l2, l3, l4] (st) w n 0 0 Q ↔ Ev X 81 81 [some (.ref a), l1, l2, l3, l4] (.ref a :: st) w n 0 0 Q := E_p ok_X2_takeLadles (show decode (mB 81) 80 = .ok (.aload_n 0, 1) by decide +kernel) rfl rfl
theorem X2_takeLadles_81 : Ev X 81 81 [l0, l1, l2, l3, l4] (.ref a :: st) w n 0 0 Q ↔ Ev X 81 82 [l0, l1, l2, l3, l4] (.ref a :: .ref a :: st) w n 0 0 Q := E_p ok_X2_takeLadles (show decode (mB 81) 81 = .ok (.dup, 1) by decide +kernel) rfl rfl
theorem X2_takeLadles_82 : Ev X 81 82 [l0, l1, l2, l3, l4] (.ref a :: st) w n 0 0 Q ↔ ∃ v, gf w a 2 4 = some v ∧ Ev X 81 85 [l0, l1, l2, l3, l4] (v :: st) w n 0 0 Q := E_getf ok_X2_takeLadles (by decide +kernel) (show decode (mB 81) 82 = .ok (.getfield 25, 3) by decide +kernel) (by decide +kernel)
theorem X2_takeLadles_85 : Ev X 81 85 [l0, l1, l2, l3, l4] (st) w n 0 0 Q ↔ Ev X 81 86 [l0, l1, l2, l3, l4] (.int (1) :: st) w n 0 0 Q := E_iconst ok_X2_takeLadles (show decode (mB 81) 85 = .ok (.iconst 1, 1) by decide +kernel) (by decide)
theorem X2_takeLadles_86 : Ev X 81 86 [l0, l1, l2, l3, l4] (.int y :: .int x :: st) w n 0 0 Q ↔ Ev X 81 87 [l0, l1, l2, l3, l4] (.int (x - y) :: st) w n 0 0 Q := E_p ok_X2_takeLadles (show decode (mB 81) 86 = .ok (.isub, 1) by decide +kernel) rfl rfl
theorem X2_takeLadles_87 : Ev X 81 87 [l0, l1, l2, l3, l4] (.int x :: .ref a :: st) w n 0 0 Q ↔ ∃ w2, pf w a 2 4 (.int x) = some w2 ∧ Ev X 81 90 [l0, l1, l2, l3, l4] (st) w2 n 0 0 Q := E_putf ok_X2_takeLadles rfl (show decode (mB 81) 87 = .ok (.putfield 25, 3) by decide +kernel) (by decide +kernel) (by decide +kernel)
theorem X2_takeLadles_90 : Ev X 81 90 [some (.ref a), l1, l2, l3, l4] (st) w n 0 0 Q ↔ Ev X 81 91 [some (.ref a), l1, l2, l3, l4] (.ref a :: st) w n 0 0 Q := E_p ok_X2_takeLadles (show decode (mB 81) 90 = .ok (.aload_n 0, 1) by decide +kernel) rfl rfl
theorem X2_takeLadles_91 : Ev X 81 91 [l0, l1, l2, l3, l4] (.ref a :: st) w n 0 0 Q ↔ Ev X 81 92 [l0, l1, l2, l3, l4] (.ref a :: .ref a :: st) w n 0 0 Q := E_p ok_X2_takeLadles (show decode (mB 81) 91 = .ok (.dup, 1) by decide +kernel) rfl rfl
theorem X2_takeLadles_92 : Ev X 81 92 [l0, l1, l2, l3, l4] (.ref a :: st) w n 0 0 Q ↔ ∃ v, gf w a 2 6 = some v ∧ Ev X 81 95 [l0, l1, l2, l3, l4] (v :: st) w n 0 0 Q := E_getf ok_X2_takeLadles (by decide +kernel) (show decode (mB 81) 92 = .ok (.getfield 39, 3) by decide +kernel) (by decide +kernel)
theorem X2_takeLadles_95 : Ev X 81 95 [l0, l1, l2, l3, l4] (st) w n 0 0 Q ↔ Ev X 81 96 [l0, l1, l2, l3, l4] (.int (1) :: st) w n 0 0 Q := E_iconst ok_X2_takeLadles (show decode (mB 81) 95 = .ok (.iconst 1, 1) by decide +kernel) (by decide)
theorem X2_takeLadles_96 : Ev X 81 96 [l0, l1, l2, l3, l4] (.int y :: .int x :: st) w n 0 0 Q ↔ Ev X 81 97 [l0, l1, l2, l3, l4] (.int (x + y) :: st) w n 0 0 Q := E_p ok_X2_takeLadles (show decode (mB 81) 96 = .ok (.iadd, 1) by decide +kernel) rfl rfl
theorem X2_takeLadles_97 : Ev X 81 97 [l0, l1, l2, l3, l4] (.int x :: .ref a :: st) w n 0 0 Q ↔ ∃ w2, pf w a 2 6 (.int x) = some w2 ∧ Ev X 81 100 [l0, l1, l2, l3, l4] (st) w2 n 0 0 Q := E_putf ok_X2_takeLadles rfl (show decode (mB 81) 97 = .ok (.putfield 39, 3) by decide +kernel) (by decide +kernel) (by decide +kernel)
theorem X2_takeLadles_100 : Ev X 81 100 [l0, l1, some (.ref a), l3, l4] (st) w n 0 0 Q ↔ Ev X 81 101 [l0, l1, some (.ref a), l3, l4] (.ref a :: st) w n 0 0 Q := E_p ok_X2_takeLadles (show decode (mB 81) 100 = .ok (.aload_n 2, 1) by decide +kernel) rfl rfl
theorem X2_takeLadles_101 (h : hasc w a 1 = true) : Ev X 81 101 [l0, l1, l2, l3, l4] (.ref a :: []) w n 0 0 Q ↔ Ev X 80 0 [some (.ref a)] [] w n 0 0 (Kr X 81 104 [l0, l1, l2, l3, l4] ([]) 0 0 Q) := E_cv ok_X2_takeLadles (show decode (mB 81) 101 = .ok (.invokevirtual 166, 3) by decide +kernel) (by decide +kernel) (by decide +kernel) (by decide +kernel) (k := 0) (vs := []) rfl ((rc_Seat (M2 := 80) (by decide +kernel) (by decide +kernel)).trans h) (by simp only [List.length_cons, List.length_nil]; decide) (by simp only [List.length_cons, List.length_nil]; decide +kernel) (ent_eq (k := 0) (by simp only [List.length_cons, List.length_nil]; decide +kernel)) (by decide +kernel) (by decide +kernel)
theorem X2_takeLadles_104 : Ev X 81 104 [l0, l1, l2, l3, l4] ([]) w n 0 0 Q ↔ Q (.inl none) w n := E_retv ok_X2_takeLadles (show decode (mB 81) 104 = .ok (.return_, 1) by decide +kernel) (by decide +kernel)
theorem ok_X1_waitIfHungry : okP 82 = true := by decide +kernel
theorem X1_waitIfHungry_0 : Ev X 82 0 [some (.ref a)] (st) w n 0 0 Q ↔ Ev X 82 1 [some (.ref a)] (.ref a :: st) w n 0 0 Q := E_p ok_X1_waitIfHungry (show decode (mB 82) 0 = .ok (.aload_n 0, 1) by decide +kernel) rfl rfl
theorem X1_waitIfHungry_1 : Ev X 82 1 [l0] (.ref a :: st) w n 0 0 Q ↔ ∃ v, gf w a 1 3 = some v ∧ Ev X 82 4 [l0] (v :: st) w n 0 0 Q := E_getf ok_X1_waitIfHungry (by decide +kernel) (show decode (mB 82) 1 = .ok (.getfield 36, 3) by decide +kernel) (by decide +kernel)
theorem X1_waitIfHungry_4 : Ev X 82 4 [l0] (.int x :: st) w n 0 0 Q ↔ if x = 0 then Ev X 82 15 [l0] (st) w n 0 0 Q else Ev X 82 7 [l0] (st) w n 0 0 Q := E_ifeq ok_X1_waitIfHungry (show decode (mB 82) 4 = .ok (.ifCond .eq 11, 3) by decide +kernel) rfl
theorem X1_waitIfHungry_7 : Ev X 82 7 [some (.ref a)] (st) w n 0 0 Q ↔ Ev X 82 8 [some (.ref a)] (.ref a :: st) w n 0 0 Q := E_p ok_X1_waitIfHungry (show decode (mB 82) 7 = .ok (.aload_n 0, 1) by decide +kernel) rfl rfl
theorem X1_waitIfHungry_8 : Ev X 82 8 [l0] (.ref a :: st) w n 0 0 Q ↔ ∃ v, gf w a 1 3 = some v ∧ Ev X 82 11 [l0] (v :: st) w n 0 0 Q := E_getf ok_X1_waitIfHungry (by decide +kernel) (show decode (mB 82) 8 = .ok (.getfield 36, 3) by decide +kernel) (by decide +kernel)
theorem X1_waitIfHungry_11 : Ev X 82 11 [l0] (st) w n 0 0 Q ↔ Ev X 82 12 [l0] (.int (4) :: st) w n 0 0 Q := E_iconst ok_X1_waitIfHungry (show decode (mB 82) 11 = .ok (.iconst 4, 1) by decide +kernel) (by decide)
theorem X1_waitIfHungry_12 : Ev X 82 12 [l0] (.int y :: .int x :: st) w n 0 0 Q ↔ if x = y then Ev X 82 15 [l0] (st) w n 0 0 Q else Ev X 82 16 [l0] (st) w n 0 0 Q := E_icne ok_X1_waitIfHungry (show decode (mB 82) 12 = .ok (.if_icmp .ne 4, 3) by decide +kernel) rfl
theorem X1_waitIfHungry_15 : Ev X 82 15 [l0] ([]) w n 0 0 Q ↔ Q (.inl none) w n := E_retv ok_X1_waitIfHungry (show decode (mB 82) 15 = .ok (.return_, 1) by decide +kernel) (by decide +kernel)
theorem X1_waitIfHungry_16 : Ev X 82 16 [some (.ref a)] (st) w n 0 0 Q ↔ Ev X 82 17 [some (.ref a)] (.ref a :: st) w n 0 0 Q := E_p ok_X1_waitIfHungry (show decode (mB 82) 16 = .ok (.aload_n 0, 1) by decide +kernel) rfl rfl
theorem X1_waitIfHungry_17 : Ev X 82 17 [l0] (.ref a :: st) w n 0 0 Q ↔ Ev X 82 18 [l0] (.ref a :: .ref a :: st) w n 0 0 Q := E_p ok_X1_waitIfHungry (show decode (mB 82) 17 = .ok (.dup, 1) by decide +kernel) rfl rfl
theorem X1_waitIfHungry_18 : Ev X 82 18 [l0] (.ref a :: st) w n 0 0 Q ↔ ∃ v, gf w a 1 6 = some v ∧ Ev X 82 21 [l0] (v :: st) w n 0 0 Q := E_getf ok_X1_waitIfHungry (by decide +kernel) (show decode (mB 82) 18 = .ok (.getfield 24, 3) by decide +kernel) (by decide +kernel)
theorem X1_waitIfHungry_21 : Ev X 82 21 [l0] (st) w n 0 0 Q ↔ Ev X 82 22 [l0] (.int (1) :: st) w n 0 0 Q := E_iconst ok_X1_waitIfHungry (show decode (mB 82) 21 = .ok (.iconst 1, 1) by decide +kernel) (by decide)
theorem X1_waitIfHungry_22 : Ev X 82 22 [l0] (.int y :: .int x :: st) w n 0 0 Q ↔ Ev X 82 23 [l0] (.int (x + y) :: st) w n 0 0 Q := E_p ok_X1_waitIfHungry (show decode (mB 82) 22 = .ok (.iadd, 1) by decide +kernel) rfl rfl
theorem X1_waitIfHungry_23 : Ev X 82 23 [l0] (.int x :: .ref a :: st) w n 0 0 Q ↔ ∃ w2, pf w a 1 6 (.int x) = some w2 ∧ Ev X 82 26 [l0] (st) w2 n 0 0 Q := E_putf ok_X1_waitIfHungry rfl (show decode (mB 82) 23 = .ok (.putfield 24, 3) by decide +kernel) (by decide +kernel) (by decide +kernel)
theorem X1_waitIfHungry_26 : Ev X 82 26 [some (.ref a)] (st) w n 0 0 Q ↔ Ev X 82 27 [some (.ref a)] (.ref a :: st) w n 0 0 Q := E_p ok_X1_waitIfHungry (show decode (mB 82) 26 = .ok (.aload_n 0, 1) by decide +kernel) rfl rfl
theorem X1_waitIfHungry_27 : Ev X 82 27 [l0] (.ref a :: st) w n 0 0 Q ↔ Ev X 82 28 [l0] (.ref a :: .ref a :: st) w n 0 0 Q := E_p ok_X1_waitIfHungry (show decode (mB 82) 27 = .ok (.dup, 1) by decide +kernel) rfl rfl
theorem X1_waitIfHungry_28 : Ev X 82 28 [l0] (.ref a :: st) w n 0 0 Q ↔ ∃ v, gf w a 1 7 = some v ∧ Ev X 82 31 [l0] (v :: st) w n 0 0 Q := E_getf ok_X1_waitIfHungry (by decide +kernel) (show decode (mB 82) 28 = .ok (.getfield 27, 3) by decide +kernel) (by decide +kernel)
theorem X1_waitIfHungry_31 : Ev X 82 31 [l0] (st) w n 0 0 Q ↔ Ev X 82 32 [l0] (.int (1) :: st) w n 0 0 Q := E_iconst ok_X1_waitIfHungry (show decode (mB 82) 31 = .ok (.iconst 1, 1) by decide +kernel) (by decide)
theorem X1_waitIfHungry_32 : Ev X 82 32 [l0] (.int y :: .int x :: st) w n 0 0 Q ↔ Ev X 82 33 [l0] (.int (x + y) :: st) w n 0 0 Q := E_p ok_X1_waitIfHungry (show decode (mB 82) 32 = .ok (.iadd, 1) by decide +kernel) rfl rfl
theorem X1_waitIfHungry_33 : Ev X 82 33 [l0] (.int x :: .ref a :: st) w n 0 0 Q ↔ ∃ w2, pf w a 1 7 (.int x) = some w2 ∧ Ev X 82 36 [l0] (st) w2 n 0 0 Q := E_putf ok_X1_waitIfHungry rfl (show decode (mB 82) 33 = .ok (.putfield 27, 3) by decide +kernel) (by decide +kernel) (by decide +kernel)
theorem X1_waitIfHungry_36 : Ev X 82 36 [some (.ref a)] (st) w n 0 0 Q ↔ Ev X 82 37 [some (.ref a)] (.ref a :: st) w n 0 0 Q := E_p ok_X1_waitIfHungry (show decode (mB 82) 36 = .ok (.aload_n 0, 1) by decide +kernel) rfl rfl
theorem X1_waitIfHungry_37 : Ev X 82 37 [some (.ref a)] (st) w n 0 0 Q ↔ Ev X 82 38 [some (.ref a)] (.ref a :: st) w n 0 0 Q := E_p ok_X1_waitIfHungry (show decode (mB 82) 37 = .ok (.aload_n 0, 1) by decide +kernel) rfl rfl
theorem X1_waitIfHungry_38 : Ev X 82 38 [l0] (.ref a :: st) w n 0 0 Q ↔ ∃ v, gf w a 1 8 = some v ∧ Ev X 82 41 [l0] (v :: st) w n 0 0 Q := E_getf ok_X1_waitIfHungry (by decide +kernel) (show decode (mB 82) 38 = .ok (.getfield 30, 3) by decide +kernel) (by decide +kernel)
theorem X1_waitIfHungry_41 : Ev X 82 41 [some (.ref a)] (st) w n 0 0 Q ↔ Ev X 82 42 [some (.ref a)] (.ref a :: st) w n 0 0 Q := E_p ok_X1_waitIfHungry (show decode (mB 82) 41 = .ok (.aload_n 0, 1) by decide +kernel) rfl rfl
theorem X1_waitIfHungry_42 : Ev X 82 42 [l0] (.ref a :: st) w n 0 0 Q ↔ ∃ v, gf w a 1 7 = some v ∧ Ev X 82 45 [l0] (v :: st) w n 0 0 Q := E_getf ok_X1_waitIfHungry (by decide +kernel) (show decode (mB 82) 42 = .ok (.getfield 27, 3) by decide +kernel) (by decide +kernel)
theorem X1_waitIfHungry_45 : Ev X 82 45 [l0] (.int y :: .int x :: .ref e0 :: []) w n 0 0 Q ↔ Ev X 82 48 [l0] (.int (imx x y) :: .ref e0 :: []) w n 0 0 Q := E_mx ok_X1_waitIfHungry (show decode (mB 82) 45 = .ok (.invokestatic 42, 3) by decide +kernel) (by decide +kernel) (by simp only [List.length_cons, List.length_nil]; decide +kernel)
theorem X1_waitIfHungry_48 : Ev X 82 48 [l0] (.int x :: .ref a :: st) w n 0 0 Q ↔ ∃ w2, pf w a 1 8 (.int x) = some w2 ∧ Ev X 82 51 [l0] (st) w2 n 0 0 Q := E_putf ok_X1_waitIfHungry rfl (show decode (mB 82) 48 = .ok (.putfield 30, 3) by decide +kernel) (by decide +kernel) (by decide +kernel)
theorem X1_waitIfHungry_51 : Ev X 82 51 [l0] ([]) w n 0 0 Q ↔ Q (.inl none) w n := E_retv ok_X1_waitIfHungry (show decode (mB 82) 51 = .ok (.return_, 1) by decide +kernel) (by decide +kernel)
theorem ok_X2_tick : okP 83 = true := by decide +kernel
theorem X2_tick_0 : Ev X 83 0 [some (.ref a), l1] (st) w n 0 0 Q ↔ Ev X 83 1 [some (.ref a), l1] (.ref a :: st) w n 0 0 Q := E_p ok_X2_tick (show decode (mB 83) 0 = .ok (.aload_n 0, 1) by decide +kernel) rfl rfl
theorem X2_tick_1 : Ev X 83 1 [l0, l1] (.ref a :: st) w n 0 0 Q ↔ Ev X 83 2 [l0, l1] (.ref a :: .ref a :: st) w n 0 0 Q := E_p ok_X2_tick (show decode (mB 83) 1 = .ok (.dup, 1) by decide +kernel) rfl rfl
theorem X2_tick_2 : Ev X 83 2 [l0, l1] (.ref a :: st) w n 0 0 Q ↔ ∃ v, gf w a 2 5 = some v ∧ Ev X 83 5 [l0, l1] (v :: st) w n 0 0 Q := E_getf ok_X2_tick (by decide +kernel) (show decode (mB 83) 2 = .ok (.getfield 36, 3) by decide +kernel) (by decide +kernel)
theorem X2_tick_5 : Ev X 83 5 [l0, l1] (st) w n 0 0 Q ↔ Ev X 83 6 [l0, l1] (.int (1) :: st) w n 0 0 Q := E_iconst ok_X2_tick (show decode (mB 83) 5 = .ok (.iconst 1, 1) by decide +kernel) (by decide)
theorem X2_tick_6 : Ev X 83 6 [l0, l1] (.int y :: .int x :: st) w n 0 0 Q ↔ Ev X 83 7 [l0, l1] (.int (x + y) :: st) w n 0 0 Q := E_p ok_X2_tick (show decode (mB 83) 6 = .ok (.iadd, 1) by decide +kernel) rfl rfl
theorem X2_tick_7 : Ev X 83 7 [l0, l1] (.int x :: .ref a :: st) w n 0 0 Q ↔ ∃ w2, pf w a 2 5 (.int x) = some w2 ∧ Ev X 83 10 [l0, l1] (st) w2 n 0 0 Q := E_putf ok_X2_tick rfl (show decode (mB 83) 7 = .ok (.putfield 36, 3) by decide +kernel) (by decide +kernel) (by decide +kernel)
theorem X2_tick_10 : Ev X 83 10 [l0, l1] (st) w n 0 0 Q ↔ Ev X 83 11 [l0, l1] (.int (0) :: st) w n 0 0 Q := E_iconst ok_X2_tick (show decode (mB 83) 10 = .ok (.iconst 0, 1) by decide +kernel) (by decide)
theorem X2_tick_11 : Ev X 83 11 [l0, l1] (.int x :: st) w n 0 0 Q ↔ Ev X 83 12 [l0, some (.int x)] (st) w n 0 0 Q := E_p ok_X2_tick (show decode (mB 83) 11 = .ok (.istore_n 1, 1) by decide +kernel) rfl rfl
theorem X2_tick_12 : Ev X 83 12 [l0, some (.int x)] (st) w n 0 0 Q ↔ Ev X 83 13 [l0, some (.int x)] (.int x :: st) w n 0 0 Q := E_p ok_X2_tick (show decode (mB 83) 12 = .ok (.iload_n 1, 1) by decide +kernel) rfl rfl
theorem X2_tick_13 : Ev X 83 13 [some (.ref a), l1] (st) w n 0 0 Q ↔ Ev X 83 14 [some (.ref a), l1] (.ref a :: st) w n 0 0 Q := E_p ok_X2_tick (show decode (mB 83) 13 = .ok (.aload_n 0, 1) by decide +kernel) rfl rfl
theorem X2_tick_14 : Ev X 83 14 [l0, l1] (.ref a :: st) w n 0 0 Q ↔ ∃ v, gf w a 2 2 = some v ∧ Ev X 83 17 [l0, l1] (v :: st) w n 0 0 Q := E_getf ok_X2_tick (by decide +kernel) (show decode (mB 83) 14 = .ok (.getfield 33, 3) by decide +kernel) (by decide +kernel)
theorem X2_tick_17 : Ev X 83 17 [l0, l1] (.int y :: .int x :: st) w n 0 0 Q ↔ if x < y then Ev X 83 20 [l0, l1] (st) w n 0 0 Q else Ev X 83 31 [l0, l1] (st) w n 0 0 Q := E_icge ok_X2_tick (show decode (mB 83) 17 = .ok (.if_icmp .ge 14, 3) by decide +kernel) rfl
theorem X2_tick_20 : Ev X 83 20 [some (.ref a), l1] (st) w n 0 0 Q ↔ Ev X 83 21 [some (.ref a), l1] (.ref a :: st) w n 0 0 Q := E_p ok_X2_tick (show decode (mB 83) 20 = .ok (.aload_n 0, 1) by decide +kernel) rfl rfl
theorem X2_tick_21 : Ev X 83 21 [l0, some (.int x)] (st) w n 0 0 Q ↔ Ev X 83 22 [l0, some (.int x)] (.int x :: st) w n 0 0 Q := E_p ok_X2_tick (show decode (mB 83) 21 = .ok (.iload_n 1, 1) by decide +kernel) rfl rfl
theorem X2_tick_22 (h : hasc w a 2 = true) : Ev X 83 22 [l0, l1] (.int y0 :: .ref a :: []) w n 0 0 Q ↔ Ev X 71 0 [some (.ref a), some (.int y0), none] [] w n 0 0 (Kr X 83 25 [l0, l1] ([]) 0 0 Q) := E_cv ok_X2_tick (show decode (mB 83) 22 = .ok (.invokevirtual 131, 3) by decide +kernel) (by decide +kernel) (by decide +kernel) (by decide +kernel) (k := 1) (vs := [.int y0]) rfl ((rc_Table (M2 := 71) (by decide +kernel) (by decide +kernel)).trans h) (by simp only [List.length_cons, List.length_nil]; decide) (by simp only [List.length_cons, List.length_nil]; decide +kernel) (ent_eq (k := 1) (by simp only [List.length_cons, List.length_nil]; decide +kernel)) (by decide +kernel) (by decide +kernel)
theorem X2_tick_25 : Ev X 83 25 [l0, some (.int x)] (st) w n 0 0 Q ↔ Ev X 83 28 [l0, some (.int (x + (1)))] (st) w n 0 0 Q := E_iinc ok_X2_tick (show decode (mB 83) 25 = .ok (.iinc 1 1, 3) by decide +kernel) rfl (by simp only [List.length_cons, List.length_nil]; decide) (by decide) rfl
theorem X2_tick_28 : Ev X 83 28 [l0, l1] (st) w n 0 0 Q ↔ Ev X 83 12 [l0, l1] (st) w n 0 0 Q := E_goto ok_X2_tick (show decode (mB 83) 28 = .ok (.goto (-16), 3) by decide +kernel) rfl
theorem X2_tick_31 : Ev X 83 31 [some (.ref a), l1] (st) w n 0 0 Q ↔ Ev X 83 32 [some (.ref a), l1] (.ref a :: st) w n 0 0 Q := E_p ok_X2_tick (show decode (mB 83) 31 = .ok (.aload_n 0, 1) by decide +kernel) rfl rfl
theorem X2_tick_32 (h : hasc w a 2 = true) : Ev X 83 32 [l0, l1] (.ref a :: []) w n 0 0 Q ↔ Ev X 77 0 [some (.ref a), none, none] [] w n 0 0 (Kr X 83 35 [l0, l1] ([]) 0 0 Q) := E_cv ok_X2_tick (show decode (mB 83) 32 = .ok (.invokevirtual 135, 3) by decide +kernel) (by decide +kernel) (by decide +kernel) (by decide +kernel) (k := 0) (vs := []) rfl ((rc_Table (M2 := 77) (by decide +kernel) (by decide +kernel)).trans h) (by simp only [List.length_cons, List.length_nil]; decide) (by simp only [List.length_cons, List.length_nil]; decide +kernel) (ent_eq (k := 2) (by simp only [List.length_cons, List.length_nil]; decide +kernel)) (by decide +kernel) (by decide +kernel)
theorem X2_tick_35 : Ev X 83 35 [l0, l1] (st) w n 0 0 Q ↔ Ev X 83 36 [l0, l1] (.int (0) :: st) w n 0 0 Q := E_iconst ok_X2_tick (show decode (mB 83) 35 = .ok (.iconst 0, 1) by decide +kernel) (by decide)
theorem X2_tick_36 : Ev X 83 36 [l0, l1] (.int x :: st) w n 0 0 Q ↔ Ev X 83 37 [l0, some (.int x)] (st) w n 0 0 Q := E_p ok_X2_tick (show decode (mB 83) 36 = .ok (.istore_n 1, 1) by decide +kernel) rfl rfl
theorem X2_tick_37 : Ev X 83 37 [l0, some (.int x)] (st) w n 0 0 Q ↔ Ev X 83 38 [l0, some (.int x)] (.int x :: st) w n 0 0 Q := E_p ok_X2_tick (show decode (mB 83) 37 = .ok (.iload_n 1, 1) by decide +kernel) rfl rfl
theorem X2_tick_38 : Ev X 83 38 [some (.ref a), l1] (st) w n 0 0 Q ↔ Ev X 83 39 [some (.ref a), l1] (.ref a :: st) w n 0 0 Q := E_p ok_X2_tick (show decode (mB 83) 38 = .ok (.aload_n 0, 1) by decide +kernel) rfl rfl
theorem X2_tick_39 : Ev X 83 39 [l0, l1] (.ref a :: st) w n 0 0 Q ↔ ∃ v, gf w a 2 2 = some v ∧ Ev X 83 42 [l0, l1] (v :: st) w n 0 0 Q := E_getf ok_X2_tick (by decide +kernel) (show decode (mB 83) 39 = .ok (.getfield 33, 3) by decide +kernel) (by decide +kernel)
theorem X2_tick_42 : Ev X 83 42 [l0, l1] (.int y :: .int x :: st) w n 0 0 Q ↔ if x < y then Ev X 83 45 [l0, l1] (st) w n 0 0 Q else Ev X 83 56 [l0, l1] (st) w n 0 0 Q := E_icge ok_X2_tick (show decode (mB 83) 42 = .ok (.if_icmp .ge 14, 3) by decide +kernel) rfl
theorem X2_tick_45 : Ev X 83 45 [some (.ref a), l1] (st) w n 0 0 Q ↔ Ev X 83 46 [some (.ref a), l1] (.ref a :: st) w n 0 0 Q := E_p ok_X2_tick (show decode (mB 83) 45 = .ok (.aload_n 0, 1) by decide +kernel) rfl rfl
theorem X2_tick_46 : Ev X 83 46 [l0, some (.int x)] (st) w n 0 0 Q ↔ Ev X 83 47 [l0, some (.int x)] (.int x :: st) w n 0 0 Q := E_p ok_X2_tick (show decode (mB 83) 46 = .ok (.iload_n 1, 1) by decide +kernel) rfl rfl
theorem X2_tick_47 (h : hasc w a 2 = true) : Ev X 83 47 [l0, l1] (.int y0 :: .ref a :: []) w n 0 0 Q ↔ Ev X 81 0 [some (.ref a), some (.int y0), none, none, none] [] w n 0 0 (Kr X 83 50 [l0, l1] ([]) 0 0 Q) := E_cv ok_X2_tick (show decode (mB 83) 47 = .ok (.invokevirtual 138, 3) by decide +kernel) (by decide +kernel) (by decide +kernel) (by decide +kernel) (k := 1) (vs := [.int y0]) rfl ((rc_Table (M2 := 81) (by decide +kernel) (by decide +kernel)).trans h) (by simp only [List.length_cons, List.length_nil]; decide) (by simp only [List.length_cons, List.length_nil]; decide +kernel) (ent_eq (k := 3) (by simp only [List.length_cons, List.length_nil]; decide +kernel)) (by decide +kernel) (by decide +kernel)
theorem X2_tick_50 : Ev X 83 50 [l0, some (.int x)] (st) w n 0 0 Q ↔ Ev X 83 53 [l0, some (.int (x + (1)))] (st) w n 0 0 Q := E_iinc ok_X2_tick (show decode (mB 83) 50 = .ok (.iinc 1 1, 3) by decide +kernel) rfl (by simp only [List.length_cons, List.length_nil]; decide) (by decide) rfl
theorem X2_tick_53 : Ev X 83 53 [l0, l1] (st) w n 0 0 Q ↔ Ev X 83 37 [l0, l1] (st) w n 0 0 Q := E_goto ok_X2_tick (show decode (mB 83) 53 = .ok (.goto (-16), 3) by decide +kernel) rfl
theorem X2_tick_56 : Ev X 83 56 [l0, l1] (st) w n 0 0 Q ↔ Ev X 83 57 [l0, l1] (.int (0) :: st) w n 0 0 Q := E_iconst ok_X2_tick (show decode (mB 83) 56 = .ok (.iconst 0, 1) by decide +kernel) (by decide)
theorem X2_tick_57 : Ev X 83 57 [l0, l1] (.int x :: st) w n 0 0 Q ↔ Ev X 83 58 [l0, some (.int x)] (st) w n 0 0 Q := E_p ok_X2_tick (show decode (mB 83) 57 = .ok (.istore_n 1, 1) by decide +kernel) rfl rfl
theorem X2_tick_58 : Ev X 83 58 [l0, some (.int x)] (st) w n 0 0 Q ↔ Ev X 83 59 [l0, some (.int x)] (.int x :: st) w n 0 0 Q := E_p ok_X2_tick (show decode (mB 83) 58 = .ok (.iload_n 1, 1) by decide +kernel) rfl rfl
theorem X2_tick_59 : Ev X 83 59 [some (.ref a), l1] (st) w n 0 0 Q ↔ Ev X 83 60 [some (.ref a), l1] (.ref a :: st) w n 0 0 Q := E_p ok_X2_tick (show decode (mB 83) 59 = .ok (.aload_n 0, 1) by decide +kernel) rfl rfl
theorem X2_tick_60 : Ev X 83 60 [l0, l1] (.ref a :: st) w n 0 0 Q ↔ ∃ v, gf w a 2 2 = some v ∧ Ev X 83 63 [l0, l1] (v :: st) w n 0 0 Q := E_getf ok_X2_tick (by decide +kernel) (show decode (mB 83) 60 = .ok (.getfield 33, 3) by decide +kernel) (by decide +kernel)
theorem X2_tick_63 : Ev X 83 63 [l0, l1] (.int y :: .int x :: st) w n 0 0 Q ↔ if x < y then Ev X 83 66 [l0, l1] (st) w n 0 0 Q else Ev X 83 81 [l0, l1] (st) w n 0 0 Q := E_icge ok_X2_tick (show decode (mB 83) 63 = .ok (.if_icmp .ge 18, 3) by decide +kernel) rfl
theorem X2_tick_66 : Ev X 83 66 [some (.ref a), l1] (st) w n 0 0 Q ↔ Ev X 83 67 [some (.ref a), l1] (.ref a :: st) w n 0 0 Q := E_p ok_X2_tick (show decode (mB 83) 66 = .ok (.aload_n 0, 1) by decide +kernel) rfl rfl
theorem X2_tick_67 : Ev X 83 67 [l0, l1] (.ref a :: st) w n 0 0 Q ↔ ∃ v, gf w a 2 0 = some v ∧ Ev X 83 70 [l0, l1] (v :: st) w n 0 0 Q := E_getf ok_X2_tick (by decide +kernel) (show decode (mB 83) 67 = .ok (.getfield 11, 3) by decide +kernel) (by decide +kernel)
theorem X2_tick_70 : Ev X 83 70 [l0, some (.int x)] (st) w n 0 0 Q ↔ Ev X 83 71 [l0, some (.int x)] (.int x :: st) w n 0 0 Q := E_p ok_X2_tick (show decode (mB 83) 70 = .ok (.iload_n 1, 1) by decide +kernel) rfl rfl
theorem X2_tick_71 : Ev X 83 71 [l0, l1] (.int x :: .ref a :: st) w n 0 0 Q ↔ ∃ v, (ga w a 4 x).or (ga w a 5 x) = some v ∧ Ev X 83 72 [l0, l1] (v :: st) w n 0 0 Q := E_aald ok_X2_tick (show decode (mB 83) 71 = .ok (.aaload, 1) by decide +kernel)
theorem X2_tick_72 (h : hasc w a 1 = true) : Ev X 83 72 [l0, l1] (.ref a :: []) w n 0 0 Q ↔ Ev X 82 0 [some (.ref a)] [] w n 0 0 (Kr X 83 75 [l0, l1] ([]) 0 0 Q) := E_cv ok_X2_tick (show decode (mB 83) 72 = .ok (.invokevirtual 141, 3) by decide +kernel) (by decide +kernel) (by decide +kernel) (by decide +kernel) (k := 0) (vs := []) rfl ((rc_Seat (M2 := 82) (by decide +kernel) (by decide +kernel)).trans h) (by simp only [List.length_cons, List.length_nil]; decide) (by simp only [List.length_cons, List.length_nil]; decide +kernel) (ent_eq (k := 0) (by simp only [List.length_cons, List.length_nil]; decide +kernel)) (by decide +kernel) (by decide +kernel)
theorem X2_tick_75 : Ev X 83 75 [l0, some (.int x)] (st) w n 0 0 Q ↔ Ev X 83 78 [l0, some (.int (x + (1)))] (st) w n 0 0 Q := E_iinc ok_X2_tick (show decode (mB 83) 75 = .ok (.iinc 1 1, 3) by decide +kernel) rfl (by simp only [List.length_cons, List.length_nil]; decide) (by decide) rfl
theorem X2_tick_78 : Ev X 83 78 [l0, l1] (st) w n 0 0 Q ↔ Ev X 83 58 [l0, l1] (st) w n 0 0 Q := E_goto ok_X2_tick (show decode (mB 83) 78 = .ok (.goto (-20), 3) by decide +kernel) rfl
theorem X2_tick_81 : Ev X 83 81 [l0, l1] ([]) w n 0 0 Q ↔ Q (.inl none) w n := E_retv ok_X2_tick (show decode (mB 83) 81 = .ok (.return_, 1) by decide +kernel) (by decide +kernel)
theorem ok_X2_passTicks : okP 84 = true := by decide +kernel
theorem X2_passTicks_0 : Ev X 84 0 [l0, some (.int x), l2, l3, l4] (st) w n 0 0 Q ↔ Ev X 84 1 [l0, some (.int x), l2, l3, l4] (.int x :: st) w n 0 0 Q := E_p ok_X2_passTicks (show decode (mB 84) 0 = .ok (.iload_n 1, 1) by decide +kernel) rfl rfl
theorem X2_passTicks_1 : Ev X 84 1 [l0, l1, l2, l3, l4] (st) w n 0 0 Q ↔ Ev X 84 2 [l0, l1, l2, l3, l4] (.int (1) :: st) w n 0 0 Q := E_iconst ok_X2_passTicks (show decode (mB 84) 1 = .ok (.iconst 1, 1) by decide +kernel) (by decide)
theorem X2_passTicks_2 : Ev X 84 2 [l0, l1, l2, l3, l4] (.int y :: .int x :: st) w n 0 0 Q ↔ if x < y then Ev X 84 11 [l0, l1, l2, l3, l4] (st) w n 0 0 Q else Ev X 84 5 [l0, l1, l2, l3, l4] (st) w n 0 0 Q := E_iclt ok_X2_passTicks (show decode (mB 84) 2 = .ok (.if_icmp .lt 9, 3) by decide +kernel) rfl
theorem X2_passTicks_5 : Ev X 84 5 [l0, some (.int x), l2, l3, l4] (st) w n 0 0 Q ↔ Ev X 84 6 [l0, some (.int x), l2, l3, l4] (.int x :: st) w n 0 0 Q := E_p ok_X2_passTicks (show decode (mB 84) 5 = .ok (.iload_n 1, 1) by decide +kernel) rfl rfl
theorem X2_passTicks_6 : Ev X 84 6 [l0, l1, l2, l3, l4] (st) w n 0 0 Q ↔ Ev X 84 8 [l0, l1, l2, l3, l4] (.int (99) :: st) w n 0 0 Q := E_bipush ok_X2_passTicks (show decode (mB 84) 6 = .ok (.bipush 99, 2) by decide +kernel) (by decide)
theorem X2_passTicks_8 : Ev X 84 8 [l0, l1, l2, l3, l4] (.int y :: .int x :: st) w n 0 0 Q ↔ if y < x then Ev X 84 11 [l0, l1, l2, l3, l4] (st) w n 0 0 Q else Ev X 84 18 [l0, l1, l2, l3, l4] (st) w n 0 0 Q := E_icle ok_X2_passTicks (show decode (mB 84) 8 = .ok (.if_icmp .le 10, 3) by decide +kernel) rfl
theorem X2_passTicks_11 : Ev X 84 11 [l0, l1, some (.ref a), l3, l4] (st) w n 0 0 Q ↔ Ev X 84 12 [l0, l1, some (.ref a), l3, l4] (.ref a :: st) w n 0 0 Q := E_p ok_X2_passTicks (show decode (mB 84) 11 = .ok (.aload_n 2, 1) by decide +kernel) rfl rfl
theorem X2_passTicks_12 : Ev X 84 12 [l0, l1, l2, l3, l4] (st) w n 0 0 Q ↔ Ev X 84 13 [l0, l1, l2, l3, l4] (.int (1) :: st) w n 0 0 Q := E_iconst ok_X2_passTicks (show decode (mB 84) 12 = .ok (.iconst 1, 1) by decide +kernel) (by decide)
theorem X2_passTicks_13 : Ev X 84 13 [l0, l1, l2, l3, l4] (st) w n 0 0 Q ↔ Ev X 84 14 [l0, l1, l2, l3, l4] (.int (0) :: st) w n 0 0 Q := E_iconst ok_X2_passTicks (show decode (mB 84) 13 = .ok (.iconst 0, 1) by decide +kernel) (by decide)
theorem X2_passTicks_14 (h : hasc w a 0 = true) : Ev X 84 14 [l0, l1, l2, l3, l4] (.int y1 :: .int y0 :: .ref a :: []) w n 0 0 Q ↔ Ev X 10 0 [some (.ref a), some (.int y0), some (.int y1)] [] w n 0 0 (Kr X 84 17 [l0, l1, l2, l3, l4] ([]) 0 0 Q) := E_cv ok_X2_passTicks (show decode (mB 84) 14 = .ok (.invokevirtual 88, 3) by decide +kernel) (by decide +kernel) (by decide +kernel) (by decide +kernel) (k := 2) (vs := [.int y0, .int y1]) rfl ((rc_Refusal (M2 := 10) (by decide +kernel) (by decide +kernel)).trans h) (by simp only [List.length_cons, List.length_nil]; decide) (by simp only [List.length_cons, List.length_nil]; decide +kernel) (ent_eq (k := 0) (by simp only [List.length_cons, List.length_nil]; decide +kernel)) (by decide +kernel) (by decide +kernel)
theorem X2_passTicks_17 : Ev X 84 17 [l0, l1, l2, l3, l4] ([.int x]) w n 0 0 Q ↔ Q (.inl (some (.int x))) w n := E_reti ok_X2_passTicks (show decode (mB 84) 17 = .ok (.ireturn, 1) by decide +kernel) (by decide +kernel)
theorem X2_passTicks_18 : Ev X 84 18 [some (.ref a), l1, l2, l3, l4] (st) w n 0 0 Q ↔ Ev X 84 19 [some (.ref a), l1, l2, l3, l4] (.ref a :: st) w n 0 0 Q := E_p ok_X2_passTicks (show decode (mB 84) 18 = .ok (.aload_n 0, 1) by decide +kernel) rfl rfl
theorem X2_passTicks_19 (h : hasc w a 2 = true) : Ev X 84 19 [l0, l1, l2, l3, l4] (.ref a :: []) w n 0 0 Q ↔ Ev X 69 0 [some (.ref a)] [] w n 0 0 (Kr X 84 22 [l0, l1, l2, l3, l4] ([]) 0 0 Q) := E_cv ok_X2_passTicks (show decode (mB 84) 19 = .ok (.invokevirtual 121, 3) by decide +kernel) (by decide +kernel) (by decide +kernel) (by decide +kernel) (k := 0) (vs := []) rfl ((rc_Table (M2 := 69) (by decide +kernel) (by decide +kernel)).trans h) (by simp only [List.length_cons, List.length_nil]; decide) (by simp only [List.length_cons, List.length_nil]; decide +kernel) (ent_eq (k := 0) (by simp only [List.length_cons, List.length_nil]; decide +kernel)) (by decide +kernel) (by decide +kernel)
theorem X2_passTicks_22 : Ev X 84 22 [l0, l1, l2, l3, l4] (.int x :: st) w n 0 0 Q ↔ if x = 0 then Ev X 84 25 [l0, l1, l2, l3, l4] (st) w n 0 0 Q else Ev X 84 35 [l0, l1, l2, l3, l4] (st) w n 0 0 Q := E_ifne ok_X2_passTicks (show decode (mB 84) 22 = .ok (.ifCond .ne 13, 3) by decide +kernel) rfl
theorem X2_passTicks_25 : Ev X 84 25 [l0, l1, some (.ref a), l3, l4] (st) w n 0 0 Q ↔ Ev X 84 26 [l0, l1, some (.ref a), l3, l4] (.ref a :: st) w n 0 0 Q := E_p ok_X2_passTicks (show decode (mB 84) 25 = .ok (.aload_n 2, 1) by decide +kernel) rfl rfl
theorem X2_passTicks_26 : Ev X 84 26 [l0, l1, l2, l3, l4] (st) w n 0 0 Q ↔ Ev X 84 27 [l0, l1, l2, l3, l4] (.int (5) :: st) w n 0 0 Q := E_iconst ok_X2_passTicks (show decode (mB 84) 26 = .ok (.iconst 5, 1) by decide +kernel) (by decide)
theorem X2_passTicks_27 : Ev X 84 27 [some (.ref a), l1, l2, l3, l4] (st) w n 0 0 Q ↔ Ev X 84 28 [some (.ref a), l1, l2, l3, l4] (.ref a :: st) w n 0 0 Q := E_p ok_X2_passTicks (show decode (mB 84) 27 = .ok (.aload_n 0, 1) by decide +kernel) rfl rfl
theorem X2_passTicks_28 : Ev X 84 28 [l0, l1, l2, l3, l4] (.ref a :: st) w n 0 0 Q ↔ ∃ v, gf w a 2 2 = some v ∧ Ev X 84 31 [l0, l1, l2, l3, l4] (v :: st) w n 0 0 Q := E_getf ok_X2_passTicks (by decide +kernel) (show decode (mB 84) 28 = .ok (.getfield 33, 3) by decide +kernel) (by decide +kernel)
theorem X2_passTicks_31 (h : hasc w a 0 = true) : Ev X 84 31 [l0, l1, l2, l3, l4] (.int y1 :: .int y0 :: .ref a :: []) w n 0 0 Q ↔ Ev X 10 0 [some (.ref a), some (.int y0), some (.int y1)] [] w n 0 0 (Kr X 84 34 [l0, l1, l2, l3, l4] ([]) 0 0 Q) := E_cv ok_X2_passTicks (show decode (mB 84) 31 = .ok (.invokevirtual 88, 3) by decide +kernel) (by decide +kernel) (by decide +kernel) (by decide +kernel) (k := 2) (vs := [.int y0, .int y1]) rfl ((rc_Refusal (M2 := 10) (by decide +kernel) (by decide +kernel)).trans h) (by simp only [List.length_cons, List.length_nil]; decide) (by simp only [List.length_cons, List.length_nil]; decide +kernel) (ent_eq (k := 0) (by simp only [List.length_cons, List.length_nil]; decide +kernel)) (by decide +kernel) (by decide +kernel)
theorem X2_passTicks_34 : Ev X 84 34 [l0, l1, l2, l3, l4] ([.int x]) w n 0 0 Q ↔ Q (.inl (some (.int x))) w n := E_reti ok_X2_passTicks (show decode (mB 84) 34 = .ok (.ireturn, 1) by decide +kernel) (by decide +kernel)
theorem X2_passTicks_35 : Ev X 84 35 [some (.ref a), l1, l2, l3, l4] (st) w n 0 0 Q ↔ Ev X 84 36 [some (.ref a), l1, l2, l3, l4] (.ref a :: st) w n 0 0 Q := E_p ok_X2_passTicks (show decode (mB 84) 35 = .ok (.aload_n 0, 1) by decide +kernel) rfl rfl
theorem X2_passTicks_36 (h : hasc w a 2 = true) : Ev X 84 36 [l0, l1, l2, l3, l4] (.ref a :: []) w n 0 0 Q ↔ Ev X 70 0 [some (.ref a), none, none] [] w n 0 0 (Kr X 84 39 [l0, l1, l2, l3, l4] ([]) 0 0 Q) := E_cv ok_X2_passTicks (show decode (mB 84) 36 = .ok (.invokevirtual 125, 3) by decide +kernel) (by decide +kernel) (by decide +kernel) (by decide +kernel) (k := 0) (vs := []) rfl ((rc_Table (M2 := 70) (by decide +kernel) (by decide +kernel)).trans h) (by simp only [List.length_cons, List.length_nil]; decide) (by simp only [List.length_cons, List.length_nil]; decide +kernel) (ent_eq (k := 2) (by simp only [List.length_cons, List.length_nil]; decide +kernel)) (by decide +kernel) (by decide +kernel)
theorem X2_passTicks_39 : Ev X 84 39 [l0, l1, l2, l3, l4] (.int x :: st) w n 0 0 Q ↔ Ev X 84 40 [l0, l1, l2, some (.int x), l4] (st) w n 0 0 Q := E_p ok_X2_passTicks (show decode (mB 84) 39 = .ok (.istore_n 3, 1) by decide +kernel) rfl rfl
theorem X2_passTicks_40 : Ev X 84 40 [l0, l1, l2, l3, l4] (st) w n 0 0 Q ↔ Ev X 84 41 [l0, l1, l2, l3, l4] (.int (0) :: st) w n 0 0 Q := E_iconst ok_X2_passTicks (show decode (mB 84) 40 = .ok (.iconst 0, 1) by decide +kernel) (by decide)
theorem X2_passTicks_41 : Ev X 84 41 [l0, l1, l2, l3, l4] (.int x :: st) w n 0 0 Q ↔ Ev X 84 43 [l0, l1, l2, l3, some (.int x)] (st) w n 0 0 Q := E_p ok_X2_passTicks (show decode (mB 84) 41 = .ok (.istore 4, 2) by decide +kernel) rfl rfl
theorem X2_passTicks_43 : Ev X 84 43 [l0, l1, l2, l3, some (.int x)] (st) w n 0 0 Q ↔ Ev X 84 45 [l0, l1, l2, l3, some (.int x)] (.int x :: st) w n 0 0 Q := E_p ok_X2_passTicks (show decode (mB 84) 43 = .ok (.iload 4, 2) by decide +kernel) rfl rfl
theorem X2_passTicks_45 : Ev X 84 45 [l0, some (.int x), l2, l3, l4] (st) w n 0 0 Q ↔ Ev X 84 46 [l0, some (.int x), l2, l3, l4] (.int x :: st) w n 0 0 Q := E_p ok_X2_passTicks (show decode (mB 84) 45 = .ok (.iload_n 1, 1) by decide +kernel) rfl rfl
theorem X2_passTicks_46 : Ev X 84 46 [l0, l1, l2, l3, l4] (.int y :: .int x :: st) w n 0 0 Q ↔ if x < y then Ev X 84 49 [l0, l1, l2, l3, l4] (st) w n 0 0 Q else Ev X 84 59 [l0, l1, l2, l3, l4] (st) w n 0 0 Q := E_icge ok_X2_passTicks (show decode (mB 84) 46 = .ok (.if_icmp .ge 13, 3) by decide +kernel) rfl
theorem X2_passTicks_49 : Ev X 84 49 [some (.ref a), l1, l2, l3, l4] (st) w n 0 0 Q ↔ Ev X 84 50 [some (.ref a), l1, l2, l3, l4] (.ref a :: st) w n 0 0 Q := E_p ok_X2_passTicks (show decode (mB 84) 49 = .ok (.aload_n 0, 1) by decide +kernel) rfl rfl
theorem X2_passTicks_50 (h : hasc w a 2 = true) : Ev X 84 50 [l0, l1, l2, l3, l4] (.ref a :: []) w n 0 0 Q ↔ Ev X 83 0 [some (.ref a), none] [] w n 0 0 (Kr X 84 53 [l0, l1, l2, l3, l4] ([]) 0 0 Q) := E_cv ok_X2_passTicks (show decode (mB 84) 50 = .ok (.invokevirtual 128, 3) by decide +kernel) (by decide +kernel) (by decide +kernel) (by decide +kernel) (k := 0) (vs := []) rfl ((rc_Table (M2 := 83) (by decide +kernel) (by decide +kernel)).trans h) (by simp only [List.length_cons, List.length_nil]; decide) (by simp only [List.length_cons, List.length_nil]; decide +kernel) (ent_eq (k := 1) (by simp only [List.length_cons, List.length_nil]; decide +kernel)) (by decide +kernel) (by decide +kernel)
theorem X2_passTicks_53 : Ev X 84 53 [l0, l1, l2, l3, some (.int x)] (st) w n 0 0 Q ↔ Ev X 84 56 [l0, l1, l2, l3, some (.int (x + (1)))] (st) w n 0 0 Q := E_iinc ok_X2_passTicks (show decode (mB 84) 53 = .ok (.iinc 4 1, 3) by decide +kernel) rfl (by simp only [List.length_cons, List.length_nil]; decide) (by decide) rfl
theorem X2_passTicks_56 : Ev X 84 56 [l0, l1, l2, l3, l4] (st) w n 0 0 Q ↔ Ev X 84 43 [l0, l1, l2, l3, l4] (st) w n 0 0 Q := E_goto ok_X2_passTicks (show decode (mB 84) 56 = .ok (.goto (-13), 3) by decide +kernel) rfl
theorem X2_passTicks_59 : Ev X 84 59 [some (.ref a), l1, l2, l3, l4] (st) w n 0 0 Q ↔ Ev X 84 60 [some (.ref a), l1, l2, l3, l4] (.ref a :: st) w n 0 0 Q := E_p ok_X2_passTicks (show decode (mB 84) 59 = .ok (.aload_n 0, 1) by decide +kernel) rfl rfl
theorem X2_passTicks_60 (h : hasc w a 2 = true) : Ev X 84 60 [l0, l1, l2, l3, l4] (.ref a :: []) w n 0 0 Q ↔ Ev X 70 0 [some (.ref a), none, none] [] w n 0 0 (Kr X 84 63 [l0, l1, l2, l3, l4] ([]) 0 0 Q) := E_cv ok_X2_passTicks (show decode (mB 84) 60 = .ok (.invokevirtual 125, 3) by decide +kernel) (by decide +kernel) (by decide +kernel) (by decide +kernel) (k := 0) (vs := []) rfl ((rc_Table (M2 := 70) (by decide +kernel) (by decide +kernel)).trans h) (by simp only [List.length_cons, List.length_nil]; decide) (by simp only [List.length_cons, List.length_nil]; decide +kernel) (ent_eq (k := 2) (by simp only [List.length_cons, List.length_nil]; decide +kernel)) (by decide +kernel) (by decide +kernel)
theorem X2_passTicks_63 : Ev X 84 63 [l0, l1, l2, some (.int x), l4] (st) w n 0 0 Q ↔ Ev X 84 64 [l0, l1, l2, some (.int x), l4] (.int x :: st) w n 0 0 Q := E_p ok_X2_passTicks (show decode (mB 84) 63 = .ok (.iload_n 3, 1) by decide +kernel) rfl rfl
theorem X2_passTicks_64 : Ev X 84 64 [l0, l1, l2, l3, l4] (.int y :: .int x :: st) w n 0 0 Q ↔ Ev X 84 65 [l0, l1, l2, l3, l4] (.int (x - y) :: st) w n 0 0 Q := E_p ok_X2_passTicks (show decode (mB 84) 64 = .ok (.isub, 1) by decide +kernel) rfl rfl
theorem X2_passTicks_65 : Ev X 84 65 [l0, l1, l2, l3, l4] ([.int x]) w n 0 0 Q ↔ Q (.inl (some (.int x))) w n := E_reti ok_X2_passTicks (show decode (mB 84) 65 = .ok (.ireturn, 1) by decide +kernel) (by decide +kernel)
theorem ok_X1_number : okP 97 = true := by decide +kernel
theorem X1_number_0 : Ev X 97 0 [l0, some (.int x)] (st) w n 0 0 Q ↔ Ev X 97 1 [l0, some (.int x)] (.int x :: st) w n 0 0 Q := E_p ok_X1_number (show decode (mB 97) 0 = .ok (.iload_n 1, 1) by decide +kernel) rfl rfl
theorem X1_number_1_0 : Ev X 97 1 [l0, l1] (.int 0 :: st) w n 0 0 Q ↔ Ev X 97 52 [l0, l1] (st) w n 0 0 Q := E_p ok_X1_number (show decode (mB 97) 1 = .ok (.tableswitch 96 0 8 #[51, 56, 61, 66, 71, 76, 81, 86, 91], 51) by decide +kernel) rfl rfl
theorem X1_number_1_1 : Ev X 97 1 [l0, l1] (.int 1 :: st) w n 0 0 Q ↔ Ev X 97 57 [l0, l1] (st) w n 0 0 Q := E_p ok_X1_number (show decode (mB 97) 1 = .ok (.tableswitch 96 0 8 #[51, 56, 61, 66, 71, 76, 81, 86, 91], 51) by decide +kernel) rfl rfl
theorem X1_number_1_2 : Ev X 97 1 [l0, l1] (.int 2 :: st) w n 0 0 Q ↔ Ev X 97 62 [l0, l1] (st) w n 0 0 Q := E_p ok_X1_number (show decode (mB 97) 1 = .ok (.tableswitch 96 0 8 #[51, 56, 61, 66, 71, 76, 81, 86, 91], 51) by decide +kernel) rfl rfl
theorem X1_number_1_3 : Ev X 97 1 [l0, l1] (.int 3 :: st) w n 0 0 Q ↔ Ev X 97 67 [l0, l1] (st) w n 0 0 Q := E_p ok_X1_number (show decode (mB 97) 1 = .ok (.tableswitch 96 0 8 #[51, 56, 61, 66, 71, 76, 81, 86, 91], 51) by decide +kernel) rfl rfl
theorem X1_number_1_4 : Ev X 97 1 [l0, l1] (.int 4 :: st) w n 0 0 Q ↔ Ev X 97 72 [l0, l1] (st) w n 0 0 Q := E_p ok_X1_number (show decode (mB 97) 1 = .ok (.tableswitch 96 0 8 #[51, 56, 61, 66, 71, 76, 81, 86, 91], 51) by decide +kernel) rfl rfl
theorem X1_number_1_5 : Ev X 97 1 [l0, l1] (.int 5 :: st) w n 0 0 Q ↔ Ev X 97 77 [l0, l1] (st) w n 0 0 Q := E_p ok_X1_number (show decode (mB 97) 1 = .ok (.tableswitch 96 0 8 #[51, 56, 61, 66, 71, 76, 81, 86, 91], 51) by decide +kernel) rfl rfl
theorem X1_number_1_6 : Ev X 97 1 [l0, l1] (.int 6 :: st) w n 0 0 Q ↔ Ev X 97 82 [l0, l1] (st) w n 0 0 Q := E_p ok_X1_number (show decode (mB 97) 1 = .ok (.tableswitch 96 0 8 #[51, 56, 61, 66, 71, 76, 81, 86, 91], 51) by decide +kernel) rfl rfl
theorem X1_number_1_7 : Ev X 97 1 [l0, l1] (.int 7 :: st) w n 0 0 Q ↔ Ev X 97 87 [l0, l1] (st) w n 0 0 Q := E_p ok_X1_number (show decode (mB 97) 1 = .ok (.tableswitch 96 0 8 #[51, 56, 61, 66, 71, 76, 81, 86, 91], 51) by decide +kernel) rfl rfl
theorem X1_number_1_8 : Ev X 97 1 [l0, l1] (.int 8 :: st) w n 0 0 Q ↔ Ev X 97 92 [l0, l1] (st) w n 0 0 Q := E_p ok_X1_number (show decode (mB 97) 1 = .ok (.tableswitch 96 0 8 #[51, 56, 61, 66, 71, 76, 81, 86, 91], 51) by decide +kernel) rfl rfl
theorem X1_number_52 : Ev X 97 52 [some (.ref a), l1] (st) w n 0 0 Q ↔ Ev X 97 53 [some (.ref a), l1] (.ref a :: st) w n 0 0 Q := E_p ok_X1_number (show decode (mB 97) 52 = .ok (.aload_n 0, 1) by decide +kernel) rfl rfl
theorem X1_number_53 : Ev X 97 53 [l0, l1] (.ref a :: st) w n 0 0 Q ↔ ∃ v, gf w a 1 0 = some v ∧ Ev X 97 56 [l0, l1] (v :: st) w n 0 0 Q := E_getf ok_X1_number (by decide +kernel) (show decode (mB 97) 53 = .ok (.getfield 9, 3) by decide +kernel) (by decide +kernel)
theorem X1_number_56 : Ev X 97 56 [l0, l1] ([.int x]) w n 0 0 Q ↔ Q (.inl (some (.int x))) w n := E_reti ok_X1_number (show decode (mB 97) 56 = .ok (.ireturn, 1) by decide +kernel) (by decide +kernel)
theorem X1_number_57 : Ev X 97 57 [some (.ref a), l1] (st) w n 0 0 Q ↔ Ev X 97 58 [some (.ref a), l1] (.ref a :: st) w n 0 0 Q := E_p ok_X1_number (show decode (mB 97) 57 = .ok (.aload_n 0, 1) by decide +kernel) rfl rfl
theorem X1_number_58 : Ev X 97 58 [l0, l1] (.ref a :: st) w n 0 0 Q ↔ ∃ v, gf w a 1 1 = some v ∧ Ev X 97 61 [l0, l1] (v :: st) w n 0 0 Q := E_getf ok_X1_number (by decide +kernel) (show decode (mB 97) 58 = .ok (.getfield 15, 3) by decide +kernel) (by decide +kernel)
theorem X1_number_61 : Ev X 97 61 [l0, l1] ([.int x]) w n 0 0 Q ↔ Q (.inl (some (.int x))) w n := E_reti ok_X1_number (show decode (mB 97) 61 = .ok (.ireturn, 1) by decide +kernel) (by decide +kernel)
theorem X1_number_62 : Ev X 97 62 [some (.ref a), l1] (st) w n 0 0 Q ↔ Ev X 97 63 [some (.ref a), l1] (.ref a :: st) w n 0 0 Q := E_p ok_X1_number (show decode (mB 97) 62 = .ok (.aload_n 0, 1) by decide +kernel) rfl rfl
theorem X1_number_63 : Ev X 97 63 [l0, l1] (.ref a :: st) w n 0 0 Q ↔ ∃ v, gf w a 1 2 = some v ∧ Ev X 97 66 [l0, l1] (v :: st) w n 0 0 Q := E_getf ok_X1_number (by decide +kernel) (show decode (mB 97) 63 = .ok (.getfield 18, 3) by decide +kernel) (by decide +kernel)
theorem X1_number_66 : Ev X 97 66 [l0, l1] ([.int x]) w n 0 0 Q ↔ Q (.inl (some (.int x))) w n := E_reti ok_X1_number (show decode (mB 97) 66 = .ok (.ireturn, 1) by decide +kernel) (by decide +kernel)
theorem X1_number_67 : Ev X 97 67 [some (.ref a), l1] (st) w n 0 0 Q ↔ Ev X 97 68 [some (.ref a), l1] (.ref a :: st) w n 0 0 Q := E_p ok_X1_number (show decode (mB 97) 67 = .ok (.aload_n 0, 1) by decide +kernel) rfl rfl
theorem X1_number_68 : Ev X 97 68 [l0, l1] (.ref a :: st) w n 0 0 Q ↔ ∃ v, gf w a 1 3 = some v ∧ Ev X 97 71 [l0, l1] (v :: st) w n 0 0 Q := E_getf ok_X1_number (by decide +kernel) (show decode (mB 97) 68 = .ok (.getfield 36, 3) by decide +kernel) (by decide +kernel)
theorem X1_number_71 : Ev X 97 71 [l0, l1] ([.int x]) w n 0 0 Q ↔ Q (.inl (some (.int x))) w n := E_reti ok_X1_number (show decode (mB 97) 71 = .ok (.ireturn, 1) by decide +kernel) (by decide +kernel)
theorem X1_number_72 : Ev X 97 72 [some (.ref a), l1] (st) w n 0 0 Q ↔ Ev X 97 73 [some (.ref a), l1] (.ref a :: st) w n 0 0 Q := E_p ok_X1_number (show decode (mB 97) 72 = .ok (.aload_n 0, 1) by decide +kernel) rfl rfl
theorem X1_number_73 : Ev X 97 73 [l0, l1] (.ref a :: st) w n 0 0 Q ↔ ∃ v, gf w a 1 4 = some v ∧ Ev X 97 76 [l0, l1] (v :: st) w n 0 0 Q := E_getf ok_X1_number (by decide +kernel) (show decode (mB 97) 73 = .ok (.getfield 39, 3) by decide +kernel) (by decide +kernel)
theorem X1_number_76 : Ev X 97 76 [l0, l1] ([.int x]) w n 0 0 Q ↔ Q (.inl (some (.int x))) w n := E_reti ok_X1_number (show decode (mB 97) 76 = .ok (.ireturn, 1) by decide +kernel) (by decide +kernel)
theorem X1_number_77 : Ev X 97 77 [some (.ref a), l1] (st) w n 0 0 Q ↔ Ev X 97 78 [some (.ref a), l1] (.ref a :: st) w n 0 0 Q := E_p ok_X1_number (show decode (mB 97) 77 = .ok (.aload_n 0, 1) by decide +kernel) rfl rfl
theorem X1_number_78 : Ev X 97 78 [l0, l1] (.ref a :: st) w n 0 0 Q ↔ ∃ v, gf w a 1 5 = some v ∧ Ev X 97 81 [l0, l1] (v :: st) w n 0 0 Q := E_getf ok_X1_number (by decide +kernel) (show decode (mB 97) 78 = .ok (.getfield 21, 3) by decide +kernel) (by decide +kernel)
theorem X1_number_81 : Ev X 97 81 [l0, l1] ([.int x]) w n 0 0 Q ↔ Q (.inl (some (.int x))) w n := E_reti ok_X1_number (show decode (mB 97) 81 = .ok (.ireturn, 1) by decide +kernel) (by decide +kernel)
theorem X1_number_82 : Ev X 97 82 [some (.ref a), l1] (st) w n 0 0 Q ↔ Ev X 97 83 [some (.ref a), l1] (.ref a :: st) w n 0 0 Q := E_p ok_X1_number (show decode (mB 97) 82 = .ok (.aload_n 0, 1) by decide +kernel) rfl rfl
theorem X1_number_83 : Ev X 97 83 [l0, l1] (.ref a :: st) w n 0 0 Q ↔ ∃ v, gf w a 1 6 = some v ∧ Ev X 97 86 [l0, l1] (v :: st) w n 0 0 Q := E_getf ok_X1_number (by decide +kernel) (show decode (mB 97) 83 = .ok (.getfield 24, 3) by decide +kernel) (by decide +kernel)
theorem X1_number_86 : Ev X 97 86 [l0, l1] ([.int x]) w n 0 0 Q ↔ Q (.inl (some (.int x))) w n := E_reti ok_X1_number (show decode (mB 97) 86 = .ok (.ireturn, 1) by decide +kernel) (by decide +kernel)
theorem X1_number_87 : Ev X 97 87 [some (.ref a), l1] (st) w n 0 0 Q ↔ Ev X 97 88 [some (.ref a), l1] (.ref a :: st) w n 0 0 Q := E_p ok_X1_number (show decode (mB 97) 87 = .ok (.aload_n 0, 1) by decide +kernel) rfl rfl
theorem X1_number_88 : Ev X 97 88 [l0, l1] (.ref a :: st) w n 0 0 Q ↔ ∃ v, gf w a 1 7 = some v ∧ Ev X 97 91 [l0, l1] (v :: st) w n 0 0 Q := E_getf ok_X1_number (by decide +kernel) (show decode (mB 97) 88 = .ok (.getfield 27, 3) by decide +kernel) (by decide +kernel)
theorem X1_number_91 : Ev X 97 91 [l0, l1] ([.int x]) w n 0 0 Q ↔ Q (.inl (some (.int x))) w n := E_reti ok_X1_number (show decode (mB 97) 91 = .ok (.ireturn, 1) by decide +kernel) (by decide +kernel)
theorem X1_number_92 : Ev X 97 92 [some (.ref a), l1] (st) w n 0 0 Q ↔ Ev X 97 93 [some (.ref a), l1] (.ref a :: st) w n 0 0 Q := E_p ok_X1_number (show decode (mB 97) 92 = .ok (.aload_n 0, 1) by decide +kernel) rfl rfl
theorem X1_number_93 : Ev X 97 93 [l0, l1] (.ref a :: st) w n 0 0 Q ↔ ∃ v, gf w a 1 8 = some v ∧ Ev X 97 96 [l0, l1] (v :: st) w n 0 0 Q := E_getf ok_X1_number (by decide +kernel) (show decode (mB 97) 93 = .ok (.getfield 30, 3) by decide +kernel) (by decide +kernel)
theorem X1_number_96 : Ev X 97 96 [l0, l1] ([.int x]) w n 0 0 Q ↔ Q (.inl (some (.int x))) w n := E_reti ok_X1_number (show decode (mB 97) 96 = .ok (.ireturn, 1) by decide +kernel) (by decide +kernel)
theorem X1_number_97 : Ev X 97 97 [some (.ref a), l1] (st) w n 0 0 Q ↔ Ev X 97 98 [some (.ref a), l1] (.ref a :: st) w n 0 0 Q := E_p ok_X1_number (show decode (mB 97) 97 = .ok (.aload_n 0, 1) by decide +kernel) rfl rfl
theorem X1_number_98 : Ev X 97 98 [l0, l1] (.ref a :: st) w n 0 0 Q ↔ ∃ v, gf w a 1 3 = some v ∧ Ev X 97 101 [l0, l1] (v :: st) w n 0 0 Q := E_getf ok_X1_number (by decide +kernel) (show decode (mB 97) 98 = .ok (.getfield 36, 3) by decide +kernel) (by decide +kernel)
theorem X1_number_101 : Ev X 97 101 [l0, l1] (st) w n 0 0 Q ↔ Ev X 97 102 [l0, l1] (.int (2) :: st) w n 0 0 Q := E_iconst ok_X1_number (show decode (mB 97) 101 = .ok (.iconst 2, 1) by decide +kernel) (by decide)
theorem X1_number_102 : Ev X 97 102 [l0, l1] (.int y :: .int x :: st) w n 0 0 Q ↔ if x < y then Ev X 97 109 [l0, l1] (st) w n 0 0 Q else Ev X 97 105 [l0, l1] (st) w n 0 0 Q := E_iclt ok_X1_number (show decode (mB 97) 102 = .ok (.if_icmp .lt 7, 3) by decide +kernel) rfl
theorem X1_number_105 : Ev X 97 105 [l0, l1] (st) w n 0 0 Q ↔ Ev X 97 106 [l0, l1] (.int (1) :: st) w n 0 0 Q := E_iconst ok_X1_number (show decode (mB 97) 105 = .ok (.iconst 1, 1) by decide +kernel) (by decide)
theorem X1_number_106 : Ev X 97 106 [l0, l1] (st) w n 0 0 Q ↔ Ev X 97 110 [l0, l1] (st) w n 0 0 Q := E_goto ok_X1_number (show decode (mB 97) 106 = .ok (.goto 4, 3) by decide +kernel) rfl
theorem X1_number_109 : Ev X 97 109 [l0, l1] (st) w n 0 0 Q ↔ Ev X 97 110 [l0, l1] (.int (0) :: st) w n 0 0 Q := E_iconst ok_X1_number (show decode (mB 97) 109 = .ok (.iconst 0, 1) by decide +kernel) (by decide)
theorem X1_number_110 : Ev X 97 110 [l0, l1] ([.int x]) w n 0 0 Q ↔ Q (.inl (some (.int x))) w n := E_reti ok_X1_number (show decode (mB 97) 110 = .ok (.ireturn, 1) by decide +kernel) (by decide +kernel)
theorem ok_X2_awaitedSeat : okP 107 = true := by decide +kernel
theorem X2_awaitedSeat_0 : Ev X 107 0 [some (.ref a), l1, l2] (st) w n 0 0 Q ↔ Ev X 107 1 [some (.ref a), l1, l2] (.ref a :: st) w n 0 0 Q := E_p ok_X2_awaitedSeat (show decode (mB 107) 0 = .ok (.aload_n 0, 1) by decide +kernel) rfl rfl
theorem X2_awaitedSeat_1 : Ev X 107 1 [l0, some (.int x), l2] (st) w n 0 0 Q ↔ Ev X 107 2 [l0, some (.int x), l2] (.int x :: st) w n 0 0 Q := E_p ok_X2_awaitedSeat (show decode (mB 107) 1 = .ok (.iload_n 1, 1) by decide +kernel) rfl rfl
theorem X2_awaitedSeat_2 (h : hasc w a 2 = true) : Ev X 107 2 [l0, l1, l2] (.int y0 :: .ref a :: []) w n 0 0 Q ↔ Ev X 37 0 [some (.ref a), some (.int y0)] [] w n 0 0 (Kr X 107 5 [l0, l1, l2] ([]) 0 0 Q) := E_cv ok_X2_awaitedSeat (show decode (mB 107) 2 = .ok (.invokevirtual 102, 3) by decide +kernel) (by decide +kernel) (by decide +kernel) (by decide +kernel) (k := 1) (vs := [.int y0]) rfl ((rc_Table (M2 := 37) (by decide +kernel) (by decide +kernel)).trans h) (by simp only [List.length_cons, List.length_nil]; decide) (by simp only [List.length_cons, List.length_nil]; decide +kernel) (ent_eq (k := 0) (by simp only [List.length_cons, List.length_nil]; decide +kernel)) (by decide +kernel) (by decide +kernel)
theorem X2_awaitedSeat_5 : Ev X 107 5 [l0, l1, l2] (.int x :: st) w n 0 0 Q ↔ if x = 0 then Ev X 107 8 [l0, l1, l2] (st) w n 0 0 Q else Ev X 107 10 [l0, l1, l2] (st) w n 0 0 Q := E_ifne ok_X2_awaitedSeat (show decode (mB 107) 5 = .ok (.ifCond .ne 5, 3) by decide +kernel) rfl
theorem X2_awaitedSeat_8 : Ev X 107 8 [l0, l1, l2] (st) w n 0 0 Q ↔ Ev X 107 9 [l0, l1, l2] (.int (-1) :: st) w n 0 0 Q := E_iconst ok_X2_awaitedSeat (show decode (mB 107) 8 = .ok (.iconst (-1), 1) by decide +kernel) (by decide)
theorem X2_awaitedSeat_9 : Ev X 107 9 [l0, l1, l2] ([.int x]) w n 0 0 Q ↔ Q (.inl (some (.int x))) w n := E_reti ok_X2_awaitedSeat (show decode (mB 107) 9 = .ok (.ireturn, 1) by decide +kernel) (by decide +kernel)
theorem X2_awaitedSeat_10 : Ev X 107 10 [some (.ref a), l1, l2] (st) w n 0 0 Q ↔ Ev X 107 11 [some (.ref a), l1, l2] (.ref a :: st) w n 0 0 Q := E_p ok_X2_awaitedSeat (show decode (mB 107) 10 = .ok (.aload_n 0, 1) by decide +kernel) rfl rfl
theorem X2_awaitedSeat_11 : Ev X 107 11 [l0, some (.int x), l2] (st) w n 0 0 Q ↔ Ev X 107 12 [l0, some (.int x), l2] (.int x :: st) w n 0 0 Q := E_p ok_X2_awaitedSeat (show decode (mB 107) 11 = .ok (.iload_n 1, 1) by decide +kernel) rfl rfl
theorem X2_awaitedSeat_12 (h : hasc w a 2 = true) : Ev X 107 12 [l0, l1, l2] (.int y0 :: .ref a :: []) w n 0 0 Q ↔ Ev X 78 0 [some (.ref a), some (.int y0), none] [] w n 0 0 (Kr X 107 15 [l0, l1, l2] ([]) 0 0 Q) := E_cv ok_X2_awaitedSeat (show decode (mB 107) 12 = .ok (.invokevirtual 160, 3) by decide +kernel) (by decide +kernel) (by decide +kernel) (by decide +kernel) (k := 1) (vs := [.int y0]) rfl ((rc_Table (M2 := 78) (by decide +kernel) (by decide +kernel)).trans h) (by simp only [List.length_cons, List.length_nil]; decide) (by simp only [List.length_cons, List.length_nil]; decide +kernel) (ent_eq (k := 1) (by simp only [List.length_cons, List.length_nil]; decide +kernel)) (by decide +kernel) (by decide +kernel)
theorem X2_awaitedSeat_15 : Ev X 107 15 [l0, l1, l2] (.int x :: st) w n 0 0 Q ↔ Ev X 107 16 [l0, l1, some (.int x)] (st) w n 0 0 Q := E_p ok_X2_awaitedSeat (show decode (mB 107) 15 = .ok (.istore_n 2, 1) by decide +kernel) rfl rfl
theorem X2_awaitedSeat_16 : Ev X 107 16 [some (.ref a), l1, l2] (st) w n 0 0 Q ↔ Ev X 107 17 [some (.ref a), l1, l2] (.ref a :: st) w n 0 0 Q := E_p ok_X2_awaitedSeat (show decode (mB 107) 16 = .ok (.aload_n 0, 1) by decide +kernel) rfl rfl
theorem X2_awaitedSeat_17 : Ev X 107 17 [l0, l1, some (.int x)] (st) w n 0 0 Q ↔ Ev X 107 18 [l0, l1, some (.int x)] (.int x :: st) w n 0 0 Q := E_p ok_X2_awaitedSeat (show decode (mB 107) 17 = .ok (.iload_n 2, 1) by decide +kernel) rfl rfl
theorem X2_awaitedSeat_18 (h : hasc w a 2 = true) : Ev X 107 18 [l0, l1, l2] (.int y0 :: .ref a :: []) w n 0 0 Q ↔ Ev X 37 0 [some (.ref a), some (.int y0)] [] w n 0 0 (Kr X 107 21 [l0, l1, l2] ([]) 0 0 Q) := E_cv ok_X2_awaitedSeat (show decode (mB 107) 18 = .ok (.invokevirtual 102, 3) by decide +kernel) (by decide +kernel) (by decide +kernel) (by decide +kernel) (k := 1) (vs := [.int y0]) rfl ((rc_Table (M2 := 37) (by decide +kernel) (by decide +kernel)).trans h) (by simp only [List.length_cons, List.length_nil]; decide) (by simp only [List.length_cons, List.length_nil]; decide +kernel) (ent_eq (k := 0) (by simp only [List.length_cons, List.length_nil]; decide +kernel)) (by decide +kernel) (by decide +kernel)
theorem X2_awaitedSeat_21 : Ev X 107 21 [l0, l1, l2] (.int x :: st) w n 0 0 Q ↔ if x = 0 then Ev X 107 33 [l0, l1, l2] (st) w n 0 0 Q else Ev X 107 24 [l0, l1, l2] (st) w n 0 0 Q := E_ifeq ok_X2_awaitedSeat (show decode (mB 107) 21 = .ok (.ifCond .eq 12, 3) by decide +kernel) rfl
theorem X2_awaitedSeat_24 : Ev X 107 24 [some (.ref a), l1, l2] (st) w n 0 0 Q ↔ Ev X 107 25 [some (.ref a), l1, l2] (.ref a :: st) w n 0 0 Q := E_p ok_X2_awaitedSeat (show decode (mB 107) 24 = .ok (.aload_n 0, 1) by decide +kernel) rfl rfl
theorem X2_awaitedSeat_25 : Ev X 107 25 [l0, l1, l2] (.ref a :: st) w n 0 0 Q ↔ ∃ v, gf w a 2 1 = some v ∧ Ev X 107 28 [l0, l1, l2] (v :: st) w n 0 0 Q := E_getf ok_X2_awaitedSeat (by decide +kernel) (show decode (mB 107) 25 = .ok (.getfield 17, 3) by decide +kernel) (by decide +kernel)
theorem X2_awaitedSeat_28 : Ev X 107 28 [l0, l1, some (.int x)] (st) w n 0 0 Q ↔ Ev X 107 29 [l0, l1, some (.int x)] (.int x :: st) w n 0 0 Q := E_p ok_X2_awaitedSeat (show decode (mB 107) 28 = .ok (.iload_n 2, 1) by decide +kernel) rfl rfl
theorem X2_awaitedSeat_29 : Ev X 107 29 [l0, l1, l2] (.int x :: .ref a :: st) w n 0 0 Q ↔ ∃ v, ga w a 0 x = some v ∧ Ev X 107 30 [l0, l1, l2] (v :: st) w n 0 0 Q := E_iald ok_X2_awaitedSeat (by decide +kernel) (show decode (mB 107) 29 = .ok (.iaload, 1) by decide +kernel)
theorem X2_awaitedSeat_30 : Ev X 107 30 [l0, l1, l2] (st) w n 0 0 Q ↔ Ev X 107 34 [l0, l1, l2] (st) w n 0 0 Q := E_goto ok_X2_awaitedSeat (show decode (mB 107) 30 = .ok (.goto 4, 3) by decide +kernel) rfl
theorem X2_awaitedSeat_33 : Ev X 107 33 [l0, l1, l2] (st) w n 0 0 Q ↔ Ev X 107 34 [l0, l1, l2] (.int (-1) :: st) w n 0 0 Q := E_iconst ok_X2_awaitedSeat (show decode (mB 107) 33 = .ok (.iconst (-1), 1) by decide +kernel) (by decide)
theorem X2_awaitedSeat_34 : Ev X 107 34 [l0, l1, l2] ([.int x]) w n 0 0 Q ↔ Q (.inl (some (.int x))) w n := E_reti ok_X2_awaitedSeat (show decode (mB 107) 34 = .ok (.ireturn, 1) by decide +kernel) (by decide +kernel)
theorem ok_X4_comesBackTo : okP 118 = true := by decide +kernel
theorem X4_comesBackTo_0 : Ev X 118 0 [l0, some (.int x), l2, l3] (st) w n 0 0 Q ↔ Ev X 118 1 [l0, some (.int x), l2, l3] (.int x :: st) w n 0 0 Q := E_p ok_X4_comesBackTo (show decode (mB 118) 0 = .ok (.iload_n 1, 1) by decide +kernel) rfl rfl
theorem X4_comesBackTo_1 : Ev X 118 1 [l0, l1, l2, l3] (.int x :: st) w n 0 0 Q ↔ Ev X 118 2 [l0, l1, some (.int x), l3] (st) w n 0 0 Q := E_p ok_X4_comesBackTo (show decode (mB 118) 1 = .ok (.istore_n 2, 1) by decide +kernel) rfl rfl
theorem X4_comesBackTo_2 : Ev X 118 2 [l0, l1, l2, l3] (st) w n 0 0 Q ↔ Ev X 118 3 [l0, l1, l2, l3] (.int (0) :: st) w n 0 0 Q := E_iconst ok_X4_comesBackTo (show decode (mB 118) 2 = .ok (.iconst 0, 1) by decide +kernel) (by decide)
theorem X4_comesBackTo_3 : Ev X 118 3 [l0, l1, l2, l3] (.int x :: st) w n 0 0 Q ↔ Ev X 118 4 [l0, l1, l2, some (.int x)] (st) w n 0 0 Q := E_p ok_X4_comesBackTo (show decode (mB 118) 3 = .ok (.istore_n 3, 1) by decide +kernel) rfl rfl
theorem X4_comesBackTo_4 : Ev X 118 4 [l0, l1, l2, some (.int x)] (st) w n 0 0 Q ↔ Ev X 118 5 [l0, l1, l2, some (.int x)] (.int x :: st) w n 0 0 Q := E_p ok_X4_comesBackTo (show decode (mB 118) 4 = .ok (.iload_n 3, 1) by decide +kernel) rfl rfl
theorem X4_comesBackTo_5 : Ev X 118 5 [some (.ref a), l1, l2, l3] (st) w n 0 0 Q ↔ Ev X 118 6 [some (.ref a), l1, l2, l3] (.ref a :: st) w n 0 0 Q := E_p ok_X4_comesBackTo (show decode (mB 118) 5 = .ok (.aload_n 0, 1) by decide +kernel) rfl rfl
theorem X4_comesBackTo_6 : Ev X 118 6 [l0, l1, l2, l3] (.ref a :: st) w n 0 0 Q ↔ ∃ v, gf w a 2 2 = some v ∧ Ev X 118 9 [l0, l1, l2, l3] (v :: st) w n 0 0 Q := E_getf ok_X4_comesBackTo (by decide +kernel) (show decode (mB 118) 6 = .ok (.getfield 9, 3) by decide +kernel) (by decide +kernel)
theorem X4_comesBackTo_9 : Ev X 118 9 [l0, l1, l2, l3] (.int y :: .int x :: st) w n 0 0 Q ↔ if x < y then Ev X 118 12 [l0, l1, l2, l3] (st) w n 0 0 Q else Ev X 118 31 [l0, l1, l2, l3] (st) w n 0 0 Q := E_icge ok_X4_comesBackTo (show decode (mB 118) 9 = .ok (.if_icmp .ge 22, 3) by decide +kernel) rfl
theorem X4_comesBackTo_12 : Ev X 118 12 [some (.ref a), l1, l2, l3] (st) w n 0 0 Q ↔ Ev X 118 13 [some (.ref a), l1, l2, l3] (.ref a :: st) w n 0 0 Q := E_p ok_X4_comesBackTo (show decode (mB 118) 12 = .ok (.aload_n 0, 1) by decide +kernel) rfl rfl
theorem X4_comesBackTo_13 : Ev X 118 13 [l0, l1, some (.int x), l3] (st) w n 0 0 Q ↔ Ev X 118 14 [l0, l1, some (.int x), l3] (.int x :: st) w n 0 0 Q := E_p ok_X4_comesBackTo (show decode (mB 118) 13 = .ok (.iload_n 2, 1) by decide +kernel) rfl rfl
theorem X4_comesBackTo_14 (h : hasc w a 2 = true) : Ev X 118 14 [l0, l1, l2, l3] (.int y0 :: .ref a :: []) w n 0 0 Q ↔ Ev X 107 0 [some (.ref a), some (.int y0), none] [] w n 0 0 (Kr X 118 17 [l0, l1, l2, l3] ([]) 0 0 Q) := E_cv ok_X4_comesBackTo (show decode (mB 118) 14 = .ok (.invokevirtual 21, 3) by decide +kernel) (by decide +kernel) (by decide +kernel) (by decide +kernel) (k := 1) (vs := [.int y0]) rfl ((rc_Table (M2 := 107) (by decide +kernel) (by decide +kernel)).trans h) (by simp only [List.length_cons, List.length_nil]; decide) (by simp only [List.length_cons, List.length_nil]; decide +kernel) (ent_eq (k := 1) (by simp only [List.length_cons, List.length_nil]; decide +kernel)) (by decide +kernel) (by decide +kernel)
theorem X4_comesBackTo_17 : Ev X 118 17 [l0, l1, l2, l3] (.int x :: st) w n 0 0 Q ↔ Ev X 118 18 [l0, l1, some (.int x), l3] (st) w n 0 0 Q := E_p ok_X4_comesBackTo (show decode (mB 118) 17 = .ok (.istore_n 2, 1) by decide +kernel) rfl rfl
theorem X4_comesBackTo_18 : Ev X 118 18 [l0, l1, some (.int x), l3] (st) w n 0 0 Q ↔ Ev X 118 19 [l0, l1, some (.int x), l3] (.int x :: st) w n 0 0 Q := E_p ok_X4_comesBackTo (show decode (mB 118) 18 = .ok (.iload_n 2, 1) by decide +kernel) rfl rfl
theorem X4_comesBackTo_19 : Ev X 118 19 [l0, some (.int x), l2, l3] (st) w n 0 0 Q ↔ Ev X 118 20 [l0, some (.int x), l2, l3] (.int x :: st) w n 0 0 Q := E_p ok_X4_comesBackTo (show decode (mB 118) 19 = .ok (.iload_n 1, 1) by decide +kernel) rfl rfl
theorem X4_comesBackTo_20 : Ev X 118 20 [l0, l1, l2, l3] (.int y :: .int x :: st) w n 0 0 Q ↔ if x = y then Ev X 118 23 [l0, l1, l2, l3] (st) w n 0 0 Q else Ev X 118 25 [l0, l1, l2, l3] (st) w n 0 0 Q := E_icne ok_X4_comesBackTo (show decode (mB 118) 20 = .ok (.if_icmp .ne 5, 3) by decide +kernel) rfl
theorem X4_comesBackTo_23 : Ev X 118 23 [l0, l1, l2, l3] (st) w n 0 0 Q ↔ Ev X 118 24 [l0, l1, l2, l3] (.int (1) :: st) w n 0 0 Q := E_iconst ok_X4_comesBackTo (show decode (mB 118) 23 = .ok (.iconst 1, 1) by decide +kernel) (by decide)
theorem X4_comesBackTo_24 (h : okr (some .boolean) x = true) : Ev X 118 24 [l0, l1, l2, l3] ([.int x]) w n 0 0 Q ↔ Q (.inl (some (.int x))) w n := E_retz ok_X4_comesBackTo (show decode (mB 118) 24 = .ok (.ireturn, 1) by decide +kernel) (by decide +kernel) h
theorem X4_comesBackTo_25 : Ev X 118 25 [l0, l1, l2, some (.int x)] (st) w n 0 0 Q ↔ Ev X 118 28 [l0, l1, l2, some (.int (x + (1)))] (st) w n 0 0 Q := E_iinc ok_X4_comesBackTo (show decode (mB 118) 25 = .ok (.iinc 3 1, 3) by decide +kernel) rfl (by simp only [List.length_cons, List.length_nil]; decide) (by decide) rfl
theorem X4_comesBackTo_28 : Ev X 118 28 [l0, l1, l2, l3] (st) w n 0 0 Q ↔ Ev X 118 4 [l0, l1, l2, l3] (st) w n 0 0 Q := E_goto ok_X4_comesBackTo (show decode (mB 118) 28 = .ok (.goto (-24), 3) by decide +kernel) rfl
theorem X4_comesBackTo_31 : Ev X 118 31 [l0, l1, l2, l3] (st) w n 0 0 Q ↔ Ev X 118 32 [l0, l1, l2, l3] (.int (0) :: st) w n 0 0 Q := E_iconst ok_X4_comesBackTo (show decode (mB 118) 31 = .ok (.iconst 0, 1) by decide +kernel) (by decide)
theorem X4_comesBackTo_32 (h : okr (some .boolean) x = true) : Ev X 118 32 [l0, l1, l2, l3] ([.int x]) w n 0 0 Q ↔ Q (.inl (some (.int x))) w n := E_retz ok_X4_comesBackTo (show decode (mB 118) 32 = .ok (.ireturn, 1) by decide +kernel) (by decide +kernel) h
theorem ok_X4_ringOf : okP 119 = true := by decide +kernel
theorem X4_ringOf_0 : Ev X 119 0 [l0, l1, l2] (st) w n 0 0 Q ↔ Ev X 119 1 [l0, l1, l2] (.int (0) :: st) w n 0 0 Q := E_iconst ok_X4_ringOf (show decode (mB 119) 0 = .ok (.iconst 0, 1) by decide +kernel) (by decide)
theorem X4_ringOf_1 : Ev X 119 1 [l0, l1, l2] (.int x :: st) w n 0 0 Q ↔ Ev X 119 2 [l0, some (.int x), l2] (st) w n 0 0 Q := E_p ok_X4_ringOf (show decode (mB 119) 1 = .ok (.istore_n 1, 1) by decide +kernel) rfl rfl
theorem X4_ringOf_2 : Ev X 119 2 [l0, l1, l2] (st) w n 0 0 Q ↔ Ev X 119 3 [l0, l1, l2] (.int (0) :: st) w n 0 0 Q := E_iconst ok_X4_ringOf (show decode (mB 119) 2 = .ok (.iconst 0, 1) by decide +kernel) (by decide)
theorem X4_ringOf_3 : Ev X 119 3 [l0, l1, l2] (.int x :: st) w n 0 0 Q ↔ Ev X 119 4 [l0, l1, some (.int x)] (st) w n 0 0 Q := E_p ok_X4_ringOf (show decode (mB 119) 3 = .ok (.istore_n 2, 1) by decide +kernel) rfl rfl
theorem X4_ringOf_4 : Ev X 119 4 [l0, l1, some (.int x)] (st) w n 0 0 Q ↔ Ev X 119 5 [l0, l1, some (.int x)] (.int x :: st) w n 0 0 Q := E_p ok_X4_ringOf (show decode (mB 119) 4 = .ok (.iload_n 2, 1) by decide +kernel) rfl rfl
theorem X4_ringOf_5 : Ev X 119 5 [some (.ref a), l1, l2] (st) w n 0 0 Q ↔ Ev X 119 6 [some (.ref a), l1, l2] (.ref a :: st) w n 0 0 Q := E_p ok_X4_ringOf (show decode (mB 119) 5 = .ok (.aload_n 0, 1) by decide +kernel) rfl rfl
theorem X4_ringOf_6 : Ev X 119 6 [l0, l1, l2] (.ref a :: st) w n 0 0 Q ↔ ∃ v, gf w a 2 2 = some v ∧ Ev X 119 9 [l0, l1, l2] (v :: st) w n 0 0 Q := E_getf ok_X4_ringOf (by decide +kernel) (show decode (mB 119) 6 = .ok (.getfield 9, 3) by decide +kernel) (by decide +kernel)
theorem X4_ringOf_9 : Ev X 119 9 [l0, l1, l2] (.int y :: .int x :: st) w n 0 0 Q ↔ if x < y then Ev X 119 12 [l0, l1, l2] (st) w n 0 0 Q else Ev X 119 32 [l0, l1, l2] (st) w n 0 0 Q := E_icge ok_X4_ringOf (show decode (mB 119) 9 = .ok (.if_icmp .ge 23, 3) by decide +kernel) rfl
theorem X4_ringOf_12 : Ev X 119 12 [some (.ref a), l1, l2] (st) w n 0 0 Q ↔ Ev X 119 13 [some (.ref a), l1, l2] (.ref a :: st) w n 0 0 Q := E_p ok_X4_ringOf (show decode (mB 119) 12 = .ok (.aload_n 0, 1) by decide +kernel) rfl rfl
theorem X4_ringOf_13 : Ev X 119 13 [l0, l1, some (.int x)] (st) w n 0 0 Q ↔ Ev X 119 14 [l0, l1, some (.int x)] (.int x :: st) w n 0 0 Q := E_p ok_X4_ringOf (show decode (mB 119) 13 = .ok (.iload_n 2, 1) by decide +kernel) rfl rfl
theorem X4_ringOf_14 : Ev X 119 14 [l0, l1, l2] (.int y1 :: .ref b0 :: []) w n 0 0 Q ↔ Ev X 118 0 [some (.ref b0), some (.int y1), none, none] [] w n 0 0 (Kr X 119 17 [l0, l1, l2] ([]) 0 0 Q) := E_cs ok_X4_ringOf (show decode (mB 119) 14 = .ok (.invokestatic 15, 3) by decide +kernel) (by decide +kernel) (by decide +kernel) (by decide +kernel) (k := 2) (vs := [.ref b0, .int y1]) rfl (by simp only [List.length_cons, List.length_nil]; decide) (by simp only [List.length_cons, List.length_nil]; decide +kernel) (ent_eq (k := 2) (by simp only [List.length_cons, List.length_nil]; decide +kernel)) (by decide +kernel) (by decide +kernel)
theorem X4_ringOf_17 : Ev X 119 17 [l0, l1, l2] (.int x :: st) w n 0 0 Q ↔ if x = 0 then Ev X 119 26 [l0, l1, l2] (st) w n 0 0 Q else Ev X 119 20 [l0, l1, l2] (st) w n 0 0 Q := E_ifeq ok_X4_ringOf (show decode (mB 119) 17 = .ok (.ifCond .eq 9, 3) by decide +kernel) rfl
theorem X4_ringOf_20 : Ev X 119 20 [l0, some (.int x), l2] (st) w n 0 0 Q ↔ Ev X 119 21 [l0, some (.int x), l2] (.int x :: st) w n 0 0 Q := E_p ok_X4_ringOf (show decode (mB 119) 20 = .ok (.iload_n 1, 1) by decide +kernel) rfl rfl
theorem X4_ringOf_21 : Ev X 119 21 [l0, l1, l2] (st) w n 0 0 Q ↔ Ev X 119 22 [l0, l1, l2] (.int (1) :: st) w n 0 0 Q := E_iconst ok_X4_ringOf (show decode (mB 119) 21 = .ok (.iconst 1, 1) by decide +kernel) (by decide)
theorem X4_ringOf_22 : Ev X 119 22 [l0, l1, some (.int x)] (st) w n 0 0 Q ↔ Ev X 119 23 [l0, l1, some (.int x)] (.int x :: st) w n 0 0 Q := E_p ok_X4_ringOf (show decode (mB 119) 22 = .ok (.iload_n 2, 1) by decide +kernel) rfl rfl
theorem X4_ringOf_23 : Ev X 119 23 [l0, l1, l2] (.int y :: .int x :: st) w n 0 0 Q ↔ Ev X 119 24 [l0, l1, l2] (.int (x <<< (y &&& 31)) :: st) w n 0 0 Q := E_p ok_X4_ringOf (show decode (mB 119) 23 = .ok (.ishl, 1) by decide +kernel) rfl rfl
theorem X4_ringOf_24 : Ev X 119 24 [l0, l1, l2] (.int y :: .int x :: st) w n 0 0 Q ↔ Ev X 119 25 [l0, l1, l2] (.int (x ||| y) :: st) w n 0 0 Q := E_p ok_X4_ringOf (show decode (mB 119) 24 = .ok (.ior, 1) by decide +kernel) rfl rfl
theorem X4_ringOf_25 : Ev X 119 25 [l0, l1, l2] (.int x :: st) w n 0 0 Q ↔ Ev X 119 26 [l0, some (.int x), l2] (st) w n 0 0 Q := E_p ok_X4_ringOf (show decode (mB 119) 25 = .ok (.istore_n 1, 1) by decide +kernel) rfl rfl
theorem X4_ringOf_26 : Ev X 119 26 [l0, l1, some (.int x)] (st) w n 0 0 Q ↔ Ev X 119 29 [l0, l1, some (.int (x + (1)))] (st) w n 0 0 Q := E_iinc ok_X4_ringOf (show decode (mB 119) 26 = .ok (.iinc 2 1, 3) by decide +kernel) rfl (by simp only [List.length_cons, List.length_nil]; decide) (by decide) rfl
theorem X4_ringOf_29 : Ev X 119 29 [l0, l1, l2] (st) w n 0 0 Q ↔ Ev X 119 4 [l0, l1, l2] (st) w n 0 0 Q := E_goto ok_X4_ringOf (show decode (mB 119) 29 = .ok (.goto (-25), 3) by decide +kernel) rfl
theorem X4_ringOf_32 : Ev X 119 32 [l0, some (.int x), l2] (st) w n 0 0 Q ↔ Ev X 119 33 [l0, some (.int x), l2] (.int x :: st) w n 0 0 Q := E_p ok_X4_ringOf (show decode (mB 119) 32 = .ok (.iload_n 1, 1) by decide +kernel) rfl rfl
theorem X4_ringOf_33 : Ev X 119 33 [l0, l1, l2] ([.int x]) w n 0 0 Q ↔ Q (.inl (some (.int x))) w n := E_reti ok_X4_ringOf (show decode (mB 119) 33 = .ok (.ireturn, 1) by decide +kernel) (by decide +kernel)
theorem ok_X4_waitingForOneIn : okP 123 = true := by decide +kernel
theorem X4_waitingForOneIn_0 : Ev X 123 0 [l0, l1, l2, l3, l4] (st) w n 0 0 Q ↔ Ev X 123 1 [l0, l1, l2, l3, l4] (.int (0) :: st) w n 0 0 Q := E_iconst ok_X4_waitingForOneIn (show decode (mB 123) 0 = .ok (.iconst 0, 1) by decide +kernel) (by decide)
theorem X4_waitingForOneIn_1 : Ev X 123 1 [l0, l1, l2, l3, l4] (.int x :: st) w n 0 0 Q ↔ Ev X 123 2 [l0, l1, some (.int x), l3, l4] (st) w n 0 0 Q := E_p ok_X4_waitingForOneIn (show decode (mB 123) 1 = .ok (.istore_n 2, 1) by decide +kernel) rfl rfl
theorem X4_waitingForOneIn_2 : Ev X 123 2 [l0, l1, l2, l3, l4] (st) w n 0 0 Q ↔ Ev X 123 3 [l0, l1, l2, l3, l4] (.int (0) :: st) w n 0 0 Q := E_iconst ok_X4_waitingForOneIn (show decode (mB 123) 2 = .ok (.iconst 0, 1) by decide +kernel) (by decide)
theorem X4_waitingForOneIn_3 : Ev X 123 3 [l0, l1, l2, l3, l4] (.int x :: st) w n 0 0 Q ↔ Ev X 123 4 [l0, l1, l2, some (.int x), l4] (st) w n 0 0 Q := E_p ok_X4_waitingForOneIn (show decode (mB 123) 3 = .ok (.istore_n 3, 1) by decide +kernel) rfl rfl
theorem X4_waitingForOneIn_4 : Ev X 123 4 [l0, l1, l2, some (.int x), l4] (st) w n 0 0 Q ↔ Ev X 123 5 [l0, l1, l2, some (.int x), l4] (.int x :: st) w n 0 0 Q := E_p ok_X4_waitingForOneIn (show decode (mB 123) 4 = .ok (.iload_n 3, 1) by decide +kernel) rfl rfl
theorem X4_waitingForOneIn_5 : Ev X 123 5 [some (.ref a), l1, l2, l3, l4] (st) w n 0 0 Q ↔ Ev X 123 6 [some (.ref a), l1, l2, l3, l4] (.ref a :: st) w n 0 0 Q := E_p ok_X4_waitingForOneIn (show decode (mB 123) 5 = .ok (.aload_n 0, 1) by decide +kernel) rfl rfl
theorem X4_waitingForOneIn_6 : Ev X 123 6 [l0, l1, l2, l3, l4] (.ref a :: st) w n 0 0 Q ↔ ∃ v, gf w a 2 2 = some v ∧ Ev X 123 9 [l0, l1, l2, l3, l4] (v :: st) w n 0 0 Q := E_getf ok_X4_waitingForOneIn (by decide +kernel) (show decode (mB 123) 6 = .ok (.getfield 9, 3) by decide +kernel) (by decide +kernel)
theorem X4_waitingForOneIn_9 : Ev X 123 9 [l0, l1, l2, l3, l4] (.int y :: .int x :: st) w n 0 0 Q ↔ if x < y then Ev X 123 12 [l0, l1, l2, l3, l4] (st) w n 0 0 Q else Ev X 123 47 [l0, l1, l2, l3, l4] (st) w n 0 0 Q := E_icge ok_X4_waitingForOneIn (show decode (mB 123) 9 = .ok (.if_icmp .ge 38, 3) by decide +kernel) rfl
theorem X4_waitingForOneIn_12 : Ev X 123 12 [some (.ref a), l1, l2, l3, l4] (st) w n 0 0 Q ↔ Ev X 123 13 [some (.ref a), l1, l2, l3, l4] (.ref a :: st) w n 0 0 Q := E_p ok_X4_waitingForOneIn (show decode (mB 123) 12 = .ok (.aload_n 0, 1) by decide +kernel) rfl rfl
theorem X4_waitingForOneIn_13 : Ev X 123 13 [l0, l1, l2, some (.int x), l4] (st) w n 0 0 Q ↔ Ev X 123 14 [l0, l1, l2, some (.int x), l4] (.int x :: st) w n 0 0 Q := E_p ok_X4_waitingForOneIn (show decode (mB 123) 13 = .ok (.iload_n 3, 1) by decide +kernel) rfl rfl
theorem X4_waitingForOneIn_14 (h : hasc w a 2 = true) : Ev X 123 14 [l0, l1, l2, l3, l4] (.int y0 :: .ref a :: []) w n 0 0 Q ↔ Ev X 107 0 [some (.ref a), some (.int y0), none] [] w n 0 0 (Kr X 123 17 [l0, l1, l2, l3, l4] ([]) 0 0 Q) := E_cv ok_X4_waitingForOneIn (show decode (mB 123) 14 = .ok (.invokevirtual 21, 3) by decide +kernel) (by decide +kernel) (by decide +kernel) (by decide +kernel) (k := 1) (vs := [.int y0]) rfl ((rc_Table (M2 := 107) (by decide +kernel) (by decide +kernel)).trans h) (by simp only [List.length_cons, List.length_nil]; decide) (by simp only [List.length_cons, List.length_nil]; decide +kernel) (ent_eq (k := 1) (by simp only [List.length_cons, List.length_nil]; decide +kernel)) (by decide +kernel) (by decide +kernel)
theorem X4_waitingForOneIn_17 : Ev X 123 17 [l0, l1, l2, l3, l4] (.int x :: st) w n 0 0 Q ↔ Ev X 123 19 [l0, l1, l2, l3, some (.int x)] (st) w n 0 0 Q := E_p ok_X4_waitingForOneIn (show decode (mB 123) 17 = .ok (.istore 4, 2) by decide +kernel) rfl rfl
theorem X4_waitingForOneIn_19 : Ev X 123 19 [l0, l1, l2, l3, some (.int x)] (st) w n 0 0 Q ↔ Ev X 123 21 [l0, l1, l2, l3, some (.int x)] (.int x :: st) w n 0 0 Q := E_p ok_X4_waitingForOneIn (show decode (mB 123) 19 = .ok (.iload 4, 2) by decide +kernel) rfl rfl
theorem X4_waitingForOneIn_21 : Ev X 123 21 [l0, l1, l2, l3, l4] (st) w n 0 0 Q ↔ Ev X 123 22 [l0, l1, l2, l3, l4] (.int (-1) :: st) w n 0 0 Q := E_iconst ok_X4_waitingForOneIn (show decode (mB 123) 21 = .ok (.iconst (-1), 1) by decide +kernel) (by decide)
theorem X4_waitingForOneIn_22 : Ev X 123 22 [l0, l1, l2, l3, l4] (.int y :: .int x :: st) w n 0 0 Q ↔ if x = y then Ev X 123 41 [l0, l1, l2, l3, l4] (st) w n 0 0 Q else Ev X 123 25 [l0, l1, l2, l3, l4] (st) w n 0 0 Q := E_iceq ok_X4_waitingForOneIn (show decode (mB 123) 22 = .ok (.if_icmp .eq 19, 3) by decide +kernel) rfl
theorem X4_waitingForOneIn_25 : Ev X 123 25 [l0, some (.int x), l2, l3, l4] (st) w n 0 0 Q ↔ Ev X 123 26 [l0, some (.int x), l2, l3, l4] (.int x :: st) w n 0 0 Q := E_p ok_X4_waitingForOneIn (show decode (mB 123) 25 = .ok (.iload_n 1, 1) by decide +kernel) rfl rfl
theorem X4_waitingForOneIn_26 : Ev X 123 26 [l0, l1, l2, l3, some (.int x)] (st) w n 0 0 Q ↔ Ev X 123 28 [l0, l1, l2, l3, some (.int x)] (.int x :: st) w n 0 0 Q := E_p ok_X4_waitingForOneIn (show decode (mB 123) 26 = .ok (.iload 4, 2) by decide +kernel) rfl rfl
theorem X4_waitingForOneIn_28 : Ev X 123 28 [l0, l1, l2, l3, l4] (.int y :: .int x :: st) w n 0 0 Q ↔ Ev X 123 29 [l0, l1, l2, l3, l4] (.int (x >>> (y &&& 31)) :: st) w n 0 0 Q := E_p ok_X4_waitingForOneIn (show decode (mB 123) 28 = .ok (.ishr, 1) by decide +kernel) rfl rfl
theorem X4_waitingForOneIn_29 : Ev X 123 29 [l0, l1, l2, l3, l4] (st) w n 0 0 Q ↔ Ev X 123 30 [l0, l1, l2, l3, l4] (.int (1) :: st) w n 0 0 Q := E_iconst ok_X4_waitingForOneIn (show decode (mB 123) 29 = .ok (.iconst 1, 1) by decide +kernel) (by decide)
theorem X4_waitingForOneIn_30 : Ev X 123 30 [l0, l1, l2, l3, l4] (.int y :: .int x :: st) w n 0 0 Q ↔ Ev X 123 31 [l0, l1, l2, l3, l4] (.int (x &&& y) :: st) w n 0 0 Q := E_p ok_X4_waitingForOneIn (show decode (mB 123) 30 = .ok (.iand, 1) by decide +kernel) rfl rfl
theorem X4_waitingForOneIn_31 : Ev X 123 31 [l0, l1, l2, l3, l4] (st) w n 0 0 Q ↔ Ev X 123 32 [l0, l1, l2, l3, l4] (.int (1) :: st) w n 0 0 Q := E_iconst ok_X4_waitingForOneIn (show decode (mB 123) 31 = .ok (.iconst 1, 1) by decide +kernel) (by decide)
theorem X4_waitingForOneIn_32 : Ev X 123 32 [l0, l1, l2, l3, l4] (.int y :: .int x :: st) w n 0 0 Q ↔ if x = y then Ev X 123 35 [l0, l1, l2, l3, l4] (st) w n 0 0 Q else Ev X 123 41 [l0, l1, l2, l3, l4] (st) w n 0 0 Q := E_icne ok_X4_waitingForOneIn (show decode (mB 123) 32 = .ok (.if_icmp .ne 9, 3) by decide +kernel) rfl
theorem X4_waitingForOneIn_35 : Ev X 123 35 [l0, l1, some (.int x), l3, l4] (st) w n 0 0 Q ↔ Ev X 123 36 [l0, l1, some (.int x), l3, l4] (.int x :: st) w n 0 0 Q := E_p ok_X4_waitingForOneIn (show decode (mB 123) 35 = .ok (.iload_n 2, 1) by decide +kernel) rfl rfl
theorem X4_waitingForOneIn_36 : Ev X 123 36 [l0, l1, l2, l3, l4] (st) w n 0 0 Q ↔ Ev X 123 37 [l0, l1, l2, l3, l4] (.int (1) :: st) w n 0 0 Q := E_iconst ok_X4_waitingForOneIn (show decode (mB 123) 36 = .ok (.iconst 1, 1) by decide +kernel) (by decide)
theorem X4_waitingForOneIn_37 : Ev X 123 37 [l0, l1, l2, some (.int x), l4] (st) w n 0 0 Q ↔ Ev X 123 38 [l0, l1, l2, some (.int x), l4] (.int x :: st) w n 0 0 Q := E_p ok_X4_waitingForOneIn (show decode (mB 123) 37 = .ok (.iload_n 3, 1) by decide +kernel) rfl rfl
theorem X4_waitingForOneIn_38 : Ev X 123 38 [l0, l1, l2, l3, l4] (.int y :: .int x :: st) w n 0 0 Q ↔ Ev X 123 39 [l0, l1, l2, l3, l4] (.int (x <<< (y &&& 31)) :: st) w n 0 0 Q := E_p ok_X4_waitingForOneIn (show decode (mB 123) 38 = .ok (.ishl, 1) by decide +kernel) rfl rfl
theorem X4_waitingForOneIn_39 : Ev X 123 39 [l0, l1, l2, l3, l4] (.int y :: .int x :: st) w n 0 0 Q ↔ Ev X 123 40 [l0, l1, l2, l3, l4] (.int (x ||| y) :: st) w n 0 0 Q := E_p ok_X4_waitingForOneIn (show decode (mB 123) 39 = .ok (.ior, 1) by decide +kernel) rfl rfl
theorem X4_waitingForOneIn_40 : Ev X 123 40 [l0, l1, l2, l3, l4] (.int x :: st) w n 0 0 Q ↔ Ev X 123 41 [l0, l1, some (.int x), l3, l4] (st) w n 0 0 Q := E_p ok_X4_waitingForOneIn (show decode (mB 123) 40 = .ok (.istore_n 2, 1) by decide +kernel) rfl rfl
theorem X4_waitingForOneIn_41 : Ev X 123 41 [l0, l1, l2, some (.int x), l4] (st) w n 0 0 Q ↔ Ev X 123 44 [l0, l1, l2, some (.int (x + (1))), l4] (st) w n 0 0 Q := E_iinc ok_X4_waitingForOneIn (show decode (mB 123) 41 = .ok (.iinc 3 1, 3) by decide +kernel) rfl (by simp only [List.length_cons, List.length_nil]; decide) (by decide) rfl
theorem X4_waitingForOneIn_44 : Ev X 123 44 [l0, l1, l2, l3, l4] (st) w n 0 0 Q ↔ Ev X 123 4 [l0, l1, l2, l3, l4] (st) w n 0 0 Q := E_goto ok_X4_waitingForOneIn (show decode (mB 123) 44 = .ok (.goto (-40), 3) by decide +kernel) rfl
theorem X4_waitingForOneIn_47 : Ev X 123 47 [l0, l1, some (.int x), l3, l4] (st) w n 0 0 Q ↔ Ev X 123 48 [l0, l1, some (.int x), l3, l4] (.int x :: st) w n 0 0 Q := E_p ok_X4_waitingForOneIn (show decode (mB 123) 47 = .ok (.iload_n 2, 1) by decide +kernel) rfl rfl
theorem X4_waitingForOneIn_48 : Ev X 123 48 [l0, l1, l2, l3, l4] ([.int x]) w n 0 0 Q ↔ Q (.inl (some (.int x))) w n := E_reti ok_X4_waitingForOneIn (show decode (mB 123) 48 = .ok (.ireturn, 1) by decide +kernel) (by decide +kernel)
theorem ok_X4_stuckOf : okP 124 = true := by decide +kernel
theorem X4_stuckOf_0 : Ev X 124 0 [some (.ref a), l1, l2, l3] (st) w n 0 0 Q ↔ Ev X 124 1 [some (.ref a), l1, l2, l3] (.ref a :: st) w n 0 0 Q := E_p ok_X4_stuckOf (show decode (mB 124) 0 = .ok (.aload_n 0, 1) by decide +kernel) rfl rfl
theorem X4_stuckOf_1 : Ev X 124 1 [l0, l1, l2, l3] (.ref b0 :: []) w n 0 0 Q ↔ Ev X 119 0 [some (.ref b0), none, none] [] w n 0 0 (Kr X 124 4 [l0, l1, l2, l3] ([]) 0 0 Q) := E_cs ok_X4_stuckOf (show decode (mB 124) 1 = .ok (.invokestatic 25, 3) by decide +kernel) (by decide +kernel) (by decide +kernel) (by decide +kernel) (k := 1) (vs := [.ref b0]) rfl (by simp only [List.length_cons, List.length_nil]; decide) (by simp only [List.length_cons, List.length_nil]; decide +kernel) (ent_eq (k := 2) (by simp only [List.length_cons, List.length_nil]; decide +kernel)) (by decide +kernel) (by decide +kernel)
theorem X4_stuckOf_4 : Ev X 124 4 [l0, l1, l2, l3] (.int x :: st) w n 0 0 Q ↔ Ev X 124 5 [l0, some (.int x), l2, l3] (st) w n 0 0 Q := E_p ok_X4_stuckOf (show decode (mB 124) 4 = .ok (.istore_n 1, 1) by decide +kernel) rfl rfl
theorem X4_stuckOf_5 : Ev X 124 5 [l0, l1, l2, l3] (st) w n 0 0 Q ↔ Ev X 124 6 [l0, l1, l2, l3] (.int (0) :: st) w n 0 0 Q := E_iconst ok_X4_stuckOf (show decode (mB 124) 5 = .ok (.iconst 0, 1) by decide +kernel) (by decide)
theorem X4_stuckOf_6 : Ev X 124 6 [l0, l1, l2, l3] (.int x :: st) w n 0 0 Q ↔ Ev X 124 7 [l0, l1, some (.int x), l3] (st) w n 0 0 Q := E_p ok_X4_stuckOf (show decode (mB 124) 6 = .ok (.istore_n 2, 1) by decide +kernel) rfl rfl
theorem X4_stuckOf_7 : Ev X 124 7 [l0, l1, some (.int x), l3] (st) w n 0 0 Q ↔ Ev X 124 8 [l0, l1, some (.int x), l3] (.int x :: st) w n 0 0 Q := E_p ok_X4_stuckOf (show decode (mB 124) 7 = .ok (.iload_n 2, 1) by decide +kernel) rfl rfl
theorem X4_stuckOf_8 : Ev X 124 8 [some (.ref a), l1, l2, l3] (st) w n 0 0 Q ↔ Ev X 124 9 [some (.ref a), l1, l2, l3] (.ref a :: st) w n 0 0 Q := E_p ok_X4_stuckOf (show decode (mB 124) 8 = .ok (.aload_n 0, 1) by decide +kernel) rfl rfl
theorem X4_stuckOf_9 : Ev X 124 9 [l0, l1, l2, l3] (.ref a :: st) w n 0 0 Q ↔ ∃ v, gf w a 2 2 = some v ∧ Ev X 124 12 [l0, l1, l2, l3] (v :: st) w n 0 0 Q := E_getf ok_X4_stuckOf (by decide +kernel) (show decode (mB 124) 9 = .ok (.getfield 9, 3) by decide +kernel) (by decide +kernel)
theorem X4_stuckOf_12 : Ev X 124 12 [l0, l1, l2, l3] (.int y :: .int x :: st) w n 0 0 Q ↔ if x < y then Ev X 124 15 [l0, l1, l2, l3] (st) w n 0 0 Q else Ev X 124 29 [l0, l1, l2, l3] (st) w n 0 0 Q := E_icge ok_X4_stuckOf (show decode (mB 124) 12 = .ok (.if_icmp .ge 17, 3) by decide +kernel) rfl
theorem X4_stuckOf_15 : Ev X 124 15 [l0, some (.int x), l2, l3] (st) w n 0 0 Q ↔ Ev X 124 16 [l0, some (.int x), l2, l3] (.int x :: st) w n 0 0 Q := E_p ok_X4_stuckOf (show decode (mB 124) 15 = .ok (.iload_n 1, 1) by decide +kernel) rfl rfl
theorem X4_stuckOf_16 : Ev X 124 16 [some (.ref a), l1, l2, l3] (st) w n 0 0 Q ↔ Ev X 124 17 [some (.ref a), l1, l2, l3] (.ref a :: st) w n 0 0 Q := E_p ok_X4_stuckOf (show decode (mB 124) 16 = .ok (.aload_n 0, 1) by decide +kernel) rfl rfl
theorem X4_stuckOf_17 : Ev X 124 17 [l0, some (.int x), l2, l3] (st) w n 0 0 Q ↔ Ev X 124 18 [l0, some (.int x), l2, l3] (.int x :: st) w n 0 0 Q := E_p ok_X4_stuckOf (show decode (mB 124) 17 = .ok (.iload_n 1, 1) by decide +kernel) rfl rfl
theorem X4_stuckOf_18 : Ev X 124 18 [l0, l1, l2, l3] (.int y1 :: .ref b0 :: .int z0 :: []) w n 0 0 Q ↔ Ev X 123 0 [some (.ref b0), some (.int y1), none, none, none] [] w n 0 0 (Kr X 124 21 [l0, l1, l2, l3] (.int z0 :: []) 0 0 Q) := E_cs ok_X4_stuckOf (show decode (mB 124) 18 = .ok (.invokestatic 29, 3) by decide +kernel) (by decide +kernel) (by decide +kernel) (by decide +kernel) (k := 2) (vs := [.ref b0, .int y1]) rfl (by simp only [List.length_cons, List.length_nil]; decide) (by simp only [List.length_cons, List.length_nil]; decide +kernel) (ent_eq (k := 3) (by simp only [List.length_cons, List.length_nil]; decide +kernel)) (by decide +kernel) (by decide +kernel)
theorem X4_stuckOf_21 : Ev X 124 21 [l0, l1, l2, l3] (.int y :: .int x :: st) w n 0 0 Q ↔ Ev X 124 22 [l0, l1, l2, l3] (.int (x ||| y) :: st) w n 0 0 Q := E_p ok_X4_stuckOf (show decode (mB 124) 21 = .ok (.ior, 1) by decide +kernel) rfl rfl
theorem X4_stuckOf_22 : Ev X 124 22 [l0, l1, l2, l3] (.int x :: st) w n 0 0 Q ↔ Ev X 124 23 [l0, some (.int x), l2, l3] (st) w n 0 0 Q := E_p ok_X4_stuckOf (show decode (mB 124) 22 = .ok (.istore_n 1, 1) by decide +kernel) rfl rfl
theorem X4_stuckOf_23 : Ev X 124 23 [l0, l1, some (.int x), l3] (st) w n 0 0 Q ↔ Ev X 124 26 [l0, l1, some (.int (x + (1))), l3] (st) w n 0 0 Q := E_iinc ok_X4_stuckOf (show decode (mB 124) 23 = .ok (.iinc 2 1, 3) by decide +kernel) rfl (by simp only [List.length_cons, List.length_nil]; decide) (by decide) rfl
theorem X4_stuckOf_26 : Ev X 124 26 [l0, l1, l2, l3] (st) w n 0 0 Q ↔ Ev X 124 7 [l0, l1, l2, l3] (st) w n 0 0 Q := E_goto ok_X4_stuckOf (show decode (mB 124) 26 = .ok (.goto (-19), 3) by decide +kernel) rfl
theorem X4_stuckOf_29 : Ev X 124 29 [some (.ref a), l1, l2, l3] (st) w n 0 0 Q ↔ Ev X 124 30 [some (.ref a), l1, l2, l3] (.ref a :: st) w n 0 0 Q := E_p ok_X4_stuckOf (show decode (mB 124) 29 = .ok (.aload_n 0, 1) by decide +kernel) rfl rfl
theorem X4_stuckOf_30 (h : hasc w a 2 = true) : Ev X 124 30 [l0, l1, l2, l3] (.ref a :: []) w n 0 0 Q ↔ Ev X 74 0 [some (.ref a), none, none] [] w n 0 0 (Kr X 124 33 [l0, l1, l2, l3] ([]) 0 0 Q) := E_cv ok_X4_stuckOf (show decode (mB 124) 30 = .ok (.invokevirtual 33, 3) by decide +kernel) (by decide +kernel) (by decide +kernel) (by decide +kernel) (k := 0) (vs := []) rfl ((rc_Table (M2 := 74) (by decide +kernel) (by decide +kernel)).trans h) (by simp only [List.length_cons, List.length_nil]; decide) (by simp only [List.length_cons, List.length_nil]; decide +kernel) (ent_eq (k := 2) (by simp only [List.length_cons, List.length_nil]; decide +kernel)) (by decide +kernel) (by decide +kernel)
theorem X4_stuckOf_33 : Ev X 124 33 [l0, some (.int x), l2, l3] (st) w n 0 0 Q ↔ Ev X 124 34 [l0, some (.int x), l2, l3] (.int x :: st) w n 0 0 Q := E_p ok_X4_stuckOf (show decode (mB 124) 33 = .ok (.iload_n 1, 1) by decide +kernel) rfl rfl
theorem X4_stuckOf_34 : Ev X 124 34 [l0, l1, l2, l3] (st) w n 0 0 Q ↔ Ev X 124 35 [l0, l1, l2, l3] (.int (-1) :: st) w n 0 0 Q := E_iconst ok_X4_stuckOf (show decode (mB 124) 34 = .ok (.iconst (-1), 1) by decide +kernel) (by decide)
theorem X4_stuckOf_35 : Ev X 124 35 [l0, l1, l2, l3] (.int y :: .int x :: st) w n 0 0 Q ↔ Ev X 124 36 [l0, l1, l2, l3] (.int (x ^^^ y) :: st) w n 0 0 Q := E_p ok_X4_stuckOf (show decode (mB 124) 35 = .ok (.ixor, 1) by decide +kernel) rfl rfl
theorem X4_stuckOf_36 : Ev X 124 36 [l0, l1, l2, l3] (.int y :: .int x :: st) w n 0 0 Q ↔ Ev X 124 37 [l0, l1, l2, l3] (.int (x &&& y) :: st) w n 0 0 Q := E_p ok_X4_stuckOf (show decode (mB 124) 36 = .ok (.iand, 1) by decide +kernel) rfl rfl
theorem X4_stuckOf_37 : Ev X 124 37 [l0, l1, l2, l3] (.int x :: st) w n 0 0 Q ↔ Ev X 124 38 [l0, l1, some (.int x), l3] (st) w n 0 0 Q := E_p ok_X4_stuckOf (show decode (mB 124) 37 = .ok (.istore_n 2, 1) by decide +kernel) rfl rfl
theorem X4_stuckOf_38 : Ev X 124 38 [l0, l1, l2, l3] (st) w n 0 0 Q ↔ Ev X 124 39 [l0, l1, l2, l3] (.int (0) :: st) w n 0 0 Q := E_iconst ok_X4_stuckOf (show decode (mB 124) 38 = .ok (.iconst 0, 1) by decide +kernel) (by decide)
theorem X4_stuckOf_39 : Ev X 124 39 [l0, l1, l2, l3] (.int x :: st) w n 0 0 Q ↔ Ev X 124 40 [l0, l1, l2, some (.int x)] (st) w n 0 0 Q := E_p ok_X4_stuckOf (show decode (mB 124) 39 = .ok (.istore_n 3, 1) by decide +kernel) rfl rfl
theorem X4_stuckOf_40 : Ev X 124 40 [l0, l1, l2, some (.int x)] (st) w n 0 0 Q ↔ Ev X 124 41 [l0, l1, l2, some (.int x)] (.int x :: st) w n 0 0 Q := E_p ok_X4_stuckOf (show decode (mB 124) 40 = .ok (.iload_n 3, 1) by decide +kernel) rfl rfl
theorem X4_stuckOf_41 : Ev X 124 41 [some (.ref a), l1, l2, l3] (st) w n 0 0 Q ↔ Ev X 124 42 [some (.ref a), l1, l2, l3] (.ref a :: st) w n 0 0 Q := E_p ok_X4_stuckOf (show decode (mB 124) 41 = .ok (.aload_n 0, 1) by decide +kernel) rfl rfl
theorem X4_stuckOf_42 : Ev X 124 42 [l0, l1, l2, l3] (.ref a :: st) w n 0 0 Q ↔ ∃ v, gf w a 2 2 = some v ∧ Ev X 124 45 [l0, l1, l2, l3] (v :: st) w n 0 0 Q := E_getf ok_X4_stuckOf (by decide +kernel) (show decode (mB 124) 42 = .ok (.getfield 9, 3) by decide +kernel) (by decide +kernel)
theorem X4_stuckOf_45 : Ev X 124 45 [l0, l1, l2, l3] (.int y :: .int x :: st) w n 0 0 Q ↔ if x < y then Ev X 124 48 [l0, l1, l2, l3] (st) w n 0 0 Q else Ev X 124 84 [l0, l1, l2, l3] (st) w n 0 0 Q := E_icge ok_X4_stuckOf (show decode (mB 124) 45 = .ok (.if_icmp .ge 39, 3) by decide +kernel) rfl
theorem X4_stuckOf_48 : Ev X 124 48 [some (.ref a), l1, l2, l3] (st) w n 0 0 Q ↔ Ev X 124 49 [some (.ref a), l1, l2, l3] (.ref a :: st) w n 0 0 Q := E_p ok_X4_stuckOf (show decode (mB 124) 48 = .ok (.aload_n 0, 1) by decide +kernel) rfl rfl
theorem X4_stuckOf_49 : Ev X 124 49 [l0, l1, l2, l3] (.ref a :: st) w n 0 0 Q ↔ ∃ v, gf w a 2 0 = some v ∧ Ev X 124 52 [l0, l1, l2, l3] (v :: st) w n 0 0 Q := E_getf ok_X4_stuckOf (by decide +kernel) (show decode (mB 124) 49 = .ok (.getfield 37, 3) by decide +kernel) (by decide +kernel)
theorem X4_stuckOf_52 : Ev X 124 52 [l0, l1, l2, some (.int x)] (st) w n 0 0 Q ↔ Ev X 124 53 [l0, l1, l2, some (.int x)] (.int x :: st) w n 0 0 Q := E_p ok_X4_stuckOf (show decode (mB 124) 52 = .ok (.iload_n 3, 1) by decide +kernel) rfl rfl
theorem X4_stuckOf_53 : Ev X 124 53 [l0, l1, l2, l3] (.int x :: .ref a :: st) w n 0 0 Q ↔ ∃ v, (ga w a 4 x).or (ga w a 5 x) = some v ∧ Ev X 124 54 [l0, l1, l2, l3] (v :: st) w n 0 0 Q := E_aald ok_X4_stuckOf (show decode (mB 124) 53 = .ok (.aaload, 1) by decide +kernel)
theorem X4_stuckOf_54 : Ev X 124 54 [l0, l1, l2, l3] (.ref a :: st) w n 0 0 Q ↔ ∃ v, gf w a 1 3 = some v ∧ Ev X 124 57 [l0, l1, l2, l3] (v :: st) w n 0 0 Q := E_getf ok_X4_stuckOf (by decide +kernel) (show decode (mB 124) 54 = .ok (.getfield 41, 3) by decide +kernel) (by decide +kernel)
theorem X4_stuckOf_57 : Ev X 124 57 [l0, l1, l2, l3] (st) w n 0 0 Q ↔ Ev X 124 58 [l0, l1, l2, l3] (.int (1) :: st) w n 0 0 Q := E_iconst ok_X4_stuckOf (show decode (mB 124) 57 = .ok (.iconst 1, 1) by decide +kernel) (by decide)
theorem X4_stuckOf_58 : Ev X 124 58 [l0, l1, l2, l3] (.int y :: .int x :: st) w n 0 0 Q ↔ if x = y then Ev X 124 61 [l0, l1, l2, l3] (st) w n 0 0 Q else Ev X 124 78 [l0, l1, l2, l3] (st) w n 0 0 Q := E_icne ok_X4_stuckOf (show decode (mB 124) 58 = .ok (.if_icmp .ne 20, 3) by decide +kernel) rfl
theorem X4_stuckOf_61 : Ev X 124 61 [some (.ref a), l1, l2, l3] (st) w n 0 0 Q ↔ Ev X 124 62 [some (.ref a), l1, l2, l3] (.ref a :: st) w n 0 0 Q := E_p ok_X4_stuckOf (show decode (mB 124) 61 = .ok (.aload_n 0, 1) by decide +kernel) rfl rfl
theorem X4_stuckOf_62 (h : hasc w a 2 = true) : Ev X 124 62 [l0, l1, l2, l3] (.ref a :: []) w n 0 0 Q ↔ Ev X 76 0 [some (.ref a)] [] w n 0 0 (Kr X 124 65 [l0, l1, l2, l3] ([]) 0 0 Q) := E_cv ok_X4_stuckOf (show decode (mB 124) 62 = .ok (.invokevirtual 46, 3) by decide +kernel) (by decide +kernel) (by decide +kernel) (by decide +kernel) (k := 0) (vs := []) rfl ((rc_Table (M2 := 76) (by decide +kernel) (by decide +kernel)).trans h) (by simp only [List.length_cons, List.length_nil]; decide) (by simp only [List.length_cons, List.length_nil]; decide +kernel) (ent_eq (k := 0) (by simp only [List.length_cons, List.length_nil]; decide +kernel)) (by decide +kernel) (by decide +kernel)
theorem X4_stuckOf_65 : Ev X 124 65 [l0, l1, l2, l3] (.int x :: st) w n 0 0 Q ↔ if x = 0 then Ev X 124 68 [l0, l1, l2, l3] (st) w n 0 0 Q else Ev X 124 78 [l0, l1, l2, l3] (st) w n 0 0 Q := E_ifne ok_X4_stuckOf (show decode (mB 124) 65 = .ok (.ifCond .ne 13, 3) by decide +kernel) rfl
theorem X4_stuckOf_68 : Ev X 124 68 [l0, l1, some (.int x), l3] (st) w n 0 0 Q ↔ Ev X 124 69 [l0, l1, some (.int x), l3] (.int x :: st) w n 0 0 Q := E_p ok_X4_stuckOf (show decode (mB 124) 68 = .ok (.iload_n 2, 1) by decide +kernel) rfl rfl
theorem X4_stuckOf_69 : Ev X 124 69 [l0, l1, l2, l3] (.int x :: st) w n 0 0 Q ↔ if x = 0 then Ev X 124 72 [l0, l1, l2, l3] (st) w n 0 0 Q else Ev X 124 78 [l0, l1, l2, l3] (st) w n 0 0 Q := E_ifne ok_X4_stuckOf (show decode (mB 124) 69 = .ok (.ifCond .ne 9, 3) by decide +kernel) rfl
theorem X4_stuckOf_72 : Ev X 124 72 [l0, some (.int x), l2, l3] (st) w n 0 0 Q ↔ Ev X 124 73 [l0, some (.int x), l2, l3] (.int x :: st) w n 0 0 Q := E_p ok_X4_stuckOf (show decode (mB 124) 72 = .ok (.iload_n 1, 1) by decide +kernel) rfl rfl
theorem X4_stuckOf_73 : Ev X 124 73 [l0, l1, l2, l3] (st) w n 0 0 Q ↔ Ev X 124 74 [l0, l1, l2, l3] (.int (1) :: st) w n 0 0 Q := E_iconst ok_X4_stuckOf (show decode (mB 124) 73 = .ok (.iconst 1, 1) by decide +kernel) (by decide)
theorem X4_stuckOf_74 : Ev X 124 74 [l0, l1, l2, some (.int x)] (st) w n 0 0 Q ↔ Ev X 124 75 [l0, l1, l2, some (.int x)] (.int x :: st) w n 0 0 Q := E_p ok_X4_stuckOf (show decode (mB 124) 74 = .ok (.iload_n 3, 1) by decide +kernel) rfl rfl
theorem X4_stuckOf_75 : Ev X 124 75 [l0, l1, l2, l3] (.int y :: .int x :: st) w n 0 0 Q ↔ Ev X 124 76 [l0, l1, l2, l3] (.int (x <<< (y &&& 31)) :: st) w n 0 0 Q := E_p ok_X4_stuckOf (show decode (mB 124) 75 = .ok (.ishl, 1) by decide +kernel) rfl rfl
theorem X4_stuckOf_76 : Ev X 124 76 [l0, l1, l2, l3] (.int y :: .int x :: st) w n 0 0 Q ↔ Ev X 124 77 [l0, l1, l2, l3] (.int (x ||| y) :: st) w n 0 0 Q := E_p ok_X4_stuckOf (show decode (mB 124) 76 = .ok (.ior, 1) by decide +kernel) rfl rfl
theorem X4_stuckOf_77 : Ev X 124 77 [l0, l1, l2, l3] (.int x :: st) w n 0 0 Q ↔ Ev X 124 78 [l0, some (.int x), l2, l3] (st) w n 0 0 Q := E_p ok_X4_stuckOf (show decode (mB 124) 77 = .ok (.istore_n 1, 1) by decide +kernel) rfl rfl
theorem X4_stuckOf_78 : Ev X 124 78 [l0, l1, l2, some (.int x)] (st) w n 0 0 Q ↔ Ev X 124 81 [l0, l1, l2, some (.int (x + (1)))] (st) w n 0 0 Q := E_iinc ok_X4_stuckOf (show decode (mB 124) 78 = .ok (.iinc 3 1, 3) by decide +kernel) rfl (by simp only [List.length_cons, List.length_nil]; decide) (by decide) rfl
theorem X4_stuckOf_81 : Ev X 124 81 [l0, l1, l2, l3] (st) w n 0 0 Q ↔ Ev X 124 40 [l0, l1, l2, l3] (st) w n 0 0 Q := E_goto ok_X4_stuckOf (show decode (mB 124) 81 = .ok (.goto (-41), 3) by decide +kernel) rfl
theorem X4_stuckOf_84 : Ev X 124 84 [l0, some (.int x), l2, l3] (st) w n 0 0 Q ↔ Ev X 124 85 [l0, some (.int x), l2, l3] (.int x :: st) w n 0 0 Q := E_p ok_X4_stuckOf (show decode (mB 124) 84 = .ok (.iload_n 1, 1) by decide +kernel) rfl rfl
theorem X4_stuckOf_85 : Ev X 124 85 [l0, l1, l2, l3] ([.int x]) w n 0 0 Q ↔ Q (.inl (some (.int x))) w n := E_reti ok_X4_stuckOf (show decode (mB 124) 85 = .ok (.ireturn, 1) by decide +kernel) (by decide +kernel)
theorem ok_X4_canGoOn : okP 128 = true := by decide +kernel
theorem X4_canGoOn_0 : Ev X 128 0 [some (.ref a), l1, l2, l3, l4] (st) w n 0 0 Q ↔ Ev X 128 1 [some (.ref a), l1, l2, l3, l4] (.ref a :: st) w n 0 0 Q := E_p ok_X4_canGoOn (show decode (mB 128) 0 = .ok (.aload_n 0, 1) by decide +kernel) rfl rfl
theorem X4_canGoOn_1 : Ev X 128 1 [l0, l1, l2, l3, l4] (.ref a :: st) w n 0 0 Q ↔ ∃ v, gf w a 2 0 = some v ∧ Ev X 128 4 [l0, l1, l2, l3, l4] (v :: st) w n 0 0 Q := E_getf ok_X4_canGoOn (by decide +kernel) (show decode (mB 128) 1 = .ok (.getfield 37, 3) by decide +kernel) (by decide +kernel)
theorem X4_canGoOn_4 : Ev X 128 4 [l0, some (.int x), l2, l3, l4] (st) w n 0 0 Q ↔ Ev X 128 5 [l0, some (.int x), l2, l3, l4] (.int x :: st) w n 0 0 Q := E_p ok_X4_canGoOn (show decode (mB 128) 4 = .ok (.iload_n 1, 1) by decide +kernel) rfl rfl
theorem X4_canGoOn_5 : Ev X 128 5 [l0, l1, l2, l3, l4] (.int x :: .ref a :: st) w n 0 0 Q ↔ ∃ v, (ga w a 4 x).or (ga w a 5 x) = some v ∧ Ev X 128 6 [l0, l1, l2, l3, l4] (v :: st) w n 0 0 Q := E_aald ok_X4_canGoOn (show decode (mB 128) 5 = .ok (.aaload, 1) by decide +kernel)
theorem X4_canGoOn_6 : Ev X 128 6 [l0, l1, l2, l3, l4] (.ref a :: st) w n 0 0 Q ↔ ∃ v, gf w a 1 3 = some v ∧ Ev X 128 9 [l0, l1, l2, l3, l4] (v :: st) w n 0 0 Q := E_getf ok_X4_canGoOn (by decide +kernel) (show decode (mB 128) 6 = .ok (.getfield 41, 3) by decide +kernel) (by decide +kernel)
theorem X4_canGoOn_9 : Ev X 128 9 [l0, l1, l2, l3, l4] (.int x :: st) w n 0 0 Q ↔ Ev X 128 10 [l0, l1, l2, some (.int x), l4] (st) w n 0 0 Q := E_p ok_X4_canGoOn (show decode (mB 128) 9 = .ok (.istore_n 3, 1) by decide +kernel) rfl rfl
theorem X4_canGoOn_10 : Ev X 128 10 [l0, l1, l2, some (.int x), l4] (st) w n 0 0 Q ↔ Ev X 128 11 [l0, l1, l2, some (.int x), l4] (.int x :: st) w n 0 0 Q := E_p ok_X4_canGoOn (show decode (mB 128) 10 = .ok (.iload_n 3, 1) by decide +kernel) rfl rfl
theorem X4_canGoOn_11 : Ev X 128 11 [l0, l1, l2, l3, l4] (.int x :: st) w n 0 0 Q ↔ if x = 0 then Ev X 128 19 [l0, l1, l2, l3, l4] (st) w n 0 0 Q else Ev X 128 14 [l0, l1, l2, l3, l4] (st) w n 0 0 Q := E_ifeq ok_X4_canGoOn (show decode (mB 128) 11 = .ok (.ifCond .eq 8, 3) by decide +kernel) rfl
theorem X4_canGoOn_14 : Ev X 128 14 [l0, l1, l2, some (.int x), l4] (st) w n 0 0 Q ↔ Ev X 128 15 [l0, l1, l2, some (.int x), l4] (.int x :: st) w n 0 0 Q := E_p ok_X4_canGoOn (show decode (mB 128) 14 = .ok (.iload_n 3, 1) by decide +kernel) rfl rfl
theorem X4_canGoOn_15 : Ev X 128 15 [l0, l1, l2, l3, l4] (st) w n 0 0 Q ↔ Ev X 128 16 [l0, l1, l2, l3, l4] (.int (4) :: st) w n 0 0 Q := E_iconst ok_X4_canGoOn (show decode (mB 128) 15 = .ok (.iconst 4, 1) by decide +kernel) (by decide)
theorem X4_canGoOn_16 : Ev X 128 16 [l0, l1, l2, l3, l4] (.int y :: .int x :: st) w n 0 0 Q ↔ if x = y then Ev X 128 19 [l0, l1, l2, l3, l4] (st) w n 0 0 Q else Ev X 128 21 [l0, l1, l2, l3, l4] (st) w n 0 0 Q := E_icne ok_X4_canGoOn (show decode (mB 128) 16 = .ok (.if_icmp .ne 5, 3) by decide +kernel) rfl
theorem X4_canGoOn_19 : Ev X 128 19 [l0, l1, l2, l3, l4] (st) w n 0 0 Q ↔ Ev X 128 20 [l0, l1, l2, l3, l4] (.int (1) :: st) w n 0 0 Q := E_iconst ok_X4_canGoOn (show decode (mB 128) 19 = .ok (.iconst 1, 1) by decide +kernel) (by decide)
theorem X4_canGoOn_20 (h : okr (some .boolean) x = true) : Ev X 128 20 [l0, l1, l2, l3, l4] ([.int x]) w n 0 0 Q ↔ Q (.inl (some (.int x))) w n := E_retz ok_X4_canGoOn (show decode (mB 128) 20 = .ok (.ireturn, 1) by decide +kernel) (by decide +kernel) h
theorem X4_canGoOn_21 : Ev X 128 21 [l0, l1, l2, some (.int x), l4] (st) w n 0 0 Q ↔ Ev X 128 22 [l0, l1, l2, some (.int x), l4] (.int x :: st) w n 0 0 Q := E_p ok_X4_canGoOn (show decode (mB 128) 21 = .ok (.iload_n 3, 1) by decide +kernel) rfl rfl
theorem X4_canGoOn_22 : Ev X 128 22 [l0, l1, l2, l3, l4] (st) w n 0 0 Q ↔ Ev X 128 23 [l0, l1, l2, l3, l4] (.int (1) :: st) w n 0 0 Q := E_iconst ok_X4_canGoOn (show decode (mB 128) 22 = .ok (.iconst 1, 1) by decide +kernel) (by decide)
theorem X4_canGoOn_23 : Ev X 128 23 [l0, l1, l2, l3, l4] (.int y :: .int x :: st) w n 0 0 Q ↔ if x = y then Ev X 128 26 [l0, l1, l2, l3, l4] (st) w n 0 0 Q else Ev X 128 50 [l0, l1, l2, l3, l4] (st) w n 0 0 Q := E_icne ok_X4_canGoOn (show decode (mB 128) 23 = .ok (.if_icmp .ne 27, 3) by decide +kernel) rfl
theorem X4_canGoOn_26 : Ev X 128 26 [some (.ref a), l1, l2, l3, l4] (st) w n 0 0 Q ↔ Ev X 128 27 [some (.ref a), l1, l2, l3, l4] (.ref a :: st) w n 0 0 Q := E_p ok_X4_canGoOn (show decode (mB 128) 26 = .ok (.aload_n 0, 1) by decide +kernel) rfl rfl
theorem X4_canGoOn_27 (h : hasc w a 2 = true) : Ev X 128 27 [l0, l1, l2, l3, l4] (.ref a :: []) w n 0 0 Q ↔ Ev X 76 0 [some (.ref a)] [] w n 0 0 (Kr X 128 30 [l0, l1, l2, l3, l4] ([]) 0 0 Q) := E_cv ok_X4_canGoOn (show decode (mB 128) 27 = .ok (.invokevirtual 46, 3) by decide +kernel) (by decide +kernel) (by decide +kernel) (by decide +kernel) (k := 0) (vs := []) rfl ((rc_Table (M2 := 76) (by decide +kernel) (by decide +kernel)).trans h) (by simp only [List.length_cons, List.length_nil]; decide) (by simp only [List.length_cons, List.length_nil]; decide +kernel) (ent_eq (k := 0) (by simp only [List.length_cons, List.length_nil]; decide +kernel)) (by decide +kernel) (by decide +kernel)
theorem X4_canGoOn_30 : Ev X 128 30 [l0, l1, l2, l3, l4] (.int x :: st) w n 0 0 Q ↔ if x = 0 then Ev X 128 33 [l0, l1, l2, l3, l4] (st) w n 0 0 Q else Ev X 128 44 [l0, l1, l2, l3, l4] (st) w n 0 0 Q := E_ifne ok_X4_canGoOn (show decode (mB 128) 30 = .ok (.ifCond .ne 14, 3) by decide +kernel) rfl
theorem X4_canGoOn_33 : Ev X 128 33 [some (.ref a), l1, l2, l3, l4] (st) w n 0 0 Q ↔ Ev X 128 34 [some (.ref a), l1, l2, l3, l4] (.ref a :: st) w n 0 0 Q := E_p ok_X4_canGoOn (show decode (mB 128) 33 = .ok (.aload_n 0, 1) by decide +kernel) rfl rfl
theorem X4_canGoOn_34 (h : hasc w a 2 = true) : Ev X 128 34 [l0, l1, l2, l3, l4] (.ref a :: []) w n 0 0 Q ↔ Ev X 74 0 [some (.ref a), none, none] [] w n 0 0 (Kr X 128 37 [l0, l1, l2, l3, l4] ([]) 0 0 Q) := E_cv ok_X4_canGoOn (show decode (mB 128) 34 = .ok (.invokevirtual 33, 3) by decide +kernel) (by decide +kernel) (by decide +kernel) (by decide +kernel) (k := 0) (vs := []) rfl ((rc_Table (M2 := 74) (by decide +kernel) (by decide +kernel)).trans h) (by simp only [List.length_cons, List.length_nil]; decide) (by simp only [List.length_cons, List.length_nil]; decide +kernel) (ent_eq (k := 2) (by simp only [List.length_cons, List.length_nil]; decide +kernel)) (by decide +kernel) (by decide +kernel)
theorem X4_canGoOn_37 : Ev X 128 37 [l0, l1, some (.int x), l3, l4] (st) w n 0 0 Q ↔ Ev X 128 38 [l0, l1, some (.int x), l3, l4] (.int x :: st) w n 0 0 Q := E_p ok_X4_canGoOn (show decode (mB 128) 37 = .ok (.iload_n 2, 1) by decide +kernel) rfl rfl
theorem X4_canGoOn_38 : Ev X 128 38 [l0, l1, l2, l3, l4] (st) w n 0 0 Q ↔ Ev X 128 39 [l0, l1, l2, l3, l4] (.int (-1) :: st) w n 0 0 Q := E_iconst ok_X4_canGoOn (show decode (mB 128) 38 = .ok (.iconst (-1), 1) by decide +kernel) (by decide)
theorem X4_canGoOn_39 : Ev X 128 39 [l0, l1, l2, l3, l4] (.int y :: .int x :: st) w n 0 0 Q ↔ Ev X 128 40 [l0, l1, l2, l3, l4] (.int (x ^^^ y) :: st) w n 0 0 Q := E_p ok_X4_canGoOn (show decode (mB 128) 39 = .ok (.ixor, 1) by decide +kernel) rfl rfl
theorem X4_canGoOn_40 : Ev X 128 40 [l0, l1, l2, l3, l4] (.int y :: .int x :: st) w n 0 0 Q ↔ Ev X 128 41 [l0, l1, l2, l3, l4] (.int (x &&& y) :: st) w n 0 0 Q := E_p ok_X4_canGoOn (show decode (mB 128) 40 = .ok (.iand, 1) by decide +kernel) rfl rfl
theorem X4_canGoOn_41 : Ev X 128 41 [l0, l1, l2, l3, l4] (.int x :: st) w n 0 0 Q ↔ if x = 0 then Ev X 128 48 [l0, l1, l2, l3, l4] (st) w n 0 0 Q else Ev X 128 44 [l0, l1, l2, l3, l4] (st) w n 0 0 Q := E_ifeq ok_X4_canGoOn (show decode (mB 128) 41 = .ok (.ifCond .eq 7, 3) by decide +kernel) rfl
theorem X4_canGoOn_44 : Ev X 128 44 [l0, l1, l2, l3, l4] (st) w n 0 0 Q ↔ Ev X 128 45 [l0, l1, l2, l3, l4] (.int (1) :: st) w n 0 0 Q := E_iconst ok_X4_canGoOn (show decode (mB 128) 44 = .ok (.iconst 1, 1) by decide +kernel) (by decide)
theorem X4_canGoOn_45 : Ev X 128 45 [l0, l1, l2, l3, l4] (st) w n 0 0 Q ↔ Ev X 128 49 [l0, l1, l2, l3, l4] (st) w n 0 0 Q := E_goto ok_X4_canGoOn (show decode (mB 128) 45 = .ok (.goto 4, 3) by decide +kernel) rfl
theorem X4_canGoOn_48 : Ev X 128 48 [l0, l1, l2, l3, l4] (st) w n 0 0 Q ↔ Ev X 128 49 [l0, l1, l2, l3, l4] (.int (0) :: st) w n 0 0 Q := E_iconst ok_X4_canGoOn (show decode (mB 128) 48 = .ok (.iconst 0, 1) by decide +kernel) (by decide)
theorem X4_canGoOn_49 (h : okr (some .boolean) x = true) : Ev X 128 49 [l0, l1, l2, l3, l4] ([.int x]) w n 0 0 Q ↔ Q (.inl (some (.int x))) w n := E_retz ok_X4_canGoOn (show decode (mB 128) 49 = .ok (.ireturn, 1) by decide +kernel) (by decide +kernel) h
theorem X4_canGoOn_50 : Ev X 128 50 [some (.ref a), l1, l2, l3, l4] (st) w n 0 0 Q ↔ Ev X 128 51 [some (.ref a), l1, l2, l3, l4] (.ref a :: st) w n 0 0 Q := E_p ok_X4_canGoOn (show decode (mB 128) 50 = .ok (.aload_n 0, 1) by decide +kernel) rfl rfl
theorem X4_canGoOn_51 : Ev X 128 51 [l0, some (.int x), l2, l3, l4] (st) w n 0 0 Q ↔ Ev X 128 52 [l0, some (.int x), l2, l3, l4] (.int x :: st) w n 0 0 Q := E_p ok_X4_canGoOn (show decode (mB 128) 51 = .ok (.iload_n 1, 1) by decide +kernel) rfl rfl
theorem X4_canGoOn_52 (h : hasc w a 2 = true) : Ev X 128 52 [l0, l1, l2, l3, l4] (.int y0 :: .ref a :: []) w n 0 0 Q ↔ Ev X 107 0 [some (.ref a), some (.int y0), none] [] w n 0 0 (Kr X 128 55 [l0, l1, l2, l3, l4] ([]) 0 0 Q) := E_cv ok_X4_canGoOn (show decode (mB 128) 52 = .ok (.invokevirtual 21, 3) by decide +kernel) (by decide +kernel) (by decide +kernel) (by decide +kernel) (k := 1) (vs := [.int y0]) rfl ((rc_Table (M2 := 107) (by decide +kernel) (by decide +kernel)).trans h) (by simp only [List.length_cons, List.length_nil]; decide) (by simp only [List.length_cons, List.length_nil]; decide +kernel) (ent_eq (k := 1) (by simp only [List.length_cons, List.length_nil]; decide +kernel)) (by decide +kernel) (by decide +kernel)
theorem X4_canGoOn_55 : Ev X 128 55 [l0, l1, l2, l3, l4] (.int x :: st) w n 0 0 Q ↔ Ev X 128 57 [l0, l1, l2, l3, some (.int x)] (st) w n 0 0 Q := E_p ok_X4_canGoOn (show decode (mB 128) 55 = .ok (.istore 4, 2) by decide +kernel) rfl rfl
theorem X4_canGoOn_57 : Ev X 128 57 [l0, l1, l2, l3, some (.int x)] (st) w n 0 0 Q ↔ Ev X 128 59 [l0, l1, l2, l3, some (.int x)] (.int x :: st) w n 0 0 Q := E_p ok_X4_canGoOn (show decode (mB 128) 57 = .ok (.iload 4, 2) by decide +kernel) rfl rfl
theorem X4_canGoOn_59 : Ev X 128 59 [l0, l1, l2, l3, l4] (st) w n 0 0 Q ↔ Ev X 128 60 [l0, l1, l2, l3, l4] (.int (-1) :: st) w n 0 0 Q := E_iconst ok_X4_canGoOn (show decode (mB 128) 59 = .ok (.iconst (-1), 1) by decide +kernel) (by decide)
theorem X4_canGoOn_60 : Ev X 128 60 [l0, l1, l2, l3, l4] (.int y :: .int x :: st) w n 0 0 Q ↔ if x = y then Ev X 128 72 [l0, l1, l2, l3, l4] (st) w n 0 0 Q else Ev X 128 63 [l0, l1, l2, l3, l4] (st) w n 0 0 Q := E_iceq ok_X4_canGoOn (show decode (mB 128) 60 = .ok (.if_icmp .eq 12, 3) by decide +kernel) rfl
theorem X4_canGoOn_63 : Ev X 128 63 [l0, l1, some (.int x), l3, l4] (st) w n 0 0 Q ↔ Ev X 128 64 [l0, l1, some (.int x), l3, l4] (.int x :: st) w n 0 0 Q := E_p ok_X4_canGoOn (show decode (mB 128) 63 = .ok (.iload_n 2, 1) by decide +kernel) rfl rfl
theorem X4_canGoOn_64 : Ev X 128 64 [l0, l1, l2, l3, some (.int x)] (st) w n 0 0 Q ↔ Ev X 128 66 [l0, l1, l2, l3, some (.int x)] (.int x :: st) w n 0 0 Q := E_p ok_X4_canGoOn (show decode (mB 128) 64 = .ok (.iload 4, 2) by decide +kernel) rfl rfl
theorem X4_canGoOn_66 : Ev X 128 66 [l0, l1, l2, l3, l4] (.int y :: .int x :: st) w n 0 0 Q ↔ Ev X 128 67 [l0, l1, l2, l3, l4] (.int (x >>> (y &&& 31)) :: st) w n 0 0 Q := E_p ok_X4_canGoOn (show decode (mB 128) 66 = .ok (.ishr, 1) by decide +kernel) rfl rfl
theorem X4_canGoOn_67 : Ev X 128 67 [l0, l1, l2, l3, l4] (st) w n 0 0 Q ↔ Ev X 128 68 [l0, l1, l2, l3, l4] (.int (1) :: st) w n 0 0 Q := E_iconst ok_X4_canGoOn (show decode (mB 128) 67 = .ok (.iconst 1, 1) by decide +kernel) (by decide)
theorem X4_canGoOn_68 : Ev X 128 68 [l0, l1, l2, l3, l4] (.int y :: .int x :: st) w n 0 0 Q ↔ Ev X 128 69 [l0, l1, l2, l3, l4] (.int (x &&& y) :: st) w n 0 0 Q := E_p ok_X4_canGoOn (show decode (mB 128) 68 = .ok (.iand, 1) by decide +kernel) rfl rfl
theorem X4_canGoOn_69 : Ev X 128 69 [l0, l1, l2, l3, l4] (.int x :: st) w n 0 0 Q ↔ if x = 0 then Ev X 128 72 [l0, l1, l2, l3, l4] (st) w n 0 0 Q else Ev X 128 76 [l0, l1, l2, l3, l4] (st) w n 0 0 Q := E_ifne ok_X4_canGoOn (show decode (mB 128) 69 = .ok (.ifCond .ne 7, 3) by decide +kernel) rfl
theorem X4_canGoOn_72 : Ev X 128 72 [l0, l1, l2, l3, l4] (st) w n 0 0 Q ↔ Ev X 128 73 [l0, l1, l2, l3, l4] (.int (1) :: st) w n 0 0 Q := E_iconst ok_X4_canGoOn (show decode (mB 128) 72 = .ok (.iconst 1, 1) by decide +kernel) (by decide)
theorem X4_canGoOn_73 : Ev X 128 73 [l0, l1, l2, l3, l4] (st) w n 0 0 Q ↔ Ev X 128 77 [l0, l1, l2, l3, l4] (st) w n 0 0 Q := E_goto ok_X4_canGoOn (show decode (mB 128) 73 = .ok (.goto 4, 3) by decide +kernel) rfl
theorem X4_canGoOn_76 : Ev X 128 76 [l0, l1, l2, l3, l4] (st) w n 0 0 Q ↔ Ev X 128 77 [l0, l1, l2, l3, l4] (.int (0) :: st) w n 0 0 Q := E_iconst ok_X4_canGoOn (show decode (mB 128) 76 = .ok (.iconst 0, 1) by decide +kernel) (by decide)
theorem X4_canGoOn_77 (h : okr (some .boolean) x = true) : Ev X 128 77 [l0, l1, l2, l3, l4] ([.int x]) w n 0 0 Q ↔ Q (.inl (some (.int x))) w n := E_retz ok_X4_canGoOn (show decode (mB 128) 77 = .ok (.ireturn, 1) by decide +kernel) (by decide +kernel) h
theorem ok_X4_remainingOf : okP 129 = true := by decide +kernel
theorem X4_remainingOf_0 : Ev X 129 0 [l0, l1, l2, l3] (st) w n 0 0 Q ↔ Ev X 129 1 [l0, l1, l2, l3] (.int (1) :: st) w n 0 0 Q := E_iconst ok_X4_remainingOf (show decode (mB 129) 0 = .ok (.iconst 1, 1) by decide +kernel) (by decide)
theorem X4_remainingOf_1 : Ev X 129 1 [some (.ref a), l1, l2, l3] (st) w n 0 0 Q ↔ Ev X 129 2 [some (.ref a), l1, l2, l3] (.ref a :: st) w n 0 0 Q := E_p ok_X4_remainingOf (show decode (mB 129) 1 = .ok (.aload_n 0, 1) by decide +kernel) rfl rfl
theorem X4_remainingOf_2 : Ev X 129 2 [l0, l1, l2, l3] (.ref a :: st) w n 0 0 Q ↔ ∃ v, gf w a 2 2 = some v ∧ Ev X 129 5 [l0, l1, l2, l3] (v :: st) w n 0 0 Q := E_getf ok_X4_remainingOf (by decide +kernel) (show decode (mB 129) 2 = .ok (.getfield 9, 3) by decide +kernel) (by decide +kernel)
theorem X4_remainingOf_5 : Ev X 129 5 [l0, l1, l2, l3] (.int y :: .int x :: st) w n 0 0 Q ↔ Ev X 129 6 [l0, l1, l2, l3] (.int (x <<< (y &&& 31)) :: st) w n 0 0 Q := E_p ok_X4_remainingOf (show decode (mB 129) 5 = .ok (.ishl, 1) by decide +kernel) rfl rfl
theorem X4_remainingOf_6 : Ev X 129 6 [l0, l1, l2, l3] (st) w n 0 0 Q ↔ Ev X 129 7 [l0, l1, l2, l3] (.int (1) :: st) w n 0 0 Q := E_iconst ok_X4_remainingOf (show decode (mB 129) 6 = .ok (.iconst 1, 1) by decide +kernel) (by decide)
theorem X4_remainingOf_7 : Ev X 129 7 [l0, l1, l2, l3] (.int y :: .int x :: st) w n 0 0 Q ↔ Ev X 129 8 [l0, l1, l2, l3] (.int (x - y) :: st) w n 0 0 Q := E_p ok_X4_remainingOf (show decode (mB 129) 7 = .ok (.isub, 1) by decide +kernel) rfl rfl
theorem X4_remainingOf_8 : Ev X 129 8 [l0, l1, l2, l3] (.int x :: st) w n 0 0 Q ↔ Ev X 129 9 [l0, some (.int x), l2, l3] (st) w n 0 0 Q := E_p ok_X4_remainingOf (show decode (mB 129) 8 = .ok (.istore_n 1, 1) by decide +kernel) rfl rfl
theorem X4_remainingOf_9 : Ev X 129 9 [l0, l1, l2, l3] (st) w n 0 0 Q ↔ Ev X 129 10 [l0, l1, l2, l3] (.int (0) :: st) w n 0 0 Q := E_iconst ok_X4_remainingOf (show decode (mB 129) 9 = .ok (.iconst 0, 1) by decide +kernel) (by decide)
theorem X4_remainingOf_10 : Ev X 129 10 [l0, l1, l2, l3] (.int x :: st) w n 0 0 Q ↔ Ev X 129 11 [l0, l1, some (.int x), l3] (st) w n 0 0 Q := E_p ok_X4_remainingOf (show decode (mB 129) 10 = .ok (.istore_n 2, 1) by decide +kernel) rfl rfl
theorem X4_remainingOf_11 : Ev X 129 11 [l0, l1, some (.int x), l3] (st) w n 0 0 Q ↔ Ev X 129 12 [l0, l1, some (.int x), l3] (.int x :: st) w n 0 0 Q := E_p ok_X4_remainingOf (show decode (mB 129) 11 = .ok (.iload_n 2, 1) by decide +kernel) rfl rfl
theorem X4_remainingOf_12 : Ev X 129 12 [some (.ref a), l1, l2, l3] (st) w n 0 0 Q ↔ Ev X 129 13 [some (.ref a), l1, l2, l3] (.ref a :: st) w n 0 0 Q := E_p ok_X4_remainingOf (show decode (mB 129) 12 = .ok (.aload_n 0, 1) by decide +kernel) rfl rfl
theorem X4_remainingOf_13 : Ev X 129 13 [l0, l1, l2, l3] (.ref a :: st) w n 0 0 Q ↔ ∃ v, gf w a 2 2 = some v ∧ Ev X 129 16 [l0, l1, l2, l3] (v :: st) w n 0 0 Q := E_getf ok_X4_remainingOf (by decide +kernel) (show decode (mB 129) 13 = .ok (.getfield 9, 3) by decide +kernel) (by decide +kernel)
theorem X4_remainingOf_16 : Ev X 129 16 [l0, l1, l2, l3] (.int y :: .int x :: st) w n 0 0 Q ↔ if y < x then Ev X 129 58 [l0, l1, l2, l3] (st) w n 0 0 Q else Ev X 129 19 [l0, l1, l2, l3] (st) w n 0 0 Q := E_icgt ok_X4_remainingOf (show decode (mB 129) 16 = .ok (.if_icmp .gt 42, 3) by decide +kernel) rfl
theorem X4_remainingOf_19 : Ev X 129 19 [l0, l1, l2, l3] (st) w n 0 0 Q ↔ Ev X 129 20 [l0, l1, l2, l3] (.int (0) :: st) w n 0 0 Q := E_iconst ok_X4_remainingOf (show decode (mB 129) 19 = .ok (.iconst 0, 1) by decide +kernel) (by decide)
theorem X4_remainingOf_20 : Ev X 129 20 [l0, l1, l2, l3] (.int x :: st) w n 0 0 Q ↔ Ev X 129 21 [l0, l1, l2, some (.int x)] (st) w n 0 0 Q := E_p ok_X4_remainingOf (show decode (mB 129) 20 = .ok (.istore_n 3, 1) by decide +kernel) rfl rfl
theorem X4_remainingOf_21 : Ev X 129 21 [l0, l1, l2, some (.int x)] (st) w n 0 0 Q ↔ Ev X 129 22 [l0, l1, l2, some (.int x)] (.int x :: st) w n 0 0 Q := E_p ok_X4_remainingOf (show decode (mB 129) 21 = .ok (.iload_n 3, 1) by decide +kernel) rfl rfl
theorem X4_remainingOf_22 : Ev X 129 22 [some (.ref a), l1, l2, l3] (st) w n 0 0 Q ↔ Ev X 129 23 [some (.ref a), l1, l2, l3] (.ref a :: st) w n 0 0 Q := E_p ok_X4_remainingOf (show decode (mB 129) 22 = .ok (.aload_n 0, 1) by decide +kernel) rfl rfl
theorem X4_remainingOf_23 : Ev X 129 23 [l0, l1, l2, l3] (.ref a :: st) w n 0 0 Q ↔ ∃ v, gf w a 2 2 = some v ∧ Ev X 129 26 [l0, l1, l2, l3] (v :: st) w n 0 0 Q := E_getf ok_X4_remainingOf (by decide +kernel) (show decode (mB 129) 23 = .ok (.getfield 9, 3) by decide +kernel) (by decide +kernel)
theorem X4_remainingOf_26 : Ev X 129 26 [l0, l1, l2, l3] (.int y :: .int x :: st) w n 0 0 Q ↔ if x < y then Ev X 129 29 [l0, l1, l2, l3] (st) w n 0 0 Q else Ev X 129 52 [l0, l1, l2, l3] (st) w n 0 0 Q := E_icge ok_X4_remainingOf (show decode (mB 129) 26 = .ok (.if_icmp .ge 26, 3) by decide +kernel) rfl
theorem X4_remainingOf_29 : Ev X 129 29 [some (.ref a), l1, l2, l3] (st) w n 0 0 Q ↔ Ev X 129 30 [some (.ref a), l1, l2, l3] (.ref a :: st) w n 0 0 Q := E_p ok_X4_remainingOf (show decode (mB 129) 29 = .ok (.aload_n 0, 1) by decide +kernel) rfl rfl
theorem X4_remainingOf_30 : Ev X 129 30 [l0, l1, l2, some (.int x)] (st) w n 0 0 Q ↔ Ev X 129 31 [l0, l1, l2, some (.int x)] (.int x :: st) w n 0 0 Q := E_p ok_X4_remainingOf (show decode (mB 129) 30 = .ok (.iload_n 3, 1) by decide +kernel) rfl rfl
theorem X4_remainingOf_31 : Ev X 129 31 [l0, some (.int x), l2, l3] (st) w n 0 0 Q ↔ Ev X 129 32 [l0, some (.int x), l2, l3] (.int x :: st) w n 0 0 Q := E_p ok_X4_remainingOf (show decode (mB 129) 31 = .ok (.iload_n 1, 1) by decide +kernel) rfl rfl
theorem X4_remainingOf_32 : Ev X 129 32 [l0, l1, l2, l3] (.int y2 :: .int y1 :: .ref b0 :: []) w n 0 0 Q ↔ Ev X 128 0 [some (.ref b0), some (.int y1), some (.int y2), none, none] [] w n 0 0 (Kr X 129 35 [l0, l1, l2, l3] ([]) 0 0 Q) := E_cs ok_X4_remainingOf (show decode (mB 129) 32 = .ok (.invokestatic 50, 3) by decide +kernel) (by decide +kernel) (by decide +kernel) (by decide +kernel) (k := 3) (vs := [.ref b0, .int y1, .int y2]) rfl (by simp only [List.length_cons, List.length_nil]; decide) (by simp only [List.length_cons, List.length_nil]; decide +kernel) (ent_eq (k := 2) (by simp only [List.length_cons, List.length_nil]; decide +kernel)) (by decide +kernel) (by decide +kernel)
theorem X4_remainingOf_35 : Ev X 129 35 [l0, l1, l2, l3] (.int x :: st) w n 0 0 Q ↔ if x = 0 then Ev X 129 46 [l0, l1, l2, l3] (st) w n 0 0 Q else Ev X 129 38 [l0, l1, l2, l3] (st) w n 0 0 Q := E_ifeq ok_X4_remainingOf (show decode (mB 129) 35 = .ok (.ifCond .eq 11, 3) by decide +kernel) rfl
theorem X4_remainingOf_38 : Ev X 129 38 [l0, some (.int x), l2, l3] (st) w n 0 0 Q ↔ Ev X 129 39 [l0, some (.int x), l2, l3] (.int x :: st) w n 0 0 Q := E_p ok_X4_remainingOf (show decode (mB 129) 38 = .ok (.iload_n 1, 1) by decide +kernel) rfl rfl
theorem X4_remainingOf_39 : Ev X 129 39 [l0, l1, l2, l3] (st) w n 0 0 Q ↔ Ev X 129 40 [l0, l1, l2, l3] (.int (1) :: st) w n 0 0 Q := E_iconst ok_X4_remainingOf (show decode (mB 129) 39 = .ok (.iconst 1, 1) by decide +kernel) (by decide)
theorem X4_remainingOf_40 : Ev X 129 40 [l0, l1, l2, some (.int x)] (st) w n 0 0 Q ↔ Ev X 129 41 [l0, l1, l2, some (.int x)] (.int x :: st) w n 0 0 Q := E_p ok_X4_remainingOf (show decode (mB 129) 40 = .ok (.iload_n 3, 1) by decide +kernel) rfl rfl
theorem X4_remainingOf_41 : Ev X 129 41 [l0, l1, l2, l3] (.int y :: .int x :: st) w n 0 0 Q ↔ Ev X 129 42 [l0, l1, l2, l3] (.int (x <<< (y &&& 31)) :: st) w n 0 0 Q := E_p ok_X4_remainingOf (show decode (mB 129) 41 = .ok (.ishl, 1) by decide +kernel) rfl rfl
theorem X4_remainingOf_42 : Ev X 129 42 [l0, l1, l2, l3] (st) w n 0 0 Q ↔ Ev X 129 43 [l0, l1, l2, l3] (.int (-1) :: st) w n 0 0 Q := E_iconst ok_X4_remainingOf (show decode (mB 129) 42 = .ok (.iconst (-1), 1) by decide +kernel) (by decide)
theorem X4_remainingOf_43 : Ev X 129 43 [l0, l1, l2, l3] (.int y :: .int x :: st) w n 0 0 Q ↔ Ev X 129 44 [l0, l1, l2, l3] (.int (x ^^^ y) :: st) w n 0 0 Q := E_p ok_X4_remainingOf (show decode (mB 129) 43 = .ok (.ixor, 1) by decide +kernel) rfl rfl
theorem X4_remainingOf_44 : Ev X 129 44 [l0, l1, l2, l3] (.int y :: .int x :: st) w n 0 0 Q ↔ Ev X 129 45 [l0, l1, l2, l3] (.int (x &&& y) :: st) w n 0 0 Q := E_p ok_X4_remainingOf (show decode (mB 129) 44 = .ok (.iand, 1) by decide +kernel) rfl rfl
theorem X4_remainingOf_45 : Ev X 129 45 [l0, l1, l2, l3] (.int x :: st) w n 0 0 Q ↔ Ev X 129 46 [l0, some (.int x), l2, l3] (st) w n 0 0 Q := E_p ok_X4_remainingOf (show decode (mB 129) 45 = .ok (.istore_n 1, 1) by decide +kernel) rfl rfl
theorem X4_remainingOf_46 : Ev X 129 46 [l0, l1, l2, some (.int x)] (st) w n 0 0 Q ↔ Ev X 129 49 [l0, l1, l2, some (.int (x + (1)))] (st) w n 0 0 Q := E_iinc ok_X4_remainingOf (show decode (mB 129) 46 = .ok (.iinc 3 1, 3) by decide +kernel) rfl (by simp only [List.length_cons, List.length_nil]; decide) (by decide) rfl
theorem X4_remainingOf_49 : Ev X 129 49 [l0, l1, l2, l3] (st) w n 0 0 Q ↔ Ev X 129 21 [l0, l1, l2, l3] (st) w n 0 0 Q := E_goto ok_X4_remainingOf (show decode (mB 129) 49 = .ok (.goto (-28), 3) by decide +kernel) rfl
theorem X4_remainingOf_52 : Ev X 129 52 [l0, l1, some (.int x), l3] (st) w n 0 0 Q ↔ Ev X 129 55 [l0, l1, some (.int (x + (1))), l3] (st) w n 0 0 Q := E_iinc ok_X4_remainingOf (show decode (mB 129) 52 = .ok (.iinc 2 1, 3) by decide +kernel) rfl (by simp only [List.length_cons, List.length_nil]; decide) (by decide) rfl
theorem X4_remainingOf_55 : Ev X 129 55 [l0, l1, l2, l3] (st) w n 0 0 Q ↔ Ev X 129 11 [l0, l1, l2, l3] (st) w n 0 0 Q := E_goto ok_X4_remainingOf (show decode (mB 129) 55 = .ok (.goto (-44), 3) by decide +kernel) rfl
theorem X4_remainingOf_58 : Ev X 129 58 [l0, some (.int x), l2, l3] (st) w n 0 0 Q ↔ Ev X 129 59 [l0, some (.int x), l2, l3] (.int x :: st) w n 0 0 Q := E_p ok_X4_remainingOf (show decode (mB 129) 58 = .ok (.iload_n 1, 1) by decide +kernel) rfl rfl
theorem X4_remainingOf_59 : Ev X 129 59 [l0, l1, l2, l3] ([.int x]) w n 0 0 Q ↔ Q (.inl (some (.int x))) w n := E_reti ok_X4_remainingOf (show decode (mB 129) 59 = .ok (.ireturn, 1) by decide +kernel) (by decide +kernel)
theorem ok_X2_hasBothManners : okP 132 = true := by decide +kernel
theorem X2_hasBothManners_0 : Ev X 132 0 [l0, l1] (st) w n 0 0 Q ↔ Ev X 132 1 [l0, l1] (.int (1) :: st) w n 0 0 Q := E_iconst ok_X2_hasBothManners (show decode (mB 132) 0 = .ok (.iconst 1, 1) by decide +kernel) (by decide)
theorem X2_hasBothManners_1 : Ev X 132 1 [l0, l1] (.int x :: st) w n 0 0 Q ↔ Ev X 132 2 [l0, some (.int x)] (st) w n 0 0 Q := E_p ok_X2_hasBothManners (show decode (mB 132) 1 = .ok (.istore_n 1, 1) by decide +kernel) rfl rfl
theorem X2_hasBothManners_2 : Ev X 132 2 [l0, some (.int x)] (st) w n 0 0 Q ↔ Ev X 132 3 [l0, some (.int x)] (.int x :: st) w n 0 0 Q := E_p ok_X2_hasBothManners (show decode (mB 132) 2 = .ok (.iload_n 1, 1) by decide +kernel) rfl rfl
theorem X2_hasBothManners_3 : Ev X 132 3 [some (.ref a), l1] (st) w n 0 0 Q ↔ Ev X 132 4 [some (.ref a), l1] (.ref a :: st) w n 0 0 Q := E_p ok_X2_hasBothManners (show decode (mB 132) 3 = .ok (.aload_n 0, 1) by decide +kernel) rfl rfl
theorem X2_hasBothManners_4 : Ev X 132 4 [l0, l1] (.ref a :: st) w n 0 0 Q ↔ ∃ v, gf w a 2 2 = some v ∧ Ev X 132 7 [l0, l1] (v :: st) w n 0 0 Q := E_getf ok_X2_hasBothManners (by decide +kernel) (show decode (mB 132) 4 = .ok (.getfield 33, 3) by decide +kernel) (by decide +kernel)
theorem X2_hasBothManners_7 : Ev X 132 7 [l0, l1] (.int y :: .int x :: st) w n 0 0 Q ↔ if x < y then Ev X 132 10 [l0, l1] (st) w n 0 0 Q else Ev X 132 39 [l0, l1] (st) w n 0 0 Q := E_icge ok_X2_hasBothManners (show decode (mB 132) 7 = .ok (.if_icmp .ge 32, 3) by decide +kernel) rfl
theorem X2_hasBothManners_10 : Ev X 132 10 [some (.ref a), l1] (st) w n 0 0 Q ↔ Ev X 132 11 [some (.ref a), l1] (.ref a :: st) w n 0 0 Q := E_p ok_X2_hasBothManners (show decode (mB 132) 10 = .ok (.aload_n 0, 1) by decide +kernel) rfl rfl
theorem X2_hasBothManners_11 : Ev X 132 11 [l0, l1] (.ref a :: st) w n 0 0 Q ↔ ∃ v, gf w a 2 0 = some v ∧ Ev X 132 14 [l0, l1] (v :: st) w n 0 0 Q := E_getf ok_X2_hasBothManners (by decide +kernel) (show decode (mB 132) 11 = .ok (.getfield 11, 3) by decide +kernel) (by decide +kernel)
theorem X2_hasBothManners_14 : Ev X 132 14 [l0, some (.int x)] (st) w n 0 0 Q ↔ Ev X 132 15 [l0, some (.int x)] (.int x :: st) w n 0 0 Q := E_p ok_X2_hasBothManners (show decode (mB 132) 14 = .ok (.iload_n 1, 1) by decide +kernel) rfl rfl
theorem X2_hasBothManners_15 : Ev X 132 15 [l0, l1] (.int x :: .ref a :: st) w n 0 0 Q ↔ ∃ v, (ga w a 4 x).or (ga w a 5 x) = some v ∧ Ev X 132 16 [l0, l1] (v :: st) w n 0 0 Q := E_aald ok_X2_hasBothManners (show decode (mB 132) 15 = .ok (.aaload, 1) by decide +kernel)
theorem X2_hasBothManners_16 : Ev X 132 16 [l0, l1] (.ref a :: st) w n 0 0 Q ↔ ∃ v, gf w a 1 0 = some v ∧ Ev X 132 19 [l0, l1] (v :: st) w n 0 0 Q := E_getf ok_X2_hasBothManners (by decide +kernel) (show decode (mB 132) 16 = .ok (.getfield 105, 3) by decide +kernel) (by decide +kernel)
theorem X2_hasBothManners_19 : Ev X 132 19 [some (.ref a), l1] (st) w n 0 0 Q ↔ Ev X 132 20 [some (.ref a), l1] (.ref a :: st) w n 0 0 Q := E_p ok_X2_hasBothManners (show decode (mB 132) 19 = .ok (.aload_n 0, 1) by decide +kernel) rfl rfl
theorem X2_hasBothManners_20 : Ev X 132 20 [l0, l1] (.ref a :: st) w n 0 0 Q ↔ ∃ v, gf w a 2 0 = some v ∧ Ev X 132 23 [l0, l1] (v :: st) w n 0 0 Q := E_getf ok_X2_hasBothManners (by decide +kernel) (show decode (mB 132) 20 = .ok (.getfield 11, 3) by decide +kernel) (by decide +kernel)
theorem X2_hasBothManners_23 : Ev X 132 23 [l0, l1] (st) w n 0 0 Q ↔ Ev X 132 24 [l0, l1] (.int (0) :: st) w n 0 0 Q := E_iconst ok_X2_hasBothManners (show decode (mB 132) 23 = .ok (.iconst 0, 1) by decide +kernel) (by decide)
theorem X2_hasBothManners_24 : Ev X 132 24 [l0, l1] (.int x :: .ref a :: st) w n 0 0 Q ↔ ∃ v, (ga w a 4 x).or (ga w a 5 x) = some v ∧ Ev X 132 25 [l0, l1] (v :: st) w n 0 0 Q := E_aald ok_X2_hasBothManners (show decode (mB 132) 24 = .ok (.aaload, 1) by decide +kernel)
theorem X2_hasBothManners_25 : Ev X 132 25 [l0, l1] (.ref a :: st) w n 0 0 Q ↔ ∃ v, gf w a 1 0 = some v ∧ Ev X 132 28 [l0, l1] (v :: st) w n 0 0 Q := E_getf ok_X2_hasBothManners (by decide +kernel) (show decode (mB 132) 25 = .ok (.getfield 105, 3) by decide +kernel) (by decide +kernel)
theorem X2_hasBothManners_28 : Ev X 132 28 [l0, l1] (.int y :: .int x :: st) w n 0 0 Q ↔ if x = y then Ev X 132 33 [l0, l1] (st) w n 0 0 Q else Ev X 132 31 [l0, l1] (st) w n 0 0 Q := E_iceq ok_X2_hasBothManners (show decode (mB 132) 28 = .ok (.if_icmp .eq 5, 3) by decide +kernel) rfl
theorem X2_hasBothManners_31 : Ev X 132 31 [l0, l1] (st) w n 0 0 Q ↔ Ev X 132 32 [l0, l1] (.int (1) :: st) w n 0 0 Q := E_iconst ok_X2_hasBothManners (show decode (mB 132) 31 = .ok (.iconst 1, 1) by decide +kernel) (by decide)
theorem X2_hasBothManners_32 (h : okr (some .boolean) x = true) : Ev X 132 32 [l0, l1] ([.int x]) w n 0 0 Q ↔ Q (.inl (some (.int x))) w n := E_retz ok_X2_hasBothManners (show decode (mB 132) 32 = .ok (.ireturn, 1) by decide +kernel) (by decide +kernel) h
theorem X2_hasBothManners_33 : Ev X 132 33 [l0, some (.int x)] (st) w n 0 0 Q ↔ Ev X 132 36 [l0, some (.int (x + (1)))] (st) w n 0 0 Q := E_iinc ok_X2_hasBothManners (show decode (mB 132) 33 = .ok (.iinc 1 1, 3) by decide +kernel) rfl (by simp only [List.length_cons, List.length_nil]; decide) (by decide) rfl
theorem X2_hasBothManners_36 : Ev X 132 36 [l0, l1] (st) w n 0 0 Q ↔ Ev X 132 2 [l0, l1] (st) w n 0 0 Q := E_goto ok_X2_hasBothManners (show decode (mB 132) 36 = .ok (.goto (-34), 3) by decide +kernel) rfl
theorem X2_hasBothManners_39 : Ev X 132 39 [l0, l1] (st) w n 0 0 Q ↔ Ev X 132 40 [l0, l1] (.int (0) :: st) w n 0 0 Q := E_iconst ok_X2_hasBothManners (show decode (mB 132) 39 = .ok (.iconst 0, 1) by decide +kernel) (by decide)
theorem X2_hasBothManners_40 (h : okr (some .boolean) x = true) : Ev X 132 40 [l0, l1] ([.int x]) w n 0 0 Q ↔ Q (.inl (some (.int x))) w n := E_retz ok_X2_hasBothManners (show decode (mB 132) 40 = .ok (.ireturn, 1) by decide +kernel) (by decide +kernel) h
theorem ok_X1_isHungrierThan : okP 143 = true := by decide +kernel
theorem X1_isHungrierThan_0 : Ev X 143 0 [some (.ref a), l1] (st) w n 0 0 Q ↔ Ev X 143 1 [some (.ref a), l1] (.ref a :: st) w n 0 0 Q := E_p ok_X1_isHungrierThan (show decode (mB 143) 0 = .ok (.aload_n 0, 1) by decide +kernel) rfl rfl
theorem X1_isHungrierThan_1 : Ev X 143 1 [l0, l1] (.ref a :: st) w n 0 0 Q ↔ ∃ v, gf w a 1 5 = some v ∧ Ev X 143 4 [l0, l1] (v :: st) w n 0 0 Q := E_getf ok_X1_isHungrierThan (by decide +kernel) (show decode (mB 143) 1 = .ok (.getfield 21, 3) by decide +kernel) (by decide +kernel)
theorem X1_isHungrierThan_4 : Ev X 143 4 [l0, some (.ref a)] (st) w n 0 0 Q ↔ Ev X 143 5 [l0, some (.ref a)] (.ref a :: st) w n 0 0 Q := E_p ok_X1_isHungrierThan (show decode (mB 143) 4 = .ok (.aload_n 1, 1) by decide +kernel) rfl rfl
theorem X1_isHungrierThan_5 : Ev X 143 5 [l0, l1] (.ref a :: st) w n 0 0 Q ↔ ∃ v, gf w a 1 5 = some v ∧ Ev X 143 8 [l0, l1] (v :: st) w n 0 0 Q := E_getf ok_X1_isHungrierThan (by decide +kernel) (show decode (mB 143) 5 = .ok (.getfield 21, 3) by decide +kernel) (by decide +kernel)
theorem X1_isHungrierThan_8 : Ev X 143 8 [l0, l1] (.int y :: .int x :: st) w n 0 0 Q ↔ if x < y then Ev X 143 33 [l0, l1] (st) w n 0 0 Q else Ev X 143 11 [l0, l1] (st) w n 0 0 Q := E_iclt ok_X1_isHungrierThan (show decode (mB 143) 8 = .ok (.if_icmp .lt 25, 3) by decide +kernel) rfl
theorem X1_isHungrierThan_11 : Ev X 143 11 [some (.ref a), l1] (st) w n 0 0 Q ↔ Ev X 143 12 [some (.ref a), l1] (.ref a :: st) w n 0 0 Q := E_p ok_X1_isHungrierThan (show decode (mB 143) 11 = .ok (.aload_n 0, 1) by decide +kernel) rfl rfl
theorem X1_isHungrierThan_12 : Ev X 143 12 [l0, l1] (.ref a :: st) w n 0 0 Q ↔ ∃ v, gf w a 1 5 = some v ∧ Ev X 143 15 [l0, l1] (v :: st) w n 0 0 Q := E_getf ok_X1_isHungrierThan (by decide +kernel) (show decode (mB 143) 12 = .ok (.getfield 21, 3) by decide +kernel) (by decide +kernel)
theorem X1_isHungrierThan_15 : Ev X 143 15 [l0, some (.ref a)] (st) w n 0 0 Q ↔ Ev X 143 16 [l0, some (.ref a)] (.ref a :: st) w n 0 0 Q := E_p ok_X1_isHungrierThan (show decode (mB 143) 15 = .ok (.aload_n 1, 1) by decide +kernel) rfl rfl
theorem X1_isHungrierThan_16 : Ev X 143 16 [l0, l1] (.ref a :: st) w n 0 0 Q ↔ ∃ v, gf w a 1 5 = some v ∧ Ev X 143 19 [l0, l1] (v :: st) w n 0 0 Q := E_getf ok_X1_isHungrierThan (by decide +kernel) (show decode (mB 143) 16 = .ok (.getfield 21, 3) by decide +kernel) (by decide +kernel)
theorem X1_isHungrierThan_19 : Ev X 143 19 [l0, l1] (.int y :: .int x :: st) w n 0 0 Q ↔ if x = y then Ev X 143 22 [l0, l1] (st) w n 0 0 Q else Ev X 143 37 [l0, l1] (st) w n 0 0 Q := E_icne ok_X1_isHungrierThan (show decode (mB 143) 19 = .ok (.if_icmp .ne 18, 3) by decide +kernel) rfl
theorem X1_isHungrierThan_22 : Ev X 143 22 [some (.ref a), l1] (st) w n 0 0 Q ↔ Ev X 143 23 [some (.ref a), l1] (.ref a :: st) w n 0 0 Q := E_p ok_X1_isHungrierThan (show decode (mB 143) 22 = .ok (.aload_n 0, 1) by decide +kernel) rfl rfl
theorem X1_isHungrierThan_23 : Ev X 143 23 [l0, l1] (.ref a :: st) w n 0 0 Q ↔ ∃ v, gf w a 1 6 = some v ∧ Ev X 143 26 [l0, l1] (v :: st) w n 0 0 Q := E_getf ok_X1_isHungrierThan (by decide +kernel) (show decode (mB 143) 23 = .ok (.getfield 24, 3) by decide +kernel) (by decide +kernel)
theorem X1_isHungrierThan_26 : Ev X 143 26 [l0, some (.ref a)] (st) w n 0 0 Q ↔ Ev X 143 27 [l0, some (.ref a)] (.ref a :: st) w n 0 0 Q := E_p ok_X1_isHungrierThan (show decode (mB 143) 26 = .ok (.aload_n 1, 1) by decide +kernel) rfl rfl
theorem X1_isHungrierThan_27 : Ev X 143 27 [l0, l1] (.ref a :: st) w n 0 0 Q ↔ ∃ v, gf w a 1 6 = some v ∧ Ev X 143 30 [l0, l1] (v :: st) w n 0 0 Q := E_getf ok_X1_isHungrierThan (by decide +kernel) (show decode (mB 143) 27 = .ok (.getfield 24, 3) by decide +kernel) (by decide +kernel)
theorem X1_isHungrierThan_30 : Ev X 143 30 [l0, l1] (.int y :: .int x :: st) w n 0 0 Q ↔ if y < x then Ev X 143 33 [l0, l1] (st) w n 0 0 Q else Ev X 143 37 [l0, l1] (st) w n 0 0 Q := E_icle ok_X1_isHungrierThan (show decode (mB 143) 30 = .ok (.if_icmp .le 7, 3) by decide +kernel) rfl
theorem X1_isHungrierThan_33 : Ev X 143 33 [l0, l1] (st) w n 0 0 Q ↔ Ev X 143 34 [l0, l1] (.int (1) :: st) w n 0 0 Q := E_iconst ok_X1_isHungrierThan (show decode (mB 143) 33 = .ok (.iconst 1, 1) by decide +kernel) (by decide)
theorem X1_isHungrierThan_34 : Ev X 143 34 [l0, l1] (st) w n 0 0 Q ↔ Ev X 143 38 [l0, l1] (st) w n 0 0 Q := E_goto ok_X1_isHungrierThan (show decode (mB 143) 34 = .ok (.goto 4, 3) by decide +kernel) rfl
theorem X1_isHungrierThan_37 : Ev X 143 37 [l0, l1] (st) w n 0 0 Q ↔ Ev X 143 38 [l0, l1] (.int (0) :: st) w n 0 0 Q := E_iconst ok_X1_isHungrierThan (show decode (mB 143) 37 = .ok (.iconst 0, 1) by decide +kernel) (by decide)
theorem X1_isHungrierThan_38 (h : okr (some .boolean) x = true) : Ev X 143 38 [l0, l1] ([.int x]) w n 0 0 Q ↔ Q (.inl (some (.int x))) w n := E_retz ok_X1_isHungrierThan (show decode (mB 143) 38 = .ok (.ireturn, 1) by decide +kernel) (by decide +kernel) h
theorem ok_X2_hungrierThan : okP 144 = true := by decide +kernel
theorem X2_hungrierThan_0 : Ev X 144 0 [l0, l1, l2, l3, l4] (st) w n 0 0 Q ↔ Ev X 144 1 [l0, l1, l2, l3, l4] (.int (0) :: st) w n 0 0 Q := E_iconst ok_X2_hungrierThan (show decode (mB 144) 0 = .ok (.iconst 0, 1) by decide +kernel) (by decide)
theorem X2_hungrierThan_1 : Ev X 144 1 [l0, l1, l2, l3, l4] (.int x :: st) w n 0 0 Q ↔ Ev X 144 2 [l0, l1, some (.int x), l3, l4] (st) w n 0 0 Q := E_p ok_X2_hungrierThan (show decode (mB 144) 1 = .ok (.istore_n 2, 1) by decide +kernel) rfl rfl
theorem X2_hungrierThan_2 : Ev X 144 2 [l0, l1, l2, l3, l4] (st) w n 0 0 Q ↔ Ev X 144 3 [l0, l1, l2, l3, l4] (.int (0) :: st) w n 0 0 Q := E_iconst ok_X2_hungrierThan (show decode (mB 144) 2 = .ok (.iconst 0, 1) by decide +kernel) (by decide)
theorem X2_hungrierThan_3 : Ev X 144 3 [l0, l1, l2, l3, l4] (.int x :: st) w n 0 0 Q ↔ Ev X 144 4 [l0, l1, l2, some (.int x), l4] (st) w n 0 0 Q := E_p ok_X2_hungrierThan (show decode (mB 144) 3 = .ok (.istore_n 3, 1) by decide +kernel) rfl rfl
theorem X2_hungrierThan_4 : Ev X 144 4 [l0, l1, l2, some (.int x), l4] (st) w n 0 0 Q ↔ Ev X 144 5 [l0, l1, l2, some (.int x), l4] (.int x :: st) w n 0 0 Q := E_p ok_X2_hungrierThan (show decode (mB 144) 4 = .ok (.iload_n 3, 1) by decide +kernel) rfl rfl
theorem X2_hungrierThan_5 : Ev X 144 5 [some (.ref a), l1, l2, l3, l4] (st) w n 0 0 Q ↔ Ev X 144 6 [some (.ref a), l1, l2, l3, l4] (.ref a :: st) w n 0 0 Q := E_p ok_X2_hungrierThan (show decode (mB 144) 5 = .ok (.aload_n 0, 1) by decide +kernel) rfl rfl
theorem X2_hungrierThan_6 : Ev X 144 6 [l0, l1, l2, l3, l4] (.ref a :: st) w n 0 0 Q ↔ ∃ v, gf w a 2 2 = some v ∧ Ev X 144 9 [l0, l1, l2, l3, l4] (v :: st) w n 0 0 Q := E_getf ok_X2_hungrierThan (by decide +kernel) (show decode (mB 144) 6 = .ok (.getfield 33, 3) by decide +kernel) (by decide +kernel)
theorem X2_hungrierThan_9 : Ev X 144 9 [l0, l1, l2, l3, l4] (.int y :: .int x :: st) w n 0 0 Q ↔ if x < y then Ev X 144 12 [l0, l1, l2, l3, l4] (st) w n 0 0 Q else Ev X 144 74 [l0, l1, l2, l3, l4] (st) w n 0 0 Q := E_icge ok_X2_hungrierThan (show decode (mB 144) 9 = .ok (.if_icmp .ge 65, 3) by decide +kernel) rfl
theorem X2_hungrierThan_12 : Ev X 144 12 [l0, l1, l2, some (.int x), l4] (st) w n 0 0 Q ↔ Ev X 144 13 [l0, l1, l2, some (.int x), l4] (.int x :: st) w n 0 0 Q := E_p ok_X2_hungrierThan (show decode (mB 144) 12 = .ok (.iload_n 3, 1) by decide +kernel) rfl rfl
theorem X2_hungrierThan_13 : Ev X 144 13 [l0, some (.int x), l2, l3, l4] (st) w n 0 0 Q ↔ Ev X 144 14 [l0, some (.int x), l2, l3, l4] (.int x :: st) w n 0 0 Q := E_p ok_X2_hungrierThan (show decode (mB 144) 13 = .ok (.iload_n 1, 1) by decide +kernel) rfl rfl
theorem X2_hungrierThan_14 : Ev X 144 14 [l0, l1, l2, l3, l4] (.int y :: .int x :: st) w n 0 0 Q ↔ if x < y then Ev X 144 17 [l0, l1, l2, l3, l4] (st) w n 0 0 Q else Ev X 144 39 [l0, l1, l2, l3, l4] (st) w n 0 0 Q := E_icge ok_X2_hungrierThan (show decode (mB 144) 14 = .ok (.if_icmp .ge 25, 3) by decide +kernel) rfl
theorem X2_hungrierThan_17 : Ev X 144 17 [some (.ref a), l1, l2, l3, l4] (st) w n 0 0 Q ↔ Ev X 144 18 [some (.ref a), l1, l2, l3, l4] (.ref a :: st) w n 0 0 Q := E_p ok_X2_hungrierThan (show decode (mB 144) 17 = .ok (.aload_n 0, 1) by decide +kernel) rfl rfl
theorem X2_hungrierThan_18 : Ev X 144 18 [l0, l1, l2, l3, l4] (.ref a :: st) w n 0 0 Q ↔ ∃ v, gf w a 2 0 = some v ∧ Ev X 144 21 [l0, l1, l2, l3, l4] (v :: st) w n 0 0 Q := E_getf ok_X2_hungrierThan (by decide +kernel) (show decode (mB 144) 18 = .ok (.getfield 11, 3) by decide +kernel) (by decide +kernel)
theorem X2_hungrierThan_21 : Ev X 144 21 [l0, some (.int x), l2, l3, l4] (st) w n 0 0 Q ↔ Ev X 144 22 [l0, some (.int x), l2, l3, l4] (.int x :: st) w n 0 0 Q := E_p ok_X2_hungrierThan (show decode (mB 144) 21 = .ok (.iload_n 1, 1) by decide +kernel) rfl rfl
theorem X2_hungrierThan_22 : Ev X 144 22 [l0, l1, l2, l3, l4] (.int x :: .ref a :: st) w n 0 0 Q ↔ ∃ v, (ga w a 4 x).or (ga w a 5 x) = some v ∧ Ev X 144 23 [l0, l1, l2, l3, l4] (v :: st) w n 0 0 Q := E_aald ok_X2_hungrierThan (show decode (mB 144) 22 = .ok (.aaload, 1) by decide +kernel)
theorem X2_hungrierThan_23 : Ev X 144 23 [some (.ref a), l1, l2, l3, l4] (st) w n 0 0 Q ↔ Ev X 144 24 [some (.ref a), l1, l2, l3, l4] (.ref a :: st) w n 0 0 Q := E_p ok_X2_hungrierThan (show decode (mB 144) 23 = .ok (.aload_n 0, 1) by decide +kernel) rfl rfl
theorem X2_hungrierThan_24 : Ev X 144 24 [l0, l1, l2, l3, l4] (.ref a :: st) w n 0 0 Q ↔ ∃ v, gf w a 2 0 = some v ∧ Ev X 144 27 [l0, l1, l2, l3, l4] (v :: st) w n 0 0 Q := E_getf ok_X2_hungrierThan (by decide +kernel) (show decode (mB 144) 24 = .ok (.getfield 11, 3) by decide +kernel) (by decide +kernel)
theorem X2_hungrierThan_27 : Ev X 144 27 [l0, l1, l2, some (.int x), l4] (st) w n 0 0 Q ↔ Ev X 144 28 [l0, l1, l2, some (.int x), l4] (.int x :: st) w n 0 0 Q := E_p ok_X2_hungrierThan (show decode (mB 144) 27 = .ok (.iload_n 3, 1) by decide +kernel) rfl rfl
theorem X2_hungrierThan_28 : Ev X 144 28 [l0, l1, l2, l3, l4] (.int x :: .ref a :: st) w n 0 0 Q ↔ ∃ v, (ga w a 4 x).or (ga w a 5 x) = some v ∧ Ev X 144 29 [l0, l1, l2, l3, l4] (v :: st) w n 0 0 Q := E_aald ok_X2_hungrierThan (show decode (mB 144) 28 = .ok (.aaload, 1) by decide +kernel)
theorem X2_hungrierThan_29 (h : hasc w a 1 = true) : Ev X 144 29 [l0, l1, l2, l3, l4] (.ref b0 :: .ref a :: []) w n 0 0 Q ↔ Ev X 143 0 [some (.ref a), some (.ref b0)] [] w n 0 0 (Kr X 144 32 [l0, l1, l2, l3, l4] ([]) 0 0 Q) := E_cv ok_X2_hungrierThan (show decode (mB 144) 29 = .ok (.invokevirtual 186, 3) by decide +kernel) (by decide +kernel) (by decide +kernel) (by decide +kernel) (k := 1) (vs := [.ref b0]) rfl ((rc_Seat (M2 := 143) (by decide +kernel) (by decide +kernel)).trans h) (by simp only [List.length_cons, List.length_nil]; decide) (by simp only [List.length_cons, List.length_nil]; decide +kernel) (ent_eq (k := 0) (by simp only [List.length_cons, List.length_nil]; decide +kernel)) (by decide +kernel) (by decide +kernel)
theorem X2_hungrierThan_32 : Ev X 144 32 [l0, l1, l2, l3, l4] (.int x :: st) w n 0 0 Q ↔ if x = 0 then Ev X 144 35 [l0, l1, l2, l3, l4] (st) w n 0 0 Q else Ev X 144 39 [l0, l1, l2, l3, l4] (st) w n 0 0 Q := E_ifne ok_X2_hungrierThan (show decode (mB 144) 32 = .ok (.ifCond .ne 7, 3) by decide +kernel) rfl
theorem X2_hungrierThan_35 : Ev X 144 35 [l0, l1, l2, l3, l4] (st) w n 0 0 Q ↔ Ev X 144 36 [l0, l1, l2, l3, l4] (.int (1) :: st) w n 0 0 Q := E_iconst ok_X2_hungrierThan (show decode (mB 144) 35 = .ok (.iconst 1, 1) by decide +kernel) (by decide)
theorem X2_hungrierThan_36 : Ev X 144 36 [l0, l1, l2, l3, l4] (st) w n 0 0 Q ↔ Ev X 144 40 [l0, l1, l2, l3, l4] (st) w n 0 0 Q := E_goto ok_X2_hungrierThan (show decode (mB 144) 36 = .ok (.goto 4, 3) by decide +kernel) rfl
theorem X2_hungrierThan_39 : Ev X 144 39 [l0, l1, l2, l3, l4] (st) w n 0 0 Q ↔ Ev X 144 40 [l0, l1, l2, l3, l4] (.int (0) :: st) w n 0 0 Q := E_iconst ok_X2_hungrierThan (show decode (mB 144) 39 = .ok (.iconst 0, 1) by decide +kernel) (by decide)
theorem X2_hungrierThan_40 : Ev X 144 40 [l0, l1, l2, l3, l4] (.int x :: st) w n 0 0 Q ↔ Ev X 144 42 [l0, l1, l2, l3, some (.int x)] (st) w n 0 0 Q := E_p ok_X2_hungrierThan (show decode (mB 144) 40 = .ok (.istore 4, 2) by decide +kernel) rfl rfl
theorem X2_hungrierThan_42 : Ev X 144 42 [some (.ref a), l1, l2, l3, l4] (st) w n 0 0 Q ↔ Ev X 144 43 [some (.ref a), l1, l2, l3, l4] (.ref a :: st) w n 0 0 Q := E_p ok_X2_hungrierThan (show decode (mB 144) 42 = .ok (.aload_n 0, 1) by decide +kernel) rfl rfl
theorem X2_hungrierThan_43 : Ev X 144 43 [l0, l1, l2, l3, l4] (.ref a :: st) w n 0 0 Q ↔ ∃ v, gf w a 2 0 = some v ∧ Ev X 144 46 [l0, l1, l2, l3, l4] (v :: st) w n 0 0 Q := E_getf ok_X2_hungrierThan (by decide +kernel) (show decode (mB 144) 43 = .ok (.getfield 11, 3) by decide +kernel) (by decide +kernel)
theorem X2_hungrierThan_46 : Ev X 144 46 [l0, l1, l2, some (.int x), l4] (st) w n 0 0 Q ↔ Ev X 144 47 [l0, l1, l2, some (.int x), l4] (.int x :: st) w n 0 0 Q := E_p ok_X2_hungrierThan (show decode (mB 144) 46 = .ok (.iload_n 3, 1) by decide +kernel) rfl rfl
theorem X2_hungrierThan_47 : Ev X 144 47 [l0, l1, l2, l3, l4] (.int x :: .ref a :: st) w n 0 0 Q ↔ ∃ v, (ga w a 4 x).or (ga w a 5 x) = some v ∧ Ev X 144 48 [l0, l1, l2, l3, l4] (v :: st) w n 0 0 Q := E_aald ok_X2_hungrierThan (show decode (mB 144) 47 = .ok (.aaload, 1) by decide +kernel)
theorem X2_hungrierThan_48 : Ev X 144 48 [some (.ref a), l1, l2, l3, l4] (st) w n 0 0 Q ↔ Ev X 144 49 [some (.ref a), l1, l2, l3, l4] (.ref a :: st) w n 0 0 Q := E_p ok_X2_hungrierThan (show decode (mB 144) 48 = .ok (.aload_n 0, 1) by decide +kernel) rfl rfl
theorem X2_hungrierThan_49 : Ev X 144 49 [l0, l1, l2, l3, l4] (.ref a :: st) w n 0 0 Q ↔ ∃ v, gf w a 2 0 = some v ∧ Ev X 144 52 [l0, l1, l2, l3, l4] (v :: st) w n 0 0 Q := E_getf ok_X2_hungrierThan (by decide +kernel) (show decode (mB 144) 49 = .ok (.getfield 11, 3) by decide +kernel) (by decide +kernel)
theorem X2_hungrierThan_52 : Ev X 144 52 [l0, some (.int x), l2, l3, l4] (st) w n 0 0 Q ↔ Ev X 144 53 [l0, some (.int x), l2, l3, l4] (.int x :: st) w n 0 0 Q := E_p ok_X2_hungrierThan (show decode (mB 144) 52 = .ok (.iload_n 1, 1) by decide +kernel) rfl rfl
theorem X2_hungrierThan_53 : Ev X 144 53 [l0, l1, l2, l3, l4] (.int x :: .ref a :: st) w n 0 0 Q ↔ ∃ v, (ga w a 4 x).or (ga w a 5 x) = some v ∧ Ev X 144 54 [l0, l1, l2, l3, l4] (v :: st) w n 0 0 Q := E_aald ok_X2_hungrierThan (show decode (mB 144) 53 = .ok (.aaload, 1) by decide +kernel)
theorem X2_hungrierThan_54 (h : hasc w a 1 = true) : Ev X 144 54 [l0, l1, l2, l3, l4] (.ref b0 :: .ref a :: []) w n 0 0 Q ↔ Ev X 143 0 [some (.ref a), some (.ref b0)] [] w n 0 0 (Kr X 144 57 [l0, l1, l2, l3, l4] ([]) 0 0 Q) := E_cv ok_X2_hungrierThan (show decode (mB 144) 54 = .ok (.invokevirtual 186, 3) by decide +kernel) (by decide +kernel) (by decide +kernel) (by decide +kernel) (k := 1) (vs := [.ref b0]) rfl ((rc_Seat (M2 := 143) (by decide +kernel) (by decide +kernel)).trans h) (by simp only [List.length_cons, List.length_nil]; decide) (by simp only [List.length_cons, List.length_nil]; decide +kernel) (ent_eq (k := 0) (by simp only [List.length_cons, List.length_nil]; decide +kernel)) (by decide +kernel) (by decide +kernel)
theorem X2_hungrierThan_57 : Ev X 144 57 [l0, l1, l2, l3, l4] (.int x :: st) w n 0 0 Q ↔ if x = 0 then Ev X 144 60 [l0, l1, l2, l3, l4] (st) w n 0 0 Q else Ev X 144 65 [l0, l1, l2, l3, l4] (st) w n 0 0 Q := E_ifne ok_X2_hungrierThan (show decode (mB 144) 57 = .ok (.ifCond .ne 8, 3) by decide +kernel) rfl
theorem X2_hungrierThan_60 : Ev X 144 60 [l0, l1, l2, l3, some (.int x)] (st) w n 0 0 Q ↔ Ev X 144 62 [l0, l1, l2, l3, some (.int x)] (.int x :: st) w n 0 0 Q := E_p ok_X2_hungrierThan (show decode (mB 144) 60 = .ok (.iload 4, 2) by decide +kernel) rfl rfl
theorem X2_hungrierThan_62 : Ev X 144 62 [l0, l1, l2, l3, l4] (.int x :: st) w n 0 0 Q ↔ if x = 0 then Ev X 144 68 [l0, l1, l2, l3, l4] (st) w n 0 0 Q else Ev X 144 65 [l0, l1, l2, l3, l4] (st) w n 0 0 Q := E_ifeq ok_X2_hungrierThan (show decode (mB 144) 62 = .ok (.ifCond .eq 6, 3) by decide +kernel) rfl
theorem X2_hungrierThan_65 : Ev X 144 65 [l0, l1, some (.int x), l3, l4] (st) w n 0 0 Q ↔ Ev X 144 68 [l0, l1, some (.int (x + (1))), l3, l4] (st) w n 0 0 Q := E_iinc ok_X2_hungrierThan (show decode (mB 144) 65 = .ok (.iinc 2 1, 3) by decide +kernel) rfl (by simp only [List.length_cons, List.length_nil]; decide) (by decide) rfl
theorem X2_hungrierThan_68 : Ev X 144 68 [l0, l1, l2, some (.int x), l4] (st) w n 0 0 Q ↔ Ev X 144 71 [l0, l1, l2, some (.int (x + (1))), l4] (st) w n 0 0 Q := E_iinc ok_X2_hungrierThan (show decode (mB 144) 68 = .ok (.iinc 3 1, 3) by decide +kernel) rfl (by simp only [List.length_cons, List.length_nil]; decide) (by decide) rfl
theorem X2_hungrierThan_71 : Ev X 144 71 [l0, l1, l2, l3, l4] (st) w n 0 0 Q ↔ Ev X 144 4 [l0, l1, l2, l3, l4] (st) w n 0 0 Q := E_goto ok_X2_hungrierThan (show decode (mB 144) 71 = .ok (.goto (-67), 3) by decide +kernel) rfl
theorem X2_hungrierThan_74 : Ev X 144 74 [l0, l1, some (.int x), l3, l4] (st) w n 0 0 Q ↔ Ev X 144 75 [l0, l1, some (.int x), l3, l4] (.int x :: st) w n 0 0 Q := E_p ok_X2_hungrierThan (show decode (mB 144) 74 = .ok (.iload_n 2, 1) by decide +kernel) rfl rfl
theorem X2_hungrierThan_75 : Ev X 144 75 [l0, l1, l2, l3, l4] ([.int x]) w n 0 0 Q ↔ Q (.inl (some (.int x))) w n := E_reti ok_X2_hungrierThan (show decode (mB 144) 75 = .ok (.ireturn, 1) by decide +kernel) (by decide +kernel)
theorem ok_X2_hungriestAt : okP 145 = true := by decide +kernel
theorem X2_hungriestAt_0 : Ev X 145 0 [l0, l1, l2] (st) w n 0 0 Q ↔ Ev X 145 1 [l0, l1, l2] (.int (0) :: st) w n 0 0 Q := E_iconst ok_X2_hungriestAt (show decode (mB 145) 0 = .ok (.iconst 0, 1) by decide +kernel) (by decide)
theorem X2_hungriestAt_1 : Ev X 145 1 [l0, l1, l2] (.int x :: st) w n 0 0 Q ↔ Ev X 145 2 [l0, l1, some (.int x)] (st) w n 0 0 Q := E_p ok_X2_hungriestAt (show decode (mB 145) 1 = .ok (.istore_n 2, 1) by decide +kernel) rfl rfl
theorem X2_hungriestAt_2 : Ev X 145 2 [l0, l1, some (.int x)] (st) w n 0 0 Q ↔ Ev X 145 3 [l0, l1, some (.int x)] (.int x :: st) w n 0 0 Q := E_p ok_X2_hungriestAt (show decode (mB 145) 2 = .ok (.iload_n 2, 1) by decide +kernel) rfl rfl
theorem X2_hungriestAt_3 : Ev X 145 3 [some (.ref a), l1, l2] (st) w n 0 0 Q ↔ Ev X 145 4 [some (.ref a), l1, l2] (.ref a :: st) w n 0 0 Q := E_p ok_X2_hungriestAt (show decode (mB 145) 3 = .ok (.aload_n 0, 1) by decide +kernel) rfl rfl
theorem X2_hungriestAt_4 : Ev X 145 4 [l0, l1, l2] (.ref a :: st) w n 0 0 Q ↔ ∃ v, gf w a 2 2 = some v ∧ Ev X 145 7 [l0, l1, l2] (v :: st) w n 0 0 Q := E_getf ok_X2_hungriestAt (by decide +kernel) (show decode (mB 145) 4 = .ok (.getfield 33, 3) by decide +kernel) (by decide +kernel)
theorem X2_hungriestAt_7 : Ev X 145 7 [l0, l1, l2] (.int y :: .int x :: st) w n 0 0 Q ↔ if x < y then Ev X 145 10 [l0, l1, l2] (st) w n 0 0 Q else Ev X 145 27 [l0, l1, l2] (st) w n 0 0 Q := E_icge ok_X2_hungriestAt (show decode (mB 145) 7 = .ok (.if_icmp .ge 20, 3) by decide +kernel) rfl
theorem X2_hungriestAt_10 : Ev X 145 10 [some (.ref a), l1, l2] (st) w n 0 0 Q ↔ Ev X 145 11 [some (.ref a), l1, l2] (.ref a :: st) w n 0 0 Q := E_p ok_X2_hungriestAt (show decode (mB 145) 10 = .ok (.aload_n 0, 1) by decide +kernel) rfl rfl
theorem X2_hungriestAt_11 : Ev X 145 11 [l0, l1, some (.int x)] (st) w n 0 0 Q ↔ Ev X 145 12 [l0, l1, some (.int x)] (.int x :: st) w n 0 0 Q := E_p ok_X2_hungriestAt (show decode (mB 145) 11 = .ok (.iload_n 2, 1) by decide +kernel) rfl rfl
theorem X2_hungriestAt_12 (h : hasc w a 2 = true) : Ev X 145 12 [l0, l1, l2] (.int y0 :: .ref a :: []) w n 0 0 Q ↔ Ev X 144 0 [some (.ref a), some (.int y0), none, none, none] [] w n 0 0 (Kr X 145 15 [l0, l1, l2] ([]) 0 0 Q) := E_cv ok_X2_hungriestAt (show decode (mB 145) 12 = .ok (.invokevirtual 183, 3) by decide +kernel) (by decide +kernel) (by decide +kernel) (by decide +kernel) (k := 1) (vs := [.int y0]) rfl ((rc_Table (M2 := 144) (by decide +kernel) (by decide +kernel)).trans h) (by simp only [List.length_cons, List.length_nil]; decide) (by simp only [List.length_cons, List.length_nil]; decide +kernel) (ent_eq (k := 3) (by simp only [List.length_cons, List.length_nil]; decide +kernel)) (by decide +kernel) (by decide +kernel)
theorem X2_hungriestAt_15 : Ev X 145 15 [l0, some (.int x), l2] (st) w n 0 0 Q ↔ Ev X 145 16 [l0, some (.int x), l2] (.int x :: st) w n 0 0 Q := E_p ok_X2_hungriestAt (show decode (mB 145) 15 = .ok (.iload_n 1, 1) by decide +kernel) rfl rfl
theorem X2_hungriestAt_16 : Ev X 145 16 [l0, l1, l2] (.int y :: .int x :: st) w n 0 0 Q ↔ if x = y then Ev X 145 19 [l0, l1, l2] (st) w n 0 0 Q else Ev X 145 21 [l0, l1, l2] (st) w n 0 0 Q := E_icne ok_X2_hungriestAt (show decode (mB 145) 16 = .ok (.if_icmp .ne 5, 3) by decide +kernel) rfl
theorem X2_hungriestAt_19 : Ev X 145 19 [l0, l1, some (.int x)] (st) w n 0 0 Q ↔ Ev X 145 20 [l0, l1, some (.int x)] (.int x :: st) w n 0 0 Q := E_p ok_X2_hungriestAt (show decode (mB 145) 19 = .ok (.iload_n 2, 1) by decide +kernel) rfl rfl
theorem X2_hungriestAt_20 : Ev X 145 20 [l0, l1, l2] ([.int x]) w n 0 0 Q ↔ Q (.inl (some (.int x))) w n := E_reti ok_X2_hungriestAt (show decode (mB 145) 20 = .ok (.ireturn, 1) by decide +kernel) (by decide +kernel)
theorem X2_hungriestAt_21 : Ev X 145 21 [l0, l1, some (.int x)] (st) w n 0 0 Q ↔ Ev X 145 24 [l0, l1, some (.int (x + (1)))] (st) w n 0 0 Q := E_iinc ok_X2_hungriestAt (show decode (mB 145) 21 = .ok (.iinc 2 1, 3) by decide +kernel) rfl (by simp only [List.length_cons, List.length_nil]; decide) (by decide) rfl
theorem X2_hungriestAt_24 : Ev X 145 24 [l0, l1, l2] (st) w n 0 0 Q ↔ Ev X 145 2 [l0, l1, l2] (st) w n 0 0 Q := E_goto ok_X2_hungriestAt (show decode (mB 145) 24 = .ok (.goto (-22), 3) by decide +kernel) rfl
theorem X2_hungriestAt_27 : Ev X 145 27 [l0, l1, l2] (st) w n 0 0 Q ↔ Ev X 145 28 [l0, l1, l2] (.int (-1) :: st) w n 0 0 Q := E_iconst ok_X2_hungriestAt (show decode (mB 145) 27 = .ok (.iconst (-1), 1) by decide +kernel) (by decide)
theorem X2_hungriestAt_28 : Ev X 145 28 [l0, l1, l2] ([.int x]) w n 0 0 Q ↔ Q (.inl (some (.int x))) w n := E_reti ok_X2_hungriestAt (show decode (mB 145) 28 = .ok (.ireturn, 1) by decide +kernel) (by decide +kernel)
theorem ok_X2_fewestMeals : okP 150 = true := by decide +kernel
theorem X2_fewestMeals_0 : Ev X 150 0 [some (.ref a), l1, l2] (st) w n 0 0 Q ↔ Ev X 150 1 [some (.ref a), l1, l2] (.ref a :: st) w n 0 0 Q := E_p ok_X2_fewestMeals (show decode (mB 150) 0 = .ok (.aload_n 0, 1) by decide +kernel) rfl rfl
theorem X2_fewestMeals_1 : Ev X 150 1 [l0, l1, l2] (.ref a :: st) w n 0 0 Q ↔ ∃ v, gf w a 2 2 = some v ∧ Ev X 150 4 [l0, l1, l2] (v :: st) w n 0 0 Q := E_getf ok_X2_fewestMeals (by decide +kernel) (show decode (mB 150) 1 = .ok (.getfield 33, 3) by decide +kernel) (by decide +kernel)
theorem X2_fewestMeals_4 : Ev X 150 4 [l0, l1, l2] (.int x :: st) w n 0 0 Q ↔ if x = 0 then Ev X 150 7 [l0, l1, l2] (st) w n 0 0 Q else Ev X 150 11 [l0, l1, l2] (st) w n 0 0 Q := E_ifne ok_X2_fewestMeals (show decode (mB 150) 4 = .ok (.ifCond .ne 7, 3) by decide +kernel) rfl
theorem X2_fewestMeals_7 : Ev X 150 7 [l0, l1, l2] (st) w n 0 0 Q ↔ Ev X 150 8 [l0, l1, l2] (.int (0) :: st) w n 0 0 Q := E_iconst ok_X2_fewestMeals (show decode (mB 150) 7 = .ok (.iconst 0, 1) by decide +kernel) (by decide)
theorem X2_fewestMeals_8 : Ev X 150 8 [l0, l1, l2] (st) w n 0 0 Q ↔ Ev X 150 20 [l0, l1, l2] (st) w n 0 0 Q := E_goto ok_X2_fewestMeals (show decode (mB 150) 8 = .ok (.goto 12, 3) by decide +kernel) rfl
theorem X2_fewestMeals_11 : Ev X 150 11 [some (.ref a), l1, l2] (st) w n 0 0 Q ↔ Ev X 150 12 [some (.ref a), l1, l2] (.ref a :: st) w n 0 0 Q := E_p ok_X2_fewestMeals (show decode (mB 150) 11 = .ok (.aload_n 0, 1) by decide +kernel) rfl rfl
theorem X2_fewestMeals_12 : Ev X 150 12 [l0, l1, l2] (.ref a :: st) w n 0 0 Q ↔ ∃ v, gf w a 2 0 = some v ∧ Ev X 150 15 [l0, l1, l2] (v :: st) w n 0 0 Q := E_getf ok_X2_fewestMeals (by decide +kernel) (show decode (mB 150) 12 = .ok (.getfield 11, 3) by decide +kernel) (by decide +kernel)
theorem X2_fewestMeals_15 : Ev X 150 15 [l0, l1, l2] (st) w n 0 0 Q ↔ Ev X 150 16 [l0, l1, l2] (.int (0) :: st) w n 0 0 Q := E_iconst ok_X2_fewestMeals (show decode (mB 150) 15 = .ok (.iconst 0, 1) by decide +kernel) (by decide)
theorem X2_fewestMeals_16 : Ev X 150 16 [l0, l1, l2] (.int x :: .ref a :: st) w n 0 0 Q ↔ ∃ v, (ga w a 4 x).or (ga w a 5 x) = some v ∧ Ev X 150 17 [l0, l1, l2] (v :: st) w n 0 0 Q := E_aald ok_X2_fewestMeals (show decode (mB 150) 16 = .ok (.aaload, 1) by decide +kernel)
theorem X2_fewestMeals_17 : Ev X 150 17 [l0, l1, l2] (.ref a :: st) w n 0 0 Q ↔ ∃ v, gf w a 1 5 = some v ∧ Ev X 150 20 [l0, l1, l2] (v :: st) w n 0 0 Q := E_getf ok_X2_fewestMeals (by decide +kernel) (show decode (mB 150) 17 = .ok (.getfield 147, 3) by decide +kernel) (by decide +kernel)
theorem X2_fewestMeals_20 : Ev X 150 20 [l0, l1, l2] (.int x :: st) w n 0 0 Q ↔ Ev X 150 21 [l0, some (.int x), l2] (st) w n 0 0 Q := E_p ok_X2_fewestMeals (show decode (mB 150) 20 = .ok (.istore_n 1, 1) by decide +kernel) rfl rfl
theorem X2_fewestMeals_21 : Ev X 150 21 [l0, l1, l2] (st) w n 0 0 Q ↔ Ev X 150 22 [l0, l1, l2] (.int (1) :: st) w n 0 0 Q := E_iconst ok_X2_fewestMeals (show decode (mB 150) 21 = .ok (.iconst 1, 1) by decide +kernel) (by decide)
theorem X2_fewestMeals_22 : Ev X 150 22 [l0, l1, l2] (.int x :: st) w n 0 0 Q ↔ Ev X 150 23 [l0, l1, some (.int x)] (st) w n 0 0 Q := E_p ok_X2_fewestMeals (show decode (mB 150) 22 = .ok (.istore_n 2, 1) by decide +kernel) rfl rfl
theorem X2_fewestMeals_23 : Ev X 150 23 [l0, l1, some (.int x)] (st) w n 0 0 Q ↔ Ev X 150 24 [l0, l1, some (.int x)] (.int x :: st) w n 0 0 Q := E_p ok_X2_fewestMeals (show decode (mB 150) 23 = .ok (.iload_n 2, 1) by decide +kernel) rfl rfl
theorem X2_fewestMeals_24 : Ev X 150 24 [some (.ref a), l1, l2] (st) w n 0 0 Q ↔ Ev X 150 25 [some (.ref a), l1, l2] (.ref a :: st) w n 0 0 Q := E_p ok_X2_fewestMeals (show decode (mB 150) 24 = .ok (.aload_n 0, 1) by decide +kernel) rfl rfl
theorem X2_fewestMeals_25 : Ev X 150 25 [l0, l1, l2] (.ref a :: st) w n 0 0 Q ↔ ∃ v, gf w a 2 2 = some v ∧ Ev X 150 28 [l0, l1, l2] (v :: st) w n 0 0 Q := E_getf ok_X2_fewestMeals (by decide +kernel) (show decode (mB 150) 25 = .ok (.getfield 33, 3) by decide +kernel) (by decide +kernel)
theorem X2_fewestMeals_28 : Ev X 150 28 [l0, l1, l2] (.int y :: .int x :: st) w n 0 0 Q ↔ if x < y then Ev X 150 31 [l0, l1, l2] (st) w n 0 0 Q else Ev X 150 51 [l0, l1, l2] (st) w n 0 0 Q := E_icge ok_X2_fewestMeals (show decode (mB 150) 28 = .ok (.if_icmp .ge 23, 3) by decide +kernel) rfl
theorem X2_fewestMeals_31 : Ev X 150 31 [l0, some (.int x), l2] (st) w n 0 0 Q ↔ Ev X 150 32 [l0, some (.int x), l2] (.int x :: st) w n 0 0 Q := E_p ok_X2_fewestMeals (show decode (mB 150) 31 = .ok (.iload_n 1, 1) by decide +kernel) rfl rfl
theorem X2_fewestMeals_32 : Ev X 150 32 [some (.ref a), l1, l2] (st) w n 0 0 Q ↔ Ev X 150 33 [some (.ref a), l1, l2] (.ref a :: st) w n 0 0 Q := E_p ok_X2_fewestMeals (show decode (mB 150) 32 = .ok (.aload_n 0, 1) by decide +kernel) rfl rfl
theorem X2_fewestMeals_33 : Ev X 150 33 [l0, l1, l2] (.ref a :: st) w n 0 0 Q ↔ ∃ v, gf w a 2 0 = some v ∧ Ev X 150 36 [l0, l1, l2] (v :: st) w n 0 0 Q := E_getf ok_X2_fewestMeals (by decide +kernel) (show decode (mB 150) 33 = .ok (.getfield 11, 3) by decide +kernel) (by decide +kernel)
theorem X2_fewestMeals_36 : Ev X 150 36 [l0, l1, some (.int x)] (st) w n 0 0 Q ↔ Ev X 150 37 [l0, l1, some (.int x)] (.int x :: st) w n 0 0 Q := E_p ok_X2_fewestMeals (show decode (mB 150) 36 = .ok (.iload_n 2, 1) by decide +kernel) rfl rfl
theorem X2_fewestMeals_37 : Ev X 150 37 [l0, l1, l2] (.int x :: .ref a :: st) w n 0 0 Q ↔ ∃ v, (ga w a 4 x).or (ga w a 5 x) = some v ∧ Ev X 150 38 [l0, l1, l2] (v :: st) w n 0 0 Q := E_aald ok_X2_fewestMeals (show decode (mB 150) 37 = .ok (.aaload, 1) by decide +kernel)
theorem X2_fewestMeals_38 : Ev X 150 38 [l0, l1, l2] (.ref a :: st) w n 0 0 Q ↔ ∃ v, gf w a 1 5 = some v ∧ Ev X 150 41 [l0, l1, l2] (v :: st) w n 0 0 Q := E_getf ok_X2_fewestMeals (by decide +kernel) (show decode (mB 150) 38 = .ok (.getfield 147, 3) by decide +kernel) (by decide +kernel)
theorem X2_fewestMeals_41 : Ev X 150 41 [l0, l1, l2] (.int y :: .int x :: []) w n 0 0 Q ↔ Ev X 150 44 [l0, l1, l2] (.int (imn x y) :: []) w n 0 0 Q := E_mn ok_X2_fewestMeals (show decode (mB 150) 41 = .ok (.invokestatic 190, 3) by decide +kernel) (by decide +kernel) (by simp only [List.length_cons, List.length_nil]; decide +kernel)
theorem X2_fewestMeals_44 : Ev X 150 44 [l0, l1, l2] (.int x :: st) w n 0 0 Q ↔ Ev X 150 45 [l0, some (.int x), l2] (st) w n 0 0 Q := E_p ok_X2_fewestMeals (show decode (mB 150) 44 = .ok (.istore_n 1, 1) by decide +kernel) rfl rfl
theorem X2_fewestMeals_45 : Ev X 150 45 [l0, l1, some (.int x)] (st) w n 0 0 Q ↔ Ev X 150 48 [l0, l1, some (.int (x + (1)))] (st) w n 0 0 Q := E_iinc ok_X2_fewestMeals (show decode (mB 150) 45 = .ok (.iinc 2 1, 3) by decide +kernel) rfl (by simp only [List.length_cons, List.length_nil]; decide) (by decide) rfl
theorem X2_fewestMeals_48 : Ev X 150 48 [l0, l1, l2] (st) w n 0 0 Q ↔ Ev X 150 23 [l0, l1, l2] (st) w n 0 0 Q := E_goto ok_X2_fewestMeals (show decode (mB 150) 48 = .ok (.goto (-25), 3) by decide +kernel) rfl
theorem X2_fewestMeals_51 : Ev X 150 51 [l0, some (.int x), l2] (st) w n 0 0 Q ↔ Ev X 150 52 [l0, some (.int x), l2] (.int x :: st) w n 0 0 Q := E_p ok_X2_fewestMeals (show decode (mB 150) 51 = .ok (.iload_n 1, 1) by decide +kernel) rfl rfl
theorem X2_fewestMeals_52 : Ev X 150 52 [l0, l1, l2] ([.int x]) w n 0 0 Q ↔ Q (.inl (some (.int x))) w n := E_reti ok_X2_fewestMeals (show decode (mB 150) 52 = .ok (.ireturn, 1) by decide +kernel) (by decide +kernel)
theorem ok_X2_isNext : okP 154 = true := by decide +kernel
theorem X2_isNext_0 : Ev X 154 0 [l0, l1, some (.int x)] (st) w n 0 0 Q ↔ Ev X 154 1 [l0, l1, some (.int x)] (.int x :: st) w n 0 0 Q := E_p ok_X2_isNext (show decode (mB 154) 0 = .ok (.iload_n 2, 1) by decide +kernel) rfl rfl
theorem X2_isNext_1 : Ev X 154 1 [l0, some (.int x), l2] (st) w n 0 0 Q ↔ Ev X 154 2 [l0, some (.int x), l2] (.int x :: st) w n 0 0 Q := E_p ok_X2_isNext (show decode (mB 154) 1 = .ok (.iload_n 1, 1) by decide +kernel) rfl rfl
theorem X2_isNext_2 : Ev X 154 2 [some (.ref a), l1, l2] (st) w n 0 0 Q ↔ Ev X 154 3 [some (.ref a), l1, l2] (.ref a :: st) w n 0 0 Q := E_p ok_X2_isNext (show decode (mB 154) 2 = .ok (.aload_n 0, 1) by decide +kernel) rfl rfl
theorem X2_isNext_3 : Ev X 154 3 [l0, l1, l2] (.ref a :: st) w n 0 0 Q ↔ ∃ v, gf w a 2 2 = some v ∧ Ev X 154 6 [l0, l1, l2] (v :: st) w n 0 0 Q := E_getf ok_X2_isNext (by decide +kernel) (show decode (mB 154) 3 = .ok (.getfield 33, 3) by decide +kernel) (by decide +kernel)
theorem X2_isNext_6 : Ev X 154 6 [l0, l1, l2] (st) w n 0 0 Q ↔ Ev X 154 7 [l0, l1, l2] (.int (1) :: st) w n 0 0 Q := E_iconst ok_X2_isNext (show decode (mB 154) 6 = .ok (.iconst 1, 1) by decide +kernel) (by decide)
theorem X2_isNext_7 : Ev X 154 7 [l0, l1, l2] (.int y :: .int x :: st) w n 0 0 Q ↔ Ev X 154 8 [l0, l1, l2] (.int (x - y) :: st) w n 0 0 Q := E_p ok_X2_isNext (show decode (mB 154) 7 = .ok (.isub, 1) by decide +kernel) rfl rfl
theorem X2_isNext_8 : Ev X 154 8 [l0, l1, l2] (.int y :: .int x :: st) w n 0 0 Q ↔ if x = y then Ev X 154 11 [l0, l1, l2] (st) w n 0 0 Q else Ev X 154 15 [l0, l1, l2] (st) w n 0 0 Q := E_icne ok_X2_isNext (show decode (mB 154) 8 = .ok (.if_icmp .ne 7, 3) by decide +kernel) rfl
theorem X2_isNext_11 : Ev X 154 11 [l0, l1, l2] (st) w n 0 0 Q ↔ Ev X 154 12 [l0, l1, l2] (.int (0) :: st) w n 0 0 Q := E_iconst ok_X2_isNext (show decode (mB 154) 11 = .ok (.iconst 0, 1) by decide +kernel) (by decide)
theorem X2_isNext_12 : Ev X 154 12 [l0, l1, l2] (st) w n 0 0 Q ↔ Ev X 154 18 [l0, l1, l2] (st) w n 0 0 Q := E_goto ok_X2_isNext (show decode (mB 154) 12 = .ok (.goto 6, 3) by decide +kernel) rfl
theorem X2_isNext_15 : Ev X 154 15 [l0, some (.int x), l2] (st) w n 0 0 Q ↔ Ev X 154 16 [l0, some (.int x), l2] (.int x :: st) w n 0 0 Q := E_p ok_X2_isNext (show decode (mB 154) 15 = .ok (.iload_n 1, 1) by decide +kernel) rfl rfl
theorem X2_isNext_16 : Ev X 154 16 [l0, l1, l2] (st) w n 0 0 Q ↔ Ev X 154 17 [l0, l1, l2] (.int (1) :: st) w n 0 0 Q := E_iconst ok_X2_isNext (show decode (mB 154) 16 = .ok (.iconst 1, 1) by decide +kernel) (by decide)
theorem X2_isNext_17 : Ev X 154 17 [l0, l1, l2] (.int y :: .int x :: st) w n 0 0 Q ↔ Ev X 154 18 [l0, l1, l2] (.int (x + y) :: st) w n 0 0 Q := E_p ok_X2_isNext (show decode (mB 154) 17 = .ok (.iadd, 1) by decide +kernel) rfl rfl
theorem X2_isNext_18 : Ev X 154 18 [l0, l1, l2] (.int y :: .int x :: st) w n 0 0 Q ↔ if x = y then Ev X 154 21 [l0, l1, l2] (st) w n 0 0 Q else Ev X 154 25 [l0, l1, l2] (st) w n 0 0 Q := E_icne ok_X2_isNext (show decode (mB 154) 18 = .ok (.if_icmp .ne 7, 3) by decide +kernel) rfl
theorem X2_isNext_21 : Ev X 154 21 [l0, l1, l2] (st) w n 0 0 Q ↔ Ev X 154 22 [l0, l1, l2] (.int (1) :: st) w n 0 0 Q := E_iconst ok_X2_isNext (show decode (mB 154) 21 = .ok (.iconst 1, 1) by decide +kernel) (by decide)
theorem X2_isNext_22 : Ev X 154 22 [l0, l1, l2] (st) w n 0 0 Q ↔ Ev X 154 26 [l0, l1, l2] (st) w n 0 0 Q := E_goto ok_X2_isNext (show decode (mB 154) 22 = .ok (.goto 4, 3) by decide +kernel) rfl
theorem X2_isNext_25 : Ev X 154 25 [l0, l1, l2] (st) w n 0 0 Q ↔ Ev X 154 26 [l0, l1, l2] (.int (0) :: st) w n 0 0 Q := E_iconst ok_X2_isNext (show decode (mB 154) 25 = .ok (.iconst 0, 1) by decide +kernel) (by decide)
theorem X2_isNext_26 (h : okr (some .boolean) x = true) : Ev X 154 26 [l0, l1, l2] ([.int x]) w n 0 0 Q ↔ Q (.inl (some (.int x))) w n := E_retz ok_X2_isNext (show decode (mB 154) 26 = .ok (.ireturn, 1) by decide +kernel) (by decide +kernel) h
theorem ok_X2_obey : okP 180 = true := by decide +kernel
theorem X2_obey_0 : Ev X 180 0 [l0, some (.ref a), l2, l3, l4, l5] (st) w n 0 0 Q ↔ Ev X 180 1 [l0, some (.ref a), l2, l3, l4, l5] (.ref a :: st) w n 0 0 Q := E_p ok_X2_obey (show decode (mB 180) 0 = .ok (.aload_n 1, 1) by decide +kernel) rfl rfl
theorem X2_obey_1 : Ev X 180 1 [l0, l1, l2, l3, l4, l5] (.ref a :: st) w n 0 0 Q ↔ ∃ v, gf w a 3 4 = some v ∧ Ev X 180 4 [l0, l1, l2, l3, l4, l5] (v :: st) w n 0 0 Q := E_getf ok_X2_obey (by decide +kernel) (show decode (mB 180) 1 = .ok (.getfield 45, 3) by decide +kernel) (by decide +kernel)
theorem X2_obey_4 : Ev X 180 4 [l0, l1, l2, l3, l4, l5] (st) w n 0 0 Q ↔ Ev X 180 5 [l0, l1, l2, l3, l4, l5] (.int (0) :: st) w n 0 0 Q := E_iconst ok_X2_obey (show decode (mB 180) 4 = .ok (.iconst 0, 1) by decide +kernel) (by decide)
theorem X2_obey_5 : Ev X 180 5 [l0, l1, l2, l3, l4, l5] (.int x :: .ref a :: st) w n 0 0 Q ↔ ∃ v, ga w a 0 x = some v ∧ Ev X 180 6 [l0, l1, l2, l3, l4, l5] (v :: st) w n 0 0 Q := E_iald ok_X2_obey (by decide +kernel) (show decode (mB 180) 5 = .ok (.iaload, 1) by decide +kernel)
theorem X2_obey_6 : Ev X 180 6 [l0, l1, l2, l3, l4, l5] (.int x :: st) w n 0 0 Q ↔ Ev X 180 7 [l0, l1, l2, some (.int x), l4, l5] (st) w n 0 0 Q := E_p ok_X2_obey (show decode (mB 180) 6 = .ok (.istore_n 3, 1) by decide +kernel) rfl rfl
theorem X2_obey_7 : Ev X 180 7 [l0, some (.ref a), l2, l3, l4, l5] (st) w n 0 0 Q ↔ Ev X 180 8 [l0, some (.ref a), l2, l3, l4, l5] (.ref a :: st) w n 0 0 Q := E_p ok_X2_obey (show decode (mB 180) 7 = .ok (.aload_n 1, 1) by decide +kernel) rfl rfl
theorem X2_obey_8 : Ev X 180 8 [l0, l1, l2, l3, l4, l5] (.ref a :: st) w n 0 0 Q ↔ ∃ v, gf w a 3 4 = some v ∧ Ev X 180 11 [l0, l1, l2, l3, l4, l5] (v :: st) w n 0 0 Q := E_getf ok_X2_obey (by decide +kernel) (show decode (mB 180) 8 = .ok (.getfield 45, 3) by decide +kernel) (by decide +kernel)
theorem X2_obey_11 : Ev X 180 11 [l0, l1, l2, l3, l4, l5] (st) w n 0 0 Q ↔ Ev X 180 12 [l0, l1, l2, l3, l4, l5] (.int (1) :: st) w n 0 0 Q := E_iconst ok_X2_obey (show decode (mB 180) 11 = .ok (.iconst 1, 1) by decide +kernel) (by decide)
theorem X2_obey_12 : Ev X 180 12 [l0, l1, l2, l3, l4, l5] (.int x :: .ref a :: st) w n 0 0 Q ↔ ∃ v, ga w a 0 x = some v ∧ Ev X 180 13 [l0, l1, l2, l3, l4, l5] (v :: st) w n 0 0 Q := E_iald ok_X2_obey (by decide +kernel) (show decode (mB 180) 12 = .ok (.iaload, 1) by decide +kernel)
theorem X2_obey_13 : Ev X 180 13 [l0, l1, l2, l3, l4, l5] (.int x :: st) w n 0 0 Q ↔ Ev X 180 15 [l0, l1, l2, l3, some (.int x), l5] (st) w n 0 0 Q := E_p ok_X2_obey (show decode (mB 180) 13 = .ok (.istore 4, 2) by decide +kernel) rfl rfl
theorem X2_obey_15 : Ev X 180 15 [l0, some (.ref a), l2, l3, l4, l5] (st) w n 0 0 Q ↔ Ev X 180 16 [l0, some (.ref a), l2, l3, l4, l5] (.ref a :: st) w n 0 0 Q := E_p ok_X2_obey (show decode (mB 180) 15 = .ok (.aload_n 1, 1) by decide +kernel) rfl rfl
theorem X2_obey_16 : Ev X 180 16 [l0, l1, l2, l3, l4, l5] (.ref a :: st) w n 0 0 Q ↔ ∃ v, gf w a 3 4 = some v ∧ Ev X 180 19 [l0, l1, l2, l3, l4, l5] (v :: st) w n 0 0 Q := E_getf ok_X2_obey (by decide +kernel) (show decode (mB 180) 16 = .ok (.getfield 45, 3) by decide +kernel) (by decide +kernel)
theorem X2_obey_19 : Ev X 180 19 [l0, l1, l2, l3, l4, l5] (st) w n 0 0 Q ↔ Ev X 180 20 [l0, l1, l2, l3, l4, l5] (.int (2) :: st) w n 0 0 Q := E_iconst ok_X2_obey (show decode (mB 180) 19 = .ok (.iconst 2, 1) by decide +kernel) (by decide)
theorem X2_obey_20 : Ev X 180 20 [l0, l1, l2, l3, l4, l5] (.int x :: .ref a :: st) w n 0 0 Q ↔ ∃ v, ga w a 0 x = some v ∧ Ev X 180 21 [l0, l1, l2, l3, l4, l5] (v :: st) w n 0 0 Q := E_iald ok_X2_obey (by decide +kernel) (show decode (mB 180) 20 = .ok (.iaload, 1) by decide +kernel)
theorem X2_obey_21 : Ev X 180 21 [l0, l1, l2, l3, l4, l5] (.int x :: st) w n 0 0 Q ↔ Ev X 180 23 [l0, l1, l2, l3, l4, some (.int x)] (st) w n 0 0 Q := E_p ok_X2_obey (show decode (mB 180) 21 = .ok (.istore 5, 2) by decide +kernel) rfl rfl
theorem X2_obey_23 : Ev X 180 23 [l0, some (.ref a), l2, l3, l4, l5] (st) w n 0 0 Q ↔ Ev X 180 24 [l0, some (.ref a), l2, l3, l4, l5] (.ref a :: st) w n 0 0 Q := E_p ok_X2_obey (show decode (mB 180) 23 = .ok (.aload_n 1, 1) by decide +kernel) rfl rfl
theorem X2_obey_24 : Ev X 180 24 [l0, l1, l2, l3, l4, l5] (.ref a :: st) w n 0 0 Q ↔ ∃ v, gf w a 3 3 = some v ∧ Ev X 180 27 [l0, l1, l2, l3, l4, l5] (v :: st) w n 0 0 Q := E_getf ok_X2_obey (by decide +kernel) (show decode (mB 180) 24 = .ok (.getfield 50, 3) by decide +kernel) (by decide +kernel)
theorem X2_obey_27_0 : Ev X 180 27 [l0, l1, l2, l3, l4, l5] (.int 0 :: st) w n 0 0 Q ↔ Ev X 180 68 [l0, l1, l2, l3, l4, l5] (st) w n 0 0 Q := E_p ok_X2_obey (show decode (mB 180) 27 = .ok (.tableswitch 99 0 6 #[41, 52, 58, 67, 78, 85, 92], 41) by decide +kernel) rfl rfl
theorem X2_obey_27_1 : Ev X 180 27 [l0, l1, l2, l3, l4, l5] (.int 1 :: st) w n 0 0 Q ↔ Ev X 180 79 [l0, l1, l2, l3, l4, l5] (st) w n 0 0 Q := E_p ok_X2_obey (show decode (mB 180) 27 = .ok (.tableswitch 99 0 6 #[41, 52, 58, 67, 78, 85, 92], 41) by decide +kernel) rfl rfl
theorem X2_obey_27_2 : Ev X 180 27 [l0, l1, l2, l3, l4, l5] (.int 2 :: st) w n 0 0 Q ↔ Ev X 180 85 [l0, l1, l2, l3, l4, l5] (st) w n 0 0 Q := E_p ok_X2_obey (show decode (mB 180) 27 = .ok (.tableswitch 99 0 6 #[41, 52, 58, 67, 78, 85, 92], 41) by decide +kernel) rfl rfl
theorem X2_obey_27_3 : Ev X 180 27 [l0, l1, l2, l3, l4, l5] (.int 3 :: st) w n 0 0 Q ↔ Ev X 180 94 [l0, l1, l2, l3, l4, l5] (st) w n 0 0 Q := E_p ok_X2_obey (show decode (mB 180) 27 = .ok (.tableswitch 99 0 6 #[41, 52, 58, 67, 78, 85, 92], 41) by decide +kernel) rfl rfl
theorem X2_obey_27_4 : Ev X 180 27 [l0, l1, l2, l3, l4, l5] (.int 4 :: st) w n 0 0 Q ↔ Ev X 180 105 [l0, l1, l2, l3, l4, l5] (st) w n 0 0 Q := E_p ok_X2_obey (show decode (mB 180) 27 = .ok (.tableswitch 99 0 6 #[41, 52, 58, 67, 78, 85, 92], 41) by decide +kernel) rfl rfl
theorem X2_obey_27_5 : Ev X 180 27 [l0, l1, l2, l3, l4, l5] (.int 5 :: st) w n 0 0 Q ↔ Ev X 180 112 [l0, l1, l2, l3, l4, l5] (st) w n 0 0 Q := E_p ok_X2_obey (show decode (mB 180) 27 = .ok (.tableswitch 99 0 6 #[41, 52, 58, 67, 78, 85, 92], 41) by decide +kernel) rfl rfl
theorem X2_obey_27_6 : Ev X 180 27 [l0, l1, l2, l3, l4, l5] (.int 6 :: st) w n 0 0 Q ↔ Ev X 180 119 [l0, l1, l2, l3, l4, l5] (st) w n 0 0 Q := E_p ok_X2_obey (show decode (mB 180) 27 = .ok (.tableswitch 99 0 6 #[41, 52, 58, 67, 78, 85, 92], 41) by decide +kernel) rfl rfl
theorem X2_obey_68 : Ev X 180 68 [some (.ref a), l1, l2, l3, l4, l5] (st) w n 0 0 Q ↔ Ev X 180 69 [some (.ref a), l1, l2, l3, l4, l5] (.ref a :: st) w n 0 0 Q := E_p ok_X2_obey (show decode (mB 180) 68 = .ok (.aload_n 0, 1) by decide +kernel) rfl rfl
theorem X2_obey_69 : Ev X 180 69 [l0, l1, l2, some (.int x), l4, l5] (st) w n 0 0 Q ↔ Ev X 180 70 [l0, l1, l2, some (.int x), l4, l5] (.int x :: st) w n 0 0 Q := E_p ok_X2_obey (show decode (mB 180) 69 = .ok (.iload_n 3, 1) by decide +kernel) rfl rfl
theorem X2_obey_70 : Ev X 180 70 [l0, l1, l2, l3, some (.int x), l5] (st) w n 0 0 Q ↔ Ev X 180 72 [l0, l1, l2, l3, some (.int x), l5] (.int x :: st) w n 0 0 Q := E_p ok_X2_obey (show decode (mB 180) 70 = .ok (.iload 4, 2) by decide +kernel) rfl rfl
theorem X2_obey_72 : Ev X 180 72 [l0, l1, l2, l3, l4, some (.int x)] (st) w n 0 0 Q ↔ Ev X 180 74 [l0, l1, l2, l3, l4, some (.int x)] (.int x :: st) w n 0 0 Q := E_p ok_X2_obey (show decode (mB 180) 72 = .ok (.iload 5, 2) by decide +kernel) rfl rfl
theorem X2_obey_74 : Ev X 180 74 [l0, l1, some (.ref a), l3, l4, l5] (st) w n 0 0 Q ↔ Ev X 180 75 [l0, l1, some (.ref a), l3, l4, l5] (.ref a :: st) w n 0 0 Q := E_p ok_X2_obey (show decode (mB 180) 74 = .ok (.aload_n 2, 1) by decide +kernel) rfl rfl
theorem X2_obey_75 (h : hasc w a 2 = true) : Ev X 180 75 [l0, l1, l2, l3, l4, l5] (.ref b3 :: .int y2 :: .int y1 :: .int y0 :: .ref a :: []) w n 0 0 Q ↔ Ev X 14 0 [some (.ref a), some (.int y0), some (.int y1), some (.int y2), some (.ref b3)] [] w n 0 0 (Kr X 180 78 [l0, l1, l2, l3, l4, l5] ([]) 0 0 Q) := E_cv ok_X2_obey (show decode (mB 180) 75 = .ok (.invokevirtual 53, 3) by decide +kernel) (by decide +kernel) (by decide +kernel) (by decide +kernel) (k := 4) (vs := [.int y0, .int y1, .int y2, .ref b3]) rfl ((rc_Table (M2 := 14) (by decide +kernel) (by decide +kernel)).trans h) (by simp only [List.length_cons, List.length_nil]; decide) (by simp only [List.length_cons, List.length_nil]; decide +kernel) (ent_eq (k := 0) (by simp only [List.length_cons, List.length_nil]; decide +kernel)) (by decide +kernel) (by decide +kernel)
theorem X2_obey_78 : Ev X 180 78 [l0, l1, l2, l3, l4, l5] ([.int x]) w n 0 0 Q ↔ Q (.inl (some (.int x))) w n := E_reti ok_X2_obey (show decode (mB 180) 78 = .ok (.ireturn, 1) by decide +kernel) (by decide +kernel)
theorem X2_obey_79 : Ev X 180 79 [some (.ref a), l1, l2, l3, l4, l5] (st) w n 0 0 Q ↔ Ev X 180 80 [some (.ref a), l1, l2, l3, l4, l5] (.ref a :: st) w n 0 0 Q := E_p ok_X2_obey (show decode (mB 180) 79 = .ok (.aload_n 0, 1) by decide +kernel) rfl rfl
theorem X2_obey_80 : Ev X 180 80 [l0, l1, some (.ref a), l3, l4, l5] (st) w n 0 0 Q ↔ Ev X 180 81 [l0, l1, some (.ref a), l3, l4, l5] (.ref a :: st) w n 0 0 Q := E_p ok_X2_obey (show decode (mB 180) 80 = .ok (.aload_n 2, 1) by decide +kernel) rfl rfl
theorem X2_obey_81 (h : hasc w a 2 = true) : Ev X 180 81 [l0, l1, l2, l3, l4, l5] (.ref b0 :: .ref a :: []) w n 0 0 Q ↔ Ev X 31 0 [some (.ref a), some (.ref b0)] [] w n 0 0 (Kr X 180 84 [l0, l1, l2, l3, l4, l5] ([]) 0 0 Q) := E_cv ok_X2_obey (show decode (mB 180) 81 = .ok (.invokevirtual 57, 3) by decide +kernel) (by decide +kernel) (by decide +kernel) (by decide +kernel) (k := 1) (vs := [.ref b0]) rfl ((rc_Table (M2 := 31) (by decide +kernel) (by decide +kernel)).trans h) (by simp only [List.length_cons, List.length_nil]; decide) (by simp only [List.length_cons, List.length_nil]; decide +kernel) (ent_eq (k := 0) (by simp only [List.length_cons, List.length_nil]; decide +kernel)) (by decide +kernel) (by decide +kernel)
theorem X2_obey_84 : Ev X 180 84 [l0, l1, l2, l3, l4, l5] ([.int x]) w n 0 0 Q ↔ Q (.inl (some (.int x))) w n := E_reti ok_X2_obey (show decode (mB 180) 84 = .ok (.ireturn, 1) by decide +kernel) (by decide +kernel)
theorem X2_obey_85 : Ev X 180 85 [some (.ref a), l1, l2, l3, l4, l5] (st) w n 0 0 Q ↔ Ev X 180 86 [some (.ref a), l1, l2, l3, l4, l5] (.ref a :: st) w n 0 0 Q := E_p ok_X2_obey (show decode (mB 180) 85 = .ok (.aload_n 0, 1) by decide +kernel) rfl rfl
theorem X2_obey_86 : Ev X 180 86 [l0, l1, l2, some (.int x), l4, l5] (st) w n 0 0 Q ↔ Ev X 180 87 [l0, l1, l2, some (.int x), l4, l5] (.int x :: st) w n 0 0 Q := E_p ok_X2_obey (show decode (mB 180) 86 = .ok (.iload_n 3, 1) by decide +kernel) rfl rfl
theorem X2_obey_87 : Ev X 180 87 [l0, l1, l2, l3, some (.int x), l5] (st) w n 0 0 Q ↔ Ev X 180 89 [l0, l1, l2, l3, some (.int x), l5] (.int x :: st) w n 0 0 Q := E_p ok_X2_obey (show decode (mB 180) 87 = .ok (.iload 4, 2) by decide +kernel) rfl rfl
theorem X2_obey_89 : Ev X 180 89 [l0, l1, some (.ref a), l3, l4, l5] (st) w n 0 0 Q ↔ Ev X 180 90 [l0, l1, some (.ref a), l3, l4, l5] (.ref a :: st) w n 0 0 Q := E_p ok_X2_obey (show decode (mB 180) 89 = .ok (.aload_n 2, 1) by decide +kernel) rfl rfl
theorem X2_obey_90 (h : hasc w a 2 = true) : Ev X 180 90 [l0, l1, l2, l3, l4, l5] (.ref b2 :: .int y1 :: .int y0 :: .ref a :: []) w n 0 0 Q ↔ Ev X 38 0 [some (.ref a), some (.int y0), some (.int y1), some (.ref b2)] [] w n 0 0 (Kr X 180 93 [l0, l1, l2, l3, l4, l5] ([]) 0 0 Q) := E_cv ok_X2_obey (show decode (mB 180) 90 = .ok (.invokevirtual 61, 3) by decide +kernel) (by decide +kernel) (by decide +kernel) (by decide +kernel) (k := 3) (vs := [.int y0, .int y1, .ref b2]) rfl ((rc_Table (M2 := 38) (by decide +kernel) (by decide +kernel)).trans h) (by simp only [List.length_cons, List.length_nil]; decide) (by simp only [List.length_cons, List.length_nil]; decide +kernel) (ent_eq (k := 0) (by simp only [List.length_cons, List.length_nil]; decide +kernel)) (by decide +kernel) (by decide +kernel)
theorem X2_obey_93 : Ev X 180 93 [l0, l1, l2, l3, l4, l5] ([.int x]) w n 0 0 Q ↔ Q (.inl (some (.int x))) w n := E_reti ok_X2_obey (show decode (mB 180) 93 = .ok (.ireturn, 1) by decide +kernel) (by decide +kernel)
theorem X2_obey_94 : Ev X 180 94 [some (.ref a), l1, l2, l3, l4, l5] (st) w n 0 0 Q ↔ Ev X 180 95 [some (.ref a), l1, l2, l3, l4, l5] (.ref a :: st) w n 0 0 Q := E_p ok_X2_obey (show decode (mB 180) 94 = .ok (.aload_n 0, 1) by decide +kernel) rfl rfl
theorem X2_obey_95 : Ev X 180 95 [l0, l1, l2, some (.int x), l4, l5] (st) w n 0 0 Q ↔ Ev X 180 96 [l0, l1, l2, some (.int x), l4, l5] (.int x :: st) w n 0 0 Q := E_p ok_X2_obey (show decode (mB 180) 95 = .ok (.iload_n 3, 1) by decide +kernel) rfl rfl
theorem X2_obey_96 : Ev X 180 96 [l0, l1, l2, l3, some (.int x), l5] (st) w n 0 0 Q ↔ Ev X 180 98 [l0, l1, l2, l3, some (.int x), l5] (.int x :: st) w n 0 0 Q := E_p ok_X2_obey (show decode (mB 180) 96 = .ok (.iload 4, 2) by decide +kernel) rfl rfl
theorem X2_obey_98 : Ev X 180 98 [l0, l1, l2, l3, l4, some (.int x)] (st) w n 0 0 Q ↔ Ev X 180 100 [l0, l1, l2, l3, l4, some (.int x)] (.int x :: st) w n 0 0 Q := E_p ok_X2_obey (show decode (mB 180) 98 = .ok (.iload 5, 2) by decide +kernel) rfl rfl
theorem X2_obey_100 : Ev X 180 100 [l0, l1, some (.ref a), l3, l4, l5] (st) w n 0 0 Q ↔ Ev X 180 101 [l0, l1, some (.ref a), l3, l4, l5] (.ref a :: st) w n 0 0 Q := E_p ok_X2_obey (show decode (mB 180) 100 = .ok (.aload_n 2, 1) by decide +kernel) rfl rfl
theorem X2_obey_101 (h : hasc w a 2 = true) : Ev X 180 101 [l0, l1, l2, l3, l4, l5] (.ref b3 :: .int y2 :: .int y1 :: .int y0 :: .ref a :: []) w n 0 0 Q ↔ Ev X 46 0 [some (.ref a), some (.int y0), some (.int y1), some (.int y2), some (.ref b3), none] [] w n 0 0 (Kr X 180 104 [l0, l1, l2, l3, l4, l5] ([]) 0 0 Q) := E_cv ok_X2_obey (show decode (mB 180) 101 = .ok (.invokevirtual 65, 3) by decide +kernel) (by decide +kernel) (by decide +kernel) (by decide +kernel) (k := 4) (vs := [.int y0, .int y1, .int y2, .ref b3]) rfl ((rc_Table (M2 := 46) (by decide +kernel) (by decide +kernel)).trans h) (by simp only [List.length_cons, List.length_nil]; decide) (by simp only [List.length_cons, List.length_nil]; decide +kernel) (ent_eq (k := 1) (by simp only [List.length_cons, List.length_nil]; decide +kernel)) (by decide +kernel) (by decide +kernel)
theorem X2_obey_104 : Ev X 180 104 [l0, l1, l2, l3, l4, l5] ([.int x]) w n 0 0 Q ↔ Q (.inl (some (.int x))) w n := E_reti ok_X2_obey (show decode (mB 180) 104 = .ok (.ireturn, 1) by decide +kernel) (by decide +kernel)
theorem X2_obey_105 : Ev X 180 105 [some (.ref a), l1, l2, l3, l4, l5] (st) w n 0 0 Q ↔ Ev X 180 106 [some (.ref a), l1, l2, l3, l4, l5] (.ref a :: st) w n 0 0 Q := E_p ok_X2_obey (show decode (mB 180) 105 = .ok (.aload_n 0, 1) by decide +kernel) rfl rfl
theorem X2_obey_106 : Ev X 180 106 [l0, l1, l2, some (.int x), l4, l5] (st) w n 0 0 Q ↔ Ev X 180 107 [l0, l1, l2, some (.int x), l4, l5] (.int x :: st) w n 0 0 Q := E_p ok_X2_obey (show decode (mB 180) 106 = .ok (.iload_n 3, 1) by decide +kernel) rfl rfl
theorem X2_obey_107 : Ev X 180 107 [l0, l1, some (.ref a), l3, l4, l5] (st) w n 0 0 Q ↔ Ev X 180 108 [l0, l1, some (.ref a), l3, l4, l5] (.ref a :: st) w n 0 0 Q := E_p ok_X2_obey (show decode (mB 180) 107 = .ok (.aload_n 2, 1) by decide +kernel) rfl rfl
theorem X2_obey_108 (h : hasc w a 2 = true) : Ev X 180 108 [l0, l1, l2, l3, l4, l5] (.ref b1 :: .int y0 :: .ref a :: []) w n 0 0 Q ↔ Ev X 51 0 [some (.ref a), some (.int y0), some (.ref b1), none] [] w n 0 0 (Kr X 180 111 [l0, l1, l2, l3, l4, l5] ([]) 0 0 Q) := E_cv ok_X2_obey (show decode (mB 180) 108 = .ok (.invokevirtual 68, 3) by decide +kernel) (by decide +kernel) (by decide +kernel) (by decide +kernel) (k := 2) (vs := [.int y0, .ref b1]) rfl ((rc_Table (M2 := 51) (by decide +kernel) (by decide +kernel)).trans h) (by simp only [List.length_cons, List.length_nil]; decide) (by simp only [List.length_cons, List.length_nil]; decide +kernel) (ent_eq (k := 1) (by simp only [List.length_cons, List.length_nil]; decide +kernel)) (by decide +kernel) (by decide +kernel)
theorem X2_obey_111 : Ev X 180 111 [l0, l1, l2, l3, l4, l5] ([.int x]) w n 0 0 Q ↔ Q (.inl (some (.int x))) w n := E_reti ok_X2_obey (show decode (mB 180) 111 = .ok (.ireturn, 1) by decide +kernel) (by decide +kernel)
theorem X2_obey_112 : Ev X 180 112 [some (.ref a), l1, l2, l3, l4, l5] (st) w n 0 0 Q ↔ Ev X 180 113 [some (.ref a), l1, l2, l3, l4, l5] (.ref a :: st) w n 0 0 Q := E_p ok_X2_obey (show decode (mB 180) 112 = .ok (.aload_n 0, 1) by decide +kernel) rfl rfl
theorem X2_obey_113 : Ev X 180 113 [l0, l1, l2, some (.int x), l4, l5] (st) w n 0 0 Q ↔ Ev X 180 114 [l0, l1, l2, some (.int x), l4, l5] (.int x :: st) w n 0 0 Q := E_p ok_X2_obey (show decode (mB 180) 113 = .ok (.iload_n 3, 1) by decide +kernel) rfl rfl
theorem X2_obey_114 : Ev X 180 114 [l0, l1, some (.ref a), l3, l4, l5] (st) w n 0 0 Q ↔ Ev X 180 115 [l0, l1, some (.ref a), l3, l4, l5] (.ref a :: st) w n 0 0 Q := E_p ok_X2_obey (show decode (mB 180) 114 = .ok (.aload_n 2, 1) by decide +kernel) rfl rfl
theorem X2_obey_115 (h : hasc w a 2 = true) : Ev X 180 115 [l0, l1, l2, l3, l4, l5] (.ref b1 :: .int y0 :: .ref a :: []) w n 0 0 Q ↔ Ev X 56 0 [some (.ref a), some (.int y0), some (.ref b1)] [] w n 0 0 (Kr X 180 118 [l0, l1, l2, l3, l4, l5] ([]) 0 0 Q) := E_cv ok_X2_obey (show decode (mB 180) 115 = .ok (.invokevirtual 72, 3) by decide +kernel) (by decide +kernel) (by decide +kernel) (by decide +kernel) (k := 2) (vs := [.int y0, .ref b1]) rfl ((rc_Table (M2 := 56) (by decide +kernel) (by decide +kernel)).trans h) (by simp only [List.length_cons, List.length_nil]; decide) (by simp only [List.length_cons, List.length_nil]; decide +kernel) (ent_eq (k := 0) (by simp only [List.length_cons, List.length_nil]; decide +kernel)) (by decide +kernel) (by decide +kernel)
theorem X2_obey_118 : Ev X 180 118 [l0, l1, l2, l3, l4, l5] ([.int x]) w n 0 0 Q ↔ Q (.inl (some (.int x))) w n := E_reti ok_X2_obey (show decode (mB 180) 118 = .ok (.ireturn, 1) by decide +kernel) (by decide +kernel)
theorem X2_obey_119 : Ev X 180 119 [some (.ref a), l1, l2, l3, l4, l5] (st) w n 0 0 Q ↔ Ev X 180 120 [some (.ref a), l1, l2, l3, l4, l5] (.ref a :: st) w n 0 0 Q := E_p ok_X2_obey (show decode (mB 180) 119 = .ok (.aload_n 0, 1) by decide +kernel) rfl rfl
theorem X2_obey_120 : Ev X 180 120 [l0, l1, l2, some (.int x), l4, l5] (st) w n 0 0 Q ↔ Ev X 180 121 [l0, l1, l2, some (.int x), l4, l5] (.int x :: st) w n 0 0 Q := E_p ok_X2_obey (show decode (mB 180) 120 = .ok (.iload_n 3, 1) by decide +kernel) rfl rfl
theorem X2_obey_121 : Ev X 180 121 [l0, l1, some (.ref a), l3, l4, l5] (st) w n 0 0 Q ↔ Ev X 180 122 [l0, l1, some (.ref a), l3, l4, l5] (.ref a :: st) w n 0 0 Q := E_p ok_X2_obey (show decode (mB 180) 121 = .ok (.aload_n 2, 1) by decide +kernel) rfl rfl
theorem X2_obey_122 (h : hasc w a 2 = true) : Ev X 180 122 [l0, l1, l2, l3, l4, l5] (.ref b1 :: .int y0 :: .ref a :: []) w n 0 0 Q ↔ Ev X 62 0 [some (.ref a), some (.int y0), some (.ref b1), none, none] [] w n 0 0 (Kr X 180 125 [l0, l1, l2, l3, l4, l5] ([]) 0 0 Q) := E_cv ok_X2_obey (show decode (mB 180) 122 = .ok (.invokevirtual 75, 3) by decide +kernel) (by decide +kernel) (by decide +kernel) (by decide +kernel) (k := 2) (vs := [.int y0, .ref b1]) rfl ((rc_Table (M2 := 62) (by decide +kernel) (by decide +kernel)).trans h) (by simp only [List.length_cons, List.length_nil]; decide) (by simp only [List.length_cons, List.length_nil]; decide +kernel) (ent_eq (k := 2) (by simp only [List.length_cons, List.length_nil]; decide +kernel)) (by decide +kernel) (by decide +kernel)
theorem X2_obey_125 : Ev X 180 125 [l0, l1, l2, l3, l4, l5] ([.int x]) w n 0 0 Q ↔ Q (.inl (some (.int x))) w n := E_reti ok_X2_obey (show decode (mB 180) 125 = .ok (.ireturn, 1) by decide +kernel) (by decide +kernel)
theorem X2_obey_126 : Ev X 180 126 [some (.ref a), l1, l2, l3, l4, l5] (st) w n 0 0 Q ↔ Ev X 180 127 [some (.ref a), l1, l2, l3, l4, l5] (.ref a :: st) w n 0 0 Q := E_p ok_X2_obey (show decode (mB 180) 126 = .ok (.aload_n 0, 1) by decide +kernel) rfl rfl
theorem X2_obey_127 : Ev X 180 127 [l0, l1, l2, some (.int x), l4, l5] (st) w n 0 0 Q ↔ Ev X 180 128 [l0, l1, l2, some (.int x), l4, l5] (.int x :: st) w n 0 0 Q := E_p ok_X2_obey (show decode (mB 180) 127 = .ok (.iload_n 3, 1) by decide +kernel) rfl rfl
theorem X2_obey_128 : Ev X 180 128 [l0, l1, some (.ref a), l3, l4, l5] (st) w n 0 0 Q ↔ Ev X 180 129 [l0, l1, some (.ref a), l3, l4, l5] (.ref a :: st) w n 0 0 Q := E_p ok_X2_obey (show decode (mB 180) 128 = .ok (.aload_n 2, 1) by decide +kernel) rfl rfl
theorem X2_obey_129 (h : hasc w a 2 = true) : Ev X 180 129 [l0, l1, l2, l3, l4, l5] (.ref b1 :: .int y0 :: .ref a :: []) w n 0 0 Q ↔ Ev X 84 0 [some (.ref a), some (.int y0), some (.ref b1), none, none] [] w n 0 0 (Kr X 180 132 [l0, l1, l2, l3, l4, l5] ([]) 0 0 Q) := E_cv ok_X2_obey (show decode (mB 180) 129 = .ok (.invokevirtual 78, 3) by decide +kernel) (by decide +kernel) (by decide +kernel) (by decide +kernel) (k := 2) (vs := [.int y0, .ref b1]) rfl ((rc_Table (M2 := 84) (by decide +kernel) (by decide +kernel)).trans h) (by simp only [List.length_cons, List.length_nil]; decide) (by simp only [List.length_cons, List.length_nil]; decide +kernel) (ent_eq (k := 2) (by simp only [List.length_cons, List.length_nil]; decide +kernel)) (by decide +kernel) (by decide +kernel)
theorem X2_obey_132 : Ev X 180 132 [l0, l1, l2, l3, l4, l5] ([.int x]) w n 0 0 Q ↔ Q (.inl (some (.int x))) w n := E_reti ok_X2_obey (show decode (mB 180) 132 = .ok (.ireturn, 1) by decide +kernel) (by decide +kernel)
theorem ok_X2_waitsOfAll : okP 202 = true := by decide +kernel
theorem X2_waitsOfAll_0 : Ev X 202 0 [l0, l1, l2] (st) w n 0 0 Q ↔ Ev X 202 1 [l0, l1, l2] (.int (0) :: st) w n 0 0 Q := E_iconst ok_X2_waitsOfAll (show decode (mB 202) 0 = .ok (.iconst 0, 1) by decide +kernel) (by decide)
theorem X2_waitsOfAll_1 : Ev X 202 1 [l0, l1, l2] (.int x :: st) w n 0 0 Q ↔ Ev X 202 2 [l0, some (.int x), l2] (st) w n 0 0 Q := E_p ok_X2_waitsOfAll (show decode (mB 202) 1 = .ok (.istore_n 1, 1) by decide +kernel) rfl rfl
theorem X2_waitsOfAll_2 : Ev X 202 2 [l0, l1, l2] (st) w n 0 0 Q ↔ Ev X 202 3 [l0, l1, l2] (.int (0) :: st) w n 0 0 Q := E_iconst ok_X2_waitsOfAll (show decode (mB 202) 2 = .ok (.iconst 0, 1) by decide +kernel) (by decide)
theorem X2_waitsOfAll_3 : Ev X 202 3 [l0, l1, l2] (.int x :: st) w n 0 0 Q ↔ Ev X 202 4 [l0, l1, some (.int x)] (st) w n 0 0 Q := E_p ok_X2_waitsOfAll (show decode (mB 202) 3 = .ok (.istore_n 2, 1) by decide +kernel) rfl rfl
theorem X2_waitsOfAll_4 : Ev X 202 4 [l0, l1, some (.int x)] (st) w n 0 0 Q ↔ Ev X 202 5 [l0, l1, some (.int x)] (.int x :: st) w n 0 0 Q := E_p ok_X2_waitsOfAll (show decode (mB 202) 4 = .ok (.iload_n 2, 1) by decide +kernel) rfl rfl
theorem X2_waitsOfAll_5 : Ev X 202 5 [some (.ref a), l1, l2] (st) w n 0 0 Q ↔ Ev X 202 6 [some (.ref a), l1, l2] (.ref a :: st) w n 0 0 Q := E_p ok_X2_waitsOfAll (show decode (mB 202) 5 = .ok (.aload_n 0, 1) by decide +kernel) rfl rfl
theorem X2_waitsOfAll_6 : Ev X 202 6 [l0, l1, l2] (.ref a :: st) w n 0 0 Q ↔ ∃ v, gf w a 2 2 = some v ∧ Ev X 202 9 [l0, l1, l2] (v :: st) w n 0 0 Q := E_getf ok_X2_waitsOfAll (by decide +kernel) (show decode (mB 202) 6 = .ok (.getfield 33, 3) by decide +kernel) (by decide +kernel)
theorem X2_waitsOfAll_9 : Ev X 202 9 [l0, l1, l2] (.int y :: .int x :: st) w n 0 0 Q ↔ if x < y then Ev X 202 12 [l0, l1, l2] (st) w n 0 0 Q else Ev X 202 30 [l0, l1, l2] (st) w n 0 0 Q := E_icge ok_X2_waitsOfAll (show decode (mB 202) 9 = .ok (.if_icmp .ge 21, 3) by decide +kernel) rfl
theorem X2_waitsOfAll_12 : Ev X 202 12 [l0, some (.int x), l2] (st) w n 0 0 Q ↔ Ev X 202 13 [l0, some (.int x), l2] (.int x :: st) w n 0 0 Q := E_p ok_X2_waitsOfAll (show decode (mB 202) 12 = .ok (.iload_n 1, 1) by decide +kernel) rfl rfl
theorem X2_waitsOfAll_13 : Ev X 202 13 [some (.ref a), l1, l2] (st) w n 0 0 Q ↔ Ev X 202 14 [some (.ref a), l1, l2] (.ref a :: st) w n 0 0 Q := E_p ok_X2_waitsOfAll (show decode (mB 202) 13 = .ok (.aload_n 0, 1) by decide +kernel) rfl rfl
theorem X2_waitsOfAll_14 : Ev X 202 14 [l0, l1, l2] (.ref a :: st) w n 0 0 Q ↔ ∃ v, gf w a 2 0 = some v ∧ Ev X 202 17 [l0, l1, l2] (v :: st) w n 0 0 Q := E_getf ok_X2_waitsOfAll (by decide +kernel) (show decode (mB 202) 14 = .ok (.getfield 11, 3) by decide +kernel) (by decide +kernel)
theorem X2_waitsOfAll_17 : Ev X 202 17 [l0, l1, some (.int x)] (st) w n 0 0 Q ↔ Ev X 202 18 [l0, l1, some (.int x)] (.int x :: st) w n 0 0 Q := E_p ok_X2_waitsOfAll (show decode (mB 202) 17 = .ok (.iload_n 2, 1) by decide +kernel) rfl rfl
theorem X2_waitsOfAll_18 : Ev X 202 18 [l0, l1, l2] (.int x :: .ref a :: st) w n 0 0 Q ↔ ∃ v, (ga w a 4 x).or (ga w a 5 x) = some v ∧ Ev X 202 19 [l0, l1, l2] (v :: st) w n 0 0 Q := E_aald ok_X2_waitsOfAll (show decode (mB 202) 18 = .ok (.aaload, 1) by decide +kernel)
theorem X2_waitsOfAll_19 : Ev X 202 19 [l0, l1, l2] (.ref a :: st) w n 0 0 Q ↔ ∃ v, gf w a 1 6 = some v ∧ Ev X 202 22 [l0, l1, l2] (v :: st) w n 0 0 Q := E_getf ok_X2_waitsOfAll (by decide +kernel) (show decode (mB 202) 19 = .ok (.getfield 198, 3) by decide +kernel) (by decide +kernel)
theorem X2_waitsOfAll_22 : Ev X 202 22 [l0, l1, l2] (.int y :: .int x :: st) w n 0 0 Q ↔ Ev X 202 23 [l0, l1, l2] (.int (x + y) :: st) w n 0 0 Q := E_p ok_X2_waitsOfAll (show decode (mB 202) 22 = .ok (.iadd, 1) by decide +kernel) rfl rfl
theorem X2_waitsOfAll_23 : Ev X 202 23 [l0, l1, l2] (.int x :: st) w n 0 0 Q ↔ Ev X 202 24 [l0, some (.int x), l2] (st) w n 0 0 Q := E_p ok_X2_waitsOfAll (show decode (mB 202) 23 = .ok (.istore_n 1, 1) by decide +kernel) rfl rfl
theorem X2_waitsOfAll_24 : Ev X 202 24 [l0, l1, some (.int x)] (st) w n 0 0 Q ↔ Ev X 202 27 [l0, l1, some (.int (x + (1)))] (st) w n 0 0 Q := E_iinc ok_X2_waitsOfAll (show decode (mB 202) 24 = .ok (.iinc 2 1, 3) by decide +kernel) rfl (by simp only [List.length_cons, List.length_nil]; decide) (by decide) rfl
theorem X2_waitsOfAll_27 : Ev X 202 27 [l0, l1, l2] (st) w n 0 0 Q ↔ Ev X 202 4 [l0, l1, l2] (st) w n 0 0 Q := E_goto ok_X2_waitsOfAll (show decode (mB 202) 27 = .ok (.goto (-23), 3) by decide +kernel) rfl
theorem X2_waitsOfAll_30 : Ev X 202 30 [l0, some (.int x), l2] (st) w n 0 0 Q ↔ Ev X 202 31 [l0, some (.int x), l2] (.int x :: st) w n 0 0 Q := E_p ok_X2_waitsOfAll (show decode (mB 202) 30 = .ok (.iload_n 1, 1) by decide +kernel) rfl rfl
theorem X2_waitsOfAll_31 : Ev X 202 31 [l0, l1, l2] ([.int x]) w n 0 0 Q ↔ Q (.inl (some (.int x))) w n := E_reti ok_X2_waitsOfAll (show decode (mB 202) 31 = .ok (.ireturn, 1) by decide +kernel) (by decide +kernel)
theorem ok_X2_mostMeals : okP 207 = true := by decide +kernel
theorem X2_mostMeals_0 : Ev X 207 0 [l0, l1, l2] (st) w n 0 0 Q ↔ Ev X 207 1 [l0, l1, l2] (.int (0) :: st) w n 0 0 Q := E_iconst ok_X2_mostMeals (show decode (mB 207) 0 = .ok (.iconst 0, 1) by decide +kernel) (by decide)
theorem X2_mostMeals_1 : Ev X 207 1 [l0, l1, l2] (.int x :: st) w n 0 0 Q ↔ Ev X 207 2 [l0, some (.int x), l2] (st) w n 0 0 Q := E_p ok_X2_mostMeals (show decode (mB 207) 1 = .ok (.istore_n 1, 1) by decide +kernel) rfl rfl
theorem X2_mostMeals_2 : Ev X 207 2 [l0, l1, l2] (st) w n 0 0 Q ↔ Ev X 207 3 [l0, l1, l2] (.int (0) :: st) w n 0 0 Q := E_iconst ok_X2_mostMeals (show decode (mB 207) 2 = .ok (.iconst 0, 1) by decide +kernel) (by decide)
theorem X2_mostMeals_3 : Ev X 207 3 [l0, l1, l2] (.int x :: st) w n 0 0 Q ↔ Ev X 207 4 [l0, l1, some (.int x)] (st) w n 0 0 Q := E_p ok_X2_mostMeals (show decode (mB 207) 3 = .ok (.istore_n 2, 1) by decide +kernel) rfl rfl
theorem X2_mostMeals_4 : Ev X 207 4 [l0, l1, some (.int x)] (st) w n 0 0 Q ↔ Ev X 207 5 [l0, l1, some (.int x)] (.int x :: st) w n 0 0 Q := E_p ok_X2_mostMeals (show decode (mB 207) 4 = .ok (.iload_n 2, 1) by decide +kernel) rfl rfl
theorem X2_mostMeals_5 : Ev X 207 5 [some (.ref a), l1, l2] (st) w n 0 0 Q ↔ Ev X 207 6 [some (.ref a), l1, l2] (.ref a :: st) w n 0 0 Q := E_p ok_X2_mostMeals (show decode (mB 207) 5 = .ok (.aload_n 0, 1) by decide +kernel) rfl rfl
theorem X2_mostMeals_6 : Ev X 207 6 [l0, l1, l2] (.ref a :: st) w n 0 0 Q ↔ ∃ v, gf w a 2 2 = some v ∧ Ev X 207 9 [l0, l1, l2] (v :: st) w n 0 0 Q := E_getf ok_X2_mostMeals (by decide +kernel) (show decode (mB 207) 6 = .ok (.getfield 33, 3) by decide +kernel) (by decide +kernel)
theorem X2_mostMeals_9 : Ev X 207 9 [l0, l1, l2] (.int y :: .int x :: st) w n 0 0 Q ↔ if x < y then Ev X 207 12 [l0, l1, l2] (st) w n 0 0 Q else Ev X 207 32 [l0, l1, l2] (st) w n 0 0 Q := E_icge ok_X2_mostMeals (show decode (mB 207) 9 = .ok (.if_icmp .ge 23, 3) by decide +kernel) rfl
theorem X2_mostMeals_12 : Ev X 207 12 [l0, some (.int x), l2] (st) w n 0 0 Q ↔ Ev X 207 13 [l0, some (.int x), l2] (.int x :: st) w n 0 0 Q := E_p ok_X2_mostMeals (show decode (mB 207) 12 = .ok (.iload_n 1, 1) by decide +kernel) rfl rfl
theorem X2_mostMeals_13 : Ev X 207 13 [some (.ref a), l1, l2] (st) w n 0 0 Q ↔ Ev X 207 14 [some (.ref a), l1, l2] (.ref a :: st) w n 0 0 Q := E_p ok_X2_mostMeals (show decode (mB 207) 13 = .ok (.aload_n 0, 1) by decide +kernel) rfl rfl
theorem X2_mostMeals_14 : Ev X 207 14 [l0, l1, l2] (.ref a :: st) w n 0 0 Q ↔ ∃ v, gf w a 2 0 = some v ∧ Ev X 207 17 [l0, l1, l2] (v :: st) w n 0 0 Q := E_getf ok_X2_mostMeals (by decide +kernel) (show decode (mB 207) 14 = .ok (.getfield 11, 3) by decide +kernel) (by decide +kernel)
theorem X2_mostMeals_17 : Ev X 207 17 [l0, l1, some (.int x)] (st) w n 0 0 Q ↔ Ev X 207 18 [l0, l1, some (.int x)] (.int x :: st) w n 0 0 Q := E_p ok_X2_mostMeals (show decode (mB 207) 17 = .ok (.iload_n 2, 1) by decide +kernel) rfl rfl
theorem X2_mostMeals_18 : Ev X 207 18 [l0, l1, l2] (.int x :: .ref a :: st) w n 0 0 Q ↔ ∃ v, (ga w a 4 x).or (ga w a 5 x) = some v ∧ Ev X 207 19 [l0, l1, l2] (v :: st) w n 0 0 Q := E_aald ok_X2_mostMeals (show decode (mB 207) 18 = .ok (.aaload, 1) by decide +kernel)
theorem X2_mostMeals_19 : Ev X 207 19 [l0, l1, l2] (.ref a :: st) w n 0 0 Q ↔ ∃ v, gf w a 1 5 = some v ∧ Ev X 207 22 [l0, l1, l2] (v :: st) w n 0 0 Q := E_getf ok_X2_mostMeals (by decide +kernel) (show decode (mB 207) 19 = .ok (.getfield 147, 3) by decide +kernel) (by decide +kernel)
theorem X2_mostMeals_22 : Ev X 207 22 [l0, l1, l2] (.int y :: .int x :: []) w n 0 0 Q ↔ Ev X 207 25 [l0, l1, l2] (.int (imx x y) :: []) w n 0 0 Q := E_mx ok_X2_mostMeals (show decode (mB 207) 22 = .ok (.invokestatic 195, 3) by decide +kernel) (by decide +kernel) (by simp only [List.length_cons, List.length_nil]; decide +kernel)
theorem X2_mostMeals_25 : Ev X 207 25 [l0, l1, l2] (.int x :: st) w n 0 0 Q ↔ Ev X 207 26 [l0, some (.int x), l2] (st) w n 0 0 Q := E_p ok_X2_mostMeals (show decode (mB 207) 25 = .ok (.istore_n 1, 1) by decide +kernel) rfl rfl
theorem X2_mostMeals_26 : Ev X 207 26 [l0, l1, some (.int x)] (st) w n 0 0 Q ↔ Ev X 207 29 [l0, l1, some (.int (x + (1)))] (st) w n 0 0 Q := E_iinc ok_X2_mostMeals (show decode (mB 207) 26 = .ok (.iinc 2 1, 3) by decide +kernel) rfl (by simp only [List.length_cons, List.length_nil]; decide) (by decide) rfl
theorem X2_mostMeals_29 : Ev X 207 29 [l0, l1, l2] (st) w n 0 0 Q ↔ Ev X 207 4 [l0, l1, l2] (st) w n 0 0 Q := E_goto ok_X2_mostMeals (show decode (mB 207) 29 = .ok (.goto (-25), 3) by decide +kernel) rfl
theorem X2_mostMeals_32 : Ev X 207 32 [l0, some (.int x), l2] (st) w n 0 0 Q ↔ Ev X 207 33 [l0, some (.int x), l2] (.int x :: st) w n 0 0 Q := E_p ok_X2_mostMeals (show decode (mB 207) 32 = .ok (.iload_n 1, 1) by decide +kernel) rfl rfl
theorem X2_mostMeals_33 : Ev X 207 33 [l0, l1, l2] ([.int x]) w n 0 0 Q ↔ Q (.inl (some (.int x))) w n := E_reti ok_X2_mostMeals (show decode (mB 207) 33 = .ok (.ireturn, 1) by decide +kernel) (by decide +kernel)
theorem ok_X2_askers : okP 211 = true := by decide +kernel
theorem X2_askers_0 : Ev X 211 0 [l0, l1, l2] (st) w n 0 0 Q ↔ Ev X 211 1 [l0, l1, l2] (.int (0) :: st) w n 0 0 Q := E_iconst ok_X2_askers (show decode (mB 211) 0 = .ok (.iconst 0, 1) by decide +kernel) (by decide)
theorem X2_askers_1 : Ev X 211 1 [l0, l1, l2] (.int x :: st) w n 0 0 Q ↔ Ev X 211 2 [l0, some (.int x), l2] (st) w n 0 0 Q := E_p ok_X2_askers (show decode (mB 211) 1 = .ok (.istore_n 1, 1) by decide +kernel) rfl rfl
theorem X2_askers_2 : Ev X 211 2 [l0, l1, l2] (st) w n 0 0 Q ↔ Ev X 211 3 [l0, l1, l2] (.int (0) :: st) w n 0 0 Q := E_iconst ok_X2_askers (show decode (mB 211) 2 = .ok (.iconst 0, 1) by decide +kernel) (by decide)
theorem X2_askers_3 : Ev X 211 3 [l0, l1, l2] (.int x :: st) w n 0 0 Q ↔ Ev X 211 4 [l0, l1, some (.int x)] (st) w n 0 0 Q := E_p ok_X2_askers (show decode (mB 211) 3 = .ok (.istore_n 2, 1) by decide +kernel) rfl rfl
theorem X2_askers_4 : Ev X 211 4 [l0, l1, some (.int x)] (st) w n 0 0 Q ↔ Ev X 211 5 [l0, l1, some (.int x)] (.int x :: st) w n 0 0 Q := E_p ok_X2_askers (show decode (mB 211) 4 = .ok (.iload_n 2, 1) by decide +kernel) rfl rfl
theorem X2_askers_5 : Ev X 211 5 [some (.ref a), l1, l2] (st) w n 0 0 Q ↔ Ev X 211 6 [some (.ref a), l1, l2] (.ref a :: st) w n 0 0 Q := E_p ok_X2_askers (show decode (mB 211) 5 = .ok (.aload_n 0, 1) by decide +kernel) rfl rfl
theorem X2_askers_6 : Ev X 211 6 [l0, l1, l2] (.ref a :: st) w n 0 0 Q ↔ ∃ v, gf w a 2 2 = some v ∧ Ev X 211 9 [l0, l1, l2] (v :: st) w n 0 0 Q := E_getf ok_X2_askers (by decide +kernel) (show decode (mB 211) 6 = .ok (.getfield 33, 3) by decide +kernel) (by decide +kernel)
theorem X2_askers_9 : Ev X 211 9 [l0, l1, l2] (.int y :: .int x :: st) w n 0 0 Q ↔ if x < y then Ev X 211 12 [l0, l1, l2] (st) w n 0 0 Q else Ev X 211 34 [l0, l1, l2] (st) w n 0 0 Q := E_icge ok_X2_askers (show decode (mB 211) 9 = .ok (.if_icmp .ge 25, 3) by decide +kernel) rfl
theorem X2_askers_12 : Ev X 211 12 [some (.ref a), l1, l2] (st) w n 0 0 Q ↔ Ev X 211 13 [some (.ref a), l1, l2] (.ref a :: st) w n 0 0 Q := E_p ok_X2_askers (show decode (mB 211) 12 = .ok (.aload_n 0, 1) by decide +kernel) rfl rfl
theorem X2_askers_13 : Ev X 211 13 [l0, l1, l2] (.ref a :: st) w n 0 0 Q ↔ ∃ v, gf w a 2 0 = some v ∧ Ev X 211 16 [l0, l1, l2] (v :: st) w n 0 0 Q := E_getf ok_X2_askers (by decide +kernel) (show decode (mB 211) 13 = .ok (.getfield 11, 3) by decide +kernel) (by decide +kernel)
theorem X2_askers_16 : Ev X 211 16 [l0, l1, some (.int x)] (st) w n 0 0 Q ↔ Ev X 211 17 [l0, l1, some (.int x)] (.int x :: st) w n 0 0 Q := E_p ok_X2_askers (show decode (mB 211) 16 = .ok (.iload_n 2, 1) by decide +kernel) rfl rfl
theorem X2_askers_17 : Ev X 211 17 [l0, l1, l2] (.int x :: .ref a :: st) w n 0 0 Q ↔ ∃ v, (ga w a 4 x).or (ga w a 5 x) = some v ∧ Ev X 211 18 [l0, l1, l2] (v :: st) w n 0 0 Q := E_aald ok_X2_askers (show decode (mB 211) 17 = .ok (.aaload, 1) by decide +kernel)
theorem X2_askers_18 : Ev X 211 18 [l0, l1, l2] (.ref a :: st) w n 0 0 Q ↔ ∃ v, gf w a 1 3 = some v ∧ Ev X 211 21 [l0, l1, l2] (v :: st) w n 0 0 Q := E_getf ok_X2_askers (by decide +kernel) (show decode (mB 211) 18 = .ok (.getfield 108, 3) by decide +kernel) (by decide +kernel)
theorem X2_askers_21 : Ev X 211 21 [l0, l1, l2] (st) w n 0 0 Q ↔ Ev X 211 22 [l0, l1, l2] (.int (1) :: st) w n 0 0 Q := E_iconst ok_X2_askers (show decode (mB 211) 21 = .ok (.iconst 1, 1) by decide +kernel) (by decide)
theorem X2_askers_22 : Ev X 211 22 [l0, l1, l2] (.int y :: .int x :: st) w n 0 0 Q ↔ if x = y then Ev X 211 25 [l0, l1, l2] (st) w n 0 0 Q else Ev X 211 28 [l0, l1, l2] (st) w n 0 0 Q := E_icne ok_X2_askers (show decode (mB 211) 22 = .ok (.if_icmp .ne 6, 3) by decide +kernel) rfl
theorem X2_askers_25 : Ev X 211 25 [l0, some (.int x), l2] (st) w n 0 0 Q ↔ Ev X 211 28 [l0, some (.int (x + (1))), l2] (st) w n 0 0 Q := E_iinc ok_X2_askers (show decode (mB 211) 25 = .ok (.iinc 1 1, 3) by decide +kernel) rfl (by simp only [List.length_cons, List.length_nil]; decide) (by decide) rfl
theorem X2_askers_28 : Ev X 211 28 [l0, l1, some (.int x)] (st) w n 0 0 Q ↔ Ev X 211 31 [l0, l1, some (.int (x + (1)))] (st) w n 0 0 Q := E_iinc ok_X2_askers (show decode (mB 211) 28 = .ok (.iinc 2 1, 3) by decide +kernel) rfl (by simp only [List.length_cons, List.length_nil]; decide) (by decide) rfl
theorem X2_askers_31 : Ev X 211 31 [l0, l1, l2] (st) w n 0 0 Q ↔ Ev X 211 4 [l0, l1, l2] (st) w n 0 0 Q := E_goto ok_X2_askers (show decode (mB 211) 31 = .ok (.goto (-27), 3) by decide +kernel) rfl
theorem X2_askers_34 : Ev X 211 34 [l0, some (.int x), l2] (st) w n 0 0 Q ↔ Ev X 211 35 [l0, some (.int x), l2] (.int x :: st) w n 0 0 Q := E_p ok_X2_askers (show decode (mB 211) 34 = .ok (.iload_n 1, 1) by decide +kernel) rfl rfl
theorem X2_askers_35 : Ev X 211 35 [l0, l1, l2] ([.int x]) w n 0 0 Q ↔ Q (.inl (some (.int x))) w n := E_reti ok_X2_askers (show decode (mB 211) 35 = .ok (.ireturn, 1) by decide +kernel) (by decide +kernel)
end RW
end
section
theorem zz_last : True := trivial
end
