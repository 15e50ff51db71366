/-! ===== the code words of the methods, by their places ===== -/
def BIG : List Nat := [28, 139, 171, 148]
def MCs : List (Nat × Nat) := [(41, 4), (49, 1), (56, 0), (138, 2), (166, 3), (220, 97), (224, 98), (227, 90), (230, 88), (233, 87), (237, 86), (241, 55), (245, 67), (249, 59), (252, 89), (256, 25), (260, 65), (264, 26), (271, 83), (275, 61), (279, 82), (283, 77), (287, 11), (291, 6), (295, 5), (298, 101), (301, 79), (306, 78), (310, 53), (313, 49), (316, 50), (320, 12), (324, 24), (328, 52), (332, 51), (336, 15), (412, 14), (415, 81), (419, 80), (423, 54), (426, 17), (430, 16), (434, 13), (437, 85), (441, 84), (445, 73), (450, 23), (454, 72), (458, 62), (463, 66), (467, 64), (471, 63), (476, 70), (480, 68), (484, 69), (488, 71), (494, 100), (523, 99), (557, 22), (562, 21), (581, 76), (586, 75), (590, 48), (594, 46), (599, 37), (603, 36), (607, 30), (613, 32), (617, 31), (620, 35), (623, 33), (630, 34), (682, 38), (693, 42), (696, 41), (699, 40), (702, 39), (713, 45), (717, 43), (721, 44), (725, 47), (746, 74), (752, 56), (756, 57), (760, 58), (765, 60), (771, 29), (783, 27), (787, 8), (791, 7), (795, 10), (799, 9), (803, 20), (806, 19), (810, 18), (815, 96), (819, 93), (823, 91), (827, 92), (833, 95), (837, 94), (842, 105), (845, 102), (848, 104), (852, 103), (860, 108), (878, 107), (885, 106), (899, 112), (903, 111), (907, 109), (913, 110), (928, 115), (932, 114), (937, 113), (940, 117), (944, 116), (948, 119), (952, 118), (956, 121), (960, 120), (965, 126), (969, 125), (973, 124), (977, 123), (981, 122), (985, 129), (989, 128), (993, 127), (997, 130), (1002, 133), (1005, 132), (1008, 131), (1011, 135), (1015, 134), (1020, 137), (1024, 136), (1029, 138), (1035, 142), (1039, 141), (1043, 144), (1047, 143), (1051, 146), (1055, 145), (1061, 150), (1064, 149), (1091, 156), (1094, 155), (1102, 151), (1134, 158), (1145, 154), (1149, 152), (1173, 153), (1179, 161), (1182, 160), (1185, 157), (1188, 159), (1205, 170), (1209, 169), (1212, 168), (1218, 162), (1224, 164), (1226, 163), (1230, 167), (1233, 166), (1236, 165), (1267, 147), (1273, 140)]
theorem MCs_ok : MCL.all (fun q => BIG.contains q.2 || MCs.contains q) = true := by decide +kernel
set_option maxRecDepth 100000 in
set_option maxHeartbeats 4000000 in
theorem MG_28 : hdw 28 ∈ lw_tbl := List.mem_append_right _ (show hdw 28 ∈ tables_1 from List.mem_append_right _ (List.mem_append_right _ (List.mem_append_right _ (List.mem_append_left _ (List.mem_of_getElem? (i := 50) rfl)))))
theorem MH_28 : goodWord (hdw 28) = true := by decide +kernel
set_option maxRecDepth 100000 in
set_option maxHeartbeats 4000000 in
theorem MG_139 : hdw 139 ∈ lw_tbl := List.mem_append_right _ (show hdw 139 ∈ tables_1 from List.mem_append_right _ (List.mem_append_right _ (List.mem_append_right _ (List.mem_append_left _ (List.mem_of_getElem? (i := 131) rfl)))))
theorem MH_139 : goodWord (hdw 139) = true := by decide +kernel
set_option maxRecDepth 100000 in
set_option maxHeartbeats 4000000 in
theorem MG_171 : hdw 171 ∈ lw_tbl := List.mem_append_right _ (show hdw 171 ∈ tables_1 from List.mem_append_right _ (List.mem_append_right _ (List.mem_append_right _ (List.mem_append_right _ (List.mem_append_left _ (List.mem_of_getElem? (i := 67) rfl))))))
theorem MH_171 : goodWord (hdw 171) = true := by decide +kernel
set_option maxRecDepth 100000 in
set_option maxHeartbeats 4000000 in
theorem MG_148 : hdw 148 ∈ lw_tbl := List.mem_append_right _ (show hdw 148 ∈ tables_1 from List.mem_append_right _ (List.mem_append_right _ (List.mem_append_right _ (List.mem_append_right _ (List.mem_append_right _ (List.mem_of_getElem? (i := 65) rfl))))))
theorem MH_148 : goodWord (hdw 148) = true := by decide +kernel
theorem MC_0 : chk 0 lw_tbl (((MCs.drop 0).take 16).map fun q => (q.1, hdw q.2)) = true := by decide +kernel
theorem MC_1 : chk 0 lw_tbl (((MCs.drop 16).take 16).map fun q => (q.1, hdw q.2)) = true := by decide +kernel
theorem MC_2 : chk 0 lw_tbl (((MCs.drop 32).take 16).map fun q => (q.1, hdw q.2)) = true := by decide +kernel
theorem MC_3 : chk 0 lw_tbl (((MCs.drop 48).take 16).map fun q => (q.1, hdw q.2)) = true := by decide +kernel
theorem MC_4 : chk 0 lw_tbl (((MCs.drop 64).take 16).map fun q => (q.1, hdw q.2)) = true := by decide +kernel
theorem MC_5 : chk 0 lw_tbl (((MCs.drop 80).take 16).map fun q => (q.1, hdw q.2)) = true := by decide +kernel
theorem MC_6 : chk 0 lw_tbl (((MCs.drop 96).take 16).map fun q => (q.1, hdw q.2)) = true := by decide +kernel
theorem MC_7 : chk 0 lw_tbl (((MCs.drop 112).take 16).map fun q => (q.1, hdw q.2)) = true := by decide +kernel
theorem MC_8 : chk 0 lw_tbl (((MCs.drop 128).take 16).map fun q => (q.1, hdw q.2)) = true := by decide +kernel
theorem MC_9 : chk 0 lw_tbl (((MCs.drop 144).take 16).map fun q => (q.1, hdw q.2)) = true := by decide +kernel
theorem MC_10 : chk 0 lw_tbl (((MCs.drop 160).take 16).map fun q => (q.1, hdw q.2)) = true := by decide +kernel
theorem MCs_in : ∀ q ∈ MCs, hdw q.2 ∈ ALLG := by
  intro q hq
  have key : ∀ l : List (Nat × Nat), chk 0 lw_tbl (l.map fun q => (q.1, hdw q.2)) = true → q ∈ l → hdw q.2 ∈ ALLG := fun l h hl => chk_all h (List.mem_map.mpr ⟨q, hl, rfl⟩)
  have split : ∀ (l : List (Nat × Nat)), q ∈ l → q ∈ l.take 16 ∨ q ∈ l.drop 16 := fun l hl => by rw [← List.take_append_drop 16 l] at hl; exact List.mem_append.mp hl
  have h0 : q ∈ MCs.drop 0 := hq
  rcases split _ h0 with h | h1
  · exact key _ MC_0 h
  rw [List.drop_drop] at h1
  rcases split _ h1 with h | h2
  · exact key _ MC_1 h
  rw [List.drop_drop] at h2
  rcases split _ h2 with h | h3
  · exact key _ MC_2 h
  rw [List.drop_drop] at h3
  rcases split _ h3 with h | h4
  · exact key _ MC_3 h
  rw [List.drop_drop] at h4
  rcases split _ h4 with h | h5
  · exact key _ MC_4 h
  rw [List.drop_drop] at h5
  rcases split _ h5 with h | h6
  · exact key _ MC_5 h
  rw [List.drop_drop] at h6
  rcases split _ h6 with h | h7
  · exact key _ MC_6 h
  rw [List.drop_drop] at h7
  rcases split _ h7 with h | h8
  · exact key _ MC_7 h
  rw [List.drop_drop] at h8
  rcases split _ h8 with h | h9
  · exact key _ MC_8 h
  rw [List.drop_drop] at h9
  rcases split _ h9 with h | h10
  · exact key _ MC_9 h
  rw [List.drop_drop] at h10
  rcases split _ h10 with h | h11
  · exact key _ MC_10 h
  rw [List.drop_drop] at h11
  exact absurd h11 (by rw [show MCs.drop (160 + 16) = [] from by decide +kernel]; exact List.not_mem_nil)
theorem MCL_in : ∀ q ∈ MCL, hdw q.2 ∈ ALLG := by
  intro q hq
  rcases Bool.or_eq_true_iff.mp (List.all_eq_true.mp MCs_ok q hq) with h | h
  · have h2 : q.2 ∈ BIG := List.contains_iff_mem.mp h
    generalize q.2 = M at h2 ⊢
    simp only [BIG, List.mem_cons, List.not_mem_nil, or_false] at h2
    rcases h2 with rfl | rfl | rfl | rfl
    · exact allg MG_28 MH_28
    · exact allg MG_139 MH_139
    · exact allg MG_171 MH_171
    · exact allg MG_148 MH_148
  · exact MCs_in q (List.contains_iff_mem.mp h)
