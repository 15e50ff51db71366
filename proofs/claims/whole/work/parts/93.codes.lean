/-! ===== the code words of the methods, by their places ===== -/
theorem MC_0 : chk 0 lw_tbl (((MCL.drop 0).take 16).map fun q => (q.1, hdw q.2)) = true := by decide +kernel
theorem MC_1 : chk 0 lw_tbl (((MCL.drop 16).take 16).map fun q => (q.1, hdw q.2)) = true := by decide +kernel
theorem MC_2 : chk 0 lw_tbl (((MCL.drop 32).take 16).map fun q => (q.1, hdw q.2)) = true := by decide +kernel
theorem MC_3 : chk 0 lw_tbl (((MCL.drop 48).take 16).map fun q => (q.1, hdw q.2)) = true := by decide +kernel
theorem MC_4 : chk 0 lw_tbl (((MCL.drop 64).take 16).map fun q => (q.1, hdw q.2)) = true := by decide +kernel
theorem MC_5 : chk 0 lw_tbl (((MCL.drop 80).take 16).map fun q => (q.1, hdw q.2)) = true := by decide +kernel
theorem MC_6 : chk 0 lw_tbl (((MCL.drop 96).take 16).map fun q => (q.1, hdw q.2)) = true := by decide +kernel
theorem MC_7 : chk 0 lw_tbl (((MCL.drop 112).take 16).map fun q => (q.1, hdw q.2)) = true := by decide +kernel
theorem MC_8 : chk 0 lw_tbl (((MCL.drop 128).take 16).map fun q => (q.1, hdw q.2)) = true := by decide +kernel
theorem MC_9 : chk 0 lw_tbl (((MCL.drop 144).take 16).map fun q => (q.1, hdw q.2)) = true := by decide +kernel
theorem MC_10 : chk 0 lw_tbl (((MCL.drop 160).take 16).map fun q => (q.1, hdw q.2)) = true := by decide +kernel
theorem MC_11 : chk 0 lw_tbl (((MCL.drop 176).take 16).map fun q => (q.1, hdw q.2)) = true := by decide +kernel
theorem MC_12 : chk 0 lw_tbl (((MCL.drop 192).take 16).map fun q => (q.1, hdw q.2)) = true := by decide +kernel
theorem MC_13 : chk 0 lw_tbl (((MCL.drop 208).take 16).map fun q => (q.1, hdw q.2)) = true := by decide +kernel
theorem MCL_in : ∀ q ∈ MCL, hdw q.2 ∈ ALLG := by
  intro q hq
  have key : ∀ l : List (Nat × Nat), chk 0 lw_tbl (l.map fun q => (q.1, hdw q.2)) = true → q ∈ l → hdw q.2 ∈ ALLG := fun l h hl => chk_all h (List.mem_map.mpr ⟨q, hl, rfl⟩)
  have split : ∀ (l : List (Nat × Nat)), q ∈ l → q ∈ l.take 16 ∨ q ∈ l.drop 16 := fun l hl => by rw [← List.take_append_drop 16 l] at hl; exact List.mem_append.mp hl
  have h0 : q ∈ MCL.drop 0 := hq
  rcases split _ h0 with h | h1
  · exact key _ MC_0 h
  rw [List.drop_drop] at h1
  rcases split _ h1 with h | h2
  · exact key _ MC_1 h
  rw [List.drop_drop] at h2
  rcases split _ h2 with h | h3
  · exact key _ MC_2 h
  rw [List.drop_drop] at h3
  rcases split _ h3 with h | h4
  · exact key _ MC_3 h
  rw [List.drop_drop] at h4
  rcases split _ h4 with h | h5
  · exact key _ MC_4 h
  rw [List.drop_drop] at h5
  rcases split _ h5 with h | h6
  · exact key _ MC_5 h
  rw [List.drop_drop] at h6
  rcases split _ h6 with h | h7
  · exact key _ MC_6 h
  rw [List.drop_drop] at h7
  rcases split _ h7 with h | h8
  · exact key _ MC_7 h
  rw [List.drop_drop] at h8
  rcases split _ h8 with h | h9
  · exact key _ MC_8 h
  rw [List.drop_drop] at h9
  rcases split _ h9 with h | h10
  · exact key _ MC_9 h
  rw [List.drop_drop] at h10
  rcases split _ h10 with h | h11
  · exact key _ MC_10 h
  rw [List.drop_drop] at h11
  rcases split _ h11 with h | h12
  · exact key _ MC_11 h
  rw [List.drop_drop] at h12
  rcases split _ h12 with h | h13
  · exact key _ MC_12 h
  rw [List.drop_drop] at h13
  rcases split _ h13 with h | h14
  · exact key _ MC_13 h
  rw [List.drop_drop] at h14
  exact absurd h14 (by rw [show MCL.drop (208 + 16) = [] from by decide +kernel]; exact List.not_mem_nil)
