/-! ===== the law: questions that throw nothing ===== -/
section QRL
variable {X : Cxt} {w : Wld} {n : Option Nat} {Q : (Option Value ⊕ String) → Wld → Option Nat → Prop} {x c sl B : Nat} {T : Nat → Tb} {pa : Nat → Nat} {be : Nat} {Z P C D R Lt V N : Nat → Int32} {A : Nat → Nat → Int32} {l d : Nat → Value} {x5 : Int32} {l6 l7 l8 : Option Value}
theorem tv_GN {cnt k : Nat} {bm bw : Nat → Nat} {s : Tb} {N : Nat → Int32} {L : List Nat} (h : TV cnt k bm bw s N L) : ∀ j, j < cnt → seatI cnt (N (lx j) - 1) := fun j hj => by
  have hM := tv_WM h
  have h8 := hM.1.1
  rw [h.1.2.1 j (by omega), Int32.add_sub_cancel]
  exact hM.1.2.1 j hj
theorem tv_hw {cnt k : Nat} {bm bw : Nat → Nat} {s : Tb} {N : Nat → Int32} {L : List Nat} (h : TV cnt k bm bw s N L) : (∀ j, j < cnt → ∃ e : Nat, e < 5 ∧ s.2.2 j 3 = nI e) ∧ ∀ j, j < cnt → ∃ e : Nat, e < 5 ∧ N (ix j 3) = nI e := by
  have h1 := fun j hj => (h.2.2.2.1 j hj).1
  exact ⟨h1, fun j hj => by rw [h.1.2.2.1 j hj 3 (by decide)]; exact h1 j hj⟩
theorem REL.v19 {Z P C R Lt V N : Nat → Int32} {A : Nat → Nat → Int32} {v : Int32} (h : REL B T pa be Z P C R Lt V N A) : REL B T pa be Z P C R Lt (upd V 19 v) N A := h.ref (fun j hj => by
  simp only [List.mem_cons, List.not_mem_nil, or_false] at hj
  rcases hj with rfl | rfl | rfl | rfl | rfl | rfl | rfl | rfl <;> rfl) (fun _ _ => rfl) (fun _ _ => rfl)
theorem cs_13 (h : REL B T pa be Z P C R Lt V N A) (hB : B < 2 ^ 30) (h1 : c + 1 ≤ 603072) (h2 : sl + 6 ≤ 7219306) (K : HND X Q w x c sl B x5) : Ev X 223 1016 [some (.ref X.2.2.2.2.1), some (.ref x), some (.ref (x + 139)), some (.ref (x + 148)), some (.ref (x + 149)), some (.int x5), l6, l7, l8] [] (FW w x T pa be Z P C D R Lt V N A l d) n c sl Q := by
  have hh := h
  obtain ⟨⟨cnt, L, tv⟩, -, -, -, -, h8z, -⟩ := hh
  have hc := tv.1.1.1
  have hN := tv.1.1.2.1
  have h8 := tv.2.2.2.2.2.2.2
  have hM := tv_WM tv
  have hGN := tv_GN tv
  refine L_law_1016.mpr ((L_law_1017 fw_x (by omega) (by omega)).mpr ?_)
  rw [FW_S]
  refine (sw_eaters hc h8).mpr ?_
  show Kr _ _ _ _ _ _ _ _ (.inl (some (.int _))) (SW _ _ _ _ _ _ _ _ _ _ _) _
  rw [← FW_S]
  refine L_law_1020.mpr ((L_law_1021 fw_m (by omega) (by omega)).mpr ?_)
  rw [FW_M]
  refine (mw_eaters hN h8).mpr ?_
  show Kr _ _ _ _ _ _ _ _ (.inl (some (.int _))) (MW _ _ _ _ _) _
  rw [← FW_M]
  refine L_law_1024.mpr ?_
  rw [if_pos (q_eat (F := (T 0).1) (G := (T 0).2.1) (S := (T 0).2.2) tv)]
  exact K _ _ _ _ _ _ _ _ _ _ _ _ _ _ _ _ _ _ _ _ h.v19 (by omega) (by omega)
theorem cs_14 (h : REL B T pa be Z P C R Lt V N A) (hB : B < 2 ^ 30) (h1 : c + 1 ≤ 603072) (h2 : sl + 6 ≤ 7219306) (K : HND X Q w x c sl B x5) : Ev X 223 1029 [some (.ref X.2.2.2.2.1), some (.ref x), some (.ref (x + 139)), some (.ref (x + 148)), some (.ref (x + 149)), some (.int x5), l6, l7, l8] [] (FW w x T pa be Z P C D R Lt V N A l d) n c sl Q := by
  have hh := h
  obtain ⟨⟨cnt, L, tv⟩, -, -, -, -, h8z, -⟩ := hh
  have hc := tv.1.1.1
  have hN := tv.1.1.2.1
  have h8 := tv.2.2.2.2.2.2.2
  have hM := tv_WM tv
  have hGN := tv_GN tv
  refine L_law_1029.mpr ((L_law_1030 fw_x (by omega) (by omega)).mpr ?_)
  rw [FW_S]
  refine (sw_ring hM.1.2.1 hc h8).mpr ?_
  show Kr _ _ _ _ _ _ _ _ (.inl (some (.int _))) (SW _ _ _ _ _ _ _ _ _ _ _) _
  rw [← FW_S]
  refine L_law_1033.mpr ((L_law_1034 fw_m (by omega) (by omega)).mpr ?_)
  rw [FW_M]
  refine (mw_ring hGN hN h8).mpr ?_
  show Kr _ _ _ _ _ _ _ _ (.inl (some (.int _))) (MW _ _ _ _ _) _
  rw [← FW_M]
  refine L_law_1037.mpr ?_
  rw [if_pos ((tv_stuck tv).2.2)]
  exact K _ _ _ _ _ _ _ _ _ _ _ _ _ _ _ _ _ _ _ _ h.v19 (by omega) (by omega)
theorem cs_15 (h : REL B T pa be Z P C R Lt V N A) (hB : B < 2 ^ 30) (h1 : c + 1 ≤ 603072) (h2 : sl + 6 ≤ 7219306) (K : HND X Q w x c sl B x5) : Ev X 223 1042 [some (.ref X.2.2.2.2.1), some (.ref x), some (.ref (x + 139)), some (.ref (x + 148)), some (.ref (x + 149)), some (.int x5), l6, l7, l8] [] (FW w x T pa be Z P C D R Lt V N A l d) n c sl Q := by
  have hh := h
  obtain ⟨⟨cnt, L, tv⟩, -, -, -, -, h8z, -⟩ := hh
  have hc := tv.1.1.1
  have hN := tv.1.1.2.1
  have h8 := tv.2.2.2.2.2.2.2
  have hM := tv_WM tv
  have hGN := tv_GN tv
  refine L_law_1042.mpr ((L_law_1043 fw_x (by omega) (by omega)).mpr ?_)
  rw [FW_S]
  refine (sw_stuck hM.1.2.1 hc h8).mpr ?_
  show Kr _ _ _ _ _ _ _ _ (.inl (some (.int _))) (SW _ _ _ _ _ _ _ _ _ _ _) _
  rw [← FW_S]
  refine L_law_1046.mpr ((L_law_1047 fw_m (by omega) (by omega)).mpr ?_)
  rw [FW_M]
  refine (mw_stuck hGN hN h8 (rn_m1 hM) (stM_fix hM)).mpr ?_
  show Kr _ _ _ _ _ _ _ _ (.inl (some (.int _))) (MW _ _ _ _ _) _
  rw [← FW_M]
  refine L_law_1050.mpr ?_
  rw [if_pos ((tv_stuck tv).1)]
  exact K _ _ _ _ _ _ _ _ _ _ _ _ _ _ _ _ _ _ _ _ h.v19 (by omega) (by omega)
theorem cs_16 (h : REL B T pa be Z P C R Lt V N A) (hB : B < 2 ^ 30) (h1 : c + 1 ≤ 603072) (h2 : sl + 6 ≤ 7219306) (K : HND X Q w x c sl B x5) : Ev X 223 1055 [some (.ref X.2.2.2.2.1), some (.ref x), some (.ref (x + 139)), some (.ref (x + 148)), some (.ref (x + 149)), some (.int x5), l6, l7, l8] [] (FW w x T pa be Z P C D R Lt V N A l d) n c sl Q := by
  have hh := h
  obtain ⟨⟨cnt, L, tv⟩, -, -, -, -, h8z, -⟩ := hh
  have hc := tv.1.1.1
  have hN := tv.1.1.2.1
  have h8 := tv.2.2.2.2.2.2.2
  have hM := tv_WM tv
  have hGN := tv_GN tv
  refine L_law_1055.mpr ((L_law_1056 fw_x (by omega) (by omega)).mpr ?_)
  rw [FW_S]
  refine (sw_stuckAgain hc h8).mpr ?_
  show Kr _ _ _ _ _ _ _ _ (.inl (some (.int _))) (SW _ _ _ _ _ _ _ _ _ _ _) _
  rw [← FW_S]
  refine L_law_1059.mpr ((L_law_1060 fw_m (by omega) (by omega)).mpr ?_)
  rw [FW_M]
  refine (mw_stuckAgain hGN hN h8 (rn_m1 hM) (stM_fix hM)).mpr ?_
  show Kr _ _ _ _ _ _ _ _ (.inl (some (.int _))) (MW _ _ _ _ _) _
  rw [← FW_M]
  refine L_law_1063.mpr ?_
  rw [if_pos ((tv_stuck tv).2.1)]
  exact K _ _ _ _ _ _ _ _ _ _ _ _ _ _ _ _ _ _ _ _ h.v19 (by omega) (by omega)
theorem cs_17 (h : REL B T pa be Z P C R Lt V N A) (hB : B < 2 ^ 30) (h1 : c + 1 ≤ 603072) (h2 : sl + 6 ≤ 7219306) (K : HND X Q w x c sl B x5) : Ev X 223 1068 [some (.ref X.2.2.2.2.1), some (.ref x), some (.ref (x + 139)), some (.ref (x + 148)), some (.ref (x + 149)), some (.int x5), l6, l7, l8] [] (FW w x T pa be Z P C D R Lt V N A l d) n c sl Q := by
  have hh := h
  obtain ⟨⟨cnt, L, tv⟩, -, -, -, -, h8z, -⟩ := hh
  have hc := tv.1.1.1
  have hN := tv.1.1.2.1
  have h8 := tv.2.2.2.2.2.2.2
  have hM := tv_WM tv
  have hGN := tv_GN tv
  refine L_law_1068.mpr ((L_law_1069 fw_x (by omega) (by omega)).mpr ?_)
  rw [FW_S]
  refine (sw_isSure hc h8).mpr ?_
  show Kr _ _ _ _ _ _ _ _ (.inl (some (.int _))) (SW _ _ _ _ _ _ _ _ _ _ _) _
  rw [← FW_S]
  refine L_law_1072.mpr ((L_law_1073 fw_m (by omega) (by omega)).mpr ?_)
  rw [FW_M]
  refine (mw_isSure hN h8).mpr ?_
  show Kr _ _ _ _ _ _ _ _ (.inl (some (.int _))) (MW _ _ _ _ _) _
  rw [← FW_M]
  refine L_law_1076.mpr ?_
  rw [if_pos (q_sure (F := (T 0).1) (G := (T 0).2.1) (S := (T 0).2.2) tv)]
  exact K _ _ _ _ _ _ _ _ _ _ _ _ _ _ _ _ _ _ _ _ h.v19 (by omega) (by omega)
theorem cs_21 (h : REL B T pa be Z P C R Lt V N A) (hB : B < 2 ^ 30) (h1 : c + 1 ≤ 603072) (h2 : sl + 6 ≤ 7219306) (K : HND X Q w x c sl B x5) : Ev X 223 1237 [some (.ref X.2.2.2.2.1), some (.ref x), some (.ref (x + 139)), some (.ref (x + 148)), some (.ref (x + 149)), some (.int x5), l6, l7, l8] [] (FW w x T pa be Z P C D R Lt V N A l d) n c sl Q := by
  have hh := h
  obtain ⟨⟨cnt, L, tv⟩, -, -, -, -, h8z, -⟩ := hh
  have hc := tv.1.1.1
  have hN := tv.1.1.2.1
  have h8 := tv.2.2.2.2.2.2.2
  have hM := tv_WM tv
  have hGN := tv_GN tv
  refine L_law_1237.mpr ((L_law_1238 fw_x (by omega) (by omega)).mpr ?_)
  rw [FW_S]
  refine (sw_rounds hc h8).mpr ?_
  show Kr _ _ _ _ _ _ _ _ (.inl (some (.int _))) (SW _ _ _ _ _ _ _ _ _ _ _) _
  rw [← FW_S]
  refine L_law_1241.mpr ((L_law_1242 fw_m (by omega) (by omega)).mpr ?_)
  rw [FW_M]
  refine (mw_rounds hN h8).mpr ?_
  show Kr _ _ _ _ _ _ _ _ (.inl (some (.int _))) (MW _ _ _ _ _) _
  rw [← FW_M]
  refine L_law_1245.mpr ?_
  rw [if_pos (q_few (F := (T 0).1) (G := (T 0).2.1) (S := (T 0).2.2) tv)]
  exact K _ _ _ _ _ _ _ _ _ _ _ _ _ _ _ _ _ _ _ _ h.v19 (by omega) (by omega)
theorem cs_25 (h : REL B T pa be Z P C R Lt V N A) (hB : B < 2 ^ 30) (h1 : c + 1 ≤ 603072) (h2 : sl + 6 ≤ 7219306) (K : HND X Q w x c sl B x5) : Ev X 223 1427 [some (.ref X.2.2.2.2.1), some (.ref x), some (.ref (x + 139)), some (.ref (x + 148)), some (.ref (x + 149)), some (.int x5), l6, l7, l8] [] (FW w x T pa be Z P C D R Lt V N A l d) n c sl Q := by
  have hh := h
  obtain ⟨⟨cnt, L, tv⟩, -, -, -, -, h8z, -⟩ := hh
  have hc := tv.1.1.1
  have hN := tv.1.1.2.1
  have h8 := tv.2.2.2.2.2.2.2
  have hM := tv_WM tv
  have hGN := tv_GN tv
  refine L_law_1427.mpr ((L_law_1428 fw_x (by omega) (by omega)).mpr ?_)
  rw [FW_S]
  refine (sw_faultPosition).mpr ?_
  show Kr _ _ _ _ _ _ _ _ (.inl (some (.int _))) (SW _ _ _ _ _ _ _ _ _ _ _) _
  rw [← FW_S]
  refine L_law_1431.mpr ((L_law_1432 fw_m (by omega) (by omega)).mpr ?_)
  rw [FW_M]
  refine (mw_faultPosition).mpr ?_
  show Kr _ _ _ _ _ _ _ _ (.inl (some (.int _))) (MW _ _ _ _ _) _
  rw [← FW_M]
  refine L_law_1435.mpr ?_
  rw [if_pos (h8z)]
  exact K _ _ _ _ _ _ _ _ _ _ _ _ _ _ _ _ _ _ _ _ h.v19 (by omega) (by omega)
end QRL
