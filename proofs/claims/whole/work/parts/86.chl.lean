/-! ===== the law: turns that change the table ===== -/
section CHL
variable {X : Cxt} {w : Wld} {n : Option Nat} {Q : (Option Value ⊕ String) → Wld → Option Nat → Prop} {x c sl B : Nat} {T : Nat → Tb} {pa : Nat → Nat} {be : Nat} {Z P C D R Lt V N : Nat → Int32} {A : Nat → Nat → Int32} {l d : Nat → Value} {x5 : Int32} {l6 l7 l8 : Option Value}
/-- what a turn hands on -/
def HND (X : Cxt) (Q : (Option Value ⊕ String) → Wld → Option Nat → Prop) (w : Wld) (x c sl B : Nat) (x5 : Int32) : Prop := ∀ (T : Nat → Tb) (pa : Nat → Nat) (be : Nat) (Z P C D R Lt V N : Nat → Int32) (A : Nat → Nat → Int32) (l d : Nat → Value) (n : Option Nat) (c' sl' : Nat) (l6 l7 l8 : Option Value), REL B T pa be Z P C R Lt V N A → c' ≤ c + 1 → sl' ≤ sl + 6 → Ev X 223 1853 [some (.ref X.2.2.2.2.1), some (.ref x), some (.ref (x + 139)), some (.ref (x + 148)), some (.ref (x + 149)), some (.int x5), l6, l7, l8] [] (FW w x T pa be Z P C D R Lt V N A l d) n c' sl' Q
def scI (X : Cxt) (x : Int32) : Int32 := X.2.2.2.2.2.2 x.toNatClampNeg
theorem opR_v {p : (Int32 × Int32) ⊕ (Int32 × Tb)} {q : (Int32 × Int32) ⊕ (Int32 × (Nat → Int32))} (h : opR B p q) : ∀ v s2, p = .inr (v, s2) → v ≠ -1 := by
  rintro v s2 rfl
  cases q with
  | inl ab => exact h.elim
  | inr ab => exact h.2.1
theorem opR_l {ab : Int32 × Int32} {q : (Int32 × Int32) ⊕ (Int32 × (Nat → Int32))} (h : opR B (.inl ab) q) : q = .inl ab := by
  cases q with
  | inl ab2 => have h : ab = ab2 := h; rw [h]
  | inr ab2 => exact h.elim
theorem opR_r {v : Int32} {s2 : Tb} {q : (Int32 × Int32) ⊕ (Int32 × (Nat → Int32))} (h : opR B (.inr (v, s2)) q) : ∃ N2, q = .inr (v, N2) ∧ Rl B s2 N2 := by
  cases q with
  | inl ab2 => exact h.elim
  | inr ab2 => obtain ⟨v2, N2⟩ := ab2; obtain ⟨a, -, b⟩ := (h : v = v2 ∧ v ≠ -1 ∧ Rl B s2 N2); exact ⟨N2, by rw [a], b⟩
theorem cs_0 (h : REL B T pa be Z P C R Lt V N A) (hB : B + 99 < 2 ^ 30) (h1 : c + 1 ≤ 603072) (h2 : sl + 6 ≤ 7219306) (i1 : inr_ (x5 + 1) X.2.2.2.2.2.1 = true) (i2 : inr_ (x5 + 2) X.2.2.2.2.2.1 = true) (i3 : inr_ (x5 + 3) X.2.2.2.2.2.1 = true) (K : HND X Q w x c sl (B + 99) x5) : Ev X 223 200 [some (.ref X.2.2.2.2.1), some (.ref x), some (.ref (x + 139)), some (.ref (x + 148)), some (.ref (x + 149)), some (.int x5), l6, l7, l8] [] (FW w x T pa be Z P C D R Lt V N A l d) n c sl Q := by
  have hh := h
  obtain ⟨⟨cnt, L, tv⟩, ⟨q, q8, z5, v4, -⟩, hP, -⟩ := hh
  have hc := tv.1.1.1
  have hN := tv.1.1.2.1
  have h8 := tv.2.2.2.2.2.2.2
  have op : opR (B + 99) (addF cnt (scI X (x5 + 1)) (scI X (x5 + 2)) (scI X (x5 + 3)) (T 0)) (joinM cnt (scI X (x5 + 1)) (scI X (x5 + 2)) (scI X (x5 + 3)) N) := opR_w (Nat.le_add_right B 99) (op_join tv)
  refine L_law_200.mpr (L_law_201.mpr (L_law_202.mpr (L_law_204.mpr (L_law_205.mpr ((L_law_206 i1).mpr (L_law_207.mpr (L_law_208.mpr (L_law_210.mpr (L_law_211.mpr ((L_law_212 i2).mpr (L_law_213.mpr (L_law_214.mpr (L_law_216.mpr (L_law_217.mpr ((L_law_218 i3).mpr (L_law_219.mpr ((L_law_220 h1 h2).mpr (lh_join fw_x ?_))))))))))))))))))
  rw [FW_S]
  refine (sw_join z5 q8 hP hc h8 (opR_v op)).mpr ?_
  change aft _ _ _ _ _ _ _ _ _ _ _ _ _ _ (addF cnt (scI X (x5 + 1)) (scI X (x5 + 2)) (scI X (x5 + 3)) (T 0))
  cases hx : addF cnt (scI X (x5 + 1)) (scI X (x5 + 2)) (scI X (x5 + 3)) (T 0) with
  | inl ab =>
    obtain ⟨a, b⟩ := ab
    rw [hx] at op
    have hy := opR_l op
    refine Exists.intro (1 : Int32) (And.intro (List.mem_singleton.mpr rfl) ?_)
    rw [← FW_S]
    refine L_law_223.mpr (L_law_225.mpr (L_law_226.mpr (L_law_227.mpr (L_law_229.mpr (L_law_230.mpr ((L_law_231 i1).mpr (L_law_232.mpr (L_law_233.mpr (L_law_235.mpr (L_law_236.mpr ((L_law_237 i2).mpr (L_law_238.mpr (L_law_239.mpr (L_law_241.mpr (L_law_242.mpr ((L_law_243 i3).mpr ((L_law_244 fw_m (by omega) (by omega)).mpr ?_)))))))))))))))))
    rw [FW_M]
    refine (mw_join v4 q8 hN h8).mpr ?_
    change mEn _ _ _ _ _ _ _ _ (joinM cnt (scI X (x5 + 1)) (scI X (x5 + 2)) (scI X (x5 + 3)) N)
    rw [hy]
    show Kr _ _ _ _ _ _ _ _ (.inl (some (.int 0))) (MW _ _ _ _ _) _
    rw [← FW_M]
    exact tl_0 (k := 1) upd_same (fun z => absurd z (by decide)) (by omega) (by omega) (K _ _ _ _ _ _ _ _ _ _ _ _ _ _ _ _ _ _ _ _ ((REL.no h (fun j hj => by
      simp only [List.mem_cons, List.not_mem_nil, or_false] at hj
      rcases hj with rfl | rfl | rfl | rfl | rfl <;> rfl) rfl rfl rfl).w (by omega)) (by omega) (by omega))
  | inr vs =>
    obtain ⟨v, s2⟩ := vs
    rw [hx] at op
    obtain ⟨N2, hy, hr⟩ := opR_r op
    show KH _ _ [(UOE, 1)] (.inl (some (.int v))) (SW _ _ _ _ _ _ _ _ _ _ _) _
    rw [← FW_S]
    refine Exists.intro _ (And.intro fw_so ?_)
    refine L_law_223.mpr (L_law_225.mpr (L_law_226.mpr (L_law_227.mpr (L_law_229.mpr (L_law_230.mpr ((L_law_231 i1).mpr (L_law_232.mpr (L_law_233.mpr (L_law_235.mpr (L_law_236.mpr ((L_law_237 i2).mpr (L_law_238.mpr (L_law_239.mpr (L_law_241.mpr (L_law_242.mpr ((L_law_243 i3).mpr ((L_law_244 fw_m (by omega) (by omega)).mpr ?_)))))))))))))))))
    rw [FW_M]
    refine (mw_join v4 q8 hN h8).mpr ?_
    change mEn _ _ _ _ _ _ _ _ (joinM cnt (scI X (x5 + 1)) (scI X (x5 + 2)) (scI X (x5 + 3)) N)
    rw [hy]
    show Kr _ _ _ _ _ _ _ _ (.inl (some (.int v))) (MW _ _ _ _ _) _
    rw [← FW_M]
    exact tl_0 (k := 0) rfl (fun _ => updV_0) (by omega) (by omega) (K _ _ _ _ _ _ _ _ _ _ _ _ _ _ _ _ _ _ _ _ (REL.yes (c := q) h (by omega) z5 q8 hr (M := cpN N (A 2)) (fun i hi => if_pos hi) (fun j hj => by
      simp only [List.mem_cons, List.not_mem_nil, or_false] at hj
      rcases hj with rfl | rfl | rfl <;> rfl) upd_same (fun j hj => by
      simp only [List.mem_cons, List.not_mem_nil, or_false] at hj
      rcases hj with rfl | rfl | rfl | rfl | rfl | rfl | rfl <;> rfl) upd_same updT_s (fun j hj => by
      simp only [List.mem_cons, List.not_mem_nil, or_false] at hj
      rcases hj with rfl | rfl | rfl <;> rfl)) (by omega) (by omega))
theorem cs_1 (h : REL B T pa be Z P C R Lt V N A) (hB : B + 99 < 2 ^ 30) (h1 : c + 1 ≤ 603072) (h2 : sl + 6 ≤ 7219306)  (K : HND X Q w x c sl (B + 99) x5) : Ev X 223 280 [some (.ref X.2.2.2.2.1), some (.ref x), some (.ref (x + 139)), some (.ref (x + 148)), some (.ref (x + 149)), some (.int x5), l6, l7, l8] [] (FW w x T pa be Z P C D R Lt V N A l d) n c sl Q := by
  have hh := h
  obtain ⟨⟨cnt, L, tv⟩, ⟨q, q8, z5, v4, -⟩, hP, -⟩ := hh
  have hc := tv.1.1.1
  have hN := tv.1.1.2.1
  have h8 := tv.2.2.2.2.2.2.2
  have op : opR (B + 99) (remF cnt (T 0)) (leavM cnt L.length N) := opR_w (Nat.le_add_right B 99) (op_leave tv)
  refine L_law_280.mpr (L_law_281.mpr ((L_law_282 h1 h2).mpr (lh_leave fw_x ?_)))
  rw [FW_S]
  refine (sw_leave z5 q8 hP hc h8 (opR_v op)).mpr ?_
  change aft _ _ _ _ _ _ _ _ _ _ _ _ _ _ (remF cnt (T 0))
  cases hx : remF cnt (T 0) with
  | inl ab =>
    obtain ⟨a, b⟩ := ab
    rw [hx] at op
    have hy := opR_l op
    refine Exists.intro (1 : Int32) (And.intro (List.mem_singleton.mpr rfl) ?_)
    rw [← FW_S]
    refine L_law_285.mpr (L_law_287.mpr ((L_law_288 fw_m (by omega) (by omega)).mpr ?_))
    rw [FW_M]
    refine (mw_leave v4 q8 hN h8 tv.2.1.2.1 tv.2.1.1).mpr ?_
    change mEn _ _ _ _ _ _ _ _ (leavM cnt L.length N)
    rw [hy]
    show Kr _ _ _ _ _ _ _ _ (.inl (some (.int 0))) (MW _ _ _ _ _) _
    rw [← FW_M]
    exact tl_1 (k := 1) upd_same (fun z => absurd z (by decide)) (by omega) (by omega) (K _ _ _ _ _ _ _ _ _ _ _ _ _ _ _ _ _ _ _ _ ((REL.no h (fun j hj => by
      simp only [List.mem_cons, List.not_mem_nil, or_false] at hj
      rcases hj with rfl | rfl | rfl | rfl | rfl <;> rfl) rfl rfl rfl).w (by omega)) (by omega) (by omega))
  | inr vs =>
    obtain ⟨v, s2⟩ := vs
    rw [hx] at op
    obtain ⟨N2, hy, hr⟩ := opR_r op
    show KH _ _ [(UOE, 1)] (.inl (some (.int v))) (SW _ _ _ _ _ _ _ _ _ _ _) _
    rw [← FW_S]
    refine Exists.intro _ (And.intro fw_so ?_)
    refine L_law_285.mpr (L_law_287.mpr ((L_law_288 fw_m (by omega) (by omega)).mpr ?_))
    rw [FW_M]
    refine (mw_leave v4 q8 hN h8 tv.2.1.2.1 tv.2.1.1).mpr ?_
    change mEn _ _ _ _ _ _ _ _ (leavM cnt L.length N)
    rw [hy]
    show Kr _ _ _ _ _ _ _ _ (.inl (some (.int v))) (MW _ _ _ _ _) _
    rw [← FW_M]
    exact tl_1 (k := 0) rfl (fun _ => updV_0) (by omega) (by omega) (K _ _ _ _ _ _ _ _ _ _ _ _ _ _ _ _ _ _ _ _ (REL.yes (c := q) h (by omega) z5 q8 hr (M := cpN N (A 2)) (fun i hi => if_pos hi) (fun j hj => by
      simp only [List.mem_cons, List.not_mem_nil, or_false] at hj
      rcases hj with rfl | rfl | rfl <;> rfl) upd_same (fun j hj => by
      simp only [List.mem_cons, List.not_mem_nil, or_false] at hj
      rcases hj with rfl | rfl | rfl | rfl | rfl | rfl | rfl <;> rfl) upd_same updT_s (fun j hj => by
      simp only [List.mem_cons, List.not_mem_nil, or_false] at hj
      rcases hj with rfl | rfl | rfl <;> rfl)) (by omega) (by omega))
theorem cs_2 (h : REL B T pa be Z P C R Lt V N A) (hB : B + 99 < 2 ^ 30) (h1 : c + 1 ≤ 603072) (h2 : sl + 6 ≤ 7219306) (i1 : inr_ (x5 + 1) X.2.2.2.2.2.1 = true) (i2 : inr_ (x5 + 2) X.2.2.2.2.2.1 = true) (K : HND X Q w x c sl (B + 99) x5) : Ev X 223 324 [some (.ref X.2.2.2.2.1), some (.ref x), some (.ref (x + 139)), some (.ref (x + 148)), some (.ref (x + 149)), some (.int x5), l6, l7, l8] [] (FW w x T pa be Z P C D R Lt V N A l d) n c sl Q := by
  have hh := h
  obtain ⟨⟨cnt, L, tv⟩, ⟨q, q8, z5, v4, -⟩, hP, -⟩ := hh
  have hc := tv.1.1.1
  have hN := tv.1.1.2.1
  have h8 := tv.2.2.2.2.2.2.2
  have op : opR (B + 99) (manX cnt (scI X (x5 + 1)) (scI X (x5 + 2)) (T 0)) (turnX cnt (scI X (x5 + 1)) (scI X (x5 + 2)) N) := opR_w (Nat.le_add_right B 99) (op_manner tv)
  refine L_law_324.mpr (L_law_325.mpr (L_law_326.mpr (L_law_328.mpr (L_law_329.mpr ((L_law_330 i1).mpr (L_law_331.mpr (L_law_332.mpr (L_law_334.mpr (L_law_335.mpr ((L_law_336 i2).mpr (L_law_337.mpr ((L_law_338 h1 h2).mpr (lh_manner fw_x ?_)))))))))))))
  rw [FW_S]
  refine (sw_manner z5 q8 hP hc h8 (opR_v op)).mpr ?_
  change aft _ _ _ _ _ _ _ _ _ _ _ _ _ _ (manX cnt (scI X (x5 + 1)) (scI X (x5 + 2)) (T 0))
  cases hx : manX cnt (scI X (x5 + 1)) (scI X (x5 + 2)) (T 0) with
  | inl ab =>
    obtain ⟨a, b⟩ := ab
    rw [hx] at op
    have hy := opR_l op
    refine Exists.intro (1 : Int32) (And.intro (List.mem_singleton.mpr rfl) ?_)
    rw [← FW_S]
    refine L_law_341.mpr (L_law_343.mpr (L_law_344.mpr (L_law_345.mpr (L_law_347.mpr (L_law_348.mpr ((L_law_349 i1).mpr (L_law_350.mpr (L_law_351.mpr (L_law_353.mpr (L_law_354.mpr ((L_law_355 i2).mpr ((L_law_356 fw_m (by omega) (by omega)).mpr ?_))))))))))))
    rw [FW_M]
    refine (mw_manner v4 q8 hN h8).mpr ?_
    change mEn _ _ _ _ _ _ _ _ (turnX cnt (scI X (x5 + 1)) (scI X (x5 + 2)) N)
    rw [hy]
    show Kr _ _ _ _ _ _ _ _ (.inl (some (.int 0))) (MW _ _ _ _ _) _
    rw [← FW_M]
    exact tl_2 (k := 1) upd_same (fun z => absurd z (by decide)) (by omega) (by omega) (K _ _ _ _ _ _ _ _ _ _ _ _ _ _ _ _ _ _ _ _ ((REL.no h (fun j hj => by
      simp only [List.mem_cons, List.not_mem_nil, or_false] at hj
      rcases hj with rfl | rfl | rfl | rfl | rfl <;> rfl) rfl rfl rfl).w (by omega)) (by omega) (by omega))
  | inr vs =>
    obtain ⟨v, s2⟩ := vs
    rw [hx] at op
    obtain ⟨N2, hy, hr⟩ := opR_r op
    show KH _ _ [(UOE, 1)] (.inl (some (.int v))) (SW _ _ _ _ _ _ _ _ _ _ _) _
    rw [← FW_S]
    refine Exists.intro _ (And.intro fw_so ?_)
    refine L_law_341.mpr (L_law_343.mpr (L_law_344.mpr (L_law_345.mpr (L_law_347.mpr (L_law_348.mpr ((L_law_349 i1).mpr (L_law_350.mpr (L_law_351.mpr (L_law_353.mpr (L_law_354.mpr ((L_law_355 i2).mpr ((L_law_356 fw_m (by omega) (by omega)).mpr ?_))))))))))))
    rw [FW_M]
    refine (mw_manner v4 q8 hN h8).mpr ?_
    change mEn _ _ _ _ _ _ _ _ (turnX cnt (scI X (x5 + 1)) (scI X (x5 + 2)) N)
    rw [hy]
    show Kr _ _ _ _ _ _ _ _ (.inl (some (.int v))) (MW _ _ _ _ _) _
    rw [← FW_M]
    exact tl_2 (k := 0) rfl (fun _ => updV_0) (by omega) (by omega) (K _ _ _ _ _ _ _ _ _ _ _ _ _ _ _ _ _ _ _ _ (REL.yes (c := q) h (by omega) z5 q8 hr (M := cpN N (A 2)) (fun i hi => if_pos hi) (fun j hj => by
      simp only [List.mem_cons, List.not_mem_nil, or_false] at hj
      rcases hj with rfl | rfl | rfl <;> rfl) upd_same (fun j hj => by
      simp only [List.mem_cons, List.not_mem_nil, or_false] at hj
      rcases hj with rfl | rfl | rfl | rfl | rfl | rfl | rfl <;> rfl) upd_same updT_s (fun j hj => by
      simp only [List.mem_cons, List.not_mem_nil, or_false] at hj
      rcases hj with rfl | rfl | rfl <;> rfl)) (by omega) (by omega))
theorem cs_3 (h : REL B T pa be Z P C R Lt V N A) (hB : B + 99 < 2 ^ 30) (h1 : c + 1 ≤ 603072) (h2 : sl + 6 ≤ 7219306) (i1 : inr_ (x5 + 1) X.2.2.2.2.2.1 = true) (i2 : inr_ (x5 + 2) X.2.2.2.2.2.1 = true) (i3 : inr_ (x5 + 3) X.2.2.2.2.2.1 = true) (K : HND X Q w x c sl (B + 99) x5) : Ev X 223 392 [some (.ref X.2.2.2.2.1), some (.ref x), some (.ref (x + 139)), some (.ref (x + 148)), some (.ref (x + 149)), some (.int x5), l6, l7, l8] [] (FW w x T pa be Z P C D R Lt V N A l d) n c sl Q := by
  have hh := h
  obtain ⟨⟨cnt, L, tv⟩, ⟨q, q8, z5, v4, -⟩, hP, -⟩ := hh
  have hc := tv.1.1.1
  have hN := tv.1.1.2.1
  have h8 := tv.2.2.2.2.2.2.2
  have op : opR (B + 99) (cloX cnt (scI X (x5 + 1)) (scI X (x5 + 2)) (scI X (x5 + 3)) (T 0)) (timeX cnt (scI X (x5 + 1)) (scI X (x5 + 2)) (scI X (x5 + 3)) N) := opR_w (Nat.le_add_right B 99) (op_clocks tv)
  refine L_law_392.mpr (L_law_393.mpr (L_law_394.mpr (L_law_396.mpr (L_law_397.mpr ((L_law_398 i1).mpr (L_law_399.mpr (L_law_400.mpr (L_law_402.mpr (L_law_403.mpr ((L_law_404 i2).mpr (L_law_405.mpr (L_law_406.mpr (L_law_408.mpr (L_law_409.mpr ((L_law_410 i3).mpr (L_law_411.mpr ((L_law_412 h1 h2).mpr (lh_clocks fw_x ?_))))))))))))))))))
  rw [FW_S]
  refine (sw_clocks z5 q8 hP hc h8 (opR_v op)).mpr ?_
  change aft _ _ _ _ _ _ _ _ _ _ _ _ _ _ (cloX cnt (scI X (x5 + 1)) (scI X (x5 + 2)) (scI X (x5 + 3)) (T 0))
  cases hx : cloX cnt (scI X (x5 + 1)) (scI X (x5 + 2)) (scI X (x5 + 3)) (T 0) with
  | inl ab =>
    obtain ⟨a, b⟩ := ab
    rw [hx] at op
    have hy := opR_l op
    refine Exists.intro (1 : Int32) (And.intro (List.mem_singleton.mpr rfl) ?_)
    rw [← FW_S]
    refine L_law_415.mpr (L_law_417.mpr (L_law_418.mpr (L_law_419.mpr (L_law_421.mpr (L_law_422.mpr ((L_law_423 i1).mpr (L_law_424.mpr (L_law_425.mpr (L_law_427.mpr (L_law_428.mpr ((L_law_429 i2).mpr (L_law_430.mpr (L_law_431.mpr (L_law_433.mpr (L_law_434.mpr ((L_law_435 i3).mpr ((L_law_436 fw_m (by omega) (by omega)).mpr ?_)))))))))))))))))
    rw [FW_M]
    refine (mw_clocks v4 q8 hN h8).mpr ?_
    change mEn _ _ _ _ _ _ _ _ (timeX cnt (scI X (x5 + 1)) (scI X (x5 + 2)) (scI X (x5 + 3)) N)
    rw [hy]
    show Kr _ _ _ _ _ _ _ _ (.inl (some (.int 0))) (MW _ _ _ _ _) _
    rw [← FW_M]
    exact tl_3 (k := 1) upd_same (fun z => absurd z (by decide)) (by omega) (by omega) (K _ _ _ _ _ _ _ _ _ _ _ _ _ _ _ _ _ _ _ _ ((REL.no h (fun j hj => by
      simp only [List.mem_cons, List.not_mem_nil, or_false] at hj
      rcases hj with rfl | rfl | rfl | rfl | rfl <;> rfl) rfl rfl rfl).w (by omega)) (by omega) (by omega))
  | inr vs =>
    obtain ⟨v, s2⟩ := vs
    rw [hx] at op
    obtain ⟨N2, hy, hr⟩ := opR_r op
    show KH _ _ [(UOE, 1)] (.inl (some (.int v))) (SW _ _ _ _ _ _ _ _ _ _ _) _
    rw [← FW_S]
    refine Exists.intro _ (And.intro fw_so ?_)
    refine L_law_415.mpr (L_law_417.mpr (L_law_418.mpr (L_law_419.mpr (L_law_421.mpr (L_law_422.mpr ((L_law_423 i1).mpr (L_law_424.mpr (L_law_425.mpr (L_law_427.mpr (L_law_428.mpr ((L_law_429 i2).mpr (L_law_430.mpr (L_law_431.mpr (L_law_433.mpr (L_law_434.mpr ((L_law_435 i3).mpr ((L_law_436 fw_m (by omega) (by omega)).mpr ?_)))))))))))))))))
    rw [FW_M]
    refine (mw_clocks v4 q8 hN h8).mpr ?_
    change mEn _ _ _ _ _ _ _ _ (timeX cnt (scI X (x5 + 1)) (scI X (x5 + 2)) (scI X (x5 + 3)) N)
    rw [hy]
    show Kr _ _ _ _ _ _ _ _ (.inl (some (.int v))) (MW _ _ _ _ _) _
    rw [← FW_M]
    exact tl_3 (k := 0) rfl (fun _ => updV_0) (by omega) (by omega) (K _ _ _ _ _ _ _ _ _ _ _ _ _ _ _ _ _ _ _ _ (REL.yes (c := q) h (by omega) z5 q8 hr (M := cpN N (A 2)) (fun i hi => if_pos hi) (fun j hj => by
      simp only [List.mem_cons, List.not_mem_nil, or_false] at hj
      rcases hj with rfl | rfl | rfl <;> rfl) upd_same (fun j hj => by
      simp only [List.mem_cons, List.not_mem_nil, or_false] at hj
      rcases hj with rfl | rfl | rfl | rfl | rfl | rfl | rfl <;> rfl) upd_same updT_s (fun j hj => by
      simp only [List.mem_cons, List.not_mem_nil, or_false] at hj
      rcases hj with rfl | rfl | rfl <;> rfl)) (by omega) (by omega))
theorem cs_4 (h : REL B T pa be Z P C R Lt V N A) (hB : B + 99 < 2 ^ 30) (h1 : c + 1 ≤ 603072) (h2 : sl + 6 ≤ 7219306) (i1 : inr_ (x5 + 1) X.2.2.2.2.2.1 = true) (K : HND X Q w x c sl (B + 99) x5) : Ev X 223 472 [some (.ref X.2.2.2.2.1), some (.ref x), some (.ref (x + 139)), some (.ref (x + 148)), some (.ref (x + 149)), some (.int x5), l6, l7, l8] [] (FW w x T pa be Z P C D R Lt V N A l d) n c sl Q := by
  have hh := h
  obtain ⟨⟨cnt, L, tv⟩, ⟨q, q8, z5, v4, -⟩, hP, -⟩ := hh
  have hc := tv.1.1.1
  have hN := tv.1.1.2.1
  have h8 := tv.2.2.2.2.2.2.2
  have op : opR (B + 99) (waiF (scI X (x5 + 1)) (T 0)) (tellM (scI X (x5 + 1)) N) := opR_w (Nat.le_add_right B 99) (op_waiter tv)
  refine L_law_472.mpr (L_law_473.mpr (L_law_474.mpr (L_law_476.mpr (L_law_477.mpr ((L_law_478 i1).mpr (L_law_479.mpr ((L_law_480 h1 h2).mpr (lh_waiter fw_x ?_))))))))
  rw [FW_S]
  refine (sw_waiter z5 q8 hP (opR_v op)).mpr ?_
  change aft _ _ _ _ _ _ _ _ _ _ _ _ _ _ (waiF (scI X (x5 + 1)) (T 0))
  cases hx : waiF (scI X (x5 + 1)) (T 0) with
  | inl ab =>
    obtain ⟨a, b⟩ := ab
    rw [hx] at op
    have hy := opR_l op
    refine Exists.intro (1 : Int32) (And.intro (List.mem_singleton.mpr rfl) ?_)
    rw [← FW_S]
    refine L_law_483.mpr (L_law_485.mpr (L_law_486.mpr (L_law_487.mpr (L_law_489.mpr (L_law_490.mpr ((L_law_491 i1).mpr ((L_law_492 fw_m (by omega) (by omega)).mpr ?_)))))))
    rw [FW_M]
    refine (mw_waiter v4 q8).mpr ?_
    change mEn _ _ _ _ _ _ _ _ (tellM (scI X (x5 + 1)) N)
    rw [hy]
    show Kr _ _ _ _ _ _ _ _ (.inl (some (.int 0))) (MW _ _ _ _ _) _
    rw [← FW_M]
    exact tl_4 (k := 1) upd_same (fun z => absurd z (by decide)) (by omega) (by omega) (K _ _ _ _ _ _ _ _ _ _ _ _ _ _ _ _ _ _ _ _ ((REL.no h (fun j hj => by
      simp only [List.mem_cons, List.not_mem_nil, or_false] at hj
      rcases hj with rfl | rfl | rfl | rfl | rfl <;> rfl) rfl rfl rfl).w (by omega)) (by omega) (by omega))
  | inr vs =>
    obtain ⟨v, s2⟩ := vs
    rw [hx] at op
    obtain ⟨N2, hy, hr⟩ := opR_r op
    show KH _ _ [(UOE, 1)] (.inl (some (.int v))) (SW _ _ _ _ _ _ _ _ _ _ _) _
    rw [← FW_S]
    refine Exists.intro _ (And.intro fw_so ?_)
    refine L_law_483.mpr (L_law_485.mpr (L_law_486.mpr (L_law_487.mpr (L_law_489.mpr (L_law_490.mpr ((L_law_491 i1).mpr ((L_law_492 fw_m (by omega) (by omega)).mpr ?_)))))))
    rw [FW_M]
    refine (mw_waiter v4 q8).mpr ?_
    change mEn _ _ _ _ _ _ _ _ (tellM (scI X (x5 + 1)) N)
    rw [hy]
    show Kr _ _ _ _ _ _ _ _ (.inl (some (.int v))) (MW _ _ _ _ _) _
    rw [← FW_M]
    exact tl_4 (k := 0) rfl (fun _ => updV_0) (by omega) (by omega) (K _ _ _ _ _ _ _ _ _ _ _ _ _ _ _ _ _ _ _ _ (REL.yes (c := q) h (by omega) z5 q8 hr (M := cpN N (A 2)) (fun i hi => if_pos hi) (fun j hj => by
      simp only [List.mem_cons, List.not_mem_nil, or_false] at hj
      rcases hj with rfl | rfl | rfl <;> rfl) upd_same (fun j hj => by
      simp only [List.mem_cons, List.not_mem_nil, or_false] at hj
      rcases hj with rfl | rfl | rfl | rfl | rfl | rfl | rfl <;> rfl) upd_same updT_s (fun j hj => by
      simp only [List.mem_cons, List.not_mem_nil, or_false] at hj
      rcases hj with rfl | rfl | rfl <;> rfl)) (by omega) (by omega))
theorem cs_5 (h : REL B T pa be Z P C R Lt V N A) (hB : B + 99 < 2 ^ 30) (h1 : c + 1 ≤ 603072) (h2 : sl + 6 ≤ 7219306) (i1 : inr_ (x5 + 1) X.2.2.2.2.2.1 = true) (K : HND X Q w x c sl (B + 99) x5) : Ev X 223 528 [some (.ref X.2.2.2.2.1), some (.ref x), some (.ref (x + 139)), some (.ref (x + 148)), some (.ref (x + 149)), some (.int x5), l6, l7, l8] [] (FW w x T pa be Z P C D R Lt V N A l d) n c sl Q := by
  have hh := h
  obtain ⟨⟨cnt, L, tv⟩, ⟨q, q8, z5, v4, -⟩, hP, -⟩ := hh
  have hc := tv.1.1.1
  have hN := tv.1.1.2.1
  have h8 := tv.2.2.2.2.2.2.2
  have op : opR (B + 99) (briF (scI X (x5 + 1)) (T 0)) (brinM (scI X (x5 + 1)) N) := opR_w (Nat.le_add_right B 99) (op_bring tv)
  refine L_law_528.mpr (L_law_529.mpr (L_law_530.mpr (L_law_532.mpr (L_law_533.mpr ((L_law_534 i1).mpr (L_law_535.mpr ((L_law_536 h1 h2).mpr (lh_bring fw_x ?_))))))))
  rw [FW_S]
  refine (sw_bring z5 q8 hP (opR_v op)).mpr ?_
  change aft _ _ _ _ _ _ _ _ _ _ _ _ _ _ (briF (scI X (x5 + 1)) (T 0))
  cases hx : briF (scI X (x5 + 1)) (T 0) with
  | inl ab =>
    obtain ⟨a, b⟩ := ab
    rw [hx] at op
    have hy := opR_l op
    refine Exists.intro (1 : Int32) (And.intro (List.mem_singleton.mpr rfl) ?_)
    rw [← FW_S]
    refine L_law_539.mpr (L_law_541.mpr (L_law_542.mpr (L_law_543.mpr (L_law_545.mpr (L_law_546.mpr ((L_law_547 i1).mpr ((L_law_548 fw_m (by omega) (by omega)).mpr ?_)))))))
    rw [FW_M]
    refine (mw_bring v4 q8).mpr ?_
    change mEn _ _ _ _ _ _ _ _ (brinM (scI X (x5 + 1)) N)
    rw [hy]
    show Kr _ _ _ _ _ _ _ _ (.inl (some (.int 0))) (MW _ _ _ _ _) _
    rw [← FW_M]
    exact tl_5 (k := 1) upd_same (fun z => absurd z (by decide)) (by omega) (by omega) (K _ _ _ _ _ _ _ _ _ _ _ _ _ _ _ _ _ _ _ _ ((REL.no h (fun j hj => by
      simp only [List.mem_cons, List.not_mem_nil, or_false] at hj
      rcases hj with rfl | rfl | rfl | rfl | rfl <;> rfl) rfl rfl rfl).w (by omega)) (by omega) (by omega))
  | inr vs =>
    obtain ⟨v, s2⟩ := vs
    rw [hx] at op
    obtain ⟨N2, hy, hr⟩ := opR_r op
    show KH _ _ [(UOE, 1)] (.inl (some (.int v))) (SW _ _ _ _ _ _ _ _ _ _ _) _
    rw [← FW_S]
    refine Exists.intro _ (And.intro fw_so ?_)
    refine L_law_539.mpr (L_law_541.mpr (L_law_542.mpr (L_law_543.mpr (L_law_545.mpr (L_law_546.mpr ((L_law_547 i1).mpr ((L_law_548 fw_m (by omega) (by omega)).mpr ?_)))))))
    rw [FW_M]
    refine (mw_bring v4 q8).mpr ?_
    change mEn _ _ _ _ _ _ _ _ (brinM (scI X (x5 + 1)) N)
    rw [hy]
    show Kr _ _ _ _ _ _ _ _ (.inl (some (.int v))) (MW _ _ _ _ _) _
    rw [← FW_M]
    exact tl_5 (k := 0) rfl (fun _ => updV_0) (by omega) (by omega) (K _ _ _ _ _ _ _ _ _ _ _ _ _ _ _ _ _ _ _ _ (REL.yes (c := q) h (by omega) z5 q8 hr (M := cpN N (A 2)) (fun i hi => if_pos hi) (fun j hj => by
      simp only [List.mem_cons, List.not_mem_nil, or_false] at hj
      rcases hj with rfl | rfl | rfl <;> rfl) upd_same (fun j hj => by
      simp only [List.mem_cons, List.not_mem_nil, or_false] at hj
      rcases hj with rfl | rfl | rfl | rfl | rfl | rfl | rfl <;> rfl) upd_same updT_s (fun j hj => by
      simp only [List.mem_cons, List.not_mem_nil, or_false] at hj
      rcases hj with rfl | rfl | rfl <;> rfl)) (by omega) (by omega))
theorem cs_6 (h : REL B T pa be Z P C R Lt V N A) (hB : B + 99 < 2 ^ 30) (h1 : c + 1 ≤ 603072) (h2 : sl + 6 ≤ 7219306) (i1 : inr_ (x5 + 1) X.2.2.2.2.2.1 = true) (K : HND X Q w x c sl (B + 99) x5) : Ev X 223 584 [some (.ref X.2.2.2.2.1), some (.ref x), some (.ref (x + 139)), some (.ref (x + 148)), some (.ref (x + 149)), some (.int x5), l6, l7, l8] [] (FW w x T pa be Z P C D R Lt V N A l d) n c sl Q := by
  have hh := h
  obtain ⟨⟨cnt, L, tv⟩, ⟨q, q8, z5, v4, -⟩, hP, -⟩ := hh
  have hc := tv.1.1.1
  have hN := tv.1.1.2.1
  have h8 := tv.2.2.2.2.2.2.2
  have op : opR (B + 99) (takX cnt (scI X (x5 + 1)) (T 0)) (takeX cnt (scI X (x5 + 1)) N) := opR_w (Nat.le_add_right B 99) (op_take tv)
  refine L_law_584.mpr (L_law_585.mpr (L_law_586.mpr (L_law_588.mpr (L_law_589.mpr ((L_law_590 i1).mpr (L_law_591.mpr ((L_law_592 h1 h2).mpr (lh_take fw_x ?_))))))))
  rw [FW_S]
  refine (sw_take z5 q8 hP hc h8 (opR_v op)).mpr ?_
  change aft _ _ _ _ _ _ _ _ _ _ _ _ _ _ (takX cnt (scI X (x5 + 1)) (T 0))
  cases hx : takX cnt (scI X (x5 + 1)) (T 0) with
  | inl ab =>
    obtain ⟨a, b⟩ := ab
    rw [hx] at op
    have hy := opR_l op
    refine Exists.intro (1 : Int32) (And.intro (List.mem_singleton.mpr rfl) ?_)
    rw [← FW_S]
    refine L_law_595.mpr (L_law_597.mpr (L_law_598.mpr (L_law_599.mpr (L_law_601.mpr (L_law_602.mpr ((L_law_603 i1).mpr ((L_law_604 fw_m (by omega) (by omega)).mpr ?_)))))))
    rw [FW_M]
    refine (mw_take v4 q8 hN h8).mpr ?_
    change mEn _ _ _ _ _ _ _ _ (takeX cnt (scI X (x5 + 1)) N)
    rw [hy]
    show Kr _ _ _ _ _ _ _ _ (.inl (some (.int 0))) (MW _ _ _ _ _) _
    rw [← FW_M]
    exact tl_6 (k := 1) upd_same (fun z => absurd z (by decide)) (by omega) (by omega) (K _ _ _ _ _ _ _ _ _ _ _ _ _ _ _ _ _ _ _ _ ((REL.no h (fun j hj => by
      simp only [List.mem_cons, List.not_mem_nil, or_false] at hj
      rcases hj with rfl | rfl | rfl | rfl | rfl <;> rfl) rfl rfl rfl).w (by omega)) (by omega) (by omega))
  | inr vs =>
    obtain ⟨v, s2⟩ := vs
    rw [hx] at op
    obtain ⟨N2, hy, hr⟩ := opR_r op
    show KH _ _ [(UOE, 1)] (.inl (some (.int v))) (SW _ _ _ _ _ _ _ _ _ _ _) _
    rw [← FW_S]
    refine Exists.intro _ (And.intro fw_so ?_)
    refine L_law_595.mpr (L_law_597.mpr (L_law_598.mpr (L_law_599.mpr (L_law_601.mpr (L_law_602.mpr ((L_law_603 i1).mpr ((L_law_604 fw_m (by omega) (by omega)).mpr ?_)))))))
    rw [FW_M]
    refine (mw_take v4 q8 hN h8).mpr ?_
    change mEn _ _ _ _ _ _ _ _ (takeX cnt (scI X (x5 + 1)) N)
    rw [hy]
    show Kr _ _ _ _ _ _ _ _ (.inl (some (.int v))) (MW _ _ _ _ _) _
    rw [← FW_M]
    exact tl_6 (k := 0) rfl (fun _ => updV_0) (by omega) (by omega) (K _ _ _ _ _ _ _ _ _ _ _ _ _ _ _ _ _ _ _ _ (REL.yes (c := q) h (by omega) z5 q8 hr (M := cpN N (A 2)) (fun i hi => if_pos hi) (fun j hj => by
      simp only [List.mem_cons, List.not_mem_nil, or_false] at hj
      rcases hj with rfl | rfl | rfl <;> rfl) upd_same (fun j hj => by
      simp only [List.mem_cons, List.not_mem_nil, or_false] at hj
      rcases hj with rfl | rfl | rfl | rfl | rfl | rfl | rfl <;> rfl) upd_same updT_s (fun j hj => by
      simp only [List.mem_cons, List.not_mem_nil, or_false] at hj
      rcases hj with rfl | rfl | rfl <;> rfl)) (by omega) (by omega))
theorem cs_7 (h : REL B T pa be Z P C R Lt V N A) (hB : B + 99 < 2 ^ 30) (h1 : c + 1 ≤ 603072) (h2 : sl + 6 ≤ 7219306) (i1 : inr_ (x5 + 1) X.2.2.2.2.2.1 = true) (K : HND X Q w x c sl (B + 99) x5) : Ev X 223 640 [some (.ref X.2.2.2.2.1), some (.ref x), some (.ref (x + 139)), some (.ref (x + 148)), some (.ref (x + 149)), some (.int x5), l6, l7, l8] [] (FW w x T pa be Z P C D R Lt V N A l d) n c sl Q := by
  have hh := h
  obtain ⟨⟨cnt, L, tv⟩, ⟨q, q8, z5, v4, -⟩, hP, -⟩ := hh
  have hc := tv.1.1.1
  have hN := tv.1.1.2.1
  have h8 := tv.2.2.2.2.2.2.2
  obtain ⟨I, hT, hI⟩ : ∃ I, TI cnt I ∧ (2 ≤ cnt → ∀ k, k < 100 → I k N) := by
    by_cases h2 : 2 ≤ cnt
    · exact ⟨Ik cnt, Ik_TI h2, fun _ k hk => ⟨T 0, L, B, tv, by omega⟩⟩
    · exact ⟨fun _ _ => False, fun _ _ h => h.elim, fun h => absurd h h2⟩
  have op : opR (B + 99) (pasF cnt (scI X (x5 + 1)) (T 0)) (passM cnt (scI X (x5 + 1)) N) := op_pass hB tv
  refine L_law_640.mpr (L_law_641.mpr (L_law_642.mpr (L_law_644.mpr (L_law_645.mpr ((L_law_646 i1).mpr (L_law_647.mpr ((L_law_648 h1 h2).mpr (lh_pass fw_x ?_))))))))
  rw [FW_S]
  refine (sw_pass z5 q8 hP hc h8 (opR_v op)).mpr ?_
  change aft _ _ _ _ _ _ _ _ _ _ _ _ _ _ (pasF cnt (scI X (x5 + 1)) (T 0))
  cases hx : pasF cnt (scI X (x5 + 1)) (T 0) with
  | inl ab =>
    obtain ⟨a, b⟩ := ab
    rw [hx] at op
    have hy := opR_l op
    refine Exists.intro (1 : Int32) (And.intro (List.mem_singleton.mpr rfl) ?_)
    rw [← FW_S]
    refine L_law_651.mpr (L_law_653.mpr (L_law_654.mpr (L_law_655.mpr (L_law_657.mpr (L_law_658.mpr ((L_law_659 i1).mpr ((L_law_660 fw_m (by omega) (by omega)).mpr ?_)))))))
    rw [FW_M]
    refine (mw_pass v4 q8 hT hN h8 hI).mpr ?_
    change mEn _ _ _ _ _ _ _ _ (passM cnt (scI X (x5 + 1)) N)
    rw [hy]
    show Kr _ _ _ _ _ _ _ _ (.inl (some (.int 0))) (MW _ _ _ _ _) _
    rw [← FW_M]
    exact tl_7 (k := 1) upd_same (fun z => absurd z (by decide)) (by omega) (by omega) (K _ _ _ _ _ _ _ _ _ _ _ _ _ _ _ _ _ _ _ _ ((REL.no h (fun j hj => by
      simp only [List.mem_cons, List.not_mem_nil, or_false] at hj
      rcases hj with rfl | rfl | rfl | rfl | rfl <;> rfl) rfl rfl rfl).w (by omega)) (by omega) (by omega))
  | inr vs =>
    obtain ⟨v, s2⟩ := vs
    rw [hx] at op
    obtain ⟨N2, hy, hr⟩ := opR_r op
    show KH _ _ [(UOE, 1)] (.inl (some (.int v))) (SW _ _ _ _ _ _ _ _ _ _ _) _
    rw [← FW_S]
    refine Exists.intro _ (And.intro fw_so ?_)
    refine L_law_651.mpr (L_law_653.mpr (L_law_654.mpr (L_law_655.mpr (L_law_657.mpr (L_law_658.mpr ((L_law_659 i1).mpr ((L_law_660 fw_m (by omega) (by omega)).mpr ?_)))))))
    rw [FW_M]
    refine (mw_pass v4 q8 hT hN h8 hI).mpr ?_
    change mEn _ _ _ _ _ _ _ _ (passM cnt (scI X (x5 + 1)) N)
    rw [hy]
    show Kr _ _ _ _ _ _ _ _ (.inl (some (.int v))) (MW _ _ _ _ _) _
    rw [← FW_M]
    exact tl_7 (k := 0) rfl (fun _ => updV_0) (by omega) (by omega) (K _ _ _ _ _ _ _ _ _ _ _ _ _ _ _ _ _ _ _ _ (REL.yes (c := q) h (by omega) z5 q8 hr (M := cpN N (A 2)) (fun i hi => if_pos hi) (fun j hj => by
      simp only [List.mem_cons, List.not_mem_nil, or_false] at hj
      rcases hj with rfl | rfl | rfl <;> rfl) upd_same (fun j hj => by
      simp only [List.mem_cons, List.not_mem_nil, or_false] at hj
      rcases hj with rfl | rfl | rfl | rfl | rfl | rfl | rfl <;> rfl) upd_same updT_s (fun j hj => by
      simp only [List.mem_cons, List.not_mem_nil, or_false] at hj
      rcases hj with rfl | rfl | rfl <;> rfl)) (by omega) (by omega))
end CHL
