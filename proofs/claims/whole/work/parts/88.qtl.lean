/-! ===== the law: questions that may throw ===== -/
section QTL
variable {X : Cxt} {w : Wld} {n : Option Nat} {Q : (Option Value ⊕ String) → Wld → Option Nat → Prop} {x c sl B : Nat} {T : Nat → Tb} {pa : Nat → Nat} {be : Nat} {Z P C D R Lt V N : Nat → Int32} {A : Nat → Nat → Int32} {l d : Nat → Value} {x5 : Int32} {l6 l7 l8 : Option Value}
theorem cs_10 (h : REL B T pa be Z P C R Lt V N A) (hB : B < 2 ^ 30) (h1 : c + 1 ≤ 603072) (h2 : sl + 6 ≤ 7219306) (i1 : inr_ (x5 + 1) X.2.2.2.2.2.1 = true) (K : HND X Q w x c sl B x5) : Ev X 223 848 [some (.ref X.2.2.2.2.1), some (.ref x), some (.ref (x + 139)), some (.ref (x + 148)), some (.ref (x + 149)), some (.int x5), l6, l7, l8] [] (FW w x T pa be Z P C D R Lt V N A l d) n c sl Q := by
  have hh := h
  obtain ⟨⟨cnt, L, tv⟩, ⟨q, q8, z5, v4, past⟩, hP, ⟨s1, s2, s3⟩, -, h8z, ⟨r1, r2, r3⟩, -⟩ := hh
  have hc := tv.1.1.1
  have hN := tv.1.1.2.1
  have h8 := tv.2.2.2.2.2.2.2
  have hp1 : scI X (x5 + 1) = X.2.2.2.2.2.2 (x5 + 1).toNatClampNeg := rfl
  refine L_law_848.mpr (L_law_849.mpr (L_law_850.mpr (L_law_852.mpr (L_law_853.mpr ((L_law_854 i1).mpr (L_law_855.mpr ((L_law_856 h1 h2).mpr (lh_holder fw_x ?_))))))))
  rw [FW_S]
  by_cases hx : hasS (nI cnt) (scI X (x5 + 1)) = 0
  · have hx2 : hasS ((T 0).1 2) (scI X (x5 + 1)) = 0 := by rw [hc]; exact hx
    refine (sw_holder_out hx2).mpr ?_
    refine Exists.intro (1 : Int32) (And.intro List.mem_cons_self ?_)
    rw [← FW_S]
    refine L_law_859.mpr (L_law_861.mpr (L_law_862.mpr (L_law_863.mpr (L_law_865.mpr (L_law_866.mpr ((L_law_867 i1).mpr ((L_law_868 fw_m (by omega) (by omega)).mpr ?_)))))))
    rw [FW_M]
    refine (mw_holder_out hN h8 hx).mpr ?_
    show Kr _ _ _ _ _ _ _ _ (.inl (some (.int _))) (MW _ _ _ _ _) _
    rw [← FW_M]
    exact tl_10 (k := 1) upd_same (fun z => absurd z (by decide)) (by omega) (by omega) (K _ _ _ _ _ _ _ _ _ _ _ _ _ _ _ _ _ _ _ _ (h.v19) (by omega) (by omega))
  · obtain ⟨k, hk, e1⟩ := hasS_k h8 hx
    rw [hp1] at e1
    rw [e1]
    refine (sw_holder hc h8 hk).mpr ?_
    show KH _ _ [(IOO, 1)] (.inl (some (.int _))) (SW _ _ _ _ _ _ _ _ _ _ _) _
    rw [← FW_S]
    refine Exists.intro _ (And.intro fw_so ?_)
    refine L_law_859.mpr (L_law_861.mpr (L_law_862.mpr (L_law_863.mpr (L_law_865.mpr (L_law_866.mpr ((L_law_867 i1).mpr ((L_law_868 fw_m (by omega) (by omega)).mpr ?_)))))))
    rw [FW_M]
    rw [e1]
    refine (mw_holder hN h8 hk).mpr ?_
    show Kr _ _ _ _ _ _ _ _ (.inl (some (.int _))) (MW _ _ _ _ _) _
    rw [← FW_M]
    exact tl_10 (k := 0) upd_same (fun _ => updV_0.trans (congrArg (fun z : Int32 => Value.long z.toInt64) ((q_hold (F := (T 0).1) (G := (T 0).2.1) (S := (T 0).2.2) tv hk).symm))) (by omega) (by omega) (K _ _ _ _ _ _ _ _ _ _ _ _ _ _ _ _ _ _ _ _ (h.v19) (by omega) (by omega))
theorem cs_8 (h : REL B T pa be Z P C R Lt V N A) (hB : B < 2 ^ 30) (h1 : c + 1 ≤ 603072) (h2 : sl + 6 ≤ 7219306) (i1 : inr_ (x5 + 1) X.2.2.2.2.2.1 = true) (i2 : inr_ (x5 + 2) X.2.2.2.2.2.1 = true) (K : HND X Q w x c sl B x5) : Ev X 223 696 [some (.ref X.2.2.2.2.1), some (.ref x), some (.ref (x + 139)), some (.ref (x + 148)), some (.ref (x + 149)), some (.int x5), l6, l7, l8] [] (FW w x T pa be Z P C D R Lt V N A l d) n c sl Q := by
  have hh := h
  obtain ⟨⟨cnt, L, tv⟩, ⟨q, q8, z5, v4, past⟩, hP, ⟨s1, s2, s3⟩, -, h8z, ⟨r1, r2, r3⟩, -⟩ := hh
  have hc := tv.1.1.1
  have hN := tv.1.1.2.1
  have h8 := tv.2.2.2.2.2.2.2
  have hp1 : scI X (x5 + 1) = X.2.2.2.2.2.2 (x5 + 1).toNatClampNeg := rfl
  have hp2 : scI X (x5 + 2) = X.2.2.2.2.2.2 (x5 + 2).toNatClampNeg := rfl
  refine L_law_696.mpr (L_law_697.mpr (L_law_698.mpr (L_law_700.mpr (L_law_701.mpr ((L_law_702 i1).mpr (L_law_703.mpr (L_law_704.mpr (L_law_706.mpr (L_law_707.mpr ((L_law_708 i2).mpr (L_law_709.mpr ((L_law_710 h1 h2).mpr (lh_seatOf fw_x ?_)))))))))))))
  rw [FW_S]
  by_cases hx : hasS (nI cnt) (scI X (x5 + 1)) = 0
  · have hx2 : hasS ((T 0).1 2) (scI X (x5 + 1)) = 0 := by rw [hc]; exact hx
    refine (sw_seatOf_out hx2).mpr ?_
    refine Exists.intro (1 : Int32) (And.intro List.mem_cons_self ?_)
    rw [← FW_S]
    refine L_law_713.mpr (L_law_715.mpr (L_law_716.mpr (L_law_717.mpr (L_law_719.mpr (L_law_720.mpr ((L_law_721 i1).mpr (L_law_722.mpr (L_law_723.mpr (L_law_725.mpr (L_law_726.mpr ((L_law_727 i2).mpr ((L_law_728 fw_m (by omega) (by omega)).mpr ?_))))))))))))
    rw [FW_M]
    refine (mw_seatOf_out hN h8 hx).mpr ?_
    show Kr _ _ _ _ _ _ _ _ (.inl (some (.int _))) (MW _ _ _ _ _) _
    rw [← FW_M]
    exact tl_8 (k := 1) upd_same (fun z => absurd z (by decide)) (by omega) (by omega) (K _ _ _ _ _ _ _ _ _ _ _ _ _ _ _ _ _ _ _ _ (h.v19) (by omega) (by omega))
  · have hx2 : ¬ hasS ((T 0).1 2) (scI X (x5 + 1)) = 0 := by rw [hc]; exact hx
    by_cases hy : inF (scI X (x5 + 2)) 0 9 = 0
    · have hy2 : scI X (x5 + 2) < 0 ∨ 9 < scI X (x5 + 2) := by
        unfold inF at hy
        by_cases a : scI X (x5 + 2) < 0
        · exact Or.inl a
        · rw [if_neg a] at hy
          by_cases b : 9 < scI X (x5 + 2)
          · exact Or.inr b
          · rw [if_neg b] at hy; exact absurd hy (by decide)
      refine (sw_seatOf_bad hx2 hy2).mpr ?_
      refine Exists.intro (2 : Int32) (And.intro (List.mem_cons_of_mem _ List.mem_cons_self) ?_)
      rw [← FW_S]
      refine L_law_713.mpr (L_law_715.mpr (L_law_716.mpr (L_law_717.mpr (L_law_719.mpr (L_law_720.mpr ((L_law_721 i1).mpr (L_law_722.mpr (L_law_723.mpr (L_law_725.mpr (L_law_726.mpr ((L_law_727 i2).mpr ((L_law_728 fw_m (by omega) (by omega)).mpr ?_))))))))))))
      rw [FW_M]
      refine (mw_seatOf_bad hN h8 hx hy).mpr ?_
      show Kr _ _ _ _ _ _ _ _ (.inl (some (.int _))) (MW _ _ _ _ _) _
      rw [← FW_M]
      exact tl_8 (k := 2) upd_same (fun z => absurd z (by decide)) (by omega) (by omega) (K _ _ _ _ _ _ _ _ _ _ _ _ _ _ _ _ _ _ _ _ (h.v19) (by omega) (by omega))
    · obtain ⟨k, hk, e1⟩ := hasS_k h8 hx
      obtain ⟨i, -, hi, e2⟩ := inF_nat (a := 0) (b := 9) (by decide) (by decide) hy
      rw [hp1] at e1
      rw [hp2] at e2
      rw [e1, e2]
      refine (sw_seatOf hc h8 hk (show i < 10 by omega)).mpr ?_
      show KH _ _ [(IOO, 1), (IAE, 2)] (.inl (some (.int _))) (SW _ _ _ _ _ _ _ _ _ _ _) _
      rw [← FW_S]
      refine Exists.intro _ (And.intro fw_so ?_)
      refine L_law_713.mpr (L_law_715.mpr (L_law_716.mpr (L_law_717.mpr (L_law_719.mpr (L_law_720.mpr ((L_law_721 i1).mpr (L_law_722.mpr (L_law_723.mpr (L_law_725.mpr (L_law_726.mpr ((L_law_727 i2).mpr ((L_law_728 fw_m (by omega) (by omega)).mpr ?_))))))))))))
      rw [FW_M]
      rw [e1, e2]
      refine (mw_seatOf hN h8 hk (show i < 10 by omega)).mpr ?_
      show Kr _ _ _ _ _ _ _ _ (.inl (some (.int _))) (MW _ _ _ _ _) _
      rw [← FW_M]
      exact tl_8 (k := 0) upd_same (fun _ => updV_0.trans (congrArg (fun z : Int32 => Value.long z.toInt64) (q_num (F := (T 0).1) (G := (T 0).2.1) (S := (T 0).2.2) tv hk (by omega)))) (by omega) (by omega) (K _ _ _ _ _ _ _ _ _ _ _ _ _ _ _ _ _ _ _ _ (h.v19) (by omega) (by omega))
theorem cs_11 (h : REL B T pa be Z P C R Lt V N A) (hB : B < 2 ^ 30) (h1 : c + 1 ≤ 603072) (h2 : sl + 6 ≤ 7219306) (i1 : inr_ (x5 + 1) X.2.2.2.2.2.1 = true) (K : HND X Q w x c sl B x5) : Ev X 223 904 [some (.ref X.2.2.2.2.1), some (.ref x), some (.ref (x + 139)), some (.ref (x + 148)), some (.ref (x + 149)), some (.int x5), l6, l7, l8] [] (FW w x T pa be Z P C D R Lt V N A l d) n c sl Q := by
  have hh := h
  obtain ⟨⟨cnt, L, tv⟩, ⟨q, q8, z5, v4, past⟩, hP, ⟨s1, s2, s3⟩, -, h8z, ⟨r1, r2, r3⟩, -⟩ := hh
  have hc := tv.1.1.1
  have hN := tv.1.1.2.1
  have h8 := tv.2.2.2.2.2.2.2
  have hp1 : scI X (x5 + 1) = X.2.2.2.2.2.2 (x5 + 1).toNatClampNeg := rfl
  refine L_law_904.mpr (L_law_905.mpr (L_law_906.mpr (L_law_908.mpr (L_law_909.mpr ((L_law_910 i1).mpr (L_law_911.mpr ((L_law_912 h1 h2).mpr (lh_waitsFor fw_x ?_))))))))
  rw [FW_S]
  by_cases hx : hasS (nI cnt) (scI X (x5 + 1)) = 0
  · have hx2 : hasS ((T 0).1 2) (scI X (x5 + 1)) = 0 := by rw [hc]; exact hx
    refine (sw_waitsFor_out hx2).mpr ?_
    refine Exists.intro (1 : Int32) (And.intro List.mem_cons_self ?_)
    rw [← FW_S]
    refine L_law_915.mpr (L_law_917.mpr (L_law_918.mpr (L_law_919.mpr (L_law_921.mpr (L_law_922.mpr ((L_law_923 i1).mpr ((L_law_924 fw_m (by omega) (by omega)).mpr ?_)))))))
    rw [FW_M]
    refine (mw_waitsFor_out hN h8 hx).mpr ?_
    show Kr _ _ _ _ _ _ _ _ (.inl (some (.int _))) (MW _ _ _ _ _) _
    rw [← FW_M]
    exact tl_11 (k := 1) upd_same (fun z => absurd z (by decide)) (by omega) (by omega) (K _ _ _ _ _ _ _ _ _ _ _ _ _ _ _ _ _ _ _ _ (h.v19) (by omega) (by omega))
  · obtain ⟨k, hk, e1⟩ := hasS_k h8 hx
    rw [hp1] at e1
    rw [e1]
    obtain ⟨w1, w2⟩ := q_wait (F := (T 0).1) (G := (T 0).2.1) (S := (T 0).2.2) tv hk
    by_cases c1 : awF cnt (T 0).2.1 (T 0).2.2 k = -1
    · refine ((sw_waitsFor hc h8 hk).trans (iff_of_eq (if_pos c1))).mpr ?_
      refine Exists.intro (2 : Int32) (And.intro (List.mem_cons_of_mem _ List.mem_cons_self) ?_)
      rw [← FW_S]
      refine L_law_915.mpr (L_law_917.mpr (L_law_918.mpr (L_law_919.mpr (L_law_921.mpr (L_law_922.mpr ((L_law_923 i1).mpr ((L_law_924 fw_m (by omega) (by omega)).mpr ?_)))))))
      rw [FW_M]
      rw [e1]
      refine ((mw_waitsFor hN h8 hk).trans (iff_of_eq (if_pos (w2.mpr c1)))).mpr ?_
      show Kr _ _ _ _ _ _ _ _ (.inl (some (.int _))) (MW _ _ _ _ _) _
      rw [← FW_M]
      exact tl_11 (k := 2) upd_same (fun z => absurd z (by decide)) (by omega) (by omega) (K _ _ _ _ _ _ _ _ _ _ _ _ _ _ _ _ _ _ _ _ (h.v19) (by omega) (by omega))
    · refine ((sw_waitsFor hc h8 hk).trans (iff_of_eq (if_neg c1))).mpr ?_
      show KH _ _ [(IOO, 1), (NSE, 2)] (.inl (some (.int _))) (SW _ _ _ _ _ _ _ _ _ _ _) _
      rw [← FW_S]
      refine Exists.intro _ (And.intro fw_so ?_)
      refine L_law_915.mpr (L_law_917.mpr (L_law_918.mpr (L_law_919.mpr (L_law_921.mpr (L_law_922.mpr ((L_law_923 i1).mpr ((L_law_924 fw_m (by omega) (by omega)).mpr ?_)))))))
      rw [FW_M]
      rw [e1]
      refine ((mw_waitsFor hN h8 hk).trans (iff_of_eq (if_neg (fun z => c1 (w2.mp z))))).mpr ?_
      show Kr _ _ _ _ _ _ _ _ (.inl (some (.int _))) (MW _ _ _ _ _) _
      rw [← FW_M]
      exact tl_11 (k := 0) upd_same (fun _ => updV_0.trans (congrArg (fun z : Int32 => Value.long z.toInt64) (w1.symm))) (by omega) (by omega) (K _ _ _ _ _ _ _ _ _ _ _ _ _ _ _ _ _ _ _ _ (h.v19) (by omega) (by omega))
theorem cs_12 (h : REL B T pa be Z P C R Lt V N A) (hB : B < 2 ^ 30) (h1 : c + 1 ≤ 603072) (h2 : sl + 6 ≤ 7219306) (i1 : inr_ (x5 + 1) X.2.2.2.2.2.1 = true) (K : HND X Q w x c sl B x5) : Ev X 223 960 [some (.ref X.2.2.2.2.1), some (.ref x), some (.ref (x + 139)), some (.ref (x + 148)), some (.ref (x + 149)), some (.int x5), l6, l7, l8] [] (FW w x T pa be Z P C D R Lt V N A l d) n c sl Q := by
  have hh := h
  obtain ⟨⟨cnt, L, tv⟩, ⟨q, q8, z5, v4, past⟩, hP, ⟨s1, s2, s3⟩, -, h8z, ⟨r1, r2, r3⟩, -⟩ := hh
  have hc := tv.1.1.1
  have hN := tv.1.1.2.1
  have h8 := tv.2.2.2.2.2.2.2
  have hp1 : scI X (x5 + 1) = X.2.2.2.2.2.2 (x5 + 1).toNatClampNeg := rfl
  refine L_law_960.mpr (L_law_961.mpr (L_law_962.mpr (L_law_964.mpr (L_law_965.mpr ((L_law_966 i1).mpr (L_law_967.mpr ((L_law_968 h1 h2).mpr (lh_asking fw_x ?_))))))))
  rw [FW_S]
  have hq := q_ask (F := (T 0).1) (G := (T 0).2.1) (S := (T 0).2.2) (y := scI X (x5 + 1)) hB tv
  by_cases hx : hasS (nI L.length) (scI X (x5 + 1)) = 0
  · rw [if_pos hx] at hq
    refine ((sw_asking hc h8).trans (iff_of_eq (if_pos hq))).mpr ?_
    refine Exists.intro (1 : Int32) (And.intro List.mem_cons_self ?_)
    rw [← FW_S]
    refine L_law_971.mpr (L_law_973.mpr (L_law_974.mpr (L_law_975.mpr (L_law_977.mpr (L_law_978.mpr ((L_law_979 i1).mpr ((L_law_980 fw_m (by omega) (by omega)).mpr ?_)))))))
    rw [FW_M]
    refine ((mw_asking tv.2.1.2.1 tv.2.1.1).trans (iff_of_eq (if_pos hx))).mpr ?_
    show Kr _ _ _ _ _ _ _ _ (.inl (some (.int _))) (MW _ _ _ _ _) _
    rw [← FW_M]
    exact tl_12 (k := 1) upd_same (fun z => absurd z (by decide)) (by omega) (by omega) (K _ _ _ _ _ _ _ _ _ _ _ _ _ _ _ _ _ _ _ _ (h.v19) (by omega) (by omega))
  · rw [if_neg hx] at hq
    obtain ⟨a1, a2⟩ := hq
    refine ((sw_asking hc h8).trans (iff_of_eq (if_neg (fun z => a2 (a1.symm.trans z))))).mpr ?_
    show KH _ _ [(NSE, 1)] (.inl (some (.int _))) (SW _ _ _ _ _ _ _ _ _ _ _) _
    rw [← FW_S]
    refine Exists.intro _ (And.intro fw_so ?_)
    refine L_law_971.mpr (L_law_973.mpr (L_law_974.mpr (L_law_975.mpr (L_law_977.mpr (L_law_978.mpr ((L_law_979 i1).mpr ((L_law_980 fw_m (by omega) (by omega)).mpr ?_)))))))
    rw [FW_M]
    refine ((mw_asking tv.2.1.2.1 tv.2.1.1).trans (iff_of_eq (if_neg hx))).mpr ?_
    show Kr _ _ _ _ _ _ _ _ (.inl (some (.int _))) (MW _ _ _ _ _) _
    rw [← FW_M]
    exact tl_12 (k := 0) upd_same (fun _ => updV_0.trans (congrArg (fun z : Int32 => Value.long z.toInt64) (a1))) (by omega) (by omega) (K _ _ _ _ _ _ _ _ _ _ _ _ _ _ _ _ _ _ _ _ (h.v19) (by omega) (by omega))
theorem cs_26 (h : REL B T pa be Z P C R Lt V N A) (hB : B < 2 ^ 30) (h1 : c + 1 ≤ 603072) (h2 : sl + 6 ≤ 7219306) (i1 : inr_ (x5 + 1) X.2.2.2.2.2.1 = true) (K : HND X Q w x c sl B x5) : Ev X 223 1440 [some (.ref X.2.2.2.2.1), some (.ref x), some (.ref (x + 139)), some (.ref (x + 148)), some (.ref (x + 149)), some (.int x5), l6, l7, l8] [] (FW w x T pa be Z P C D R Lt V N A l d) n c sl Q := by
  have hh := h
  obtain ⟨⟨cnt, L, tv⟩, ⟨q, q8, z5, v4, past⟩, hP, ⟨s1, s2, s3⟩, -, h8z, ⟨r1, r2, r3⟩, -⟩ := hh
  have hc := tv.1.1.1
  have hN := tv.1.1.2.1
  have h8 := tv.2.2.2.2.2.2.2
  have hp1 : scI X (x5 + 1) = X.2.2.2.2.2.2 (x5 + 1).toNatClampNeg := rfl
  refine L_law_1440.mpr (L_law_1441.mpr (L_law_1442.mpr (L_law_1444.mpr (L_law_1445.mpr ((L_law_1446 i1).mpr (L_law_1447.mpr ((L_law_1448 h1 h2).mpr (lh_reason fw_x ?_))))))))
  rw [FW_S]
  have e : ∀ (y : Int32), inF y 0 2 = 0 ↔ (y < 0 ∨ 2 < y) := fun y => by
    unfold inF
    by_cases a : y < 0
    · rw [if_pos a]; exact ⟨fun _ => Or.inl a, fun _ => rfl⟩
    · rw [if_neg a]
      by_cases b : 2 < y
      · rw [if_pos b]; exact ⟨fun _ => Or.inr b, fun _ => rfl⟩
      · rw [if_neg b]; exact ⟨fun z => absurd z (by decide), fun z => absurd z (fun z => z.elim a b)⟩
  by_cases hx : inF (scI X (x5 + 1)) 0 2 = 0
  · rcases (e _).mp hx with hy | hy
    · refine (sw_reason.trans (iff_of_eq (if_pos hy))).mpr ?_
      refine Exists.intro (1 : Int32) (And.intro List.mem_cons_self ?_)
      rw [← FW_S]
      refine L_law_1451.mpr (L_law_1453.mpr (L_law_1454.mpr (L_law_1455.mpr (L_law_1457.mpr (L_law_1458.mpr ((L_law_1459 i1).mpr ((L_law_1460 fw_m (by omega) (by omega)).mpr ?_)))))))
      rw [FW_M]
      refine (mw_reason.trans (iff_of_eq (if_pos hx))).mpr ?_
      show Kr _ _ _ _ _ _ _ _ (.inl (some (.int _))) (MW _ _ _ _ _) _
      rw [← FW_M]
      exact tl_26 (k := 1) upd_same (fun z => absurd z (by decide)) (by omega) (by omega) (K _ _ _ _ _ _ _ _ _ _ _ _ _ _ _ _ _ _ _ _ (h.v19) (by omega) (by omega))
    · by_cases hz : scI X (x5 + 1) < 0
      · refine (sw_reason.trans (iff_of_eq (if_pos hz))).mpr ?_
        refine Exists.intro (1 : Int32) (And.intro List.mem_cons_self ?_)
        rw [← FW_S]
        refine L_law_1451.mpr (L_law_1453.mpr (L_law_1454.mpr (L_law_1455.mpr (L_law_1457.mpr (L_law_1458.mpr ((L_law_1459 i1).mpr ((L_law_1460 fw_m (by omega) (by omega)).mpr ?_)))))))
        rw [FW_M]
        refine (mw_reason.trans (iff_of_eq (if_pos hx))).mpr ?_
        show Kr _ _ _ _ _ _ _ _ (.inl (some (.int _))) (MW _ _ _ _ _) _
        rw [← FW_M]
        exact tl_26 (k := 1) upd_same (fun z => absurd z (by decide)) (by omega) (by omega) (K _ _ _ _ _ _ _ _ _ _ _ _ _ _ _ _ _ _ _ _ (h.v19) (by omega) (by omega))
      · refine (sw_reason.trans (iff_of_eq ((if_neg hz).trans (if_pos hy)))).mpr ?_
        refine Exists.intro (1 : Int32) (And.intro List.mem_cons_self ?_)
        rw [← FW_S]
        refine L_law_1451.mpr (L_law_1453.mpr (L_law_1454.mpr (L_law_1455.mpr (L_law_1457.mpr (L_law_1458.mpr ((L_law_1459 i1).mpr ((L_law_1460 fw_m (by omega) (by omega)).mpr ?_)))))))
        rw [FW_M]
        refine (mw_reason.trans (iff_of_eq (if_pos hx))).mpr ?_
        show Kr _ _ _ _ _ _ _ _ (.inl (some (.int _))) (MW _ _ _ _ _) _
        rw [← FW_M]
        exact tl_26 (k := 1) upd_same (fun z => absurd z (by decide)) (by omega) (by omega) (K _ _ _ _ _ _ _ _ _ _ _ _ _ _ _ _ _ _ _ _ (h.v19) (by omega) (by omega))
  · have hy1 : ¬ scI X (x5 + 1) < 0 := fun z => hx ((e _).mpr (Or.inl z))
    have hy2 : ¬ 2 < scI X (x5 + 1) := fun z => hx ((e _).mpr (Or.inr z))
    by_cases hr : R 0 = 0
    · refine (sw_reason.trans (iff_of_eq ((if_neg hy1).trans ((if_neg hy2).trans (if_pos hr))))).mpr ?_
      refine Exists.intro (2 : Int32) (And.intro (List.mem_cons_of_mem _ List.mem_cons_self) ?_)
      rw [← FW_S]
      refine L_law_1451.mpr (L_law_1453.mpr (L_law_1454.mpr (L_law_1455.mpr (L_law_1457.mpr (L_law_1458.mpr ((L_law_1459 i1).mpr ((L_law_1460 fw_m (by omega) (by omega)).mpr ?_)))))))
      rw [FW_M]
      refine (mw_reason.trans (iff_of_eq ((if_neg hx).trans (if_pos (r1.symm.trans hr))))).mpr ?_
      show Kr _ _ _ _ _ _ _ _ (.inl (some (.int _))) (MW _ _ _ _ _) _
      rw [← FW_M]
      exact tl_26 (k := 2) upd_same (fun z => absurd z (by decide)) (by omega) (by omega) (K _ _ _ _ _ _ _ _ _ _ _ _ _ _ _ _ _ _ _ _ (h.v19) (by omega) (by omega))
    · refine (sw_reason.trans (iff_of_eq ((if_neg hy1).trans ((if_neg hy2).trans (if_neg hr))))).mpr ?_
      show KH _ _ [(IAE, 1), (NSE, 2)] (.inl (some (.int _))) (SW _ _ _ _ _ _ _ _ _ _ _) _
      rw [← FW_S]
      refine Exists.intro _ (And.intro fw_so ?_)
      refine L_law_1451.mpr (L_law_1453.mpr (L_law_1454.mpr (L_law_1455.mpr (L_law_1457.mpr (L_law_1458.mpr ((L_law_1459 i1).mpr ((L_law_1460 fw_m (by omega) (by omega)).mpr ?_)))))))
      rw [FW_M]
      refine (mw_reason.trans (iff_of_eq ((if_neg hx).trans (if_neg (fun z => hr (r1.trans z)))))).mpr ?_
      show Kr _ _ _ _ _ _ _ _ (.inl (some (.int _))) (MW _ _ _ _ _) _
      rw [← FW_M]
      exact tl_26 (k := 0) upd_same (fun _ => updV_0.trans (congrArg (fun z : Int32 => Value.long z.toInt64) (by rw [r1, r2, r3]))) (by omega) (by omega) (K _ _ _ _ _ _ _ _ _ _ _ _ _ _ _ _ _ _ _ _ (h.v19) (by omega) (by omega))
end QTL
