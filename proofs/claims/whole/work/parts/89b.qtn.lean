/-! ===== the law: looks ahead, neighbours, characters, snapshots ===== -/
section QTL3
variable {X : Cxt} {w : Wld} {n : Option Nat} {Q : (Option Value ⊕ String) → Wld → Option Nat → Prop} {x c sl B : Nat} {T : Nat → Tb} {pa : Nat → Nat} {be : Nat} {Z P C D R Lt V N : Nat → Int32} {A : Nat → Nat → Int32} {l d : Nat → Value} {x5 : Int32} {l6 l7 l8 : Option Value}
theorem cs_18 (h : REL B T pa be Z P C R Lt V N A) (hB : B + 99 < 2 ^ 30) (h1 : c + 1 ≤ 603072) (h2 : sl + 6 ≤ 7219306) (i1 : inr_ (x5 + 1) X.2.2.2.2.2.1 = true) (K : HND X Q w x c sl B x5) : Ev X 223 1081 [some (.ref X.2.2.2.2.1), some (.ref x), some (.ref (x + 139)), some (.ref (x + 148)), some (.ref (x + 149)), some (.int x5), l6, l7, l8] [] (FW w x T pa be Z P C D R Lt V N A l d) n c sl Q := by
  have hh := h
  obtain ⟨⟨cnt, L, tv⟩, ⟨q, q8, z5, v4, past⟩, hP, ⟨s1, s2, s3⟩, -, h8z, ⟨r1, r2, r3⟩, -⟩ := hh
  have hc := tv.1.1.1
  have hN := tv.1.1.2.1
  have h8 := tv.2.2.2.2.2.2.2
  have hp1 : scI X (x5 + 1) = X.2.2.2.2.2.2 (x5 + 1).toNatClampNeg := rfl
  refine L_law_1081.mpr (L_law_1082.mpr (L_law_1083.mpr (L_law_1085.mpr (L_law_1086.mpr ((L_law_1087 i1).mpr (L_law_1088.mpr ((L_law_1089 h1 h2).mpr (lh_mealsIn fw_x ?_))))))))
  rw [FW_S]
  obtain ⟨I, hT, hI⟩ : ∃ I, TI cnt I ∧ (2 ≤ cnt → ∀ k, k < 100 → I k N) := by
    by_cases c2 : 2 ≤ cnt
    · exact ⟨Ik cnt, Ik_TI c2, fun _ k hk => ⟨T 0, L, B, tv, by omega⟩⟩
    · exact ⟨fun _ _ => False, fun _ _ h => h.elim, fun h => absurd h c2⟩
  by_cases hx : inF (scI X (x5 + 1)) 0 99 = 0
  · have hy : scI X (x5 + 1) < 0 ∨ 99 < scI X (x5 + 1) := by
      unfold inF at hx
      by_cases a : scI X (x5 + 1) < 0
      · exact Or.inl a
      · rw [if_neg a] at hx
        by_cases b : 99 < scI X (x5 + 1)
        · exact Or.inr b
        · rw [if_neg b] at hx; exact absurd hx (by decide)
    refine (sw_mealsIn_bad hy).mpr ?_
    refine Exists.intro (1 : Int32) (And.intro List.mem_cons_self ?_)
    rw [← FW_S]
    refine L_law_1092.mpr (L_law_1094.mpr (L_law_1095.mpr (L_law_1096.mpr (L_law_1098.mpr (L_law_1099.mpr ((L_law_1100 i1).mpr ((L_law_1101 fw_m (by omega) (by omega)).mpr ?_)))))))
    rw [FW_M]
    refine (mw_mealsIn_bad hx).mpr ?_
    show Kr _ _ _ _ _ _ _ _ (.inl (some (.int _))) (MW _ _ _ _ _) _
    rw [← FW_M]
    exact tl_18 (k := 1) upd_same (fun z => absurd z (by decide)) (by omega) (by omega) (K _ _ _ _ _ _ _ _ _ _ _ _ _ _ _ _ _ _ _ _ (h.v19) (by omega) (by omega))
  · obtain ⟨i, -, hi, e1⟩ := inF_nat (a := 0) (b := 99) (by decide) (by decide) hx
    rw [hp1] at e1
    rw [e1]
    refine sw_mealsIn hc h8 (show i < 100 by omega) (fun T2 hT2 => ?_)
    show KH _ _ [(IAE, 1)] (.inl (some (.int _))) (SW _ _ _ _ _ _ _ _ _ _ _) _
    rw [← FW_S]
    refine Exists.intro _ (And.intro fw_so ?_)
    refine L_law_1092.mpr (L_law_1094.mpr (L_law_1095.mpr (L_law_1096.mpr (L_law_1098.mpr (L_law_1099.mpr ((L_law_1100 i1).mpr ((L_law_1101 fw_m (by omega) (by omega)).mpr ?_)))))))
    rw [FW_M, e1]
    refine mw_mealsIn hT hN h8 (fun c2 => hI c2 i (by omega)) (show i < 100 by omega) (fun N2 A2 hN2 hA2 => ?_)
    show Kr _ _ _ _ _ _ _ _ (.inl (some (.int _))) (MW _ _ _ _ _) _
    rw [← FW_M]
    have eq : (if cnt < 2 then 0 else itr (mealsOfAllF (tksF cnt i (mixT T 1 0 1)).2.2) cnt 0 - itr (mealsOfAllF (T 0).2.2) cnt 0) = if cnt < 2 then 0 else (tksN cnt i N).2 := by
      by_cases c2 : cnt < 2
      · rw [if_pos c2, if_pos c2]
      · rw [if_neg c2, if_neg c2]
        have tm : TV cnt 0 (fun _ => B) (fun _ => B) (mixT T 1 0 1) N L := by rw [mixT_s]; exact TV_mix (F := (T 0).1) (G := (T 0).2.1) (S := (T 0).2.2) tv
        obtain ⟨L2, -, c3, -, e2, e3⟩ := tv_ticks (show 2 ≤ cnt by omega) tm i (by omega)
        have e4 : (mixT T 1 0 1).2.2 = (T 0).2.2 := by rw [mixT_s]
        rw [e3, e2, e4, Int32.add_comm, Int32.add_sub_cancel]
    exact tl_18 (k := 0) upd_same (fun _ => updV_0.trans (congrArg (fun z : Int32 => Value.long z.toInt64) eq)) (by omega) (by omega) (K _ _ _ _ _ _ _ _ _ _ _ _ _ _ _ _ _ _ _ _ (((h.tab (fun i e1 _ => hT2 i e1)).v19).ref (fun j hj => rfl) hN2 (fun j hj => hA2 j (by
      simp only [List.mem_cons, List.not_mem_nil, or_false] at hj
      omega))) (by omega) (by omega))
theorem cs_19 (h : REL B T pa be Z P C R Lt V N A) (hB : B + 99 < 2 ^ 30) (h1 : c + 1 ≤ 603072) (h2 : sl + 6 ≤ 7219306)  (K : HND X Q w x c sl B x5) : Ev X 223 1137 [some (.ref X.2.2.2.2.1), some (.ref x), some (.ref (x + 139)), some (.ref (x + 148)), some (.ref (x + 149)), some (.int x5), l6, l7, l8] [] (FW w x T pa be Z P C D R Lt V N A l d) n c sl Q := by
  have hh := h
  obtain ⟨⟨cnt, L, tv⟩, ⟨q, q8, z5, v4, past⟩, hP, ⟨s1, s2, s3⟩, -, h8z, ⟨r1, r2, r3⟩, -⟩ := hh
  have hc := tv.1.1.1
  have hN := tv.1.1.2.1
  have h8 := tv.2.2.2.2.2.2.2
  refine L_law_1137.mpr (L_law_1138.mpr ((L_law_1139 h1 h2).mpr (lh_stuckIn fw_x ?_)))
  rw [FW_S]
  have hM := tv_WM tv
  have tm : TV cnt 0 (fun _ => B) (fun _ => B) (mixT T 1 0 1) N L := by rw [mixT_s]; exact TV_mix (F := (T 0).1) (G := (T 0).2.1) (S := (T 0).2.2) tv
  refine sw_stuckIn (cnt := cnt) ⟨hc, hM.1.2.1⟩ h8 (fun T2 hT2 => ?_)
  by_cases c2 : cnt < 2
  · rw [if_pos c2]
    show KH _ _ [(NSE, 1)] (.inr NSE) (SW _ _ _ _ _ _ _ _ _ _ _) _
    refine Exists.intro (1 : Int32) (And.intro List.mem_cons_self ?_)
    rw [← FW_S]
    refine L_law_1142.mpr (L_law_1144.mpr ((L_law_1145 fw_m (by omega) (by omega)).mpr ?_))
    rw [FW_M]
    refine (mw_stuckIn_few hN c2).mpr ?_
    show Kr _ _ _ _ _ _ _ _ (.inl (some (.int _))) (MW _ _ _ _ _) _
    rw [← FW_M]
    exact tl_19 (k := 1) upd_same (fun z => absurd z (by decide)) (by omega) (by omega) (K _ _ _ _ _ _ _ _ _ _ _ _ _ _ _ _ _ _ _ _ ((h.tab (fun i e1 _ => hT2 i e1)).v19) (by omega) (by omega))
  · rw [if_neg c2]
    have h2c : 2 ≤ cnt := by omega
    have es := q_si h2c 99 0 B (mixT T 1 0 1) N L (by omega) tm
    have es : siF cnt 100 0 (mixT T 1 0 1) = if stM cnt (siM cnt 99 0 N).2 = 0 then none else some (siM cnt 99 0 N).1 := es
    rw [es]
    by_cases c3 : stM cnt (siM cnt 99 0 N).2 = 0
    · rw [if_pos c3]
      show KH _ _ [(NSE, 1)] (.inr NSE) (SW _ _ _ _ _ _ _ _ _ _ _) _
      refine Exists.intro (1 : Int32) (And.intro List.mem_cons_self ?_)
      rw [← FW_S]
      refine L_law_1142.mpr (L_law_1144.mpr ((L_law_1145 fw_m (by omega) (by omega)).mpr ?_))
      rw [FW_M]
      refine mw_stuckIn (Ik_TI h2c) Ik_SI hN h8 h2c ⟨T 0, L, B, tv, hB⟩ (fun N2 A2 hN2 hA2 => ?_)
      rw [if_pos c3]
      show Kr _ _ _ _ _ _ _ _ (.inl (some (.int _))) (MW _ _ _ _ _) _
      rw [← FW_M]
      exact tl_19 (k := 1) upd_same (fun z => absurd z (by decide)) (by omega) (by omega) (K _ _ _ _ _ _ _ _ _ _ _ _ _ _ _ _ _ _ _ _ (((h.tab (fun i e1 _ => hT2 i e1)).v19).ref (fun j hj => rfl) hN2 (fun j hj => hA2 j (by
        simp only [List.mem_cons, List.not_mem_nil, or_false] at hj
        omega))) (by omega) (by omega))
    · rw [if_neg c3]
      show KH _ _ [(NSE, 1)] (.inl (some (.int _))) (SW _ _ _ _ _ _ _ _ _ _ _) _
      rw [← FW_S]
      refine Exists.intro _ (And.intro fw_so ?_)
      refine L_law_1142.mpr (L_law_1144.mpr ((L_law_1145 fw_m (by omega) (by omega)).mpr ?_))
      rw [FW_M]
      refine mw_stuckIn (Ik_TI h2c) Ik_SI hN h8 h2c ⟨T 0, L, B, tv, hB⟩ (fun N2 A2 hN2 hA2 => ?_)
      rw [if_neg c3]
      show Kr _ _ _ _ _ _ _ _ (.inl (some (.int _))) (MW _ _ _ _ _) _
      rw [← FW_M]
      exact tl_19 (k := 0) upd_same (fun _ => updV_0) (by omega) (by omega) (K _ _ _ _ _ _ _ _ _ _ _ _ _ _ _ _ _ _ _ _ (((h.tab (fun i e1 _ => hT2 i e1)).v19).ref (fun j hj => rfl) hN2 (fun j hj => hA2 j (by
        simp only [List.mem_cons, List.not_mem_nil, or_false] at hj
        omega))) (by omega) (by omega))
theorem cs_22 (h : REL B T pa be Z P C R Lt V N A) (hB : B + 99 < 2 ^ 30) (h1 : c + 1 ≤ 603072) (h2 : sl + 6 ≤ 7219306) (i1 : inr_ (x5 + 1) X.2.2.2.2.2.1 = true) (i2 : inr_ (x5 + 2) X.2.2.2.2.2.1 = true) (K : HND X Q w x c sl B x5) : Ev X 223 1250 [some (.ref X.2.2.2.2.1), some (.ref x), some (.ref (x + 139)), some (.ref (x + 148)), some (.ref (x + 149)), some (.int x5), l6, l7, l8] [] (FW w x T pa be Z P C D R Lt V N A l d) n c sl Q := by
  have hh := h
  obtain ⟨⟨cnt, L, tv⟩, ⟨q, q8, z5, v4, past⟩, hP, ⟨s1, s2, s3⟩, -, h8z, ⟨r1, r2, r3⟩, -⟩ := hh
  have hc := tv.1.1.1
  have hN := tv.1.1.2.1
  have h8 := tv.2.2.2.2.2.2.2
  have hp1 : scI X (x5 + 1) = X.2.2.2.2.2.2 (x5 + 1).toNatClampNeg := rfl
  have hp2 : scI X (x5 + 2) = X.2.2.2.2.2.2 (x5 + 2).toNatClampNeg := rfl
  refine L_law_1250.mpr (L_law_1251.mpr (L_law_1252.mpr (L_law_1254.mpr (L_law_1255.mpr ((L_law_1256 i1).mpr (L_law_1257.mpr (L_law_1258.mpr (L_law_1260.mpr (L_law_1261.mpr ((L_law_1262 i2).mpr (L_law_1263.mpr ((L_law_1264 h1 h2).mpr (lh_areNeighbours fw_x ?_)))))))))))))
  rw [FW_S]
  by_cases hx : hasS (nI cnt) (scI X (x5 + 1)) = 0 ∨ hasS (nI cnt) (scI X (x5 + 2)) = 0
  · have hx2 : hasS ((T 0).1 2) (scI X (x5 + 1)) = 0 ∨ hasS ((T 0).1 2) (scI X (x5 + 2)) = 0 := by rw [hc]; exact hx
    refine (sw_areNeighbours_out hx2).mpr ?_
    refine Exists.intro (1 : Int32) (And.intro List.mem_cons_self ?_)
    rw [← FW_S]
    refine L_law_1267.mpr (L_law_1269.mpr (L_law_1270.mpr (L_law_1271.mpr (L_law_1273.mpr (L_law_1274.mpr ((L_law_1275 i1).mpr (L_law_1276.mpr (L_law_1277.mpr (L_law_1279.mpr (L_law_1280.mpr ((L_law_1281 i2).mpr ((L_law_1282 fw_m (by omega) (by omega)).mpr ?_))))))))))))
    rw [FW_M]
    refine (mw_areNeighbours_out hN h8 hx).mpr ?_
    show Kr _ _ _ _ _ _ _ _ (.inl (some (.int _))) (MW _ _ _ _ _) _
    rw [← FW_M]
    exact tl_22 (k := 1) upd_same (fun z => absurd z (by decide)) (by omega) (by omega) (K _ _ _ _ _ _ _ _ _ _ _ _ _ _ _ _ _ _ _ _ (h.v19) (by omega) (by omega))
  · have hx1 : ¬ hasS (nI cnt) (scI X (x5 + 1)) = 0 := fun z => hx (Or.inl z)
    have hx3 : ¬ hasS (nI cnt) (scI X (x5 + 2)) = 0 := fun z => hx (Or.inr z)
    have hx2 : ¬ hasS ((T 0).1 2) (scI X (x5 + 1)) = 0 := by rw [hc]; exact hx1
    have hx4 : ¬ hasS ((T 0).1 2) (scI X (x5 + 2)) = 0 := by rw [hc]; exact hx3
    obtain ⟨k, hk, e1⟩ := hasS_k h8 hx1
    obtain ⟨i, hi, e2⟩ := hasS_k h8 hx3
    refine (sw_areNeighbours hx2 hx4).mpr ?_
    show KHB _ _ [(IOO, 1)] (.inl (some (.int _))) (SW _ _ _ _ _ _ _ _ _ _ _) _
    rw [← FW_S]
    refine Exists.intro _ (And.intro fw_so ?_)
    have eq : neiF ((T 0).1 2) (scI X (x5 + 1)) (scI X (x5 + 2)) = neM cnt k i := by rw [hc, e1, e2]; exact q_nei h8 hk hi
    rw [hp1] at e1
    rw [hp2] at e2
    refine L_law_1267.mpr (L_law_1269.mpr (L_law_1270.mpr (L_law_1271.mpr (L_law_1273.mpr (L_law_1274.mpr ((L_law_1275 i1).mpr (L_law_1276.mpr (L_law_1277.mpr (L_law_1279.mpr (L_law_1280.mpr ((L_law_1281 i2).mpr ((L_law_1282 fw_m (by omega) (by omega)).mpr ?_))))))))))))
    rw [FW_M, e1, e2]
    refine (mw_areNeighbours hN h8 hk hi).mpr ?_
    show Kr _ _ _ _ _ _ _ _ (.inl (some (.int _))) (MW _ _ _ _ _) _
    rw [← FW_M]
    exact tl_22 (k := 0) upd_same (fun _ => updV_0.trans (congrArg (fun z : Int32 => Value.long (if z = 0 then 0 else 1)) eq)) (by omega) (by omega) (K _ _ _ _ _ _ _ _ _ _ _ _ _ _ _ _ _ _ _ _ (h.v19) (by omega) (by omega))
theorem cs_28 (h : REL B T pa be Z P C R Lt V N A) (hB : B + 99 < 2 ^ 30) (h1 : c + 1 ≤ 603072) (h2 : sl + 6 ≤ 7219306) (i1 : inr_ (x5 + 1) X.2.2.2.2.2.1 = true) (K : HND X Q w x c sl B x5) : Ev X 223 1509 [some (.ref X.2.2.2.2.1), some (.ref x), some (.ref (x + 139)), some (.ref (x + 148)), some (.ref (x + 149)), some (.int x5), l6, l7, l8] [] (FW w x T pa be Z P C D R Lt V N A l d) n c sl Q := by
  have hh := h
  obtain ⟨⟨cnt, L, tv⟩, ⟨q, q8, z5, v4, past⟩, hP, ⟨s1, s2, s3⟩, -, h8z, ⟨r1, r2, r3⟩, ⟨l9, m1, m2, m3, m4⟩⟩ := hh
  have hc := tv.1.1.1
  have hN := tv.1.1.2.1
  have h8 := tv.2.2.2.2.2.2.2
  have hp1 : scI X (x5 + 1) = X.2.2.2.2.2.2 (x5 + 1).toNatClampNeg := rfl
  refine L_law_1509.mpr (L_law_1510.mpr (L_law_1511.mpr (L_law_1513.mpr (L_law_1514.mpr ((L_law_1515 i1).mpr (L_law_1516.mpr ((L_law_1517 h1 h2).mpr (lh_character fw_x ?_))))))))
  rw [FW_S]
  have k1 : ∀ k, k < l9 → okr (some .char) (Lt k) = true := fun k hk => (m4 k hk).2
  have k2 : ∀ k, k < l9 → okr (some .char) (A 6 k) = true := fun k hk => by rw [← (m4 k hk).1]; exact k1 k hk
  by_cases hx : hasS (nI l9) (scI X (x5 + 1)) = 0
  · refine ((sw_character m2 m1 k1).trans (iff_of_eq (if_pos hx))).mpr ?_
    refine Exists.intro (1 : Int32) (And.intro List.mem_cons_self ?_)
    rw [← FW_S]
    refine L_law_1520.mpr (L_law_1522.mpr (L_law_1523.mpr (L_law_1524.mpr (L_law_1526.mpr (L_law_1527.mpr ((L_law_1528 i1).mpr ((L_law_1529 fw_m (by omega) (by omega)).mpr ?_)))))))
    rw [FW_M]
    refine ((mw_character m3 (by omega) k2).trans (iff_of_eq (if_pos hx))).mpr ?_
    show Kr _ _ _ _ _ _ _ _ (.inl (some (.int _))) (MW _ _ _ _ _) _
    rw [← FW_M]
    exact tl_28 (k := 1) upd_same (fun z => absurd z (by decide)) (by omega) (by omega) (K _ _ _ _ _ _ _ _ _ _ _ _ _ _ _ _ _ _ _ _ (h.v19) (by omega) (by omega))
  · have hlt : (scI X (x5 + 1)).toNatClampNeg < l9 := by
      unfold hasS at hx
      by_cases c0 : scI X (x5 + 1) < 0
      · rw [if_pos c0] at hx; exact absurd rfl hx
      · rw [if_neg c0] at hx
        obtain ⟨i, hi, e1⟩ := nI_of c0
        rw [e1] at hx ⊢
        rw [nI_clamp hi]
        by_cases d : nI i < nI l9
        · exact (nI_ltI hi (by omega)).mp d
        · rw [if_neg d] at hx; exact absurd rfl hx
    refine ((sw_character m2 m1 k1).trans (iff_of_eq (if_neg hx))).mpr ?_
    show KH _ _ [(IOO, 1)] (.inl (some (.int _))) (SW _ _ _ _ _ _ _ _ _ _ _) _
    rw [← FW_S]
    refine Exists.intro _ (And.intro fw_so ?_)
    refine L_law_1520.mpr (L_law_1522.mpr (L_law_1523.mpr (L_law_1524.mpr (L_law_1526.mpr (L_law_1527.mpr ((L_law_1528 i1).mpr ((L_law_1529 fw_m (by omega) (by omega)).mpr ?_)))))))
    rw [FW_M]
    refine ((mw_character m3 (by omega) k2).trans (iff_of_eq (if_neg hx))).mpr ?_
    show Kr _ _ _ _ _ _ _ _ (.inl (some (.int _))) (MW _ _ _ _ _) _
    rw [← FW_M]
    exact tl_28 (k := 0) upd_same (fun _ => updV_0.trans (congrArg (fun z : Int32 => Value.long z.toInt64) ((m4 _ hlt).1))) (by omega) (by omega) (K _ _ _ _ _ _ _ _ _ _ _ _ _ _ _ _ _ _ _ _ (h.v19) (by omega) (by omega))
theorem cs_33 (h : REL B T pa be Z P C R Lt V N A) (hB : B < 2 ^ 30) (h1 : c + 1 ≤ 603072) (h2 : sl + 6 ≤ 7219306) (K : HND X Q w x c sl B x5) : Ev X 223 1796 [some (.ref X.2.2.2.2.1), some (.ref x), some (.ref (x + 139)), some (.ref (x + 148)), some (.ref (x + 149)), some (.int x5), l6, l7, l8] [] (FW w x T pa be Z P C D R Lt V N A l d) n c sl Q := by
  have hh := h
  obtain ⟨⟨cnt, L, tv⟩, ⟨q, q8, z5, v4, past⟩, hP, -⟩ := hh
  refine L_law_1796.mpr ((L_law_1797 fw_x (by omega) (by omega)).mpr ?_)
  rw [FW_S]
  refine sw_save.mpr ?_
  show Kr _ _ _ _ _ _ _ _ (.inl (some (.int _))) (SW _ _ _ _ _ _ _ _ _ _ _) _
  rw [← FW_S]
  refine L_law_1800.mpr ((L_law_1801 fw_m (by omega) (by omega)).mpr ?_)
  rw [FW_M]
  refine mw_save.mpr ?_
  show Kr _ _ _ _ _ _ _ _ (.inl (some (.int _))) (MW _ _ _ _ _) _
  rw [← FW_M]
  refine L_law_1804.mpr ?_
  rw [if_pos (tv.1.1.1.trans tv.1.1.2.1.symm)]
  refine K _ _ _ _ _ _ _ _ _ _ _ _ _ _ _ _ _ _ _ _ ?_ (by omega) (by omega)
  obtain ⟨g1, g2, g3, g4, g5, g6, g7, g8⟩ := h
  refine ⟨by rw [mixT_o (by decide)]; exact g1, ⟨q, q8, z5, v4, fun k hk => ?_⟩, hP, ⟨rfl, Or.inr rfl, fun _ => ?_⟩, g5, g6, g7, g8⟩
  · have := hP.1 k (by omega)
    rw [mixT_o (by omega), updT_o (by decide)]
    exact past k hk
  · rw [mixT_s, updT_s]
    exact g1.mix.cp (fun i hi => if_pos hi)
end QTL3
