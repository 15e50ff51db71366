/-! ===== the law: more questions that may throw ===== -/
section QTL2
variable {X : Cxt} {w : Wld} {n : Option Nat} {Q : (Option Value ⊕ String) → Wld → Option Nat → Prop} {x c sl B : Nat} {T : Nat → Tb} {pa : Nat → Nat} {be : Nat} {Z P C D R Lt V N : Nat → Int32} {A : Nat → Nat → Int32} {l d : Nat → Value} {x5 : Int32} {l6 l7 l8 : Option Value}
theorem cs_20 (h : REL B T pa be Z P C R Lt V N A) (hB : B < 2 ^ 30) (h1 : c + 1 ≤ 603072) (h2 : sl + 6 ≤ 7219306) (i1 : inr_ (x5 + 1) X.2.2.2.2.2.1 = true) (K : HND X Q w x c sl B x5) : Ev X 223 1181 [some (.ref X.2.2.2.2.1), some (.ref x), some (.ref (x + 139)), some (.ref (x + 148)), some (.ref (x + 149)), some (.int x5), l6, l7, l8] [] (FW w x T pa be Z P C D R Lt V N A l d) n c sl Q := by
  have hh := h
  obtain ⟨⟨cnt, L, tv⟩, ⟨q, q8, z5, v4, past⟩, hP, ⟨s1, s2, s3⟩, -, h8z, ⟨r1, r2, r3⟩, -⟩ := hh
  have hc := tv.1.1.1
  have hN := tv.1.1.2.1
  have h8 := tv.2.2.2.2.2.2.2
  have hp1 : scI X (x5 + 1) = X.2.2.2.2.2.2 (x5 + 1).toNatClampNeg := rfl
  refine L_law_1181.mpr (L_law_1182.mpr (L_law_1183.mpr (L_law_1185.mpr (L_law_1186.mpr ((L_law_1187 i1).mpr (L_law_1188.mpr ((L_law_1189 h1 h2).mpr (lh_hungriest fw_x ?_))))))))
  rw [FW_S]
  have hq := q_hun (F := (T 0).1) (G := (T 0).2.1) (S := (T 0).2.2) (y := scI X (x5 + 1)) hB tv
  cases hf : ff (hpM cnt N (scI X (x5 + 1))) cnt 0 with
  | none =>
    rw [hf] at hq
    have e1 : oI (ff (hunP cnt (T 0).2.2 (scI X (x5 + 1))) cnt 0) = -1 := by rw [hq]; rfl
    have e2 : ∀ {Q' : (Option Value ⊕ String) → Wld → Option Nat → Prop} {W1 W2 : Wld} {n' : Option Nat}, (match ff (hpM cnt N (scI X (x5 + 1))) cnt 0 with | some j => Q' (.inl (some (.int (nI j)))) W1 n' | none => Q' (.inl (some (.int 0))) W2 n') ↔ Q' (.inl (some (.int 0))) W2 n' := by
      intro Q' W1 W2 n'
      rw [hf]
    refine ((sw_hungriest hc h8).trans (iff_of_eq (if_pos e1))).mpr ?_
    refine Exists.intro (1 : Int32) (And.intro List.mem_cons_self ?_)
    rw [← FW_S]
    refine L_law_1192.mpr (L_law_1194.mpr (L_law_1195.mpr (L_law_1196.mpr (L_law_1198.mpr (L_law_1199.mpr ((L_law_1200 i1).mpr ((L_law_1201 fw_m (by omega) (by omega)).mpr ?_)))))))
    rw [FW_M]
    refine ((mw_hungriest hN h8).trans e2).mpr ?_
    show Kr _ _ _ _ _ _ _ _ (.inl (some (.int _))) (MW _ _ _ _ _) _
    rw [← FW_M]
    exact tl_20 (k := 1) upd_same (fun z => absurd z (by decide)) (by omega) (by omega) (K _ _ _ _ _ _ _ _ _ _ _ _ _ _ _ _ _ _ _ _ (h.v19) (by omega) (by omega))
  | some i =>
    rw [hf] at hq
    have hi : i < cnt := by have := (ff_some hf).2.1; omega
    have e1 : oI (ff (hunP cnt (T 0).2.2 (scI X (x5 + 1))) cnt 0) = nI i := by rw [hq]; rfl
    have e3 : ¬ oI (ff (hunP cnt (T 0).2.2 (scI X (x5 + 1))) cnt 0) = -1 := by rw [e1]; exact sM hi h8
    have e2 : ∀ {Q' : (Option Value ⊕ String) → Wld → Option Nat → Prop} {W1 W2 : Wld} {n' : Option Nat}, (match ff (hpM cnt N (scI X (x5 + 1))) cnt 0 with | some j => Q' (.inl (some (.int (nI j)))) W1 n' | none => Q' (.inl (some (.int 0))) W2 n') ↔ Q' (.inl (some (.int (nI i)))) W1 n' := by
      intro Q' W1 W2 n'
      rw [hf]
    refine ((sw_hungriest hc h8).trans (iff_of_eq (if_neg e3))).mpr ?_
    show KH _ _ [(NSE, 1)] (.inl (some (.int _))) (SW _ _ _ _ _ _ _ _ _ _ _) _
    rw [← FW_S]
    refine Exists.intro _ (And.intro fw_so ?_)
    refine L_law_1192.mpr (L_law_1194.mpr (L_law_1195.mpr (L_law_1196.mpr (L_law_1198.mpr (L_law_1199.mpr ((L_law_1200 i1).mpr ((L_law_1201 fw_m (by omega) (by omega)).mpr ?_)))))))
    rw [FW_M]
    refine ((mw_hungriest hN h8).trans e2).mpr ?_
    show Kr _ _ _ _ _ _ _ _ (.inl (some (.int _))) (MW _ _ _ _ _) _
    rw [← FW_M]
    exact tl_20 (k := 0) upd_same (fun _ => updV_0.trans (congrArg (fun z : Int32 => Value.long z.toInt64) (e1))) (by omega) (by omega) (K _ _ _ _ _ _ _ _ _ _ _ _ _ _ _ _ _ _ _ _ (h.v19) (by omega) (by omega))
theorem cs_31 (h : REL B T pa be Z P C R Lt V N A) (hB : B < 2 ^ 30) (h1 : c + 1 ≤ 603072) (h2 : sl + 6 ≤ 7219306) (i1 : inr_ (x5 + 1) X.2.2.2.2.2.1 = true) (K : HND X Q w x c sl B x5) : Ev X 223 1696 [some (.ref X.2.2.2.2.1), some (.ref x), some (.ref (x + 139)), some (.ref (x + 148)), some (.ref (x + 149)), some (.int x5), l6, l7, l8] [] (FW w x T pa be Z P C D R Lt V N A l d) n c sl Q := by
  have hh := h
  obtain ⟨⟨cnt, L, tv⟩, ⟨q, q8, z5, v4, past⟩, hP, ⟨s1, s2, s3⟩, ⟨L2, t1, t2, t3, -⟩, h8z, ⟨r1, r2, r3⟩, -⟩ := hh
  have hc := tv.1.1.1
  have hN := tv.1.1.2.1
  have h8 := tv.2.2.2.2.2.2.2
  have hp1 : scI X (x5 + 1) = X.2.2.2.2.2.2 (x5 + 1).toNatClampNeg := rfl
  refine L_law_1696.mpr (L_law_1697.mpr (L_law_1698.mpr (L_law_1700.mpr (L_law_1701.mpr ((L_law_1702 i1).mpr (L_law_1703.mpr ((L_law_1704 h1 h2).mpr (lh_account fw_x ?_))))))))
  rw [FW_S]
  by_cases hx : inF (scI X (x5 + 1)) 0 11 = 0
  · have hy : scI X (x5 + 1) < 0 ∨ 11 < scI X (x5 + 1) := by
      unfold inF at hx
      by_cases a : scI X (x5 + 1) < 0
      · exact Or.inl a
      · rw [if_neg a] at hx
        by_cases b : 11 < scI X (x5 + 1)
        · exact Or.inr b
        · rw [if_neg b] at hx; exact absurd hx (by decide)
    refine (sw_account_bad hy).mpr ?_
    refine Exists.intro (1 : Int32) (And.intro List.mem_cons_self ?_)
    rw [← FW_S]
    refine L_law_1707.mpr (L_law_1709.mpr (L_law_1710.mpr (L_law_1711.mpr (L_law_1713.mpr (L_law_1714.mpr ((L_law_1715 i1).mpr ((L_law_1716 fw_m (by omega) (by omega)).mpr ?_)))))))
    rw [FW_M]
    refine (mw_account_bad hy).mpr ?_
    show Kr _ _ _ _ _ _ _ _ (.inl (some (.int _))) (MW _ _ _ _ _) _
    rw [← FW_M]
    exact tl_31 (k := 1) upd_same (fun z => absurd z (by decide)) (by omega) (by omega) (K _ _ _ _ _ _ _ _ _ _ _ _ _ _ _ _ _ _ _ _ (h.v19) (by omega) (by omega))
  · obtain ⟨i, -, hi, e1⟩ := inF_nat (a := 0) (b := 11) (by decide) (by decide) hx
    rw [hp1] at e1
    rw [e1]
    refine (sw_account hc h8 (show i < 12 by omega)).mpr ?_
    show KH _ _ [(IAE, 1)] (.inl (some (.int _))) (SW _ _ _ _ _ _ _ _ _ _ _) _
    rw [← FW_S]
    refine Exists.intro _ (And.intro fw_so ?_)
    refine L_law_1707.mpr (L_law_1709.mpr (L_law_1710.mpr (L_law_1711.mpr (L_law_1713.mpr (L_law_1714.mpr ((L_law_1715 i1).mpr ((L_law_1716 fw_m (by omega) (by omega)).mpr ?_)))))))
    rw [FW_M]
    rw [e1]
    refine (mw_account hN h8 (show i < 12 by omega)).mpr ?_
    show Kr _ _ _ _ _ _ _ _ (.inl (some (.int _))) (MW _ _ _ _ _) _
    rw [← FW_M]
    exact tl_31 (k := 0) upd_same (fun _ => updV_0.trans (congrArg (fun z : Int32 => Value.long z.toInt64) ((q_acc (F := (T 0).1) (G := (T 0).2.1) (S := (T 0).2.2) tv).trans (by rw [z5, v4, t2, t3])))) (by omega) (by omega) (K _ _ _ _ _ _ _ _ _ _ _ _ _ _ _ _ _ _ _ _ (h.v19) (by omega) (by omega))
theorem cs_32 (h : REL B T pa be Z P C R Lt V N A) (hB : B < 2 ^ 30) (h1 : c + 1 ≤ 603072) (h2 : sl + 6 ≤ 7219306)  (K : HND X Q w x c sl B x5) : Ev X 223 1752 [some (.ref X.2.2.2.2.1), some (.ref x), some (.ref (x + 139)), some (.ref (x + 148)), some (.ref (x + 149)), some (.int x5), l6, l7, l8] [] (FW w x T pa be Z P C D R Lt V N A l d) n c sl Q := by
  have hh := h
  obtain ⟨⟨cnt, L, tv⟩, ⟨q, q8, z5, v4, past⟩, hP, ⟨s1, s2, s3⟩, -, h8z, ⟨r1, r2, r3⟩, -⟩ := hh
  have hc := tv.1.1.1
  have hN := tv.1.1.2.1
  have h8 := tv.2.2.2.2.2.2.2
  refine L_law_1752.mpr (L_law_1753.mpr ((L_law_1754 h1 h2).mpr (lh_undo fw_x ?_)))
  rw [FW_S]
  have hb := hP.2.1
  by_cases hx : q = 0
  · refine ((sw_undo z5 q8 hP).trans (iff_of_eq (if_pos hx))).mpr ?_
    refine Exists.intro (1 : Int32) (And.intro List.mem_cons_self ?_)
    rw [← FW_S]
    refine L_law_1757.mpr (L_law_1759.mpr ((L_law_1760 fw_m (by omega) (by omega)).mpr ?_))
    rw [FW_M]
    refine ((mw_undo v4 q8).trans (iff_of_eq (if_pos hx))).mpr ?_
    show Kr _ _ _ _ _ _ _ _ (.inl (some (.int _))) (MW _ _ _ _ _) _
    rw [← FW_M]
    exact tl_32 (k := 1) upd_same (fun z => absurd z (by decide)) (by omega) (by omega) (K _ _ _ _ _ _ _ _ _ _ _ _ _ _ _ _ _ _ _ _ (h.v19) (by omega) (by omega))
  · have hq := past (q - 1) (by omega)
    have hpa := hP.1 (q - 1) (by omega)
    have hrel : REL B (mixT T 0 (pa (q - 1))) pa be (upd Z 5 (nI (q - 1))) P C R Lt (upd (upd V 19 0) 4 (nI (q - 1))) (cpN (fun k => A 4 (103 * (q - 1) + k)) N) A := by
      obtain ⟨-, -, -, g4, g5, g6, g7, g8⟩ := h
      refine ⟨?_, ⟨q - 1, by omega, upd_same, upd_same, fun k hk => ?_⟩, hP, ⟨g4.1, g4.2.1, fun z => ?_⟩, g5, g6, g7, g8⟩
      · rw [mixT_s]
        exact hq.mix.cp (fun i hi => if_pos hi)
      · have := hP.1 k (by omega)
        rw [mixT_o (by omega)]
        exact past k (by omega)
      · rw [mixT_o (by decide)]
        exact g4.2.2 z
    refine ((sw_undo z5 q8 hP).trans (iff_of_eq (if_neg hx))).mpr ?_
    show KH _ _ [(ISE, 1)] (.inl (some (.int _))) (SW _ _ _ _ _ _ _ _ _ _ _) _
    rw [← FW_S]
    refine Exists.intro _ (And.intro fw_so ?_)
    refine L_law_1757.mpr (L_law_1759.mpr ((L_law_1760 fw_m (by omega) (by omega)).mpr ?_))
    rw [FW_M]
    refine ((mw_undo v4 q8).trans (iff_of_eq (if_neg hx))).mpr ?_
    show Kr _ _ _ _ _ _ _ _ (.inl (some (.int _))) (MW _ _ _ _ _) _
    rw [← FW_M]
    exact tl_32 (k := 0) rfl (fun _ => updV_0.trans (congrArg (fun z : Int32 => Value.long z.toInt64) (rfl))) (by omega) (by omega) (K _ _ _ _ _ _ _ _ _ _ _ _ _ _ _ _ _ _ _ _ (hrel) (by omega) (by omega))
theorem cs_34 (h : REL B T pa be Z P C R Lt V N A) (hB : B < 2 ^ 30) (h1 : c + 1 ≤ 603072) (h2 : sl + 6 ≤ 7219306)  (K : HND X Q w x c sl B x5) : Ev X 223 1809 [some (.ref X.2.2.2.2.1), some (.ref x), some (.ref (x + 139)), some (.ref (x + 148)), some (.ref (x + 149)), some (.int x5), l6, l7, l8] [] (FW w x T pa be Z P C D R Lt V N A l d) n c sl Q := by
  have hh := h
  obtain ⟨⟨cnt, L, tv⟩, ⟨q, q8, z5, v4, past⟩, hP, ⟨s1, s2, s3⟩, -, h8z, ⟨r1, r2, r3⟩, -⟩ := hh
  have hc := tv.1.1.1
  have hN := tv.1.1.2.1
  have h8 := tv.2.2.2.2.2.2.2
  refine L_law_1809.mpr (L_law_1810.mpr ((L_law_1811 h1 h2).mpr (lh_restore fw_x ?_)))
  rw [FW_S]
  by_cases hx : Z 3 = 0
  · refine (sw_restore.trans (iff_of_eq (if_pos hx))).mpr ?_
    refine Exists.intro (1 : Int32) (And.intro List.mem_cons_self ?_)
    rw [← FW_S]
    refine L_law_1814.mpr (L_law_1816.mpr ((L_law_1817 fw_m (by omega) (by omega)).mpr ?_))
    rw [FW_M]
    refine (mw_restore.trans (iff_of_eq (if_pos (s1.symm.trans hx)))).mpr ?_
    show Kr _ _ _ _ _ _ _ _ (.inl (some (.int _))) (MW _ _ _ _ _) _
    rw [← FW_M]
    exact tl_34 (k := 1) upd_same (fun z => absurd z (by decide)) (by omega) (by omega) (K _ _ _ _ _ _ _ _ _ _ _ _ _ _ _ _ _ _ _ _ (h.v19) (by omega) (by omega))
  · have hs := s3 (s2.resolve_left hx)
    have hrel : REL B (mixT T 0 2) pa be (upd Z 5 0) P C R Lt (upd (upd V 19 0) 4 0) (cpN (A 5) N) A := by
      obtain ⟨-, -, -, g4, g5, g6, g7, g8⟩ := h
      refine ⟨?_, ⟨0, by decide, upd_same, upd_same, fun k hk => absurd hk (Nat.not_lt_zero k)⟩, hP, ⟨g4.1, g4.2.1, fun z => ?_⟩, g5, g6, g7, g8⟩
      · rw [mixT_s]
        exact hs.mix.cp (fun i hi => if_pos hi)
      · rw [mixT_o (by decide)]
        exact g4.2.2 z
    obtain ⟨cnt2, L2, tv2⟩ := hs
    refine (sw_restore.trans (iff_of_eq (if_neg hx))).mpr ?_
    show KH _ _ [(ISE, 1)] (.inl (some (.int _))) (SW _ _ _ _ _ _ _ _ _ _ _) _
    rw [← FW_S]
    refine Exists.intro _ (And.intro fw_so ?_)
    refine L_law_1814.mpr (L_law_1816.mpr ((L_law_1817 fw_m (by omega) (by omega)).mpr ?_))
    rw [FW_M]
    refine (mw_restore.trans (iff_of_eq (if_neg (fun z => hx (s1.trans z))))).mpr ?_
    show Kr _ _ _ _ _ _ _ _ (.inl (some (.int _))) (MW _ _ _ _ _) _
    rw [← FW_M]
    exact tl_34 (k := 0) rfl (fun _ => updV_0.trans (congrArg (fun z : Int32 => Value.long z.toInt64) (tv2.1.1.1.trans tv2.1.1.2.1.symm))) (by omega) (by omega) (K _ _ _ _ _ _ _ _ _ _ _ _ _ _ _ _ _ _ _ _ (hrel) (by omega) (by omega))
end QTL2
