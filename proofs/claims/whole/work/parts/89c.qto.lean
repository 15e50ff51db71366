/-! ===== the law: ladles, means ===== -/
section QTL4
variable {X : Cxt} {w : Wld} {n : Option Nat} {Q : (Option Value ⊕ String) → Wld → Option Nat → Prop} {x c sl B : Nat} {T : Nat → Tb} {pa : Nat → Nat} {be : Nat} {Z P C D R Lt V N : Nat → Int32} {A : Nat → Nat → Int32} {l d : Nat → Value} {x5 : Int32} {l6 l7 l8 : Option Value}
theorem cs_9 (h : REL B T pa be Z P C R Lt V N A) (hB : B + 99 < 2 ^ 30) (h1 : c + 1 ≤ 603072) (h2 : sl + 6 ≤ 7219306) (i1 : inr_ (x5 + 1) X.2.2.2.2.2.1 = true) (i2 : inr_ (x5 + 2) X.2.2.2.2.2.1 = true) (K : HND X Q w x c sl B x5) : Ev X 223 764 [some (.ref X.2.2.2.2.1), some (.ref x), some (.ref (x + 139)), some (.ref (x + 148)), some (.ref (x + 149)), some (.int x5), l6, l7, l8] [] (FW w x T pa be Z P C D R Lt V N A l d) n c sl Q := by
  have hh := h
  obtain ⟨⟨cnt, L, tv⟩, ⟨q, q8, z5, v4, past⟩, hP, ⟨s1, s2, s3⟩, -, h8z, ⟨r1, r2, r3⟩, -⟩ := hh
  have hc := tv.1.1.1
  have hN := tv.1.1.2.1
  have h8 := tv.2.2.2.2.2.2.2
  have hp1 : scI X (x5 + 1) = X.2.2.2.2.2.2 (x5 + 1).toNatClampNeg := rfl
  have hp2 : scI X (x5 + 2) = X.2.2.2.2.2.2 (x5 + 2).toNatClampNeg := rfl
  by_cases hz : X.2.2.2.2.2.2 (x5 + 2).toNatClampNeg = 0
  · refine L_law_764.mpr (L_law_765.mpr (L_law_766.mpr (L_law_768.mpr (L_law_769.mpr ((L_law_770 i1).mpr (L_law_771.mpr (L_law_772.mpr (L_law_774.mpr (L_law_775.mpr ((L_law_776 i2).mpr (L_law_777.mpr (?_))))))))))))
    rw [if_pos hz]
    refine L_law_784.mpr (L_law_785.mpr ((L_law_786 h1 h2).mpr (lh_ladle fw_x ?_)))
    rw [FW_S]
    by_cases hx : hasS (nI cnt) (scI X (x5 + 1)) = 0
    · have hx2 : hasS ((T 0).1 2) (scI X (x5 + 1)) = 0 := by rw [hc]; exact hx
      refine (sw_ladle_out hx2).mpr ?_
      refine Exists.intro (1 : Int32) (And.intro List.mem_cons_self ?_)
      rw [← FW_S]
      refine L_law_789.mpr (L_law_791.mpr (L_law_792.mpr (L_law_793.mpr (L_law_795.mpr (L_law_796.mpr ((L_law_797 i1).mpr (L_law_798.mpr (L_law_799.mpr (L_law_801.mpr (L_law_802.mpr ((L_law_803 i2).mpr (L_law_804.mpr (?_)))))))))))))
      rw [if_pos hz]
      refine L_law_811.mpr ((L_law_812 fw_m (by omega) (by omega)).mpr ?_)
      rw [FW_M]
      refine (mw_ladle_out hN h8 hx).mpr ?_
      show Kr _ _ _ _ _ _ _ _ (.inl (some (.int _))) (MW _ _ _ _ _) _
      rw [← FW_M]
      exact tl_9 (k := 1) upd_same (fun z => absurd z (by decide)) (by omega) (by omega) (K _ _ _ _ _ _ _ _ _ _ _ _ _ _ _ _ _ _ _ _ (h.v19) (by omega) (by omega))
    · obtain ⟨k, hk, e1⟩ := hasS_k h8 hx
      rw [hp1] at e1
      rw [e1]
      refine (sw_ladle hc h8 hk).mpr ?_
      show KH _ _ [(IOO, 1)] (.inl (some (.int _))) (SW _ _ _ _ _ _ _ _ _ _ _) _
      rw [← FW_S]
      refine Exists.intro _ (And.intro fw_so ?_)
      refine L_law_789.mpr (L_law_791.mpr (L_law_792.mpr (L_law_793.mpr (L_law_795.mpr (L_law_796.mpr ((L_law_797 i1).mpr (L_law_798.mpr (L_law_799.mpr (L_law_801.mpr (L_law_802.mpr ((L_law_803 i2).mpr (L_law_804.mpr (?_)))))))))))))
      rw [if_pos hz]
      refine L_law_811.mpr ((L_law_812 fw_m (by omega) (by omega)).mpr ?_)
      rw [FW_M]
      rw [e1]
      refine (mw_ladle hN h8 hk).mpr ?_
      show Kr _ _ _ _ _ _ _ _ (.inl (some (.int _))) (MW _ _ _ _ _) _
      rw [← FW_M]
      exact tl_9 (k := 0) upd_same (fun _ => updV_0.trans (congrArg (fun z : Int32 => Value.long z.toInt64) (congrArg nI (q_lad (F := (T 0).1) (G := (T 0).2.1) (S := (T 0).2.2) (b := 0) tv hk (Or.inl rfl)).symm))) (by omega) (by omega) (K _ _ _ _ _ _ _ _ _ _ _ _ _ _ _ _ _ _ _ _ (h.v19) (by omega) (by omega))
  · refine L_law_764.mpr (L_law_765.mpr (L_law_766.mpr (L_law_768.mpr (L_law_769.mpr ((L_law_770 i1).mpr (L_law_771.mpr (L_law_772.mpr (L_law_774.mpr (L_law_775.mpr ((L_law_776 i2).mpr (L_law_777.mpr (?_))))))))))))
    rw [if_neg hz]
    refine L_law_780.mpr (L_law_781.mpr (L_law_785.mpr ((L_law_786 h1 h2).mpr (lh_ladle fw_x ?_))))
    rw [FW_S]
    by_cases hx : hasS (nI cnt) (scI X (x5 + 1)) = 0
    · have hx2 : hasS ((T 0).1 2) (scI X (x5 + 1)) = 0 := by rw [hc]; exact hx
      refine (sw_ladle_out hx2).mpr ?_
      refine Exists.intro (1 : Int32) (And.intro List.mem_cons_self ?_)
      rw [← FW_S]
      refine L_law_789.mpr (L_law_791.mpr (L_law_792.mpr (L_law_793.mpr (L_law_795.mpr (L_law_796.mpr ((L_law_797 i1).mpr (L_law_798.mpr (L_law_799.mpr (L_law_801.mpr (L_law_802.mpr ((L_law_803 i2).mpr (L_law_804.mpr (?_)))))))))))))
      rw [if_neg hz]
      refine L_law_807.mpr (L_law_808.mpr ((L_law_812 fw_m (by omega) (by omega)).mpr ?_))
      rw [FW_M]
      refine (mw_ladle_out hN h8 hx).mpr ?_
      show Kr _ _ _ _ _ _ _ _ (.inl (some (.int _))) (MW _ _ _ _ _) _
      rw [← FW_M]
      exact tl_9 (k := 1) upd_same (fun z => absurd z (by decide)) (by omega) (by omega) (K _ _ _ _ _ _ _ _ _ _ _ _ _ _ _ _ _ _ _ _ (h.v19) (by omega) (by omega))
    · obtain ⟨k, hk, e1⟩ := hasS_k h8 hx
      rw [hp1] at e1
      rw [e1]
      refine (sw_ladle hc h8 hk).mpr ?_
      show KH _ _ [(IOO, 1)] (.inl (some (.int _))) (SW _ _ _ _ _ _ _ _ _ _ _) _
      rw [← FW_S]
      refine Exists.intro _ (And.intro fw_so ?_)
      refine L_law_789.mpr (L_law_791.mpr (L_law_792.mpr (L_law_793.mpr (L_law_795.mpr (L_law_796.mpr ((L_law_797 i1).mpr (L_law_798.mpr (L_law_799.mpr (L_law_801.mpr (L_law_802.mpr ((L_law_803 i2).mpr (L_law_804.mpr (?_)))))))))))))
      rw [if_neg hz]
      refine L_law_807.mpr (L_law_808.mpr ((L_law_812 fw_m (by omega) (by omega)).mpr ?_))
      rw [FW_M]
      rw [e1]
      refine (mw_ladle hN h8 hk).mpr ?_
      show Kr _ _ _ _ _ _ _ _ (.inl (some (.int _))) (MW _ _ _ _ _) _
      rw [← FW_M]
      exact tl_9 (k := 0) upd_same (fun _ => updV_0.trans (congrArg (fun z : Int32 => Value.long z.toInt64) (congrArg nI (q_lad (F := (T 0).1) (G := (T 0).2.1) (S := (T 0).2.2) (b := 1) tv hk (Or.inr rfl)).symm))) (by omega) (by omega) (K _ _ _ _ _ _ _ _ _ _ _ _ _ _ _ _ _ _ _ _ (h.v19) (by omega) (by omega))
theorem cs_29 (h : REL B T pa be Z P C R Lt V N A) (hB : B ≤ 2 ^ 24) (h1 : c + 1 ≤ 603072) (h2 : sl + 6 ≤ 7219306) (K : HND X Q w x c sl B x5) : Ev X 223 1565 [some (.ref X.2.2.2.2.1), some (.ref x), some (.ref (x + 139)), some (.ref (x + 148)), some (.ref (x + 149)), some (.int x5), l6, l7, l8] [] (FW w x T pa be Z P C D R Lt V N A l d) n c sl Q := by
  have hh := h
  obtain ⟨⟨cnt, L, tv⟩, -⟩ := hh
  have hc := tv.1.1.1
  have hN := tv.1.1.2.1
  have h8 := tv.2.2.2.2.2.2.2
  refine L_law_1565.mpr (L_law_1566.mpr ((L_law_1568 h1 h2).mpr (lh_meanWait fw_x ?_)))
  rw [FW_S]
  have q5 := q_all5 (F := (T 0).1) (G := (T 0).2.1) (S := (T 0).2.2) tv
  have q6 := q_all6 (F := (T 0).1) (G := (T 0).2.1) (S := (T 0).2.2) tv
  refine (sw_meanWait hc h8 (fun z => n64_mean z)).mpr ?_
  by_cases hx : itr (mealsOfAllF (T 0).2.2) cnt 0 = 0
  · rw [if_pos hx]
    refine Exists.intro (1 : Int32) (And.intro List.mem_cons_self ?_)
    rw [← FW_S]
    refine L_law_1571.mpr (L_law_1573.mpr ((L_law_1574 fw_m (by omega) (by omega)).mpr ?_))
    rw [FW_M]
    refine (mw_meanWait hN h8 (fun z => n64_mean z)).mpr ?_
    rw [if_pos (q5.symm.trans hx)]
    show Kr _ _ _ _ _ _ _ _ (.inl (some (.double _))) (MW _ _ _ _ _) _
    rw [← FW_M]
    exact tl_29 (k := 1) upd_same (fun z => absurd z (by decide)) (by omega) (by omega) (K _ _ _ _ _ _ _ _ _ _ _ _ _ _ _ _ _ _ _ _ (h.v19) (by omega) (by omega))
  · rw [if_neg hx]
    show KHD _ _ [(ARE, 1)] (.inl (some (.double _))) (SW _ _ _ _ _ _ _ _ _ _ _) _
    rw [← FW_S]
    refine Exists.intro _ (And.intro fw_sd ?_)
    refine L_law_1571.mpr (L_law_1573.mpr ((L_law_1574 fw_m (by omega) (by omega)).mpr ?_))
    rw [FW_M]
    refine (mw_meanWait hN h8 (fun z => n64_mean z)).mpr ?_
    rw [if_neg (fun z => hx (q5.trans z))]
    show Kr _ _ _ _ _ _ _ _ (.inl (some (.double _))) (MW _ _ _ _ _) _
    rw [← FW_M]
    rw [q5] at hx
    exact tl_29 (k := 0) upd_same (fun _ => ⟨updV_0.trans (by rw [q5, q6]), n64_mean hx⟩) (by omega) (by omega) (K _ _ _ _ _ _ _ _ _ _ _ _ _ _ _ _ _ _ _ _ (h.v19) (by omega) (by omega))
theorem mm_b {b : Bool} {g : Nat → Int32} {a0 : Int32} : ∀ n, (∃ e, e ≤ B ∧ a0 = nI e) → (∀ k, k < n → ∃ e, e ≤ B ∧ g k = nI e) → ∃ e, e ≤ B ∧ itr (fun k a => if b then imx a (g k) else imn a (g k)) n a0 = nI e := by
  intro n
  induction n with
  | zero => intro h _; exact h
  | succ n ih =>
    intro h0 hg
    obtain ⟨e, e1, e2⟩ := ih h0 (fun k hk => hg k (by omega))
    obtain ⟨f, f1, f2⟩ := hg n (by omega)
    rw [itr_s, e2, f2]
    cases b with
    | true =>
      rw [if_pos rfl]
      unfold imx
      by_cases c : nI e < nI f
      · rw [if_pos c]; exact ⟨f, f1, rfl⟩
      · rw [if_neg c]; exact ⟨e, e1, rfl⟩
    | false =>
      rw [if_neg Bool.false_ne_true]
      unfold imn
      by_cases c : nI f < nI e
      · rw [if_pos c]; exact ⟨f, f1, rfl⟩
      · rw [if_neg c]; exact ⟨e, e1, rfl⟩
theorem mmM_b {cnt : Nat} {s : Tb} {N : Nat → Int32} {L : List Nat} (h : TV cnt 0 (fun _ => B) (fun _ => B) s N L) (b : Bool) : ∃ e, e ≤ B ∧ mmM cnt N b = nI e := by
  unfold mmM
  by_cases c : cnt = 0
  · rw [if_pos c]; exact ⟨0, Nat.zero_le B, rfl⟩
  · rw [if_neg c]
    have g : ∀ k, k < cnt → ∃ e, e ≤ B ∧ N (ix k 5) = nI e := fun k hk => by
      rw [h.1.2.2.1 k hk 5 (by decide)]
      exact (h.2.2.2.1 k hk).2.2.2.2.2.2.2.1
    exact mm_b (cnt - 1) (g 0 (by omega)) (fun k hk => g (k + 1) (by omega))
theorem nI_abs {e : Nat} (he : e ≤ 2 ^ 24) : (nI e).toInt.natAbs ≤ 2 ^ 24 := by
  have : (nI e).toInt = (e : Int) := by
    have h := sub_toInt (a := e) (b := 0) (by omega) (by omega)
    rw [show nI 0 = 0 from rfl, Int32.sub_zero] at h
    rw [h]
    omega
  rw [this]
  omega
theorem cs_30 (h : REL B T pa be Z P C R Lt V N A) (hB : B ≤ 2 ^ 24) (h1 : c + 1 ≤ 603072) (h2 : sl + 6 ≤ 7219306) (K : HND X Q w x c sl B x5) : Ev X 223 1630 [some (.ref X.2.2.2.2.1), some (.ref x), some (.ref (x + 139)), some (.ref (x + 148)), some (.ref (x + 149)), some (.int x5), l6, l7, l8] [] (FW w x T pa be Z P C D R Lt V N A l d) n c sl Q := by
  have hh := h
  obtain ⟨⟨cnt, L, tv⟩, -⟩ := hh
  have hc := tv.1.1.1
  have hN := tv.1.1.2.1
  have h8 := tv.2.2.2.2.2.2.2
  refine L_law_1630.mpr (L_law_1631.mpr ((L_law_1633 h1 h2).mpr (lh_fairness fw_x ?_)))
  rw [FW_S]
  have qm := q_most (F := (T 0).1) (G := (T 0).2.1) (S := (T 0).2.2) (by omega) tv
  have qf := q_few (F := (T 0).1) (G := (T 0).2.1) (S := (T 0).2.2) tv
  have hn : mmM cnt N true ≠ 0 → n32 (FP.fdiv (FP.i2f (mmM cnt N false)) (FP.i2f (mmM cnt N true))) = true := fun z => by
    obtain ⟨e, e1, e2⟩ := mmM_b tv false
    obtain ⟨f, f1, f2⟩ := mmM_b tv true
    refine n32_fair z ?_ ?_
    · rw [e2]; exact nI_abs (by omega)
    · rw [f2]; exact nI_abs (by omega)
  refine (sw_fairness hc h8 (fun z => by rw [qm, qf]; exact hn (by rw [← qm]; exact z))).mpr ?_
  by_cases hx : itr (mostMealsF (T 0).2.2) cnt 0 = 0
  · rw [if_pos hx]
    refine Exists.intro (1 : Int32) (And.intro List.mem_cons_self ?_)
    rw [← FW_S]
    refine L_law_1636.mpr (L_law_1638.mpr ((L_law_1639 fw_m (by omega) (by omega)).mpr ?_))
    rw [FW_M]
    refine (mw_fairness hN h8 hn).mpr ?_
    rw [if_pos (qm.symm.trans hx)]
    show Kr _ _ _ _ _ _ _ _ (.inl (some (.float _))) (MW _ _ _ _ _) _
    rw [← FW_M]
    exact tl_30 (k := 1) upd_same (fun z => absurd z (by decide)) (by omega) (by omega) (K _ _ _ _ _ _ _ _ _ _ _ _ _ _ _ _ _ _ _ _ (h.v19) (by omega) (by omega))
  · rw [if_neg hx]
    have hy : mmM cnt N true ≠ 0 := fun z => hx (qm.trans z)
    have hw := n64_f2d (hn hy)
    rw [qm, qf]
    refine And.intro hw ?_
    rw [← FW_S]
    refine Exists.intro _ (And.intro fw_sd ?_)
    refine L_law_1636.mpr (L_law_1638.mpr ((L_law_1639 fw_m (by omega) (by omega)).mpr ?_))
    rw [FW_M]
    refine (mw_fairness hN h8 hn).mpr ?_
    rw [if_neg hy]
    show Kr _ _ _ _ _ _ _ _ (.inl (some (.float _))) (MW _ _ _ _ _) _
    rw [← FW_M]
    exact tl_30 (k := 0) upd_same (fun _ => ⟨updV_0, hw⟩) (by omega) (by omega) (K _ _ _ _ _ _ _ _ _ _ _ _ _ _ _ _ _ _ _ _ (h.v19) (by omega) (by omega))
end QTL4
