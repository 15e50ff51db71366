/-! ===== the law: signs, lines ===== -/
section QTL5
variable {X : Cxt} {w : Wld} {n : Option Nat} {Q : (Option Value ⊕ String) → Wld → Option Nat → Prop} {x c sl B : Nat} {T : Nat → Tb} {pa : Nat → Nat} {be : Nat} {Z P C D R Lt V N : Nat → Int32} {A : Nat → Nat → Int32} {l d : Nat → Value} {x5 : Int32} {l6 l7 l8 : Option Value}
theorem chr_y (z : Int32) : ∃ j : Nat, j < 65536 ∧ (z.toUInt32 % 65536).toInt32 = nI j := by
  refine ⟨(z.toUInt32 % 65536).toNat, ?_, ?_⟩
  · rw [UInt32.toNat_mod]
    exact Nat.mod_lt _ (by decide)
  · refine Int32.toBitVec_inj.mp ?_
    refine BitVec.eq_of_toNat_eq ?_
    show (z.toUInt32 % 65536).toNat = (BitVec.ofNat 32 (z.toUInt32 % 65536).toNat).toNat
    rw [BitVec.toNat_ofNat]
    have := (z.toUInt32 % 65536).toNat_lt
    omega
theorem chr_n (z : Int32) : narrow .char (.int ((z.toUInt32 % 65536).toInt32)) = .int ((z.toUInt32 % 65536).toInt32) := by
  show Value.int (((z.toUInt32 % 65536).toInt32.toUInt32 % 65536).toInt32) = _
  congr 2
  refine UInt32.toNat_inj.mp ?_
  rw [UInt32.toNat_mod]
  have e : ((z.toUInt32 % 65536).toInt32.toUInt32) = z.toUInt32 % 65536 := rfl
  rw [e]
  have : (z.toUInt32 % 65536).toNat < 65536 := by
    rw [UInt32.toNat_mod]
    exact Nat.mod_lt _ (by decide)
  exact Nat.mod_eq_of_lt this
theorem cs_23 (h : REL B T pa be Z P C R Lt V N A) (hB : B + 99 < 2 ^ 30) (h1 : c + 1 ≤ 603072) (h2 : sl + 6 ≤ 7219306) (i1 : inr_ (x5 + 1) X.2.2.2.2.2.1 = true) (K : HND X Q w x c sl B x5) : Ev X 223 1325 [some (.ref X.2.2.2.2.1), some (.ref x), some (.ref (x + 139)), some (.ref (x + 148)), some (.ref (x + 149)), some (.int x5), l6, l7, l8] [] (FW w x T pa be Z P C D R Lt V N A l d) n c sl Q := by
  have hh := h
  obtain ⟨⟨cnt, L, tv⟩, ⟨q, q8, z5, v4, past⟩, hP, ⟨s1, s2, s3⟩, ⟨L2, t1, t2, t3, t4, t5⟩, h8z, ⟨r1, r2, r3⟩, -⟩ := hh
  have hc := tv.1.1.1
  have hN := tv.1.1.2.1
  have h8 := tv.2.2.2.2.2.2.2
  have hp1 : scI X (x5 + 1) = X.2.2.2.2.2.2 (x5 + 1).toNatClampNeg := rfl
  refine L_law_1325.mpr (L_law_1326.mpr (L_law_1327.mpr (L_law_1329.mpr (L_law_1330.mpr ((L_law_1331 i1).mpr (L_law_1332.mpr (L_law_1333.mpr ((L_law_1334 h1 h2).mpr (lh_append fw_x ?_)))))))))
  rw [FW_S]
  have hy := chr_n (X.2.2.2.2.2.2 (x5 + 1).toNatClampNeg)
  obtain ⟨jj, jj1, jj2⟩ := chr_y (X.2.2.2.2.2.2 (x5 + 1).toNatClampNeg)
  by_cases hx : L2 < 60
  · have hrel : REL B T pa be Z (upd P 1 (nI (L2 + 1))) (upd C L2 (nI jj)) R Lt (upd (upd V 19 0) 10 (nI (L2 + 1))) N (updT A 7 (upd (A 7) L2 (nI jj))) := by
      obtain ⟨g1, ⟨c9, y1, y2, y3, y4⟩, g3, g4, -, g6, g7, ⟨l9, m1, m2, m3, m4⟩⟩ := h
      refine ⟨g1, ⟨c9, y1, y2, y3, by rw [updT_o (by decide)]; exact y4⟩, g3, ⟨g4.1, g4.2.1, by rw [updT_o (by decide)]; exact g4.2.2⟩, ⟨L2 + 1, by omega, upd_same, upd_same, by rw [updT_s, t4], fun i hi => ?_⟩, g6, g7, ⟨l9, m1, m2, m3, by rw [updT_o (by decide)]; exact m4⟩⟩
      unfold upd
      by_cases c0 : i = L2
      · rw [if_pos c0]; exact ⟨jj, jj1, rfl⟩
      · rw [if_neg c0]; exact t5 i (by omega)
    rw [← jj2] at hrel
    refine ((sw_append t2 t1 hy).trans (iff_of_eq (if_pos hx))).mpr ?_
    show KH _ _ [(ISE, 1)] (.inl (some (.int _))) (SW _ _ _ _ _ _ _ _ _ _ _) _
    rw [← FW_S]
    refine Exists.intro _ (And.intro fw_so ?_)
    refine L_law_1337.mpr (L_law_1339.mpr (L_law_1340.mpr (L_law_1341.mpr (L_law_1343.mpr (L_law_1344.mpr ((L_law_1345 i1).mpr (L_law_1346.mpr ((L_law_1347 fw_m (by omega) (by omega)).mpr ?_))))))))
    rw [FW_M]
    refine ((mw_append t3 t1 hy).trans (iff_of_eq (if_pos hx))).mpr ?_
    show Kr _ _ _ _ _ _ _ _ (.inl (some (.int _))) (MW _ _ _ _ _) _
    rw [← FW_M]
    exact tl_23 (k := 0) rfl (fun _ => updV_0.trans (congrArg (fun z : Int32 => Value.long z.toInt64) (rfl))) (by omega) (by omega) (K _ _ _ _ _ _ _ _ _ _ _ _ _ _ _ _ _ _ _ _ (hrel) (by omega) (by omega))
  · refine ((sw_append t2 t1 hy).trans (iff_of_eq (if_neg hx))).mpr ?_
    refine Exists.intro (1 : Int32) (And.intro List.mem_cons_self ?_)
    rw [← FW_S]
    refine L_law_1337.mpr (L_law_1339.mpr (L_law_1340.mpr (L_law_1341.mpr (L_law_1343.mpr (L_law_1344.mpr ((L_law_1345 i1).mpr (L_law_1346.mpr ((L_law_1347 fw_m (by omega) (by omega)).mpr ?_))))))))
    rw [FW_M]
    refine ((mw_append t3 t1 hy).trans (iff_of_eq (if_neg hx))).mpr ?_
    show Kr _ _ _ _ _ _ _ _ (.inl (some (.int _))) (MW _ _ _ _ _) _
    rw [← FW_M]
    exact tl_23 (k := 1) upd_same (fun z => absurd z (by decide)) (by omega) (by omega) (K _ _ _ _ _ _ _ _ _ _ _ _ _ _ _ _ _ _ _ _ (h.v19) (by omega) (by omega))
theorem se_ch {cnt : Nat} {N : Nat → Int32} {k : Nat} {b : Bool} {s : (Nat → Int32) × Nat} (hk : k < 8) (hh : ∃ e : Nat, e < 5 ∧ N (ix k 3) = nI e) (hs : ∀ i, i < s.2 → okr (some .char) (s.1 i) = true) : ∀ i, i < (seM N k b s).2 → okr (some .char) ((seM N k b s).1 i) = true := by
  have wr : ∀ (v : Int32) (s : (Nat → Int32) × Nat), okr (some .char) v = true → (∀ i, i < s.2 → okr (some .char) (s.1 i) = true) → ∀ i, i < (wrL v s).2 → okr (some .char) ((wrL v s).1 i) = true := by
    intro v s hv h i hi
    have hi : i < s.2 + 1 := hi
    show okr (some .char) (upd s.1 s.2 v i) = true
    unfold upd
    by_cases c : i = s.2
    · rw [if_pos c]; exact hv
    · rw [if_neg c]; exact h i (by omega)
  have o1 : okr (some .char) (nI (48 + k)) = true := by
    have : ∀ k, k < 8 → okr (some .char) (nI (48 + k)) = true := by decide +kernel
    exact this k hk
  have o2 : okr (some .char) (ltH (N (ix k 3))) = true := by
    obtain ⟨e, e5, e6⟩ := hh
    rw [e6]
    unfold ltH
    rw [nI_clamp (by omega)]
    exact (chr_how e e5).2.1
  unfold seM
  dsimp only
  have h3 := wr _ _ o2 (wr (if N (ix k 0) = 0 then 108 else 114) _ (by split <;> decide) (wr _ _ o1 hs))
  cases b with
  | true => rw [if_pos rfl]; exact wr _ _ (by decide) h3
  | false => rw [if_neg Bool.false_ne_true]; exact h3
theorem ln_ch {cnt : Nat} {N : Nat → Int32} {st : Int32} {M : Nat → Int32} (h8 : cnt ≤ 8) (hh : ∀ k, k < cnt → ∃ e : Nat, e < 5 ∧ N (ix k 3) = nI e) : ∀ n, n ≤ cnt → ∀ i, i < (itr (lnM N st) n (M, 0)).2 → okr (some .char) ((itr (lnM N st) n (M, 0)).1 i) = true := by
  intro n
  induction n with
  | zero => intro _ i hi; exact absurd hi (Nat.not_lt_zero i)
  | succ n ih =>
    intro hn
    rw [itr_s]
    unfold lnM
    have ih := ih (by omega)
    by_cases c : n = 0
    · rw [if_pos c]
      exact se_ch (cnt := cnt) (by omega) (hh n (by omega)) ih
    · rw [if_neg c]
      refine se_ch (cnt := cnt) (by omega) (hh n (by omega)) (fun i hi => ?_)
      have hi : i < (itr (lnM N st) n (M, 0)).2 + 1 := hi
      show okr (some .char) (upd (itr (lnM N st) n (M, 0)).1 (itr (lnM N st) n (M, 0)).2 32 i) = true
      unfold upd
      by_cases d : i = (itr (lnM N st) n (M, 0)).2
      · rw [if_pos d]; decide
      · rw [if_neg d]; exact ih i (by omega)
theorem cs_27 (hX : LitX X) (h : REL B T pa be Z P C R Lt V N A) (hB : B < 2 ^ 30) (h1 : c + 1 ≤ 603072) (h2 : sl + 6 ≤ 7219306) (K : HND X Q w x c sl B x5) : Ev X 223 1496 [some (.ref X.2.2.2.2.1), some (.ref x), some (.ref (x + 139)), some (.ref (x + 148)), some (.ref (x + 149)), some (.int x5), l6, l7, l8] [] (FW w x T pa be Z P C D R Lt V N A l d) n c sl Q := by
  have hh := h
  obtain ⟨⟨cnt, L, tv⟩, -⟩ := hh
  have hc := tv.1.1.1
  have hN := tv.1.1.2.1
  have h8 := tv.2.2.2.2.2.2.2
  have hM := tv_WM tv
  have hGN := tv_GN tv
  obtain ⟨hw1, hw2⟩ := tv_hw tv
  have hst := (tv_stuck tv).1
  have hl := q_line (F := (T 0).1) (G := (T 0).2.1) (S := (T 0).2.2) tv (st := stM cnt N) (K := Lt) (M := A 6)
  refine L_law_1496.mpr ((L_law_1497 fw_x (by omega) (by omega)).mpr ?_)
  rw [FW_S]
  refine (sw_line hX hM.1.2.1 hc h8 hw1).mpr ?_
  show Kr _ _ _ _ _ _ _ _ (.inl (some (.int _))) (SW _ _ _ _ _ _ _ _ _ _ _) _
  rw [← FW_S, hst]
  refine L_law_1500.mpr ((L_law_1501 fw_m (by omega) (by omega)).mpr ?_)
  rw [FW_M]
  refine (mw_line hX hGN hN h8 (rn_m1 hM) (stM_fix hM) hw2).mpr ?_
  show Kr _ _ _ _ _ _ _ _ (.inl (some (.int _))) (MW _ _ _ _ _) _
  rw [← FW_M]
  refine L_law_1504.mpr ?_
  rw [if_pos (congrArg nI hl.1)]
  refine K _ _ _ _ _ _ _ _ _ _ _ _ _ _ _ _ _ _ _ _ ?_ (by omega) (by omega)
  have hch := ln_ch (M := A 6) (st := stM cnt N) h8 hw2 cnt (Nat.le_refl cnt)
  have hle := lnL_le (S := (T 0).2.2) (st := stM cnt N) cnt Lt
  obtain ⟨g1, ⟨c9, y1, y2, y3, y4⟩, g3, g4, ⟨L2, t1, t2, t3, t4, t5⟩, g6, g7, -⟩ := h
  refine ⟨g1, ⟨c9, y1, y2, y3, by rw [updT_o (by decide)]; exact y4⟩, g3, ⟨g4.1, g4.2.1, by rw [updT_o (by decide)]; exact g4.2.2⟩, ⟨L2, t1, t2, t3, by rw [updT_o (by decide)]; exact t4, t5⟩, g6, g7, ⟨_, ?_, upd_same, ?_, fun k hk => ?_⟩⟩
  · have : 5 * cnt ≤ 40 := by omega
    exact Nat.le_trans hle this
  · rw [upd_same, hl.1]
  · rw [updT_s, hl.2 k hk]
    exact ⟨rfl, hch k (by rw [← hl.1]; exact hk)⟩
end QTL5
