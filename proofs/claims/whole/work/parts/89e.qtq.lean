/-! ===== the law: commands ===== -/
section QTL6
variable {X : Cxt} {w : Wld} {n : Option Nat} {Q : (Option Value ⊕ String) → Wld → Option Nat → Prop} {x c sl B : Nat} {T : Nat → Tb} {pa : Nat → Nat} {be : Nat} {Z P C D R Lt V N : Nat → Int32} {A : Nat → Nat → Int32} {l d : Nat → Value} {x5 : Int32} {l6 l7 l8 : Option Value}
theorem chr_okv {j : Nat} (h : j < 65536) : okv .char (.int (nI j)) = true := by
  obtain ⟨i, i1, i2⟩ := chr_y (nI j)
  have e := chr_n (nI j)
  have e2 : (nI j).toUInt32 % 65536 = (nI j).toUInt32 := by
    refine UInt32.toNat_inj.mp ?_
    rw [UInt32.toNat_mod]
    refine Nat.mod_eq_of_lt ?_
    show (BitVec.ofNat 32 j).toNat < 65536
    rw [BitVec.toNat_ofNat]
    omega
  rw [e2] at e
  have e3 : (nI j).toUInt32.toInt32 = nI j := rfl
  rw [e3] at e
  show (decide (narrow .char (.int (nI j)) = .int (nI j)) && _) = true
  rw [Bool.and_eq_true]
  refine ⟨decide_eq_true e, ?_⟩
  have p1 : (0 : Int32) ≤ nI j := nI_pos' (by omega)
  have p2 : nI j ≤ 65535 := Int32.not_lt.mp (fun z => by
    have := (nI_ltI (show 65535 < 2 ^ 31 by decide) (show j < 2 ^ 31 by omega)).mp (show nI 65535 < nI j from z)
    omega)
  have q1 : (0 : Int) ≤ (nI j).toInt := by
    have h := sub_toInt (a := j) (b := 0) (by omega) (by omega)
    rw [show nI 0 = 0 from rfl, Int32.sub_zero] at h
    rw [h]
    omega
  first
    | rfl
    | (unfold fits; simp [p1, p2])
    | (unfold fits; simp; omega)
theorem cs_24 (hX : LitX X) (h : REL B T pa be Z P C R Lt V N A) (hB : B + 6200 < 2 ^ 30) (h1 : c + 1 ≤ 603072) (h2 : sl + 6 ≤ 7219306) (K : HND X Q w x c sl (B + 6000) x5) : Ev X 223 1383 [some (.ref X.2.2.2.2.1), some (.ref x), some (.ref (x + 139)), some (.ref (x + 148)), some (.ref (x + 149)), some (.int x5), l6, l7, l8] [] (FW w x T pa be Z P C D R Lt V N A l d) n c sl Q := by
  have hh := h
  obtain ⟨hR, ⟨q, q8, z5, v4, -⟩, hP, -, ⟨L, t1, t2, t3, t4, t5⟩, -⟩ := hh
  subst t4
  have hC : ∀ i, i < L → okv .char (.int (A 7 i)) = true := fun i hi => by
    obtain ⟨j, j1, j2⟩ := t5 i hi
    rw [j2]
    exact chr_okv j1
  have hnf : (faM L (A 7) (A 8)).1 = true → nfM L (A 7) 61 0 = true := fun z => fw_nf 61 0 (A 8) 60 (by omega) (by omega) (by omega) z
  have fl := flt_eq (L := L) (C := A 7) 60 0 D (A 8) 60 (by omega) (by omega) (by omega)
  refine L_law_1383.mpr (L_law_1384.mpr ((L_law_1385 h1 h2).mpr (lh_commands fw_x ?_)))
  rw [FW_S]
  refine sw_commands hX z5 q8 hP t2 t1 t5 IC_0 IC_1 ⟨B, N, hR, by omega⟩ (fun P2 D1 D2 s3 hP2 => ?_)
  have hG : ∀ z : Int32, REL B T pa be (upd Z 8 z) P2 (A 7) R Lt (upd (upd V 14 z) 10 0) N A := fun z => by
    obtain ⟨g1, g2, g3, g4, -, g6, g7, g8⟩ := h
    exact ⟨g1, g2, g3, g4, ⟨0, by decide, hP2, rfl, rfl, fun i hi => absurd hi (Nat.not_lt_zero i)⟩, rfl, g7, g8⟩
  cases hf : fltN L (A 7) 60 0 D with
  | some q1 =>
    rw [hf] at fl
    have fl2 : (faM L (A 7) (A 8)).1 = false ∧ (faM L (A 7) (A 8)).2.1 = q1 := fl
    obtain ⟨f1, f2⟩ := fl2
    refine Exists.intro (1 : Int32) (And.intro List.mem_cons_self ?_)
    rw [← FW_S]
    refine L_law_1388.mpr (L_law_1390.mpr ((L_law_1391 fw_m (by omega) (by omega)).mpr ?_))
    rw [FW_M]
    refine mw_commands JC_JI ⟨B, T 0, hR, by omega⟩ v4 q8 t3 t1 hC hnf ?_
    rw [if_neg (by rw [f1]; exact Bool.false_ne_true)]
    intro V' D' hV
    show Kr _ _ _ _ _ _ _ _ (.inl (some (.int _))) (MW _ _ _ _ _) _
    rw [← FW_M]
    refine tl_24 (k := 1) (hV 19 (by decide) (by decide) (by decide)) (fun z => absurd z (by decide)) (by omega) (by omega) (K _ _ _ _ _ _ _ _ _ _ _ _ _ _ _ _ _ _ _ _ (REL.w ((hG (nI q1)).ref (fun j hj => ?_) (fun _ _ => rfl) (fun j hj => ?_)) (by omega)) (by omega) (by omega))
    · rw [hV j (by rintro rfl; revert hj; decide) (by rintro rfl; revert hj; decide) (by rintro rfl; revert hj; decide), f2]
      simp only [List.mem_cons, List.not_mem_nil, or_false] at hj
      rcases hj with rfl | rfl | rfl | rfl | rfl | rfl | rfl | rfl <;> rfl
    · simp only [List.mem_cons, List.not_mem_nil, or_false] at hj
      rw [updT_o (by omega), updT_o (by omega)]
  | none =>
    rw [hf] at fl
    have f1 : (faM L (A 7) (A 8)).1 = true := fl
    have cr : ∀ D0 : Nat → Int32, crR (B + 99 * 60) (cmdR L (A 7) 60 0 0 D1 (T 0)) (crM L (A 7) 61 0 0 D0 N) := fun D0 => cr_eq 60 61 61 0 0 B D1 D0 (T 0) N (by omega) (by omega) (by omega) (hnf f1) hR (by omega)
    dsimp only
    cases hx : cmdR L (A 7) 60 0 0 D1 (T 0) with
    | inl juv =>
      obtain ⟨j, u, v⟩ := juv
      rw [hx] at cr
      refine Exists.intro (2 : Int32) (And.intro (List.mem_cons_of_mem _ List.mem_cons_self) ?_)
      rw [← FW_S]
      refine L_law_1388.mpr (L_law_1390.mpr ((L_law_1391 fw_m (by omega) (by omega)).mpr ?_))
      rw [FW_M]
      refine mw_commands JC_JI ⟨B, T 0, hR, by omega⟩ v4 q8 t3 t1 hC hnf ?_
      rw [if_pos f1]
      intro D0
      have cr := cr D0
      cases hy : crM L (A 7) 61 0 0 D0 N with
      | inr r => rw [hy] at cr; exact cr.elim
      | inl r =>
        obtain ⟨j2, a2, b2, N2⟩ := r
        rw [hy] at cr
        obtain ⟨rfl, rfl, rfl⟩ := (cr : j = j2 ∧ u = a2 ∧ v = b2)
        intro V' D' hV
        show Kr _ _ _ _ _ _ _ _ (.inl (some (.int _))) (MW _ _ _ _ _) _
        rw [← FW_M]
        refine tl_24 (k := 2) (hV 19 (by decide) (by decide) (by decide)) (fun z => absurd z (by decide)) (by omega) (by omega) (K _ _ _ _ _ _ _ _ _ _ _ _ _ _ _ _ _ _ _ _ (REL.w (B := B) ?_ (by omega)) (by omega) (by omega))
        obtain ⟨g1, ⟨c9, y1, y2, y3, y4⟩, g3, g4, -, g6, g7, ⟨l9, m1, m2, m3, m4⟩⟩ := hG (-1)
        have hb := g3.2.1
        have o1 : ∀ i, i ≠ 0 → i ≠ be → mixT (updT (mixT T be 0) 0 s3) 0 be i = T i := fun i h0 hb2 => by rw [mixT_o h0, updT_o h0, mixT_o hb2]
        refine ⟨?_, ⟨c9, y1, y2, (hV 4 (by decide) (by decide) (by decide)).trans y3, fun k hk => ?_⟩, g3, ⟨g4.1.trans (hV 6 (by decide) (by decide) (by decide)).symm, g4.2.1, fun z => ?_⟩, ⟨0, by decide, hP2, hV 10 (by decide) (by decide) (by decide), by rw [updT_o (by decide), updT_o (by decide)], fun i hi => absurd hi (Nat.not_lt_zero i)⟩, (hV 14 (by decide) (by decide) (by decide)).symm, ⟨(hV 15 (by decide) (by decide) (by decide)).symm, (hV 16 (by decide) (by decide) (by decide)).symm, (hV 17 (by decide) (by decide) (by decide)).symm⟩, ⟨l9, m1, m2, (hV 8 (by decide) (by decide) (by decide)).trans m3, by rw [updT_o (by decide), updT_o (by decide)]; exact m4⟩⟩
        · rw [mixT_s, updT_o (by omega), mixT_s]
          refine (g1.mix.mix).cp (fun i hi => ?_)
          unfold cpN
          rw [if_pos hi, if_pos hi]
        · have := g3.1 k (by omega)
          rw [o1 (pa k) (by omega) (g3.2.2.2 k (by omega)), updT_o (by decide), updT_o (by decide)]
          exact y4 k hk
        · rw [o1 2 (by decide) (by omega), updT_o (by decide), updT_o (by decide)]
          exact g4.2.2 z
    | inr js =>
      obtain ⟨j, s2⟩ := js
      rw [hx] at cr
      show KH _ _ [(IAE, 1), (UOE, 2)] (.inl (some (.int _))) (SW _ _ _ _ _ _ _ _ _ _ _) _
      rw [← FW_S]
      refine Exists.intro _ (And.intro fw_so ?_)
      refine L_law_1388.mpr (L_law_1390.mpr ((L_law_1391 fw_m (by omega) (by omega)).mpr ?_))
      rw [FW_M]
      refine mw_commands JC_JI ⟨B, T 0, hR, by omega⟩ v4 q8 t3 t1 hC hnf ?_
      rw [if_pos f1]
      intro D0
      have cr := cr D0
      cases hy : crM L (A 7) 61 0 0 D0 N with
      | inl r => obtain ⟨r1, r2, r3, r4⟩ := r; rw [hy] at cr; exact cr.elim
      | inr r =>
        obtain ⟨j2, N2⟩ := r
        rw [hy] at cr
        obtain ⟨rfl, hr⟩ := (cr : j = j2 ∧ Rl (B + 99 * 60) s2 N2)
        intro V' D' hV
        show Kr _ _ _ _ _ _ _ _ (.inl (some (.int _))) (MW _ _ _ _ _) _
        rw [← FW_M]
        refine tl_24 (k := 0) (hV 19 (by decide) (by decide) (by decide)) (fun _ => updV_0) (by omega) (by omega) (K _ _ _ _ _ _ _ _ _ _ _ _ _ _ _ _ _ _ _ _ (REL.yes (c := q) (hG (-1)) (by omega) z5 q8 (hr.w (by omega)) (M := cpN N (A 2)) (fun i hi => if_pos hi) (fun j hj => ?_) upd_same (fun j hj => ?_) (hV 4 (by decide) (by decide) (by decide)) updT_s (fun j hj => ?_)) (by omega) (by omega))
        · simp only [List.mem_cons, List.not_mem_nil, or_false] at hj
          rcases hj with rfl | rfl | rfl <;> rfl
        · rw [hV j (by rintro rfl; revert hj; decide) (by rintro rfl; revert hj; decide) (by rintro rfl; revert hj; decide)]
          simp only [List.mem_cons, List.not_mem_nil, or_false] at hj
          rcases hj with rfl | rfl | rfl | rfl | rfl | rfl | rfl <;> rfl
        · simp only [List.mem_cons, List.not_mem_nil, or_false] at hj
          rw [updT_o (by omega), updT_o (by omega), updT_o (by omega)]
end QTL6
