/-! ===== the two sides, all that they keep ===== -/
def REL (B : Nat) (T : Nat → Tb) (pa : Nat → Nat) (be : Nat) (Z P C R Lt V N : Nat → Int32) (A : Nat → Nat → Int32) : Prop :=
  Rl B (T 0) N ∧ (∃ c, c ≤ 8 ∧ Z 5 = nI c ∧ V 4 = nI c ∧ ∀ k, k < c → Rl B (T (pa k)) (fun i => A 4 (103 * k + i))) ∧ Pm pa be ∧
  (Z 3 = V 6 ∧ (Z 3 = 0 ∨ Z 3 = 1) ∧ (Z 3 = 1 → Rl B (T 2) (A 5))) ∧
  (∃ L, L ≤ 60 ∧ P 1 = nI L ∧ V 10 = nI L ∧ C = A 7 ∧ ∀ i, i < L → ∃ j : Nat, j < 65536 ∧ C i = nI j) ∧
  Z 8 = V 14 ∧ (R 0 = V 15 ∧ R 1 = V 16 ∧ R 2 = V 17) ∧
  ∃ l, l ≤ 40 ∧ Z 11 = nI l ∧ V 8 = nI l ∧ ∀ k, k < l → Lt k = A 6 k ∧ okr (some .char) (Lt k) = true
theorem Rl.mix {B : Nat} {s : Tb} {N G' : Nat → Int32} (h : Rl B s N) : Rl B (s.1, mixG G' s.2.1, s.2.2) N := by
  obtain ⟨cnt, L, c⟩ := h
  obtain ⟨F, G, S⟩ := s
  exact ⟨cnt, L, TV_mix c⟩
theorem Rl.cp {B : Nat} {s : Tb} {N M : Nat → Int32} (h : Rl B s N) (e : ∀ i, i < 103 → M i = N i) : Rl B s M := by
  obtain ⟨cnt, L, c⟩ := h
  exact ⟨cnt, L, TV_cp c e⟩
theorem mixT_o {T : Nat → Tb} {i j k : Nat} (h : k ≠ i) : mixT T i j k = T k := updT_o h
theorem mixT_s {T : Nat → Tb} {i j : Nat} : mixT T i j i = ((T j).1, mixG (T i).2.1 (T j).2.1, (T j).2.2) := updT_s
section REL
variable {B B' : Nat} {T : Nat → Tb} {pa : Nat → Nat} {be : Nat} {Z P C R Lt V N : Nat → Int32} {A : Nat → Nat → Int32}
theorem REL.w (h : REL B T pa be Z P C R Lt V N A) (hb : B ≤ B') : REL B' T pa be Z P C R Lt V N A := by
  obtain ⟨h1, ⟨c, c8, c1, c2, c3⟩, h3, ⟨a1, a2, a3⟩, h5⟩ := h
  exact ⟨h1.w hb, ⟨c, c8, c1, c2, fun k hk => (c3 k hk).w hb⟩, h3, ⟨a1, a2, fun q => (a3 q).w hb⟩, h5⟩
/-- the reference's own numbers and arrays may change where nothing speaks of them -/
theorem REL.ref {V' N' : Nat → Int32} {A' : Nat → Nat → Int32} (h : REL B T pa be Z P C R Lt V N A) (hV : ∀ j, j ∈ [4, 6, 8, 10, 14, 15, 16, 17] → V' j = V j) (hN : ∀ i, i < 103 → N' i = N i) (hA : ∀ j, j ∈ [4, 5, 6, 7] → A' j = A j) : REL B T pa be Z P C R Lt V' N' A' := by
  obtain ⟨h1, ⟨c, c8, c1, c2, c3⟩, h3, ⟨a1, a2, a3⟩, ⟨L, l1, l2, l3, l4, l5⟩, h6, ⟨r1, r2, r3⟩, ⟨l, m1, m2, m3, m4⟩⟩ := h
  refine ⟨h1.cp hN, ⟨c, c8, c1, (hV 4 (by decide)).trans c2, by rw [hA 4 (by decide)]; exact c3⟩, h3, ⟨a1.trans (hV 6 (by decide)).symm, a2, by rw [hA 5 (by decide)]; exact a3⟩, ⟨L, l1, l2, (hV 10 (by decide)).trans l3, by rw [hA 7 (by decide)]; exact l4, l5⟩, h6.trans (hV 14 (by decide)).symm, ⟨r1.trans (hV 15 (by decide)).symm, r2.trans (hV 16 (by decide)).symm, r3.trans (hV 17 (by decide)).symm⟩, ⟨l, m1, m2, (hV 8 (by decide)).trans m3, by rw [hA 6 (by decide)]; exact m4⟩⟩
/-- tables that nothing speaks of may change: 1 and before -/
theorem REL.tab {T' : Nat → Tb} (h : REL B T pa be Z P C R Lt V N A) (hT : ∀ i, i ≠ 1 → i ≠ be → T' i = T i) : REL B T' pa be Z P C R Lt V N A := by
  obtain ⟨h1, ⟨c, c8, c1, c2, c3⟩, h3, ⟨a1, a2, a3⟩, h5⟩ := h
  have hb := h3.2.1
  refine ⟨by rw [hT 0 (by decide) (by omega)]; exact h1, ⟨c, c8, c1, c2, fun k hk => ?_⟩, h3, ⟨a1, a2, fun q => by rw [hT 2 (by decide) (by omega)]; exact a3 q⟩, h5⟩
  have hk8 : k < 8 := by omega
  have := h3.1 k hk8
  rw [hT (pa k) (by omega) (h3.2.2.2 k hk8)]
  exact c3 k hk
/-- a change that is refused -/
theorem REL.no {a b : Int32} {V' : Nat → Int32} {M : Nat → Int32} (h : REL B T pa be Z P C R Lt V N A) (hV : ∀ j, j ∈ [4, 6, 8, 10, 14] → V' j = V j) (ha : V' 15 = a) (hb : V' 16 = b) (hz : V' 17 = 0) : REL B (mixT T be 0) pa be Z P C (upd (upd (upd R 0 a) 1 b) 2 0) Lt V' N (updT A 2 M) := by
  have h' := REL.tab h (T' := mixT T be 0) (fun i _ h2 => mixT_o h2)
  obtain ⟨h1, ⟨c, c8, c1, c2, c3⟩, h3, ⟨a1, a2, a3⟩, ⟨L, l1, l2, l3, l4, l5⟩, h6, -, ⟨l, m1, m2, m3, m4⟩⟩ := h'
  refine ⟨h1, ⟨c, c8, c1, (hV 4 (by decide)).trans c2, by rw [updT_o (by decide)]; exact c3⟩, h3, ⟨a1.trans (hV 6 (by decide)).symm, a2, by rw [updT_o (by decide)]; exact a3⟩, ⟨L, l1, l2, (hV 10 (by decide)).trans l3, by rw [updT_o (by decide)]; exact l4, l5⟩, h6.trans (hV 14 (by decide)).symm, ⟨?_, ?_, ?_⟩, ⟨l, m1, m2, (hV 8 (by decide)).trans m3, by rw [updT_o (by decide)]; exact m4⟩⟩
  · rw [ha, upd_ne (by decide), upd_ne (by decide), upd_same]
  · rw [hb, upd_ne (by decide), upd_same]
  · rw [hz, upd_same]
theorem REL.kept (h : REL B T pa be Z P C R Lt V N A) : ∃ c, c ≤ 8 ∧ Z 5 = nI c ∧ V 4 = nI c ∧ ∀ {M : Nat → Int32}, (∀ i, i < 103 → M i = N i) → ∀ {s2 : Tb}, ∀ k, k < kpC c → Rl B (updT (mixT T be 0) 0 s2 (kpPa c pa be k)) (fun i => kpK c (A 4) M (103 * k + i)) := by
  obtain ⟨h1, ⟨c, c8, c1, c2, c3⟩, ⟨p1, p2, p3, p4⟩, -⟩ := h
  refine ⟨c, c8, c1, c2, fun {M} hM {s2} k hk => ?_⟩
  have hbe : updT (mixT T be 0) 0 s2 be = ((T 0).1, mixG (T be).2.1 (T 0).2.1, (T 0).2.2) := by rw [updT_o (by omega)]; exact mixT_s
  have hpa : ∀ j, j < 8 → updT (mixT T be 0) 0 s2 (pa j) = T (pa j) := fun j hj => by
    have := p1 j hj
    rw [updT_o (by omega)]
    exact mixT_o (p4 j hj)
  unfold kpPa kpK
  by_cases e : c = 8
  · have hk : k < 8 := by rw [e] at hk; exact hk
    rw [if_pos e, if_pos e]
    try dsimp only
    by_cases k7 : k < 7
    · rw [if_pos k7, hpa (k + 1) (by omega)]
      refine (c3 (k + 1) (by omega)).cp (fun i hi => ?_)
      rw [if_pos (by omega)]
      congr 1
      omega
    · rw [if_neg k7, if_pos (by omega), hbe]
      refine (h1.mix).cp (fun i hi => ?_)
      have e3 : 103 * k + i - 721 = i := by omega
      rw [if_neg (by omega), if_pos (by omega), e3, hM i hi]
  · have hk : k < c + 1 := by unfold kpC at hk; rw [if_neg e] at hk; exact hk
    rw [if_neg e, if_neg e]
    by_cases kc : k = c
    · rw [kc, updT_s, hbe]
      refine (h1.mix).cp (fun i hi => ?_)
      have e3 : 103 * c + i - 103 * c = i := by omega
      rw [if_pos (by omega), e3, hM i hi]
    · rw [updT_o kc, hpa k (by omega)]
      refine (c3 k (by omega)).cp (fun i hi => ?_)
      rw [if_neg (by omega)]
/-- a change that is done -/
theorem REL.yes {c : Nat} {s2 : Tb} {N2 Z' V' M : Nat → Int32} {A' : Nat → Nat → Int32} (h : REL B T pa be Z P C R Lt V N A) (hB : B ≤ B') (hc : Z 5 = nI c) (hc8 : c ≤ 8) (hs : Rl B' s2 N2) (hM : ∀ i, i < 103 → M i = N i) (hZ : ∀ j, j ∈ [3, 8, 11] → Z' j = Z j) (hZ5 : Z' 5 = nI (kpC c)) (hV : ∀ j, j ∈ [6, 8, 10, 14, 15, 16, 17] → V' j = V j) (hV4 : V' 4 = nI (kpC c)) (hA4 : A' 4 = kpK c (A 4) M) (hA : ∀ j, j ∈ [5, 6, 7] → A' j = A j) :
    REL B' (updT (mixT T be 0) 0 s2) (kpPa c pa be) (kpBe c pa) Z' P C R Lt V' N2 A' := by
  obtain ⟨c', c8', e5, -, hk⟩ := h.kept
  have : c' = c := (nI_eq (by omega) (by omega)).mp (e5.symm.trans hc)
  subst this
  obtain ⟨h1, -, h3, ⟨a1, a2, a3⟩, ⟨L, l1, l2, l3, l4, l5⟩, h6, ⟨r1, r2, r3⟩, ⟨l, m1, m2, m3, m4⟩⟩ := h
  have hb := h3.2.1
  have hkc : kpC c' ≤ 8 := by unfold kpC; split <;> omega
  refine ⟨by rw [updT_s]; exact hs, ⟨kpC c', hkc, hZ5, hV4, fun k hk2 => by rw [hA4]; exact (hk hM k hk2).w hB⟩, h3.kp hc8, ⟨(hZ 3 (by decide)).trans (a1.trans (hV 6 (by decide)).symm), by rw [hZ 3 (by decide)]; exact a2, fun q => ?_⟩, ⟨L, l1, l2, (hV 10 (by decide)).trans l3, by rw [hA 7 (by decide)]; exact l4, l5⟩, (hZ 8 (by decide)).trans (h6.trans (hV 14 (by decide)).symm), ⟨r1.trans (hV 15 (by decide)).symm, r2.trans (hV 16 (by decide)).symm, r3.trans (hV 17 (by decide)).symm⟩, ⟨l, m1, (hZ 11 (by decide)).trans m2, (hV 8 (by decide)).trans m3, by rw [hA 6 (by decide)]; exact m4⟩⟩
  rw [hZ 3 (by decide)] at q
  rw [hA 5 (by decide), updT_o (by decide), mixT_o (by omega)]
  exact (a3 q).w hB
end REL
