/-! ===== the reference: text, reasons, accounts, undo, save, restore, the line ===== -/
theorem inS2 {l : Nat} (hl : l < 2 ^ 31) {y : Int32} : inF y 0 (nI l - 1) = hasS (nI l) y := by
  unfold inF hasS
  by_cases a : y < 0
  · rw [if_pos a, if_pos a]
  · rw [if_neg a, if_neg a]
    obtain ⟨j, hj, rfl⟩ := nI_of a
    rcases Nat.eq_zero_or_pos l with h0 | h0
    · subst h0
      have e : nI 0 - 1 = -1 := by decide
      rw [e, if_pos (Int32.lt_of_lt_of_le (by decide : (-1 : Int32) < 0) (nI_pos' hj)), if_neg (nI_nlt (Nat.zero_le j) hj)]
    · rw [nI_p h0]
      by_cases b : j < l
      · rw [if_neg (nI_nlt (by omega) (by omega)), if_pos (nI_lt b hl)]
      · rw [if_pos (nI_lt (by omega) hj), if_neg (nI_nlt (by omega) hj)]
section MQ3
variable {X : Cxt} {w : Wld} {n : Option Nat} {Q : (Option Value ⊕ String) → Wld → Option Nat → Prop} {m cnt c : Nat} {V N : Nat → Int32} {A : Nat → Nat → Int32}
theorem p10 {v : Int32} : pf (MW w m V N A) m 5 10 (.int v) = some (MW w m (upd V 10 v) N A) := pm (by decide)
theorem p4 {v : Int32} : pf (MW w m V N A) m 5 4 (.int v) = some (MW w m (upd V 4 v) N A) := pm (by decide)
theorem p8 {v : Int32} : pf (MW w m V N A) m 5 8 (.int v) = some (MW w m (upd V 8 v) N A) := pm (by decide)
theorem p11 {v : Int32} : pf (MW w m V N A) m 5 11 (.int v) = some (MW w m (upd V 11 v) N A) := pm (by decide)
theorem p14 {v : Int32} : pf (MW w m V N A) m 5 14 (.int v) = some (MW w m (upd V 14 v) N A) := pm (by decide)
theorem p17 {v : Int32} : pf (MW w m V N A) m 5 17 (.int v) = some (MW w m (upd V 17 v) N A) := pm (by decide)
theorem mw_append {L : Nat} (hV : V 10 = nI L) (hL : L ≤ 60) {y : Int32} (hy : narrow .char (.int y) = .int y) : Ev X 160 0 [some (.ref m), some (.int y)] [] (MW w m V N A) n 0 0 Q ↔ if L < 60 then Q (.inl (some (.int (nI (L + 1))))) (MW w m (upd (upd V 19 0) 10 (nI (L + 1))) N (updT A 7 (upd (A 7) L y))) n else Q (.inl (some (.int 0))) (MW w m (upd V 19 1) N A) n := by
  have v10 : upd V 19 0 10 = nI L := hV
  by_cases a : L < 60
  · have a' : nI L = 60 ↔ False := ⟨fun q => by have := (nI_eq (by omega) (by decide)).mp (show nI L = nI 60 from q); omega, False.elim⟩
    rw [if_pos a]
    simp only [X6_append_0, X6_append_1, X6_append_2, X6_append_5, X6_append_6, X6_append_9, X6_append_11, X6_append_14, X6_append_15, X6_append_16, X6_append_19, X6_append_20, X6_append_21, X6_append_24, X6_append_25, X6_append_26, X6_append_29, X6_append_30, X6_append_31, X6_append_32, X6_append_35, X6_append_36, X6_append_37, X6_append_38, X6_append_41, p19, gm9, gm10, v10, Option.some.injEq, exists_eq_left', eq_self, okz0, okz1, ht, a', if_false, nI_1, p10, hy, sax a, upd_same]
  · obtain rfl : L = 60 := by omega
    have z : nI 60 = 60 := rfl
    rw [if_neg a]
    simp only [X6_append_0, X6_append_1, X6_append_2, X6_append_5, X6_append_6, X6_append_9, X6_append_11, X6_append_14, X6_append_15, X6_append_16, X6_append_19, X6_append_20, X6_append_21, X6_append_24, X6_append_25, X6_append_26, X6_append_29, X6_append_30, X6_append_31, X6_append_32, X6_append_35, X6_append_36, X6_append_37, X6_append_38, X6_append_41, p19, gm10, v10, z, Option.some.injEq, exists_eq_left', eq_self, okz0, okz1, ht, if_true, cm, mw_raises, Kr_v, upd_upd]
theorem mw_faultPosition : Ev X 191 0 [some (.ref m)] [] (MW w m V N A) n 0 0 Q ↔ Q (.inl (some (.int (V 14)))) (MW w m (upd V 19 0) N A) n := by
  have e : upd V 19 0 14 = V 14 := upd_ne (by decide)
  simp only [X6_faultPosition_0, X6_faultPosition_1, X6_faultPosition_2, X6_faultPosition_5, X6_faultPosition_6, X6_faultPosition_9, p19, gm14, e, Option.some.injEq, exists_eq_left', eq_self, okz0, okz1, ht]
theorem mw_reason {y : Int32} : Ev X 194 0 [some (.ref m), some (.int y)] [] (MW w m V N A) n 0 0 Q ↔ if inF y 0 2 = 0 then Q (.inl (some (.int 0))) (MW w m (upd V 19 1) N A) n else if V 15 = 0 then Q (.inl (some (.int 0))) (MW w m (upd V 19 2) N A) n else Q (.inl (some (.int (if y = 0 then V 15 else if y = 1 then V 16 else V 17)))) (MW w m (upd V 19 0) N A) n := by
  have e15 : upd V 19 0 15 = V 15 := upd_ne (by decide)
  have e16 : upd V 19 0 16 = V 16 := upd_ne (by decide)
  have e17 : upd V 19 0 17 = V 17 := upd_ne (by decide)
  by_cases a : inF y 0 2 = 0
  · rw [if_pos a]
    simp only [X6_reason_0, X6_reason_1, X6_reason_2, X6_reason_5, X6_reason_6, X6_reason_7, X6_reason_8, X6_reason_11, X6_reason_14, X6_reason_15, X6_reason_16, X6_reason_19, X6_reason_20, X6_reason_21, X6_reason_24, X6_reason_27, X6_reason_28, X6_reason_29, X6_reason_32, X6_reason_33, X6_reason_34, X6_reason_37, X6_reason_38, X6_reason_41, X6_reason_44, X6_reason_45, X6_reason_46, X6_reason_49, X6_reason_50, X6_reason_53, X6_reason_56, X6_reason_57, X6_reason_60, p19, Option.some.injEq, exists_eq_left', eq_self, okz0, okz1, ht, mw_in, a, Kr_v, if_true, cm, mw_raises, upd_upd]
  rw [if_neg a]
  by_cases b : V 15 = 0
  · rw [if_pos b]
    simp only [X6_reason_0, X6_reason_1, X6_reason_2, X6_reason_5, X6_reason_6, X6_reason_7, X6_reason_8, X6_reason_11, X6_reason_14, X6_reason_15, X6_reason_16, X6_reason_19, X6_reason_20, X6_reason_21, X6_reason_24, X6_reason_27, X6_reason_28, X6_reason_29, X6_reason_32, X6_reason_33, X6_reason_34, X6_reason_37, X6_reason_38, X6_reason_41, X6_reason_44, X6_reason_45, X6_reason_46, X6_reason_49, X6_reason_50, X6_reason_53, X6_reason_56, X6_reason_57, X6_reason_60, p19, gm15, e15, Option.some.injEq, exists_eq_left', eq_self, okz0, okz1, ht, mw_in, a, b, Kr_v, if_true, if_false, cm, mw_raises, upd_upd]
  rw [if_neg b]
  by_cases d : y = 0
  · subst d
    simp only [X6_reason_0, X6_reason_1, X6_reason_2, X6_reason_5, X6_reason_6, X6_reason_7, X6_reason_8, X6_reason_11, X6_reason_14, X6_reason_15, X6_reason_16, X6_reason_19, X6_reason_20, X6_reason_21, X6_reason_24, X6_reason_27, X6_reason_28, X6_reason_29, X6_reason_32, X6_reason_33, X6_reason_34, X6_reason_37, X6_reason_38, X6_reason_41, X6_reason_44, X6_reason_45, X6_reason_46, X6_reason_49, X6_reason_50, X6_reason_53, X6_reason_56, X6_reason_57, X6_reason_60, p19, gm15, e15, Option.some.injEq, exists_eq_left', eq_self, okz0, okz1, ht, mw_in, a, b, Kr_v, if_true, if_false]
  by_cases e : y = 1
  · subst e
    simp only [X6_reason_0, X6_reason_1, X6_reason_2, X6_reason_5, X6_reason_6, X6_reason_7, X6_reason_8, X6_reason_11, X6_reason_14, X6_reason_15, X6_reason_16, X6_reason_19, X6_reason_20, X6_reason_21, X6_reason_24, X6_reason_27, X6_reason_28, X6_reason_29, X6_reason_32, X6_reason_33, X6_reason_34, X6_reason_37, X6_reason_38, X6_reason_41, X6_reason_44, X6_reason_45, X6_reason_46, X6_reason_49, X6_reason_50, X6_reason_53, X6_reason_56, X6_reason_57, X6_reason_60, p19, gm15, gm16, e15, e16, Option.some.injEq, exists_eq_left', eq_self, okz0, okz1, ht, mw_in, a, b, d, Kr_v, if_true, if_false]
  · simp only [X6_reason_0, X6_reason_1, X6_reason_2, X6_reason_5, X6_reason_6, X6_reason_7, X6_reason_8, X6_reason_11, X6_reason_14, X6_reason_15, X6_reason_16, X6_reason_19, X6_reason_20, X6_reason_21, X6_reason_24, X6_reason_27, X6_reason_28, X6_reason_29, X6_reason_32, X6_reason_33, X6_reason_34, X6_reason_37, X6_reason_38, X6_reason_41, X6_reason_44, X6_reason_45, X6_reason_46, X6_reason_49, X6_reason_50, X6_reason_53, X6_reason_56, X6_reason_57, X6_reason_60, p19, gm15, gm17, e15, e17, Option.some.injEq, exists_eq_left', eq_self, okz0, okz1, ht, mw_in, a, b, d, e, Kr_v, if_false]
theorem mw_character {l : Nat} (hV : V 8 = nI l) (hl : l ≤ 60) {y : Int32} (hLt : ∀ k, k < l → okr (some .char) (A 6 k) = true) : Ev X 201 0 [some (.ref m), some (.int y)] [] (MW w m V N A) n 0 0 Q ↔ if hasS (nI l) y = 0 then Q (.inl (some (.int 97))) (MW w m (upd V 19 1) N A) n else Q (.inl (some (.int (A 6 y.toNatClampNeg)))) (MW w m (upd V 19 0) N A) n := by
  have e1 : (1 : Int32) = 0 ↔ False := by decide
  have o97 : okr (some .char) 97 = true := by decide
  by_cases h : hasS (nI l) y = 0
  · rw [if_pos h]
    simp only [X6_character_0, X6_character_1, X6_character_2, X6_character_3, X6_character_4, X6_character_7, X6_character_8, X6_character_9, X6_character_12, X6_character_15, X6_character_16, X6_character_19, X6_character_20, X6_character_23, X6_character_24, X6_character_27, X6_character_30, X6_character_31, X6_character_34, X6_character_35, X6_character_36, X6_character_39, X6_character_41, gm8, hV, Option.some.injEq, exists_eq_left', eq_self, okz0, okz1, ht, mw_in, inS2 (show l < 2 ^ 31 by omega), h, Kr_v, if_true, p19, gm19, upd_same, e1, if_false, o97]
  · rw [if_neg h]
    have h' := h
    unfold hasS at h'
    by_cases a : y < 0
    · rw [if_pos a] at h'; exact absurd rfl h'
    rw [if_neg a] at h'
    obtain ⟨j, hj, rfl⟩ := nI_of a
    by_cases b : nI j < nI l
    · have hjl : j < l := Nat.lt_of_not_le (fun q => nI_nlt q hj b)
      have ho := hLt j hjl
      rw [nI_clamp hj]
      simp only [X6_character_0, X6_character_1, X6_character_2, X6_character_3, X6_character_4, X6_character_7, X6_character_8, X6_character_9, X6_character_12, X6_character_15, X6_character_16, X6_character_19, X6_character_20, X6_character_23, X6_character_24, X6_character_27, X6_character_30, X6_character_31, X6_character_34, X6_character_35, X6_character_36, X6_character_39, X6_character_41, gm7, gm8, hV, Option.some.injEq, exists_eq_left', eq_self, okz0, okz1, ht, mw_in, inS2 (show l < 2 ^ 31 by omega), h, Kr_v, if_true, if_false, p19, gm19, upd_same, gal (show j < 60 by omega), ho]
    · rw [if_neg b] at h'; exact absurd rfl h'
def alM (N : Nat → Int32) (j s : Nat) (a : Int32) : Int32 := a + N (ix s j)
theorem mw_all (hN : N 0 = nI cnt) (h8 : cnt ≤ 8) {j : Nat} (hj : j < 10) : Ev X 205 0 [some (.ref m), some (.int (nI j)), none, none] [] (MW w m V N A) n 0 0 Q ↔ Q (.inl (some (.int (itr (alM N j) cnt 0)))) (MW w m V N A) n := by
  have h := loop_up (P := fun k a => Ev X 205 4 [some (.ref m), some (.int (nI j)), some (.int a), some (.int (nI k))] [] (MW w m V N A) n 0 0 Q) (f := alM N j) (n := cnt) (a0 := 0) (fun k a hk => by
    have hlt : nI k < nI cnt := nI_lt hk (by omega)
    rw [X6_all_4]
    simp only [X6_all_0, X6_all_1, X6_all_2, X6_all_3, X6_all_5, X6_all_6, X6_all_9, X6_all_10, X6_all_11, X6_all_14, X6_all_15, X6_all_16, X6_all_17, X6_all_18, X6_all_21, X6_all_22, X6_all_23, X6_all_26, X6_all_29, X6_all_30, gm0, gn0, hN, hlt, if_true, Option.some.injEq, exists_eq_left', eq_self, okz0, okz1, ht, cm, mw_of (show k < 8 by omega) hj, Kr_v, nI_1, alM])
  simp only [X6_all_0, X6_all_1, X6_all_2, X6_all_3]
  refine h.trans ?_
  simp only [X6_all_0, X6_all_1, X6_all_2, X6_all_3, X6_all_4, X6_all_5, X6_all_6, X6_all_9, X6_all_10, X6_all_11, X6_all_14, X6_all_15, X6_all_16, X6_all_17, X6_all_18, X6_all_21, X6_all_22, X6_all_23, X6_all_26, X6_all_29, X6_all_30, gm0, gn0, hN, Option.some.injEq, exists_eq_left', eq_self, okz0, okz1, ht, Int32.lt_irrefl, if_false]
theorem mw_all5 (hN : N 0 = nI cnt) (h8 : cnt ≤ 8) : Ev X 205 0 [some (.ref m), some (.int 5), none, none] [] (MW w m V N A) n 0 0 Q ↔ Q (.inl (some (.int (itr (alM N 5) cnt 0)))) (MW w m V N A) n := mw_all (j := 5) hN h8 (by decide)
theorem mw_all6 (hN : N 0 = nI cnt) (h8 : cnt ≤ 8) : Ev X 205 0 [some (.ref m), some (.int 6), none, none] [] (MW w m V N A) n 0 0 Q ↔ Q (.inl (some (.int (itr (alM N 6) cnt 0)))) (MW w m V N A) n := mw_all (j := 6) hN h8 (by decide)
theorem mw_meanWait (hN : N 0 = nI cnt) (h8 : cnt ≤ 8) (hn : itr (alM N 5) cnt 0 ≠ 0 → n64 (FP.ddiv (FP.i2d (itr (alM N 6) cnt 0)) (FP.i2d (itr (alM N 5) cnt 0))) = true) : Ev X 206 0 [some (.ref m)] [] (MW w m V N A) n 0 0 Q ↔ if itr (alM N 5) cnt 0 = 0 then Q (.inl (some (.double (FP.i2d 0)))) (MW w m (upd V 19 1) N A) n else Q (.inl (some (.double (FP.ddiv (FP.i2d (itr (alM N 6) cnt 0)) (FP.i2d (itr (alM N 5) cnt 0)))))) (MW w m (upd V 19 0) N A) n := by
  by_cases a : itr (alM N 5) cnt 0 = 0
  · rw [if_pos a]
    simp only [X6_meanWait_0, X6_meanWait_1, X6_meanWait_2, X6_meanWait_5, X6_meanWait_6, X6_meanWait_7, X6_meanWait_10, X6_meanWait_13, X6_meanWait_14, X6_meanWait_15, X6_meanWait_18, X6_meanWait_19, X6_meanWait_22, X6_meanWait_23, X6_meanWait_25, X6_meanWait_28, X6_meanWait_29, X6_meanWait_30, X6_meanWait_31, X6_meanWait_34, X6_meanWait_35, X6_meanWait_36, p19, Option.some.injEq, exists_eq_left', eq_self, okz0, okz1, ht, cm, mw_all5 hN h8, Kr_v, a, if_true, mw_raises, upd_upd]
  · rw [if_neg a]
    have h := hn a
    simp only [X6_meanWait_0, X6_meanWait_1, X6_meanWait_2, X6_meanWait_5, X6_meanWait_6, X6_meanWait_7, X6_meanWait_10, X6_meanWait_13, X6_meanWait_14, X6_meanWait_15, X6_meanWait_18, X6_meanWait_19, X6_meanWait_22, X6_meanWait_23, X6_meanWait_25, X6_meanWait_28, X6_meanWait_29, X6_meanWait_30, X6_meanWait_31, X6_meanWait_34, X6_meanWait_35, X6_meanWait_36, p19, Option.some.injEq, exists_eq_left', eq_self, okz0, okz1, ht, cm, mw_all5 hN h8, mw_all6 hN h8, Kr_v, a, if_false, h]
theorem mw_fairness (hN : N 0 = nI cnt) (h8 : cnt ≤ 8) (hn : mmM cnt N true ≠ 0 → n32 (FP.fdiv (FP.i2f (mmM cnt N false)) (FP.i2f (mmM cnt N true))) = true) : Ev X 210 0 [some (.ref m)] [] (MW w m V N A) n 0 0 Q ↔ if mmM cnt N true = 0 then Q (.inl (some (.float (FP.i2f 0)))) (MW w m (upd V 19 1) N A) n else Q (.inl (some (.float (FP.fdiv (FP.i2f (mmM cnt N false)) (FP.i2f (mmM cnt N true)))))) (MW w m (upd V 19 0) N A) n := by
  by_cases a : mmM cnt N true = 0
  · rw [if_pos a]
    simp only [X6_fairness_0, X6_fairness_1, X6_fairness_2, X6_fairness_5, X6_fairness_6, X6_fairness_7, X6_fairness_10, X6_fairness_13, X6_fairness_14, X6_fairness_15, X6_fairness_18, X6_fairness_19, X6_fairness_22, X6_fairness_23, X6_fairness_24, X6_fairness_27, X6_fairness_28, X6_fairness_29, X6_fairness_30, X6_fairness_33, X6_fairness_34, X6_fairness_35, p19, Option.some.injEq, exists_eq_left', eq_self, okz0, okz1, ht, cm, mw_meals1 hN h8, Kr_v, a, if_true, mw_raises, upd_upd]
  · rw [if_neg a]
    have h := hn a
    simp only [X6_fairness_0, X6_fairness_1, X6_fairness_2, X6_fairness_5, X6_fairness_6, X6_fairness_7, X6_fairness_10, X6_fairness_13, X6_fairness_14, X6_fairness_15, X6_fairness_18, X6_fairness_19, X6_fairness_22, X6_fairness_23, X6_fairness_24, X6_fairness_27, X6_fairness_28, X6_fairness_29, X6_fairness_30, X6_fairness_33, X6_fairness_34, X6_fairness_35, p19, Option.some.injEq, exists_eq_left', eq_self, okz0, okz1, ht, cm, mw_meals0 hN h8, mw_meals1 hN h8, Kr_v, a, if_false, h]
def acM (cnt : Nat) (N : Nat → Int32) (z p : Int32) (j : Nat) : Int32 := match j with
  | 0 => N 1
  | 1 => N 0
  | 2 => N 2
  | 3 => N 3
  | 4 => itr (alM N 5) cnt 0
  | 5 => N 4
  | 6 => itr (hdM N) 8 0
  | 7 => itr (wlM N) cnt 0
  | 8 => N 6
  | 9 => N 5
  | 10 => z
  | _ => p
theorem X6_account_6_out {l0 l1 : Option Value} {st : Stk} {w : Wld} {y : Int32} (h : y.toInt < 0 ∨ 11 < y.toInt) : Ev X 214 6 [l0, l1] (.int y :: st) w n 0 0 Q ↔ Ev X 214 144 [l0, l1] st w n 0 0 Q := E_p ok_X6_account (show decode (mB 214) 6 = .ok (.tableswitch 138 0 11 #[62, 69, 76, 83, 90, 96, 103, 108, 113, 121, 128, 133], 62) by decide +kernel) rfl (pst_tabOut h rfl)
theorem mw_account_bad {y : Int32} (h : y < 0 ∨ 11 < y) : Ev X 214 0 [some (.ref m), some (.int y)] [] (MW w m V N A) n 0 0 Q ↔ Q (.inl (some (.int 0))) (MW w m (upd V 19 1) N A) n := by
  have h2 : y.toInt < 0 ∨ 11 < y.toInt := by
    rcases h with h | h
    · exact Or.inl (Int32.lt_iff_toInt_lt.mp h)
    · exact Or.inr (lt_toInt (k := 11) (by decide) h)
  simp only [X6_account_0, X6_account_1, X6_account_2, p19, Option.some.injEq, exists_eq_left', eq_self, okz0, okz1, ht, X6_account_5, X6_account_6_out h2, X6_account_144, X6_account_145, X6_account_146 cm, mw_raises, Kr_v, X6_account_149, upd_upd]
theorem mw_account (hN : N 0 = nI cnt) (h8 : cnt ≤ 8) {j : Nat} (hj : j < 12) : Ev X 214 0 [some (.ref m), some (.int (nI j))] [] (MW w m V N A) n 0 0 Q ↔ Q (.inl (some (.int (acM cnt N (V 4) (V 10) j)))) (MW w m (upd V 19 0) N A) n := by
  have d0 : nI 0 = 0 := rfl
  have d1 : nI 1 = 1 := rfl
  have d2 : nI 2 = 2 := rfl
  have d3 : nI 3 = 3 := rfl
  have d4 : nI 4 = 4 := rfl
  have d5 : nI 5 = 5 := rfl
  have d6 : nI 6 = 6 := rfl
  have d7 : nI 7 = 7 := rfl
  have d8 : nI 8 = 8 := rfl
  have d9 : nI 9 = 9 := rfl
  have d10 : nI 10 = 10 := rfl
  have d11 : nI 11 = 11 := rfl
  have e4 : upd V 19 0 4 = V 4 := upd_ne (by decide)
  have e10 : upd V 19 0 10 = V 10 := upd_ne (by decide)
  rcases (show j = 0 ∨ j = 1 ∨ j = 2 ∨ j = 3 ∨ j = 4 ∨ j = 5 ∨ j = 6 ∨ j = 7 ∨ j = 8 ∨ j = 9 ∨ j = 10 ∨ j = 11 by omega) with rfl | rfl | rfl | rfl | rfl | rfl | rfl | rfl | rfl | rfl | rfl | rfl
  · simp only [d0, X6_account_0, X6_account_1, X6_account_2, X6_account_5, X6_account_6_0, X6_account_6_1, X6_account_6_2, X6_account_6_3, X6_account_6_4, X6_account_6_5, X6_account_6_6, X6_account_6_7, X6_account_6_8, X6_account_6_9, X6_account_6_10, X6_account_6_11, X6_account_68, X6_account_69, X6_account_72, X6_account_73, X6_account_74, X6_account_75, X6_account_76, X6_account_79, X6_account_80, X6_account_81, X6_account_82, X6_account_83, X6_account_86, X6_account_87, X6_account_88, X6_account_89, X6_account_90, X6_account_93, X6_account_94, X6_account_95, X6_account_96, X6_account_97, X6_account_98, X6_account_101, X6_account_102, X6_account_103, X6_account_106, X6_account_107, X6_account_108, X6_account_109, X6_account_110, X6_account_113, X6_account_114, X6_account_115, X6_account_118, X6_account_119, X6_account_120, X6_account_123, X6_account_125, X6_account_126, X6_account_127, X6_account_128, X6_account_131, X6_account_132, X6_account_133, X6_account_134, X6_account_135, X6_account_138, X6_account_139, X6_account_140, X6_account_143, X6_account_144, X6_account_145, X6_account_146, X6_account_149, p19, gm0, gn1, Option.some.injEq, exists_eq_left', eq_self, okz0, okz1, ht]; exact Iff.rfl
  · simp only [d1, X6_account_0, X6_account_1, X6_account_2, X6_account_5, X6_account_6_0, X6_account_6_1, X6_account_6_2, X6_account_6_3, X6_account_6_4, X6_account_6_5, X6_account_6_6, X6_account_6_7, X6_account_6_8, X6_account_6_9, X6_account_6_10, X6_account_6_11, X6_account_68, X6_account_69, X6_account_72, X6_account_73, X6_account_74, X6_account_75, X6_account_76, X6_account_79, X6_account_80, X6_account_81, X6_account_82, X6_account_83, X6_account_86, X6_account_87, X6_account_88, X6_account_89, X6_account_90, X6_account_93, X6_account_94, X6_account_95, X6_account_96, X6_account_97, X6_account_98, X6_account_101, X6_account_102, X6_account_103, X6_account_106, X6_account_107, X6_account_108, X6_account_109, X6_account_110, X6_account_113, X6_account_114, X6_account_115, X6_account_118, X6_account_119, X6_account_120, X6_account_123, X6_account_125, X6_account_126, X6_account_127, X6_account_128, X6_account_131, X6_account_132, X6_account_133, X6_account_134, X6_account_135, X6_account_138, X6_account_139, X6_account_140, X6_account_143, X6_account_144, X6_account_145, X6_account_146, X6_account_149, p19, gm0, gn0, Option.some.injEq, exists_eq_left', eq_self, okz0, okz1, ht]; exact Iff.rfl
  · simp only [d2, X6_account_0, X6_account_1, X6_account_2, X6_account_5, X6_account_6_0, X6_account_6_1, X6_account_6_2, X6_account_6_3, X6_account_6_4, X6_account_6_5, X6_account_6_6, X6_account_6_7, X6_account_6_8, X6_account_6_9, X6_account_6_10, X6_account_6_11, X6_account_68, X6_account_69, X6_account_72, X6_account_73, X6_account_74, X6_account_75, X6_account_76, X6_account_79, X6_account_80, X6_account_81, X6_account_82, X6_account_83, X6_account_86, X6_account_87, X6_account_88, X6_account_89, X6_account_90, X6_account_93, X6_account_94, X6_account_95, X6_account_96, X6_account_97, X6_account_98, X6_account_101, X6_account_102, X6_account_103, X6_account_106, X6_account_107, X6_account_108, X6_account_109, X6_account_110, X6_account_113, X6_account_114, X6_account_115, X6_account_118, X6_account_119, X6_account_120, X6_account_123, X6_account_125, X6_account_126, X6_account_127, X6_account_128, X6_account_131, X6_account_132, X6_account_133, X6_account_134, X6_account_135, X6_account_138, X6_account_139, X6_account_140, X6_account_143, X6_account_144, X6_account_145, X6_account_146, X6_account_149, p19, gm0, gn2, Option.some.injEq, exists_eq_left', eq_self, okz0, okz1, ht]; exact Iff.rfl
  · simp only [d3, X6_account_0, X6_account_1, X6_account_2, X6_account_5, X6_account_6_0, X6_account_6_1, X6_account_6_2, X6_account_6_3, X6_account_6_4, X6_account_6_5, X6_account_6_6, X6_account_6_7, X6_account_6_8, X6_account_6_9, X6_account_6_10, X6_account_6_11, X6_account_68, X6_account_69, X6_account_72, X6_account_73, X6_account_74, X6_account_75, X6_account_76, X6_account_79, X6_account_80, X6_account_81, X6_account_82, X6_account_83, X6_account_86, X6_account_87, X6_account_88, X6_account_89, X6_account_90, X6_account_93, X6_account_94, X6_account_95, X6_account_96, X6_account_97, X6_account_98, X6_account_101, X6_account_102, X6_account_103, X6_account_106, X6_account_107, X6_account_108, X6_account_109, X6_account_110, X6_account_113, X6_account_114, X6_account_115, X6_account_118, X6_account_119, X6_account_120, X6_account_123, X6_account_125, X6_account_126, X6_account_127, X6_account_128, X6_account_131, X6_account_132, X6_account_133, X6_account_134, X6_account_135, X6_account_138, X6_account_139, X6_account_140, X6_account_143, X6_account_144, X6_account_145, X6_account_146, X6_account_149, p19, gm0, gn3, Option.some.injEq, exists_eq_left', eq_self, okz0, okz1, ht]; exact Iff.rfl
  · simp only [d4, X6_account_0, X6_account_1, X6_account_2, X6_account_5, X6_account_6_0, X6_account_6_1, X6_account_6_2, X6_account_6_3, X6_account_6_4, X6_account_6_5, X6_account_6_6, X6_account_6_7, X6_account_6_8, X6_account_6_9, X6_account_6_10, X6_account_6_11, X6_account_68, X6_account_69, X6_account_72, X6_account_73, X6_account_74, X6_account_75, X6_account_76, X6_account_79, X6_account_80, X6_account_81, X6_account_82, X6_account_83, X6_account_86, X6_account_87, X6_account_88, X6_account_89, X6_account_90, X6_account_93, X6_account_94, X6_account_95, X6_account_96, X6_account_97, X6_account_98, X6_account_101, X6_account_102, X6_account_103, X6_account_106, X6_account_107, X6_account_108, X6_account_109, X6_account_110, X6_account_113, X6_account_114, X6_account_115, X6_account_118, X6_account_119, X6_account_120, X6_account_123, X6_account_125, X6_account_126, X6_account_127, X6_account_128, X6_account_131, X6_account_132, X6_account_133, X6_account_134, X6_account_135, X6_account_138, X6_account_139, X6_account_140, X6_account_143, X6_account_144, X6_account_145, X6_account_146, X6_account_149, p19, Option.some.injEq, exists_eq_left', eq_self, okz0, okz1, ht, cm, mw_all5 hN h8, Kr_v]; exact Iff.rfl
  · simp only [d5, X6_account_0, X6_account_1, X6_account_2, X6_account_5, X6_account_6_0, X6_account_6_1, X6_account_6_2, X6_account_6_3, X6_account_6_4, X6_account_6_5, X6_account_6_6, X6_account_6_7, X6_account_6_8, X6_account_6_9, X6_account_6_10, X6_account_6_11, X6_account_68, X6_account_69, X6_account_72, X6_account_73, X6_account_74, X6_account_75, X6_account_76, X6_account_79, X6_account_80, X6_account_81, X6_account_82, X6_account_83, X6_account_86, X6_account_87, X6_account_88, X6_account_89, X6_account_90, X6_account_93, X6_account_94, X6_account_95, X6_account_96, X6_account_97, X6_account_98, X6_account_101, X6_account_102, X6_account_103, X6_account_106, X6_account_107, X6_account_108, X6_account_109, X6_account_110, X6_account_113, X6_account_114, X6_account_115, X6_account_118, X6_account_119, X6_account_120, X6_account_123, X6_account_125, X6_account_126, X6_account_127, X6_account_128, X6_account_131, X6_account_132, X6_account_133, X6_account_134, X6_account_135, X6_account_138, X6_account_139, X6_account_140, X6_account_143, X6_account_144, X6_account_145, X6_account_146, X6_account_149, p19, gm0, gn4, Option.some.injEq, exists_eq_left', eq_self, okz0, okz1, ht]; exact Iff.rfl
  · simp only [d6, X6_account_0, X6_account_1, X6_account_2, X6_account_5, X6_account_6_0, X6_account_6_1, X6_account_6_2, X6_account_6_3, X6_account_6_4, X6_account_6_5, X6_account_6_6, X6_account_6_7, X6_account_6_8, X6_account_6_9, X6_account_6_10, X6_account_6_11, X6_account_68, X6_account_69, X6_account_72, X6_account_73, X6_account_74, X6_account_75, X6_account_76, X6_account_79, X6_account_80, X6_account_81, X6_account_82, X6_account_83, X6_account_86, X6_account_87, X6_account_88, X6_account_89, X6_account_90, X6_account_93, X6_account_94, X6_account_95, X6_account_96, X6_account_97, X6_account_98, X6_account_101, X6_account_102, X6_account_103, X6_account_106, X6_account_107, X6_account_108, X6_account_109, X6_account_110, X6_account_113, X6_account_114, X6_account_115, X6_account_118, X6_account_119, X6_account_120, X6_account_123, X6_account_125, X6_account_126, X6_account_127, X6_account_128, X6_account_131, X6_account_132, X6_account_133, X6_account_134, X6_account_135, X6_account_138, X6_account_139, X6_account_140, X6_account_143, X6_account_144, X6_account_145, X6_account_146, X6_account_149, p19, Option.some.injEq, exists_eq_left', eq_self, okz0, okz1, ht, cm, mw_held, Kr_v]; exact Iff.rfl
  · simp only [d7, X6_account_0, X6_account_1, X6_account_2, X6_account_5, X6_account_6_0, X6_account_6_1, X6_account_6_2, X6_account_6_3, X6_account_6_4, X6_account_6_5, X6_account_6_6, X6_account_6_7, X6_account_6_8, X6_account_6_9, X6_account_6_10, X6_account_6_11, X6_account_68, X6_account_69, X6_account_72, X6_account_73, X6_account_74, X6_account_75, X6_account_76, X6_account_79, X6_account_80, X6_account_81, X6_account_82, X6_account_83, X6_account_86, X6_account_87, X6_account_88, X6_account_89, X6_account_90, X6_account_93, X6_account_94, X6_account_95, X6_account_96, X6_account_97, X6_account_98, X6_account_101, X6_account_102, X6_account_103, X6_account_106, X6_account_107, X6_account_108, X6_account_109, X6_account_110, X6_account_113, X6_account_114, X6_account_115, X6_account_118, X6_account_119, X6_account_120, X6_account_123, X6_account_125, X6_account_126, X6_account_127, X6_account_128, X6_account_131, X6_account_132, X6_account_133, X6_account_134, X6_account_135, X6_account_138, X6_account_139, X6_account_140, X6_account_143, X6_account_144, X6_account_145, X6_account_146, X6_account_149, p19, Option.some.injEq, exists_eq_left', eq_self, okz0, okz1, ht, cm, mw_withLeave hN h8, Kr_v]; exact Iff.rfl
  · simp only [d8, X6_account_0, X6_account_1, X6_account_2, X6_account_5, X6_account_6_0, X6_account_6_1, X6_account_6_2, X6_account_6_3, X6_account_6_4, X6_account_6_5, X6_account_6_6, X6_account_6_7, X6_account_6_8, X6_account_6_9, X6_account_6_10, X6_account_6_11, X6_account_68, X6_account_69, X6_account_72, X6_account_73, X6_account_74, X6_account_75, X6_account_76, X6_account_79, X6_account_80, X6_account_81, X6_account_82, X6_account_83, X6_account_86, X6_account_87, X6_account_88, X6_account_89, X6_account_90, X6_account_93, X6_account_94, X6_account_95, X6_account_96, X6_account_97, X6_account_98, X6_account_101, X6_account_102, X6_account_103, X6_account_106, X6_account_107, X6_account_108, X6_account_109, X6_account_110, X6_account_113, X6_account_114, X6_account_115, X6_account_118, X6_account_119, X6_account_120, X6_account_123, X6_account_125, X6_account_126, X6_account_127, X6_account_128, X6_account_131, X6_account_132, X6_account_133, X6_account_134, X6_account_135, X6_account_138, X6_account_139, X6_account_140, X6_account_143, X6_account_144, X6_account_145, X6_account_146, X6_account_149, p19, gm0, gn6, Option.some.injEq, exists_eq_left', eq_self, okz0, okz1, ht]; exact Iff.rfl
  · simp only [d9, X6_account_0, X6_account_1, X6_account_2, X6_account_5, X6_account_6_0, X6_account_6_1, X6_account_6_2, X6_account_6_3, X6_account_6_4, X6_account_6_5, X6_account_6_6, X6_account_6_7, X6_account_6_8, X6_account_6_9, X6_account_6_10, X6_account_6_11, X6_account_68, X6_account_69, X6_account_72, X6_account_73, X6_account_74, X6_account_75, X6_account_76, X6_account_79, X6_account_80, X6_account_81, X6_account_82, X6_account_83, X6_account_86, X6_account_87, X6_account_88, X6_account_89, X6_account_90, X6_account_93, X6_account_94, X6_account_95, X6_account_96, X6_account_97, X6_account_98, X6_account_101, X6_account_102, X6_account_103, X6_account_106, X6_account_107, X6_account_108, X6_account_109, X6_account_110, X6_account_113, X6_account_114, X6_account_115, X6_account_118, X6_account_119, X6_account_120, X6_account_123, X6_account_125, X6_account_126, X6_account_127, X6_account_128, X6_account_131, X6_account_132, X6_account_133, X6_account_134, X6_account_135, X6_account_138, X6_account_139, X6_account_140, X6_account_143, X6_account_144, X6_account_145, X6_account_146, X6_account_149, p19, gm0, gn5, Option.some.injEq, exists_eq_left', eq_self, okz0, okz1, ht]; exact Iff.rfl
  · simp only [d10, X6_account_0, X6_account_1, X6_account_2, X6_account_5, X6_account_6_0, X6_account_6_1, X6_account_6_2, X6_account_6_3, X6_account_6_4, X6_account_6_5, X6_account_6_6, X6_account_6_7, X6_account_6_8, X6_account_6_9, X6_account_6_10, X6_account_6_11, X6_account_68, X6_account_69, X6_account_72, X6_account_73, X6_account_74, X6_account_75, X6_account_76, X6_account_79, X6_account_80, X6_account_81, X6_account_82, X6_account_83, X6_account_86, X6_account_87, X6_account_88, X6_account_89, X6_account_90, X6_account_93, X6_account_94, X6_account_95, X6_account_96, X6_account_97, X6_account_98, X6_account_101, X6_account_102, X6_account_103, X6_account_106, X6_account_107, X6_account_108, X6_account_109, X6_account_110, X6_account_113, X6_account_114, X6_account_115, X6_account_118, X6_account_119, X6_account_120, X6_account_123, X6_account_125, X6_account_126, X6_account_127, X6_account_128, X6_account_131, X6_account_132, X6_account_133, X6_account_134, X6_account_135, X6_account_138, X6_account_139, X6_account_140, X6_account_143, X6_account_144, X6_account_145, X6_account_146, X6_account_149, p19, gm4, e4, Option.some.injEq, exists_eq_left', eq_self, okz0, okz1, ht]; exact Iff.rfl
  · simp only [d11, X6_account_0, X6_account_1, X6_account_2, X6_account_5, X6_account_6_0, X6_account_6_1, X6_account_6_2, X6_account_6_3, X6_account_6_4, X6_account_6_5, X6_account_6_6, X6_account_6_7, X6_account_6_8, X6_account_6_9, X6_account_6_10, X6_account_6_11, X6_account_68, X6_account_69, X6_account_72, X6_account_73, X6_account_74, X6_account_75, X6_account_76, X6_account_79, X6_account_80, X6_account_81, X6_account_82, X6_account_83, X6_account_86, X6_account_87, X6_account_88, X6_account_89, X6_account_90, X6_account_93, X6_account_94, X6_account_95, X6_account_96, X6_account_97, X6_account_98, X6_account_101, X6_account_102, X6_account_103, X6_account_106, X6_account_107, X6_account_108, X6_account_109, X6_account_110, X6_account_113, X6_account_114, X6_account_115, X6_account_118, X6_account_119, X6_account_120, X6_account_123, X6_account_125, X6_account_126, X6_account_127, X6_account_128, X6_account_131, X6_account_132, X6_account_133, X6_account_134, X6_account_135, X6_account_138, X6_account_139, X6_account_140, X6_account_143, X6_account_144, X6_account_145, X6_account_146, X6_account_149, p19, gm10, e10, Option.some.injEq, exists_eq_left', eq_self, okz0, okz1, ht]; exact Iff.rfl
theorem mw_undo (hV : V 4 = nI c) (hc : c ≤ 8) : Ev X 217 0 [some (.ref m), none] [] (MW w m V N A) n 0 0 Q ↔ if c = 0 then Q (.inl (some (.int 0))) (MW w m (upd V 19 1) N A) n else Q (.inl (some (.int (nI (c - 1))))) (MW w m (upd (upd V 19 0) 4 (nI (c - 1))) (cpN (fun k => A 4 (103 * (c - 1) + k)) N) A) n := by
  have v4 : upd V 19 0 4 = nI c := hV
  by_cases a : c = 0
  · subst a
    have z : nI 0 = 0 := rfl
    rw [if_pos rfl]
    simp only [X6_undo_0, X6_undo_1, X6_undo_2, p19, Option.some.injEq, exists_eq_left', eq_self, okz0, okz1, ht, X6_undo_5, X6_undo_6, gm4, v4, z, X6_undo_9, if_true, X6_undo_12, X6_undo_13, X6_undo_14 cm, mw_raises, Kr_v, X6_undo_17, upd_upd]
  · have h0 : nI c = 0 ↔ False := ⟨fun q => nI_ne0 (by omega) (by omega) q, False.elim⟩
    have e : nI c - 1 = nI (c - 1) := nI_p (by omega)
    have h103 : (103 : Int32) = nI 103 := rfl
    have hL := loop_up (P := fun k (b : Nat → Int32) => Ev X 217 30 [some (.ref m), some (.int (nI k))] [] (MW w m (upd (upd V 19 0) 4 (nI (c - 1))) b A) n 0 0 Q) (f := fun k b => upd b k (A 4 (103 * (c - 1) + k))) (n := 103) (a0 := N) (fun k b hk => by
      have hlt : nI k < 103 := show nI k < nI 103 from nI_lt hk (by decide)
      have hi : (103 : Int32) * nI (c - 1) + nI k = nI (103 * (c - 1) + k) := by rw [h103, nI_mul, nI_add]
      rw [X6_undo_30]
      simp only [X6_undo_0, X6_undo_1, X6_undo_2, X6_undo_5, X6_undo_6, X6_undo_9, X6_undo_12, X6_undo_13, X6_undo_14, X6_undo_17, X6_undo_18, X6_undo_19, X6_undo_20, X6_undo_23, X6_undo_24, X6_undo_25, X6_undo_28, X6_undo_29, X6_undo_31, X6_undo_33, X6_undo_36, X6_undo_37, X6_undo_40, X6_undo_41, X6_undo_42, X6_undo_45, X6_undo_47, X6_undo_48, X6_undo_51, X6_undo_52, X6_undo_53, X6_undo_54, X6_undo_55, X6_undo_56, X6_undo_59, X6_undo_62, X6_undo_63, X6_undo_66, hlt, if_true, gm0, gm3, gm4, upd_same, Option.some.injEq, exists_eq_left', eq_self, okz0, okz1, ht, hi, gak (show 103 * (c - 1) + k < 824 by omega), sn hk, nI_1])
    rw [cpN_itr (N := fun k => A 4 (103 * (c - 1) + k))] at hL
    rw [if_neg a]
    simp only [X6_undo_0, X6_undo_1, X6_undo_2, p19, Option.some.injEq, exists_eq_left', eq_self, okz0, okz1, ht, X6_undo_5, X6_undo_6, gm4, v4, X6_undo_9, h0, if_false, X6_undo_18, X6_undo_19, X6_undo_20, X6_undo_23, X6_undo_24, e, X6_undo_25, p4, X6_undo_28, X6_undo_29]
    refine hL.trans ?_
    rw [X6_undo_30]
    simp only [X6_undo_31, X6_undo_33, lt103, if_false, X6_undo_62, X6_undo_63, gm4, upd_same, Option.some.injEq, exists_eq_left', eq_self, okz0, okz1, ht, X6_undo_66]
theorem mw_save : Ev X 219 0 [some (.ref m), none] [] (MW w m V N A) n 0 0 Q ↔ Q (.inl (some (.int (N 0)))) (MW w m (upd (upd V 19 0) 6 1) N (updT A 5 (cpN N (A 5)))) n := by
  have hL := loop_up (P := fun k (b : Nat → Int32) => Ev X 219 12 [some (.ref m), some (.int (nI k))] [] (MW w m (upd (upd V 19 0) 6 1) N (updT A 5 b)) n 0 0 Q) (f := fun k b => upd b k (N k)) (n := 103) (a0 := A 5) (fun k b hk => by
    have hlt : nI k < 103 := show nI k < nI 103 from nI_lt hk (by decide)
    rw [X6_save_12]
    simp only [X6_save_0, X6_save_1, X6_save_2, X6_save_5, X6_save_6, X6_save_7, X6_save_10, X6_save_11, X6_save_13, X6_save_15, X6_save_18, X6_save_19, X6_save_22, X6_save_23, X6_save_24, X6_save_27, X6_save_28, X6_save_29, X6_save_30, X6_save_33, X6_save_36, X6_save_37, X6_save_40, X6_save_41, X6_save_42, hlt, if_true, gm0, gm5, Option.some.injEq, exists_eq_left', eq_self, okz0, okz1, ht, gn hk, sas hk, updT_s, updT_T, nI_1])
  rw [cpN_itr, updT_id] at hL
  simp only [X6_save_0, X6_save_1, X6_save_2, p19, Option.some.injEq, exists_eq_left', eq_self, okz0, okz1, ht, X6_save_5, X6_save_6, X6_save_7, pm6 (by decide : okv .boolean (.int 1) = true), X6_save_10, X6_save_11]
  refine hL.trans ?_
  rw [X6_save_12]
  simp only [X6_save_13, X6_save_15, lt103, if_false, X6_save_36, X6_save_37, X6_save_40, X6_save_41, X6_save_42, gm0, gn0, Option.some.injEq, exists_eq_left', eq_self, okz0, okz1, ht]
theorem mw_restore : Ev X 222 0 [some (.ref m), none] [] (MW w m V N A) n 0 0 Q ↔ if V 6 = 0 then Q (.inl (some (.int 0))) (MW w m (upd V 19 1) N A) n else Q (.inl (some (.int (A 5 0)))) (MW w m (upd (upd V 19 0) 4 0) (cpN (A 5) N) A) n := by
  have v6 : upd V 19 0 6 = V 6 := upd_ne (by decide)
  by_cases a : V 6 = 0
  · rw [if_pos a]
    simp only [X6_restore_0, X6_restore_1, X6_restore_2, p19, Option.some.injEq, exists_eq_left', eq_self, okz0, okz1, ht, X6_restore_5, X6_restore_6, gm6, v6, a, X6_restore_9, if_true, X6_restore_12, X6_restore_13, X6_restore_14 cm, mw_raises, Kr_v, X6_restore_17, upd_upd]
  · have hL := loop_up (P := fun k (b : Nat → Int32) => Ev X 222 20 [some (.ref m), some (.int (nI k))] [] (MW w m (upd V 19 0) b A) n 0 0 Q) (f := fun k b => upd b k (A 5 k)) (n := 103) (a0 := N) (fun k b hk => by
      have hlt : nI k < 103 := show nI k < nI 103 from nI_lt hk (by decide)
      rw [X6_restore_20]
      simp only [X6_restore_0, X6_restore_1, X6_restore_2, X6_restore_5, X6_restore_6, X6_restore_9, X6_restore_12, X6_restore_13, X6_restore_14, X6_restore_17, X6_restore_18, X6_restore_19, X6_restore_21, X6_restore_23, X6_restore_26, X6_restore_27, X6_restore_30, X6_restore_31, X6_restore_32, X6_restore_35, X6_restore_36, X6_restore_37, X6_restore_38, X6_restore_41, X6_restore_44, X6_restore_45, X6_restore_46, X6_restore_49, X6_restore_50, X6_restore_53, X6_restore_54, X6_restore_55, hlt, if_true, gm0, gm5, Option.some.injEq, exists_eq_left', eq_self, okz0, okz1, ht, gas hk, sn hk, nI_1])
    rw [cpN_itr] at hL
    rw [if_neg a]
    have e0 : cpN (A 5) N 0 = A 5 0 := if_pos (by decide)
    simp only [X6_restore_0, X6_restore_1, X6_restore_2, p19, Option.some.injEq, exists_eq_left', eq_self, okz0, okz1, ht, X6_restore_5, X6_restore_6, gm6, v6, a, X6_restore_9, if_false, X6_restore_18, X6_restore_19]
    refine hL.trans ?_
    rw [X6_restore_20]
    simp only [X6_restore_21, X6_restore_23, lt103, if_false, X6_restore_44, X6_restore_45, X6_restore_46, p4, X6_restore_49, X6_restore_50, X6_restore_53, X6_restore_54, X6_restore_55, gm0, gn0, e0, Option.some.injEq, exists_eq_left', eq_self, okz0, okz1, ht]
/-- the letters of a line: the same as the class's, read off the reference's table -/
def seM (N : Nat → Int32) (k : Nat) (b : Bool) (s : (Nat → Int32) × Nat) : (Nat → Int32) × Nat :=
  let a := wrL (ltH (N (ix k 3))) (wrL (if N (ix k 0) = 0 then 108 else 114) (wrL (nI (48 + k)) s))
  if b then wrL 33 a else a
def lnM (N : Nat → Int32) (st : Int32) (k : Nat) (s : (Nat → Int32) × Nat) : (Nat → Int32) × Nat := seM N k (decide ((st >>> (nI k &&& 31)) &&& 1 = 1)) (if k = 0 then s else wrL 32 s)
theorem seM_le {N : Nat → Int32} {k : Nat} {b : Bool} {s : (Nat → Int32) × Nat} : (seM N k b s).2 ≤ s.2 + 4 ∧ s.2 ≤ (seM N k b s).2 := by
  unfold seM wrL
  cases b <;> simp <;> omega
theorem mw_line (hX : LitX X) (hG : ∀ j, j < cnt → seatI cnt (N (lx j) - 1)) (hN : N 0 = nI cnt) (h8 : cnt ≤ 8) (h1 : itr (rnM cnt N) cnt 0 ≠ -1) (hF : psM cnt N (stM cnt N) = stM cnt N) (hh : ∀ k, k < cnt → ∃ h : Nat, h < 5 ∧ N (ix k 3) = nI h) : Ev X 198 0 [some (.ref m), none, none] [] (MW w m V N A) n 0 0 Q ↔ Q (.inl (some (.int (nI (itr (lnM N (stM cnt N)) cnt (A 6, 0)).2)))) (MW w m (upd (upd V 19 0) 8 (nI (itr (lnM N (stM cnt N)) cnt (A 6, 0)).2)) N (updT A 6 (itr (lnM N (stM cnt N)) cnt (A 6, 0)).1)) n := by
  generalize hst : stM cnt N = st
  have hF' := hF
  have n32 : narrow .char (.int 32) = .int 32 := by decide
  have n108 : narrow .char (.int 108) = .int 108 := by decide
  have n114 : narrow .char (.int 114) = .int 114 := by decide
  have n33 : narrow .char (.int 33) = .int 33 := by decide
  have e1 : (1 : Int32) = 0 ↔ False := by decide
  have L1 := lit_some hX (show 1 < 8 by decide)
  -- one seat, behind the blank
  have seat : ∀ (k l : Nat) (B : Nat → Int32), k < cnt → l + 4 ≤ 60 → (Ev X 198 49 [some (.ref m), some (.int st), some (.int (nI k))] [] (MW w m (upd (upd V 19 0) 8 (nI l)) N (updT A 6 B)) n 0 0 Q ↔ Ev X 198 17 [some (.ref m), some (.int st), some (.int (nI (k + 1)))] [] (MW w m (upd (upd V 19 0) 8 (nI (seM N k (decide ((st >>> (nI k &&& 31)) &&& 1 = 1)) (B, l)).2)) N (updT A 6 (seM N k (decide ((st >>> (nI k &&& 31)) &&& 1 = 1)) (B, l)).1)) n 0 0 Q) := by
    intro k l B hk hl
    have k8 : k < 8 := by omega
    obtain ⟨h, h5, hhk⟩ := hh k hk
    obtain ⟨c1, c2⟩ := chr_dig k k8
    obtain ⟨c3, c4, c5⟩ := chr_how h h5
    have el : ltH (N (ix k 3)) = (LBY.getD 1 []).getD h 0 := by unfold ltH; rw [hhk, nI_clamp (by omega)]
    have At := fun {w n Q} => sp_litAt (X := X) (w := w) (n := n) (Q := Q) hX (show 1 < 8 by decide) (show h < (LBY.getD 1 []).length from h5) c3 c4
    unfold seM
    rw [el]
    by_cases a : N (ix k 0) = 0 <;> by_cases b : (st >>> (nI k &&& 31)) &&& 1 = 1
    · simp only [X6_line_49, X6_line_50, X6_line_53, X6_line_54, X6_line_55, X6_line_58, X6_line_59, X6_line_60, X6_line_61, X6_line_64, X6_line_66, X6_line_67, X6_line_68, X6_line_69, gm7, gm8, upd_same, nI_1, p8, upd_upd, Option.some.injEq, exists_eq_left', eq_self, okz0, okz1, ht, c1, c2, sal (show l < 60 by omega), updT_s, updT_T, X6_line_70, X6_line_71, X6_line_74, X6_line_75, X6_line_76, X6_line_79, X6_line_80, X6_line_81, X6_line_82, X6_line_85, X6_line_86, X6_line_87, X6_line_88 cm, mw_of0 k8, Kr_v, X6_line_91, a, if_true, X6_line_94, X6_line_96, X6_line_101, n108, sal (show l + 1 < 60 by omega), X6_line_102, X6_line_103, X6_line_106, X6_line_107, X6_line_108, X6_line_111, X6_line_112, X6_line_113, X6_line_114, X6_line_117, X6_line_119, X6_line_120, X6_line_121 cm, mw_how k8, hhk, X6_line_124 L1, At, X6_line_127, c5, sal (show l + 1 + 1 < 60 by omega), X6_line_128, X6_line_129, X6_line_130, X6_line_131, X6_line_132, X6_line_133, X6_line_134, b, X6_line_137, X6_line_138, X6_line_141, X6_line_142, X6_line_143, X6_line_146, X6_line_147, X6_line_148, X6_line_149, X6_line_152, X6_line_154, n33, sal (show l + 1 + 1 + 1 < 60 by omega), X6_line_155, X6_line_158, wrL, decide_true]
    · simp only [X6_line_49, X6_line_50, X6_line_53, X6_line_54, X6_line_55, X6_line_58, X6_line_59, X6_line_60, X6_line_61, X6_line_64, X6_line_66, X6_line_67, X6_line_68, X6_line_69, gm7, gm8, upd_same, nI_1, p8, upd_upd, Option.some.injEq, exists_eq_left', eq_self, okz0, okz1, ht, c1, c2, sal (show l < 60 by omega), updT_s, updT_T, X6_line_70, X6_line_71, X6_line_74, X6_line_75, X6_line_76, X6_line_79, X6_line_80, X6_line_81, X6_line_82, X6_line_85, X6_line_86, X6_line_87, X6_line_88 cm, mw_of0 k8, Kr_v, X6_line_91, a, if_true, X6_line_94, X6_line_96, X6_line_101, n108, sal (show l + 1 < 60 by omega), X6_line_102, X6_line_103, X6_line_106, X6_line_107, X6_line_108, X6_line_111, X6_line_112, X6_line_113, X6_line_114, X6_line_117, X6_line_119, X6_line_120, X6_line_121 cm, mw_how k8, hhk, X6_line_124 L1, At, X6_line_127, c5, sal (show l + 1 + 1 < 60 by omega), X6_line_128, X6_line_129, X6_line_130, X6_line_131, X6_line_132, X6_line_133, X6_line_134, b, if_false, X6_line_155, X6_line_158, wrL, decide_false, Bool.false_eq_true]
    · simp only [X6_line_49, X6_line_50, X6_line_53, X6_line_54, X6_line_55, X6_line_58, X6_line_59, X6_line_60, X6_line_61, X6_line_64, X6_line_66, X6_line_67, X6_line_68, X6_line_69, gm7, gm8, upd_same, nI_1, p8, upd_upd, Option.some.injEq, exists_eq_left', eq_self, okz0, okz1, ht, c1, c2, sal (show l < 60 by omega), updT_s, updT_T, X6_line_70, X6_line_71, X6_line_74, X6_line_75, X6_line_76, X6_line_79, X6_line_80, X6_line_81, X6_line_82, X6_line_85, X6_line_86, X6_line_87, X6_line_88 cm, mw_of0 k8, Kr_v, X6_line_91, a, if_true, if_false, X6_line_99, X6_line_101, n114, sal (show l + 1 < 60 by omega), X6_line_102, X6_line_103, X6_line_106, X6_line_107, X6_line_108, X6_line_111, X6_line_112, X6_line_113, X6_line_114, X6_line_117, X6_line_119, X6_line_120, X6_line_121 cm, mw_how k8, hhk, X6_line_124 L1, At, X6_line_127, c5, sal (show l + 1 + 1 < 60 by omega), X6_line_128, X6_line_129, X6_line_130, X6_line_131, X6_line_132, X6_line_133, X6_line_134, b, X6_line_137, X6_line_138, X6_line_141, X6_line_142, X6_line_143, X6_line_146, X6_line_147, X6_line_148, X6_line_149, X6_line_152, X6_line_154, n33, sal (show l + 1 + 1 + 1 < 60 by omega), X6_line_155, X6_line_158, wrL, decide_true]
    · simp only [X6_line_49, X6_line_50, X6_line_53, X6_line_54, X6_line_55, X6_line_58, X6_line_59, X6_line_60, X6_line_61, X6_line_64, X6_line_66, X6_line_67, X6_line_68, X6_line_69, gm7, gm8, upd_same, nI_1, p8, upd_upd, Option.some.injEq, exists_eq_left', eq_self, okz0, okz1, ht, c1, c2, sal (show l < 60 by omega), updT_s, updT_T, X6_line_70, X6_line_71, X6_line_74, X6_line_75, X6_line_76, X6_line_79, X6_line_80, X6_line_81, X6_line_82, X6_line_85, X6_line_86, X6_line_87, X6_line_88 cm, mw_of0 k8, Kr_v, X6_line_91, a, if_false, X6_line_99, X6_line_101, n114, sal (show l + 1 < 60 by omega), X6_line_102, X6_line_103, X6_line_106, X6_line_107, X6_line_108, X6_line_111, X6_line_112, X6_line_113, X6_line_114, X6_line_117, X6_line_119, X6_line_120, X6_line_121 cm, mw_how k8, hhk, X6_line_124 L1, At, X6_line_127, c5, sal (show l + 1 + 1 < 60 by omega), X6_line_128, X6_line_129, X6_line_130, X6_line_131, X6_line_132, X6_line_133, X6_line_134, b, X6_line_155, X6_line_158, wrL, decide_false, Bool.false_eq_true]
  have h := loop_upI (P := fun k (s : (Nat → Int32) × Nat) => Ev X 198 17 [some (.ref m), some (.int st), some (.int (nI k))] [] (MW w m (upd (upd V 19 0) 8 (nI s.2)) N (updT A 6 s.1)) n 0 0 Q) (f := lnM N st) (n := cnt) (a0 := (A 6, 0)) (I := fun k s => s.2 ≤ 5 * k) (Nat.le_refl 0) (fun k s hk hs => by
    unfold lnM
    have h := (seM_le (N := N) (k := k) (b := decide ((st >>> (nI k &&& 31)) &&& 1 = 1)) (s := if k = 0 then s else wrL 32 s)).1
    have h2 : (if k = 0 then s else wrL 32 s).2 ≤ s.2 + 1 := by
      split
      · omega
      · exact Nat.le_refl _
    omega) (fun k s hk hs => by
    have hlt : nI k < nI cnt := nI_lt hk (by omega)
    rw [X6_line_17]
    unfold lnM
    rcases Nat.eq_zero_or_pos k with k0 | k0
    · have hz : ¬ 0 < nI k := by rw [k0]; decide
      rw [if_pos k0]
      simp only [X6_line_18, X6_line_19, X6_line_22, X6_line_23, X6_line_24, gm0, gn0, hN, Option.some.injEq, exists_eq_left', eq_self, okz0, okz1, ht, hlt, if_true, X6_line_27, X6_line_28, hz, if_false]
      exact seat k s.2 s.1 hk (by omega)
    · have hz : 0 < nI k := show nI 0 < nI k from nI_lt k0 (by omega)
      rw [if_neg (show ¬ k = 0 by omega)]
      simp only [X6_line_18, X6_line_19, X6_line_22, X6_line_23, X6_line_24, gm0, gn0, hN, Option.some.injEq, exists_eq_left', eq_self, okz0, okz1, ht, hlt, if_true, X6_line_27, X6_line_28, hz, X6_line_31, X6_line_32, X6_line_35, X6_line_36, X6_line_37, X6_line_40, X6_line_41, X6_line_42, X6_line_43, X6_line_46, X6_line_48, gm7, gm8, upd_same, nI_1, p8, upd_upd, n32, sal (show s.2 < 60 by omega), updT_s, updT_T]
      exact seat k (s.2 + 1) (upd s.1 s.2 32) hk (by omega))
  obtain ⟨h, -⟩ := h
  have z0 : nI 0 = 0 := rfl
  simp only [z0, updT_id] at h
  simp only [X6_line_0, X6_line_1, X6_line_2, p19, Option.some.injEq, exists_eq_left', eq_self, okz0, okz1, ht, X6_line_5, X6_line_6 cm, mw_stuckOnes hG hN h8 h1 hF', hst, Kr_v, X6_line_9, X6_line_10, X6_line_11, X6_line_12, p8, X6_line_15, X6_line_16]
  refine h.trans ?_
  rw [X6_line_17]
  simp only [X6_line_18, X6_line_19, X6_line_22, X6_line_23, X6_line_24, gm0, gn0, hN, Option.some.injEq, exists_eq_left', eq_self, okz0, okz1, ht, Int32.lt_irrefl, if_false, X6_line_161, X6_line_162, gm8, upd_same, X6_line_165]
end MQ3
