/-! ===== changes of a table ===== -/
def rfc (w : Wld) (r : Nat) (R : Nat → Int32) : Wld := fun a => if a = r then some (.inr (0, [.int (R 0), .int (R 1), .int (R 2)])) else w a
section REF
variable {X : Cxt} {w : Wld} {n : Option Nat} {Q : (Option Value ⊕ String) → Wld → Option Nat → Prop} {t cnt r : Nat} {F G R : Nat → Int32} {S : Nat → Nat → Int32}
theorem blk_out (h : r < t ∨ t + 11 ≤ r) : blk w t F G S r = w r := by
  unfold blk
  rw [if_neg (by omega), if_neg (by omega), if_neg (by omega), if_neg (by omega)]
theorem rfc_r : rfc w r R r = some (.inr (0, [.int (R 0), .int (R 1), .int (R 2)])) := if_pos rfl
theorem hr_ (h : r < t ∨ t + 11 ≤ r) : hasc (blk (rfc w r R) t F G S) r 0 = true := by
  unfold hasc
  rw [blk_out h, rfc_r]
  rfl
theorem gr (h : r < t ∨ t + 11 ≤ r) {j : Nat} (hj : j < 3) : gf (blk (rfc w r R) t F G S) r 0 j = some (.int (R j)) := by
  unfold gf
  rw [blk_out h, rfc_r]
  rcases (show j = 0 ∨ j = 1 ∨ j = 2 by omega) with rfl | rfl | rfl <;> rfl
theorem pr (h : r < t ∨ t + 11 ≤ r) {j : Nat} (hj : j < 3) {x : Int32} : pf (blk (rfc w r R) t F G S) r 0 j (.int x) = some (blk (rfc w r (upd R j x)) t F G S) := by
  have hty : okv (fty 0 j) (.int x) = true := by
    rcases (show j = 0 ∨ j = 1 ∨ j = 2 by omega) with rfl | rfl | rfl <;> rfl
  unfold pf
  rw [blk_out h, rfc_r]
  dsimp only
  rw [if_pos ⟨rfl, by show j < 3; exact hj, hty⟩]
  congr 1
  refine wset_same ?_ (fun b hb => ?_)
  · rw [blk_out h, rfc_r]
    rcases (show j = 0 ∨ j = 1 ∨ j = 2 by omega) with rfl | rfl | rfl <;> rfl
  · unfold blk rfc
    rw [if_neg hb, if_neg hb]
theorem sp_refuse (h : r < t ∨ t + 11 ≤ r) {a b : Int32} : Ev X 12 0 [some (.ref r), some (.int a), some (.int b)] [] (blk (rfc w r R) t F G S) n 0 0 Q ↔ Q (.inl (some (.int (-1)))) (blk (rfc w r (upd (upd R 0 a) 1 b)) t F G S) n := by
  simp only [X0_refuse_0, X0_refuse_1, X0_refuse_2, X0_refuse_5, X0_refuse_6, X0_refuse_7, X0_refuse_10, X0_refuse_11, Option.some.injEq, exists_eq_left', eq_self, okz0, okz1, ht, pr h (show 0 < 3 by decide), pr h (show 1 < 3 by decide)]
def bgS (S : Nat → Nat → Int32) (k : Nat) (m a b : Int32) : Nat → Nat → Int32 := btS (up2 (up2 (up2 (up2 (up2 (up2 (up2 S k 0 m) k 1 a) k 2 b) k 5 0) k 6 0) k 7 0) k 8 0) k
theorem sp_begin {k : Nat} (hk : k < 8) {m a b : Int32} : Ev X 52 0 [some (.ref (t + 3 + k)), some (.int m), some (.int a), some (.int b)] [] (blk w t F G S) n 0 0 Q ↔ Q (.inl none) (blk w t F G (bgS S k m a b)) n := by
  simp only [X1_begin_0, X1_begin_1, X1_begin_2, X1_begin_5, X1_begin_6, X1_begin_7, X1_begin_10, X1_begin_11, X1_begin_12, X1_begin_15, X1_begin_16, X1_begin_17, X1_begin_20, X1_begin_21, X1_begin_22, X1_begin_25, X1_begin_26, X1_begin_27, X1_begin_30, X1_begin_31, X1_begin_32, X1_begin_35, X1_begin_36, X1_begin_39, Option.some.injEq, exists_eq_left', eq_self, okz0, okz1, ht, gq (show k < 8 by omega), gh (show k < 8 by omega), gs (show k < 8 by omega) (show 0 < 9 by decide), gs (show k < 8 by omega) (show 1 < 9 by decide), gs (show k < 8 by omega) (show 2 < 9 by decide), gs (show k < 8 by omega) (show 3 < 9 by decide), gs (show k < 8 by omega) (show 4 < 9 by decide), gs (show k < 8 by omega) (show 5 < 9 by decide), gs (show k < 8 by omega) (show 6 < 9 by decide), gs (show k < 8 by omega) (show 7 < 9 by decide), gs (show k < 8 by omega) (show 8 < 9 by decide), ps (show k < 8 by omega) (show 0 < 9 by decide), ps (show k < 8 by omega) (show 1 < 9 by decide), ps (show k < 8 by omega) (show 2 < 9 by decide), ps (show k < 8 by omega) (show 3 < 9 by decide), ps (show k < 8 by omega) (show 4 < 9 by decide), ps (show k < 8 by omega) (show 5 < 9 by decide), ps (show k < 8 by omega) (show 6 < 9 by decide), ps (show k < 8 by omega) (show 7 < 9 by decide), ps (show k < 8 by omega) (show 8 < 9 by decide), hs_ hk, sp_beginToThink hk, Kr_n, Kj_n]
  exact Iff.rfl
def mnF (m : Int32) : Int32 := if m = 0 then 1 else if m = 1 then 1 else 0
theorem sp_isManner {w : Wld} {m : Int32} : Ev X 49 0 [some (.int m)] [] w n 0 0 Q ↔ Q (.inl (some (.int (mnF m)))) w n := by
  simp only [X2_isManner_0, X2_isManner_1, X2_isManner_4, X2_isManner_5, X2_isManner_6, X2_isManner_9, X2_isManner_10, X2_isManner_13, X2_isManner_14 okz0, X2_isManner_14 okz1, Option.some.injEq, exists_eq_left', eq_self, okz0, okz1, ht]
  unfold mnF
  (repeat' split) <;> first | rfl | (exfalso; simp_all)
def ckF (m : Int32) : Int32 := if m < 1 then 0 else if 9 < m then 0 else 1
theorem sp_isClock {w : Wld} {m : Int32} : Ev X 50 0 [some (.int m)] [] w n 0 0 Q ↔ Q (.inl (some (.int (ckF m)))) w n := by
  simp only [X2_isClock_0, X2_isClock_1, X2_isClock_2, X2_isClock_5, X2_isClock_6, X2_isClock_8, X2_isClock_11, X2_isClock_12, X2_isClock_15, X2_isClock_16 okz0, X2_isClock_16 okz1, Option.some.injEq, exists_eq_left', eq_self, okz0, okz1, ht]
  unfold ckF
  (repeat' split) <;> first | rfl | (exfalso; simp_all)
/-- the end of a change: refused for a reason, or done with an answer -/
def ans (Q : (Option Value ⊕ String) → Wld → Option Nat → Prop) (w : Wld) (r t : Nat) (R : Nat → Int32) (s : Tb) (n : Option Nat) : (Int32 × Int32) ⊕ (Int32 × Tb) → Prop
  | .inl (a, b) => Q (.inl (some (.int (-1)))) (bk (rfc w r (upd (upd R 0 a) 1 b)) t s) n
  | .inr (v, s2) => Q (.inl (some (.int v))) (bk (rfc w r R) t s2) n
def addF (cnt : Nat) (m a b : Int32) (s : Tb) : (Int32 × Int32) ⊕ (Int32 × Tb) :=
  if mnF m = 0 then .inl (1, 0) else if ckF a = 0 then .inl (1, 0) else if ckF b = 0 then .inl (1, 0)
  else if s.1 2 < 8 then (if 0 < itr (heldF s.2.1) cnt 0 then .inl (4, itr (heldF s.2.1) cnt 0) else .inr (s.1 2 + 1 - 1, (upd s.1 2 (s.1 2 + 1), s.2.1, bgS s.2.2 cnt m a b))) else .inl (2, 8)
theorem sp_addSeat (hr : r < t ∨ t + 11 ≤ r) (hc : F 2 = nI cnt) (h8 : cnt ≤ 8) {m a b : Int32} : Ev X 53 0 [some (.ref t), some (.int m), some (.int a), some (.int b), some (.ref r)] [] (blk (rfc w r R) t F G S) n 0 0 Q ↔ ans Q w r t R (F, G, S) n (addF cnt m a b (F, G, S)) := by
  unfold addF
  dsimp only
  by_cases h1 : mnF m = 0
  · rw [if_pos h1]
    simp only [X2_addSeat_0, X2_addSeat_1, X2_addSeat_4, X2_addSeat_7, X2_addSeat_8, X2_addSeat_11, X2_addSeat_14, X2_addSeat_15, X2_addSeat_18, X2_addSeat_21, X2_addSeat_23, X2_addSeat_24, X2_addSeat_25, X2_addSeat_28, X2_addSeat_29, X2_addSeat_30, X2_addSeat_33, X2_addSeat_35, X2_addSeat_38, X2_addSeat_40, X2_addSeat_41, X2_addSeat_43, X2_addSeat_46, X2_addSeat_47, X2_addSeat_48, X2_addSeat_51, X2_addSeat_54, X2_addSeat_56, X2_addSeat_57, X2_addSeat_58, X2_addSeat_61, X2_addSeat_64, X2_addSeat_65, X2_addSeat_66, X2_addSeat_69, X2_addSeat_70, X2_addSeat_73, X2_addSeat_74, X2_addSeat_75, X2_addSeat_76, X2_addSeat_77, X2_addSeat_80, X2_addSeat_81, X2_addSeat_82, X2_addSeat_85, X2_addSeat_86, X2_addSeat_87, X2_addSeat_90, X2_addSeat_91, X2_addSeat_94, X2_addSeat_95, X2_addSeat_96, Option.some.injEq, exists_eq_left', eq_self, okz0, okz1, ht, sp_isManner, Kr_v, Kj_v, h1, if_true, hr_ hr, sp_refuse hr, ans, bk]
    done
  rw [if_neg h1]
  by_cases h2 : ckF a = 0
  · rw [if_pos h2]
    simp only [X2_addSeat_0, X2_addSeat_1, X2_addSeat_4, X2_addSeat_7, X2_addSeat_8, X2_addSeat_11, X2_addSeat_14, X2_addSeat_15, X2_addSeat_18, X2_addSeat_21, X2_addSeat_23, X2_addSeat_24, X2_addSeat_25, X2_addSeat_28, X2_addSeat_29, X2_addSeat_30, X2_addSeat_33, X2_addSeat_35, X2_addSeat_38, X2_addSeat_40, X2_addSeat_41, X2_addSeat_43, X2_addSeat_46, X2_addSeat_47, X2_addSeat_48, X2_addSeat_51, X2_addSeat_54, X2_addSeat_56, X2_addSeat_57, X2_addSeat_58, X2_addSeat_61, X2_addSeat_64, X2_addSeat_65, X2_addSeat_66, X2_addSeat_69, X2_addSeat_70, X2_addSeat_73, X2_addSeat_74, X2_addSeat_75, X2_addSeat_76, X2_addSeat_77, X2_addSeat_80, X2_addSeat_81, X2_addSeat_82, X2_addSeat_85, X2_addSeat_86, X2_addSeat_87, X2_addSeat_90, X2_addSeat_91, X2_addSeat_94, X2_addSeat_95, X2_addSeat_96, Option.some.injEq, exists_eq_left', eq_self, okz0, okz1, ht, sp_isManner, sp_isClock, Kr_v, Kj_v, h1, h2, if_true, if_false, hr_ hr, sp_refuse hr, ans, bk]
    done
  rw [if_neg h2]
  by_cases h3 : ckF b = 0
  · rw [if_pos h3]
    simp only [X2_addSeat_0, X2_addSeat_1, X2_addSeat_4, X2_addSeat_7, X2_addSeat_8, X2_addSeat_11, X2_addSeat_14, X2_addSeat_15, X2_addSeat_18, X2_addSeat_21, X2_addSeat_23, X2_addSeat_24, X2_addSeat_25, X2_addSeat_28, X2_addSeat_29, X2_addSeat_30, X2_addSeat_33, X2_addSeat_35, X2_addSeat_38, X2_addSeat_40, X2_addSeat_41, X2_addSeat_43, X2_addSeat_46, X2_addSeat_47, X2_addSeat_48, X2_addSeat_51, X2_addSeat_54, X2_addSeat_56, X2_addSeat_57, X2_addSeat_58, X2_addSeat_61, X2_addSeat_64, X2_addSeat_65, X2_addSeat_66, X2_addSeat_69, X2_addSeat_70, X2_addSeat_73, X2_addSeat_74, X2_addSeat_75, X2_addSeat_76, X2_addSeat_77, X2_addSeat_80, X2_addSeat_81, X2_addSeat_82, X2_addSeat_85, X2_addSeat_86, X2_addSeat_87, X2_addSeat_90, X2_addSeat_91, X2_addSeat_94, X2_addSeat_95, X2_addSeat_96, Option.some.injEq, exists_eq_left', eq_self, okz0, okz1, ht, sp_isManner, sp_isClock, Kr_v, Kj_v, h1, h2, h3, if_true, if_false, hr_ hr, sp_refuse hr, ans, bk]
    done
  rw [if_neg h3]
  by_cases h4 : F 2 < 8
  · rw [if_pos h4]
    have hk : cnt < 8 := by
      rw [hc] at h4
      exact Nat.lt_of_not_le (fun q => nI_nlt q (by omega) (show nI cnt < nI 8 from h4))
    by_cases h5 : 0 < itr (heldF G) cnt 0
    · rw [if_pos h5]
      simp only [X2_addSeat_0, X2_addSeat_1, X2_addSeat_4, X2_addSeat_7, X2_addSeat_8, X2_addSeat_11, X2_addSeat_14, X2_addSeat_15, X2_addSeat_18, X2_addSeat_21, X2_addSeat_23, X2_addSeat_24, X2_addSeat_25, X2_addSeat_28, X2_addSeat_29, X2_addSeat_30, X2_addSeat_33, X2_addSeat_35, X2_addSeat_38, X2_addSeat_40, X2_addSeat_41, X2_addSeat_43, X2_addSeat_46, X2_addSeat_47, X2_addSeat_48, X2_addSeat_51, X2_addSeat_54, X2_addSeat_56, X2_addSeat_57, X2_addSeat_58, X2_addSeat_61, X2_addSeat_64, X2_addSeat_65, X2_addSeat_66, X2_addSeat_69, X2_addSeat_70, X2_addSeat_73, X2_addSeat_74, X2_addSeat_75, X2_addSeat_76, X2_addSeat_77, X2_addSeat_80, X2_addSeat_81, X2_addSeat_82, X2_addSeat_85, X2_addSeat_86, X2_addSeat_87, X2_addSeat_90, X2_addSeat_91, X2_addSeat_94, X2_addSeat_95, X2_addSeat_96, Option.some.injEq, exists_eq_left', eq_self, okz0, okz1, ht, gt2, sp_isManner, sp_isClock, sp_heldLadles hc h8, Kr_v, Kj_v, h1, h2, h3, h4, h5, if_true, if_false, hr_ hr, sp_refuse hr, ans, bk]
      done
    · rw [if_neg h5]
      have hq : (ga (blk (rfc w r R) t F G S) (t + 1) 4 (F 2)).or (ga (blk (rfc w r R) t F G S) (t + 1) 5 (F 2)) = some (.ref (t + 3 + cnt)) := by rw [hc]; exact gq hk
      simp only [X2_addSeat_0, X2_addSeat_1, X2_addSeat_4, X2_addSeat_7, X2_addSeat_8, X2_addSeat_11, X2_addSeat_14, X2_addSeat_15, X2_addSeat_18, X2_addSeat_21, X2_addSeat_23, X2_addSeat_24, X2_addSeat_25, X2_addSeat_28, X2_addSeat_29, X2_addSeat_30, X2_addSeat_33, X2_addSeat_35, X2_addSeat_38, X2_addSeat_40, X2_addSeat_41, X2_addSeat_43, X2_addSeat_46, X2_addSeat_47, X2_addSeat_48, X2_addSeat_51, X2_addSeat_54, X2_addSeat_56, X2_addSeat_57, X2_addSeat_58, X2_addSeat_61, X2_addSeat_64, X2_addSeat_65, X2_addSeat_66, X2_addSeat_69, X2_addSeat_70, X2_addSeat_73, X2_addSeat_74, X2_addSeat_75, X2_addSeat_76, X2_addSeat_77, X2_addSeat_80, X2_addSeat_81, X2_addSeat_82, X2_addSeat_85, X2_addSeat_86, X2_addSeat_87, X2_addSeat_90, X2_addSeat_91, X2_addSeat_94, X2_addSeat_95, X2_addSeat_96, Option.some.injEq, exists_eq_left', eq_self, okz0, okz1, ht, gt0, gt2, sp_isManner, sp_isClock, sp_heldLadles hc h8, Kr_v, Kj_v, Kr_n, Kj_n, h1, h2, h3, h4, h5, if_true, if_false, hq, hs_ hk, sp_begin hk, pt (show 2 ≤ 2 by decide) (show 2 < 8 by decide), upd_i, ans, bk]
      done
  · rw [if_neg h4]
    simp only [X2_addSeat_0, X2_addSeat_1, X2_addSeat_4, X2_addSeat_7, X2_addSeat_8, X2_addSeat_11, X2_addSeat_14, X2_addSeat_15, X2_addSeat_18, X2_addSeat_21, X2_addSeat_23, X2_addSeat_24, X2_addSeat_25, X2_addSeat_28, X2_addSeat_29, X2_addSeat_30, X2_addSeat_33, X2_addSeat_35, X2_addSeat_38, X2_addSeat_40, X2_addSeat_41, X2_addSeat_43, X2_addSeat_46, X2_addSeat_47, X2_addSeat_48, X2_addSeat_51, X2_addSeat_54, X2_addSeat_56, X2_addSeat_57, X2_addSeat_58, X2_addSeat_61, X2_addSeat_64, X2_addSeat_65, X2_addSeat_66, X2_addSeat_69, X2_addSeat_70, X2_addSeat_73, X2_addSeat_74, X2_addSeat_75, X2_addSeat_76, X2_addSeat_77, X2_addSeat_80, X2_addSeat_81, X2_addSeat_82, X2_addSeat_85, X2_addSeat_86, X2_addSeat_87, X2_addSeat_90, X2_addSeat_91, X2_addSeat_94, X2_addSeat_95, X2_addSeat_96, Option.some.injEq, exists_eq_left', eq_self, okz0, okz1, ht, gt2, sp_isManner, sp_isClock, Kr_v, Kj_v, h1, h2, h3, h4, if_true, if_false, hr_ hr, sp_refuse hr, ans, bk]
    done
def remF (cnt : Nat) (s : Tb) : (Int32 × Int32) ⊕ (Int32 × Tb) :=
  if s.1 2 = 0 then .inl (5, 0) else if 0 < itr (heldF s.2.1) cnt 0 then .inl (4, itr (heldF s.2.1) cnt 0) else .inr (s.1 2 - 1, (upd s.1 2 (s.1 2 - 1), s.2.1, s.2.2))
theorem sp_removeSeat (hr : r < t ∨ t + 11 ≤ r) (hc : F 2 = nI cnt) (h8 : cnt ≤ 8) : Ev X 54 0 [some (.ref t), some (.ref r)] [] (blk (rfc w r R) t F G S) n 0 0 Q ↔ ans Q w r t R (F, G, S) n (remF cnt (F, G, S)) := by
  unfold remF
  dsimp only
  by_cases h1 : F 2 = 0
  · rw [if_pos h1]
    simp only [X2_removeSeat_0, X2_removeSeat_1, X2_removeSeat_4, X2_removeSeat_7, X2_removeSeat_8, X2_removeSeat_9, X2_removeSeat_10, X2_removeSeat_13, X2_removeSeat_14, X2_removeSeat_15, X2_removeSeat_18, X2_removeSeat_21, X2_removeSeat_22, X2_removeSeat_23, X2_removeSeat_24, X2_removeSeat_27, X2_removeSeat_30, X2_removeSeat_31, X2_removeSeat_32, X2_removeSeat_33, X2_removeSeat_36, X2_removeSeat_37, X2_removeSeat_38, X2_removeSeat_41, X2_removeSeat_42, X2_removeSeat_45, Option.some.injEq, exists_eq_left', eq_self, okz0, okz1, ht, gt2, Kr_v, Kj_v, h1, if_true, hr_ hr, sp_refuse hr, ans, bk]
    done
  rw [if_neg h1]
  by_cases h5 : 0 < itr (heldF G) cnt 0
  · rw [if_pos h5]
    simp only [X2_removeSeat_0, X2_removeSeat_1, X2_removeSeat_4, X2_removeSeat_7, X2_removeSeat_8, X2_removeSeat_9, X2_removeSeat_10, X2_removeSeat_13, X2_removeSeat_14, X2_removeSeat_15, X2_removeSeat_18, X2_removeSeat_21, X2_removeSeat_22, X2_removeSeat_23, X2_removeSeat_24, X2_removeSeat_27, X2_removeSeat_30, X2_removeSeat_31, X2_removeSeat_32, X2_removeSeat_33, X2_removeSeat_36, X2_removeSeat_37, X2_removeSeat_38, X2_removeSeat_41, X2_removeSeat_42, X2_removeSeat_45, Option.some.injEq, exists_eq_left', eq_self, okz0, okz1, ht, gt2, sp_heldLadles hc h8, Kr_v, Kj_v, h1, h5, if_true, if_false, hr_ hr, sp_refuse hr, ans, bk]
    done
  · rw [if_neg h5]
    simp only [X2_removeSeat_0, X2_removeSeat_1, X2_removeSeat_4, X2_removeSeat_7, X2_removeSeat_8, X2_removeSeat_9, X2_removeSeat_10, X2_removeSeat_13, X2_removeSeat_14, X2_removeSeat_15, X2_removeSeat_18, X2_removeSeat_21, X2_removeSeat_22, X2_removeSeat_23, X2_removeSeat_24, X2_removeSeat_27, X2_removeSeat_30, X2_removeSeat_31, X2_removeSeat_32, X2_removeSeat_33, X2_removeSeat_36, X2_removeSeat_37, X2_removeSeat_38, X2_removeSeat_41, X2_removeSeat_42, X2_removeSeat_45, Option.some.injEq, exists_eq_left', eq_self, okz0, okz1, ht, gt2, sp_heldLadles hc h8, Kr_v, Kj_v, h1, h5, if_true, if_false, pt (show 2 ≤ 2 by decide) (show 2 < 8 by decide), upd_i, ans, bk]
    done
end REF
