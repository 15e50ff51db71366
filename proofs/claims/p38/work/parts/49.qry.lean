/-! ===== queries of a SoupTable ===== -/
section QRY
variable {X : Cxt} {w : Wld} {n : Option Nat} {Q : (Option Value ⊕ String) → Wld → Option Nat → Prop} {x cnt : Nat} {T : Nat → Tb} {pa : Nat → Nat} {be : Nat} {Z P C D R Lt : Nat → Int32}
def IOO : String := "java/lang/IndexOutOfBoundsException"
def IAE : String := "java/lang/IllegalArgumentException"
def NSE : String := "java/util/NoSuchElementException"
def ISE : String := "java/lang/IllegalStateException"
def UOE : String := "java/lang/UnsupportedOperationException"
def ARE : String := "java/lang/ArithmeticException"
theorem sw_seatOf_out {y j : Int32} (h : hasS ((T 0).1 2) y = 0) : Ev X 114 0 [some (.ref x), some (.int y), some (.int j)] [] (SW w x T pa be Z P C D R Lt) n 0 0 Q ↔ Q (.inr IOO) (SW w x T pa be Z P C D R Lt) (n.map (· + 1)) := by
  simp only [X5_seatOf_0, X5_seatOf_1, X5_seatOf_4, X5_seatOf_5, X5_seatOf_8, X5_seatOf_11, X5_seatOf_21, X5_seatOf_22, X5_seatOf_25, X5_seatOf_26, X5_seatOf_28, X5_seatOf_31, X5_seatOf_41, X5_seatOf_42, X5_seatOf_45, X5_seatOf_48, X5_seatOf_49, X5_seatOf_50, X5_seatOf_51, X5_seatOf_54, gz0, Option.some.injEq, exists_eq_left', eq_self, okz0, okz1, ht, cz0, sw_hasSeat, Kr_v, Kj_v, h, if_true, IOO]
theorem sw_seatOf_bad {y j : Int32} (h : ¬ hasS ((T 0).1 2) y = 0) (hj : j < 0 ∨ 9 < j) : Ev X 114 0 [some (.ref x), some (.int y), some (.int j)] [] (SW w x T pa be Z P C D R Lt) n 0 0 Q ↔ Q (.inr IAE) (SW w x T pa be Z P C D R Lt) (n.map (· + 1)) := by
  by_cases h1 : j < 0
  · simp only [X5_seatOf_0, X5_seatOf_1, X5_seatOf_4, X5_seatOf_5, X5_seatOf_8, X5_seatOf_11, X5_seatOf_21, X5_seatOf_22, X5_seatOf_25, X5_seatOf_26, X5_seatOf_28, X5_seatOf_31, X5_seatOf_41, X5_seatOf_42, X5_seatOf_45, X5_seatOf_48, X5_seatOf_49, X5_seatOf_50, X5_seatOf_51, X5_seatOf_54, gz0, Option.some.injEq, exists_eq_left', eq_self, okz0, okz1, ht, cz0, sw_hasSeat, Kr_v, Kj_v, h, if_false, h1, if_true, IAE]
  · have h2 : 9 < j := hj.resolve_left h1
    simp only [X5_seatOf_0, X5_seatOf_1, X5_seatOf_4, X5_seatOf_5, X5_seatOf_8, X5_seatOf_11, X5_seatOf_21, X5_seatOf_22, X5_seatOf_25, X5_seatOf_26, X5_seatOf_28, X5_seatOf_31, X5_seatOf_41, X5_seatOf_42, X5_seatOf_45, X5_seatOf_48, X5_seatOf_49, X5_seatOf_50, X5_seatOf_51, X5_seatOf_54, gz0, Option.some.injEq, exists_eq_left', eq_self, okz0, okz1, ht, cz0, sw_hasSeat, Kr_v, Kj_v, h, if_false, h1, h2, if_true, IAE]
theorem sw_seatOf (hc : (T 0).1 2 = nI cnt) (h8 : cnt ≤ 8) {k j : Nat} (hk : k < cnt) (hj : j < 10) : Ev X 114 0 [some (.ref x), some (.int (nI k)), some (.int (nI j))] [] (SW w x T pa be Z P C D R Lt) n 0 0 Q ↔ Q (.inl (some (.int (numF (T 0).2.2 k j)))) (SW w x T pa be Z P C D R Lt) n := by
  have h : ¬ hasS ((T 0).1 2) (nI k) = 0 := by rw [hc, hasS_in h8 hk]; decide
  have h1 : ¬ nI j < 0 := nI_pos (by omega)
  have h2 : ¬ 9 < nI j := fun q => nI_nlt (show j ≤ 9 by omega) (by decide) (show nI 9 < nI j from q)
  simp only [X5_seatOf_0, X5_seatOf_1, X5_seatOf_4, X5_seatOf_5, X5_seatOf_8, X5_seatOf_11, X5_seatOf_21, X5_seatOf_22, X5_seatOf_25, X5_seatOf_26, X5_seatOf_28, X5_seatOf_31, X5_seatOf_41, X5_seatOf_42, X5_seatOf_45, X5_seatOf_48, X5_seatOf_49, X5_seatOf_50, X5_seatOf_51, X5_seatOf_54, gz0, Option.some.injEq, exists_eq_left', eq_self, okz0, okz1, ht, cz0, sw_hasSeat, Kr_v, Kj_v, h, if_false, h1, h2, gtb0, gtbq (show k < 8 by omega), cz1s (show k < 8 by omega), sw_number (show k < 8 by omega) hj]
theorem sw_ladle_out {y b : Int32} (h : hasS ((T 0).1 2) y = 0) : Ev X 116 0 [some (.ref x), some (.int y), some (.int b)] [] (SW w x T pa be Z P C D R Lt) n 0 0 Q ↔ Q (.inr IOO) (SW w x T pa be Z P C D R Lt) (n.map (· + 1)) := by
  simp only [X5_ladle_0, X5_ladle_1, X5_ladle_4, X5_ladle_5, X5_ladle_8, X5_ladle_11, X5_ladle_21, X5_ladle_22, X5_ladle_25, X5_ladle_26, X5_ladle_27, X5_ladle_30, gz0, Option.some.injEq, exists_eq_left', eq_self, okz0, okz1, ht, cz0, sw_hasSeat, Kr_v, Kj_v, h, if_true, IOO]
theorem sw_ladle (hc : (T 0).1 2 = nI cnt) (h8 : cnt ≤ 8) {k : Nat} {b : Int32} (hk : k < cnt) : Ev X 116 0 [some (.ref x), some (.int (nI k)), some (.int b)] [] (SW w x T pa be Z P C D R Lt) n 0 0 Q ↔ Q (.inl (some (.int (nI (ladN cnt (T 0).2.2 k b))))) (SW w x T pa be Z P C D R Lt) n := by
  have h : ¬ hasS ((T 0).1 2) (nI k) = 0 := by rw [hc, hasS_in h8 hk]; decide
  simp only [X5_ladle_0, X5_ladle_1, X5_ladle_4, X5_ladle_5, X5_ladle_8, X5_ladle_11, X5_ladle_21, X5_ladle_22, X5_ladle_25, X5_ladle_26, X5_ladle_27, X5_ladle_30, gz0, Option.some.injEq, exists_eq_left', eq_self, okz0, okz1, ht, cz0, sw_hasSeat, Kr_v, Kj_v, h, if_false, sw_ladleOf hc h8 hk]
theorem sw_holder_out {y : Int32} (h : hasS ((T 0).1 2) y = 0) : Ev X 118 0 [some (.ref x), some (.int y)] [] (SW w x T pa be Z P C D R Lt) n 0 0 Q ↔ Q (.inr IOO) (SW w x T pa be Z P C D R Lt) (n.map (· + 1)) := by
  simp only [X5_holder_0, X5_holder_1, X5_holder_4, X5_holder_5, X5_holder_8, X5_holder_11, X5_holder_21, X5_holder_22, X5_holder_25, X5_holder_28, X5_holder_29, X5_holder_30, gz0, Option.some.injEq, exists_eq_left', eq_self, okz0, okz1, ht, cz0, sw_hasSeat, Kr_v, Kj_v, h, if_true, IOO]
theorem sw_holder (hc : (T 0).1 2 = nI cnt) (h8 : cnt ≤ 8) {k : Nat} (hk : k < cnt) : Ev X 118 0 [some (.ref x), some (.int (nI k))] [] (SW w x T pa be Z P C D R Lt) n 0 0 Q ↔ Q (.inl (some (.int ((T 0).2.1 k)))) (SW w x T pa be Z P C D R Lt) n := by
  have h : ¬ hasS ((T 0).1 2) (nI k) = 0 := by rw [hc, hasS_in h8 hk]; decide
  simp only [X5_holder_0, X5_holder_1, X5_holder_4, X5_holder_5, X5_holder_8, X5_holder_11, X5_holder_21, X5_holder_22, X5_holder_25, X5_holder_28, X5_holder_29, X5_holder_30, gz0, Option.some.injEq, exists_eq_left', eq_self, okz0, okz1, ht, cz0, sw_hasSeat, Kr_v, Kj_v, h, if_false, gtb1, gtbh (show k < 8 by omega)]
theorem sw_waitsFor_out {y : Int32} (h : hasS ((T 0).1 2) y = 0) : Ev X 99 0 [some (.ref x), some (.int y), none] [] (SW w x T pa be Z P C D R Lt) n 0 0 Q ↔ Q (.inr IOO) (SW w x T pa be Z P C D R Lt) (n.map (· + 1)) := by
  simp only [X5_waitsFor_0, X5_waitsFor_1, X5_waitsFor_4, X5_waitsFor_5, X5_waitsFor_8, X5_waitsFor_11, X5_waitsFor_21, X5_waitsFor_22, X5_waitsFor_25, X5_waitsFor_26, X5_waitsFor_29, X5_waitsFor_30, X5_waitsFor_31, X5_waitsFor_32, X5_waitsFor_35, X5_waitsFor_45, X5_waitsFor_46, gz0, Option.some.injEq, exists_eq_left', eq_self, okz0, okz1, ht, cz0, sw_hasSeat, Kr_v, Kj_v, h, if_true, IOO]
theorem sw_waitsFor (hc : (T 0).1 2 = nI cnt) (h8 : cnt ≤ 8) {k : Nat} (hk : k < cnt) : Ev X 99 0 [some (.ref x), some (.int (nI k)), none] [] (SW w x T pa be Z P C D R Lt) n 0 0 Q ↔ if awF cnt (T 0).2.1 (T 0).2.2 k = -1 then Q (.inr NSE) (SW w x T pa be Z P C D R Lt) (n.map (· + 1)) else Q (.inl (some (.int (awF cnt (T 0).2.1 (T 0).2.2 k)))) (SW w x T pa be Z P C D R Lt) n := by
  have h : ¬ hasS ((T 0).1 2) (nI k) = 0 := by rw [hc, hasS_in h8 hk]; decide
  simp only [X5_waitsFor_0, X5_waitsFor_1, X5_waitsFor_4, X5_waitsFor_5, X5_waitsFor_8, X5_waitsFor_11, X5_waitsFor_21, X5_waitsFor_22, X5_waitsFor_25, X5_waitsFor_26, X5_waitsFor_29, X5_waitsFor_30, X5_waitsFor_31, X5_waitsFor_32, X5_waitsFor_35, X5_waitsFor_45, X5_waitsFor_46, gz0, Option.some.injEq, exists_eq_left', eq_self, okz0, okz1, ht, cz0, sw_hasSeat, Kr_v, Kj_v, h, if_false, sw_awaitedSeat hc h8 hk, NSE]
theorem sw_asking (hc : (T 0).1 2 = nI cnt) (h8 : cnt ≤ 8) {y : Int32} : Ev X 120 0 [some (.ref x), some (.int y), none] [] (SW w x T pa be Z P C D R Lt) n 0 0 Q ↔ if oI (ff (askP cnt (T 0).2.2 y) cnt 0) = -1 then Q (.inr NSE) (SW w x T pa be Z P C D R Lt) (n.map (· + 1)) else Q (.inl (some (.int (oI (ff (askP cnt (T 0).2.2 y) cnt 0))))) (SW w x T pa be Z P C D R Lt) n := by
  simp only [X5_asking_0, X5_asking_1, X5_asking_4, X5_asking_5, X5_asking_8, X5_asking_9, X5_asking_10, X5_asking_11, X5_asking_14, X5_asking_24, X5_asking_25, gz0, Option.some.injEq, exists_eq_left', eq_self, okz0, okz1, ht, cz0, sw_askerAt hc h8, Kr_v, Kj_v, NSE]
theorem sw_hungriest (hc : (T 0).1 2 = nI cnt) (h8 : cnt ≤ 8) {y : Int32} : Ev X 125 0 [some (.ref x), some (.int y), none] [] (SW w x T pa be Z P C D R Lt) n 0 0 Q ↔ if oI (ff (hunP cnt (T 0).2.2 y) cnt 0) = -1 then Q (.inr NSE) (SW w x T pa be Z P C D R Lt) (n.map (· + 1)) else Q (.inl (some (.int (oI (ff (hunP cnt (T 0).2.2 y) cnt 0))))) (SW w x T pa be Z P C D R Lt) n := by
  simp only [X5_hungriest_0, X5_hungriest_1, X5_hungriest_4, X5_hungriest_5, X5_hungriest_8, X5_hungriest_9, X5_hungriest_10, X5_hungriest_11, X5_hungriest_14, X5_hungriest_24, X5_hungriest_25, gz0, Option.some.injEq, exists_eq_left', eq_self, okz0, okz1, ht, cz0, sw_hungriestAt hc h8, Kr_v, Kj_v, NSE]
def eatF (S : Nat → Nat → Int32) (k : Nat) (a : Int32) : Int32 := if S k 3 = 4 then a ||| (1 <<< (nI k &&& 31)) else a
theorem sw_eaters (hc : (T 0).1 2 = nI cnt) (h8 : cnt ≤ 8) : Ev X 97 0 [some (.ref x), none, none] [] (SW w x T pa be Z P C D R Lt) n 0 0 Q ↔ Q (.inl (some (.int (itr (eatF (T 0).2.2) cnt 0)))) (SW w x T pa be Z P C D R Lt) n := by
  have h := loop_up (P := fun k a => Ev X 97 4 [some (.ref x), some (.int a), some (.int (nI k))] [] (SW w x T pa be Z P C D R Lt) n 0 0 Q) (f := eatF (T 0).2.2) (n := cnt) (a0 := 0) (fun k a hk => by
    have hlt : nI k < nI cnt := nI_lt hk (by omega)
    rw [X5_eaters_4]
    simp only [X5_eaters_0, X5_eaters_1, X5_eaters_2, X5_eaters_3, X5_eaters_5, X5_eaters_6, X5_eaters_9, X5_eaters_12, X5_eaters_15, X5_eaters_16, X5_eaters_19, X5_eaters_22, X5_eaters_23, X5_eaters_24, X5_eaters_27, X5_eaters_28, X5_eaters_31, X5_eaters_32, X5_eaters_33, X5_eaters_34, X5_eaters_35, X5_eaters_36, X5_eaters_37, X5_eaters_40, X5_eaters_43, X5_eaters_44, gz0, gtb0, gtb (show 2 ≤ 2 by decide) (show 2 < 8 by decide), Option.some.injEq, exists_eq_left', eq_self, okz0, okz1, ht, hc, hlt, if_true, gtbq (show k < 8 by omega), gtbs (show k < 8 by omega) (show 3 < 9 by decide), nI_1]
    unfold eatF
    split <;> rfl)
  simp only [X5_eaters_0, X5_eaters_1, X5_eaters_2, X5_eaters_3, X5_eaters_5, X5_eaters_6, X5_eaters_9, X5_eaters_12, X5_eaters_15, X5_eaters_16, X5_eaters_19, X5_eaters_22, X5_eaters_23, X5_eaters_24, X5_eaters_27, X5_eaters_28, X5_eaters_31, X5_eaters_32, X5_eaters_33, X5_eaters_34, X5_eaters_35, X5_eaters_36, X5_eaters_37, X5_eaters_40, X5_eaters_43, X5_eaters_44] at h ⊢
  refine h.trans ?_
  simp only [X5_eaters_0, X5_eaters_1, X5_eaters_2, X5_eaters_3, X5_eaters_4, X5_eaters_5, X5_eaters_6, X5_eaters_9, X5_eaters_12, X5_eaters_15, X5_eaters_16, X5_eaters_19, X5_eaters_22, X5_eaters_23, X5_eaters_24, X5_eaters_27, X5_eaters_28, X5_eaters_31, X5_eaters_32, X5_eaters_33, X5_eaters_34, X5_eaters_35, X5_eaters_36, X5_eaters_37, X5_eaters_40, X5_eaters_43, X5_eaters_44, gz0, gtb (show 2 ≤ 2 by decide) (show 2 < 8 by decide), Option.some.injEq, exists_eq_left', eq_self, okz0, okz1, ht, hc, Int32.lt_irrefl, if_false]
theorem sw_ring (hG : ∀ j, j < cnt → seatI cnt ((T 0).2.1 j)) (hc : (T 0).1 2 = nI cnt) (h8 : cnt ≤ 8) : Ev X 130 0 [some (.ref x)] [] (SW w x T pa be Z P C D R Lt) n 0 0 Q ↔ Q (.inl (some (.int (itr (ringF cnt (T 0).2.1 (T 0).2.2) cnt 0)))) (SW w x T pa be Z P C D R Lt) n := by
  simp only [X5_ring_0, X5_ring_1, X5_ring_4, X5_ring_7, gz0, Option.some.injEq, exists_eq_left', eq_self, okz0, okz1, ht, sw_ringOf hG hc h8, Kr_v, Kj_v]
theorem sw_stuck (hG : ∀ j, j < cnt → seatI cnt ((T 0).2.1 j)) (hc : (T 0).1 2 = nI cnt) (h8 : cnt ≤ 8) : Ev X 98 0 [some (.ref x)] [] (SW w x T pa be Z P C D R Lt) n 0 0 Q ↔ Q (.inl (some (.int (stuI cnt (T 0).1 (T 0).2.1 (T 0).2.2)))) (SW w x T pa be Z P C D R Lt) n := by
  simp only [X5_stuck_0, X5_stuck_1, X5_stuck_4, X5_stuck_7, gz0, Option.some.injEq, exists_eq_left', eq_self, okz0, okz1, ht, sw_stuckOf hG hc h8, Kr_v, Kj_v]
theorem sw_stuckAgain (hc : (T 0).1 2 = nI cnt) (h8 : cnt ≤ 8) : Ev X 133 0 [some (.ref x)] [] (SW w x T pa be Z P C D R Lt) n 0 0 Q ↔ Q (.inl (some (.int (remI cnt (T 0).1 (T 0).2.1 (T 0).2.2)))) (SW w x T pa be Z P C D R Lt) n := by
  simp only [X5_stuckAgain_0, X5_stuckAgain_1, X5_stuckAgain_4, X5_stuckAgain_7, gz0, Option.some.injEq, exists_eq_left', eq_self, okz0, okz1, ht, sw_remainingOf hc h8, Kr_v, Kj_v]
theorem sw_rounds (hc : (T 0).1 2 = nI cnt) (h8 : cnt ≤ 8) : Ev X 138 0 [some (.ref x)] [] (SW w x T pa be Z P C D R Lt) n 0 0 Q ↔ Q (.inl (some (.int (fewF cnt (T 0).2.2)))) (SW w x T pa be Z P C D R Lt) n := by
  simp only [X5_rounds_0, X5_rounds_1, X5_rounds_4, X5_rounds_7, gz0, Option.some.injEq, exists_eq_left', eq_self, okz0, okz1, ht, cz0, sw_fewestMeals hc h8, Kr_v, Kj_v]
def surF (cnt : Nat) (s : Tb) : Int32 := if s.1 2 < 2 then 0 else if (ff (bothP s.2.2) (cnt - 1) 1).isSome then 1 else if s.1 3 = 0 then 0 else if s.1 3 < s.1 2 then 1 else 0
theorem sw_isSure (hc : (T 0).1 2 = nI cnt) (h8 : cnt ≤ 8) : Ev X 83 0 [some (.ref x), none] [] (SW w x T pa be Z P C D R Lt) n 0 0 Q ↔ Q (.inl (some (.int (surF cnt (T 0))))) (SW w x T pa be Z P C D R Lt) n := by
  have e1 : (1 : Int32) = 0 ↔ False := by decide
  unfold surF
  by_cases a : (T 0).1 3 = 0 <;> by_cases b : (T 0).1 3 < (T 0).1 2 <;> by_cases d : (T 0).1 2 < 2 <;> by_cases e : (ff (bothP (T 0).2.2) (cnt - 1) 1).isSome = true <;>
    simp only [X5_isSure_0, X5_isSure_1, X5_isSure_4, X5_isSure_7, X5_isSure_10, X5_isSure_11, X5_isSure_14, X5_isSure_17, X5_isSure_18, X5_isSure_21, X5_isSure_24, X5_isSure_27, X5_isSure_28, X5_isSure_31, X5_isSure_32, X5_isSure_33, X5_isSure_34, X5_isSure_37, X5_isSure_40, X5_isSure_43, X5_isSure_44, X5_isSure_47, X5_isSure_50, X5_isSure_53, X5_isSure_54, X5_isSure_57, X5_isSure_58, X5_isSure_61, X5_isSure_62 okz0, X5_isSure_62 okz1, gz0, gtb (show 2 ≤ 2 by decide) (show 2 < 8 by decide), gtb (show 2 ≤ 3 by decide) (show 3 < 8 by decide), Option.some.injEq, exists_eq_left', eq_self, okz0, okz1, ht, cz0, sw_canTick, sw_hasBothManners hc h8, Kr_v, Kj_v, a, b, d, e, if_true, if_false, e1, Bool.false_eq_true]
theorem sw_areNeighbours_out {y z : Int32} (h : hasS ((T 0).1 2) y = 0 ∨ hasS ((T 0).1 2) z = 0) : Ev X 128 0 [some (.ref x), some (.int y), some (.int z)] [] (SW w x T pa be Z P C D R Lt) n 0 0 Q ↔ Q (.inr IOO) (SW w x T pa be Z P C D R Lt) (n.map (· + 1)) := by
  by_cases h1 : hasS ((T 0).1 2) y = 0
  · simp only [X5_areNeighbours_0, X5_areNeighbours_1, X5_areNeighbours_4, X5_areNeighbours_5, X5_areNeighbours_8, X5_areNeighbours_11, X5_areNeighbours_12, X5_areNeighbours_15, X5_areNeighbours_16, X5_areNeighbours_19, X5_areNeighbours_22, X5_areNeighbours_32, X5_areNeighbours_33, X5_areNeighbours_34, X5_areNeighbours_37, X5_areNeighbours_38, X5_areNeighbours_41, X5_areNeighbours_42, X5_areNeighbours_43, X5_areNeighbours_46, X5_areNeighbours_49, X5_areNeighbours_50, X5_areNeighbours_53, X5_areNeighbours_54, X5_areNeighbours_55, X5_areNeighbours_58, X5_areNeighbours_61, X5_areNeighbours_62, X5_areNeighbours_65, X5_areNeighbours_66 okz0, X5_areNeighbours_66 okz1, gz0, Option.some.injEq, exists_eq_left', eq_self, okz0, okz1, ht, cz0, sw_hasSeat, Kr_v, Kj_v, h1, if_true, IOO]
  · have h2 := h.resolve_left h1
    simp only [X5_areNeighbours_0, X5_areNeighbours_1, X5_areNeighbours_4, X5_areNeighbours_5, X5_areNeighbours_8, X5_areNeighbours_11, X5_areNeighbours_12, X5_areNeighbours_15, X5_areNeighbours_16, X5_areNeighbours_19, X5_areNeighbours_22, X5_areNeighbours_32, X5_areNeighbours_33, X5_areNeighbours_34, X5_areNeighbours_37, X5_areNeighbours_38, X5_areNeighbours_41, X5_areNeighbours_42, X5_areNeighbours_43, X5_areNeighbours_46, X5_areNeighbours_49, X5_areNeighbours_50, X5_areNeighbours_53, X5_areNeighbours_54, X5_areNeighbours_55, X5_areNeighbours_58, X5_areNeighbours_61, X5_areNeighbours_62, X5_areNeighbours_65, X5_areNeighbours_66 okz0, X5_areNeighbours_66 okz1, gz0, Option.some.injEq, exists_eq_left', eq_self, okz0, okz1, ht, cz0, sw_hasSeat, Kr_v, Kj_v, h1, h2, if_true, if_false, IOO]
def neiF (c y z : Int32) : Int32 := if y = z then 0 else if z = (if y = c - 1 then 0 else y + 1) then 1 else if y = (if z = c - 1 then 0 else z + 1) then 1 else 0
theorem sw_areNeighbours {y z : Int32} (h1 : ¬ hasS ((T 0).1 2) y = 0) (h2 : ¬ hasS ((T 0).1 2) z = 0) : Ev X 128 0 [some (.ref x), some (.int y), some (.int z)] [] (SW w x T pa be Z P C D R Lt) n 0 0 Q ↔ Q (.inl (some (.int (neiF ((T 0).1 2) y z)))) (SW w x T pa be Z P C D R Lt) n := by
  have e1 : (1 : Int32) = 0 ↔ False := by decide
  unfold neiF
  by_cases a : y = z
  · simp only [X5_areNeighbours_0, X5_areNeighbours_1, X5_areNeighbours_4, X5_areNeighbours_5, X5_areNeighbours_8, X5_areNeighbours_11, X5_areNeighbours_12, X5_areNeighbours_15, X5_areNeighbours_16, X5_areNeighbours_19, X5_areNeighbours_22, X5_areNeighbours_32, X5_areNeighbours_33, X5_areNeighbours_34, X5_areNeighbours_37, X5_areNeighbours_38, X5_areNeighbours_41, X5_areNeighbours_42, X5_areNeighbours_43, X5_areNeighbours_46, X5_areNeighbours_49, X5_areNeighbours_50, X5_areNeighbours_53, X5_areNeighbours_54, X5_areNeighbours_55, X5_areNeighbours_58, X5_areNeighbours_61, X5_areNeighbours_62, X5_areNeighbours_65, X5_areNeighbours_66 okz0, X5_areNeighbours_66 okz1, gz0, Option.some.injEq, exists_eq_left', eq_self, okz0, okz1, ht, cz0, sw_hasSeat, Kr_v, Kj_v, h1, h2, if_false, a, if_true]
  by_cases b : z = (if y = (T 0).1 2 - 1 then 0 else y + 1)
  · simp only [X5_areNeighbours_0, X5_areNeighbours_1, X5_areNeighbours_4, X5_areNeighbours_5, X5_areNeighbours_8, X5_areNeighbours_11, X5_areNeighbours_12, X5_areNeighbours_15, X5_areNeighbours_16, X5_areNeighbours_19, X5_areNeighbours_22, X5_areNeighbours_32, X5_areNeighbours_33, X5_areNeighbours_34, X5_areNeighbours_37, X5_areNeighbours_38, X5_areNeighbours_41, X5_areNeighbours_42, X5_areNeighbours_43, X5_areNeighbours_46, X5_areNeighbours_49, X5_areNeighbours_50, X5_areNeighbours_53, X5_areNeighbours_54, X5_areNeighbours_55, X5_areNeighbours_58, X5_areNeighbours_61, X5_areNeighbours_62, X5_areNeighbours_65, X5_areNeighbours_66 okz0, X5_areNeighbours_66 okz1, gz0, Option.some.injEq, exists_eq_left', eq_self, okz0, okz1, ht, cz0, sw_hasSeat, sw_isNext, Kr_v, Kj_v, h1, h2, if_false, a]
    rw [if_pos b, if_pos b]
    simp only [e1, if_false]
  by_cases d : y = (if z = (T 0).1 2 - 1 then 0 else z + 1)
  · simp only [X5_areNeighbours_0, X5_areNeighbours_1, X5_areNeighbours_4, X5_areNeighbours_5, X5_areNeighbours_8, X5_areNeighbours_11, X5_areNeighbours_12, X5_areNeighbours_15, X5_areNeighbours_16, X5_areNeighbours_19, X5_areNeighbours_22, X5_areNeighbours_32, X5_areNeighbours_33, X5_areNeighbours_34, X5_areNeighbours_37, X5_areNeighbours_38, X5_areNeighbours_41, X5_areNeighbours_42, X5_areNeighbours_43, X5_areNeighbours_46, X5_areNeighbours_49, X5_areNeighbours_50, X5_areNeighbours_53, X5_areNeighbours_54, X5_areNeighbours_55, X5_areNeighbours_58, X5_areNeighbours_61, X5_areNeighbours_62, X5_areNeighbours_65, X5_areNeighbours_66 okz0, X5_areNeighbours_66 okz1, gz0, Option.some.injEq, exists_eq_left', eq_self, okz0, okz1, ht, cz0, sw_hasSeat, sw_isNext, Kr_v, Kj_v, h1, h2, if_false, a]
    rw [if_neg b, if_neg b, if_pos d]
    simp only [e1, if_false, if_true]
  · simp only [X5_areNeighbours_0, X5_areNeighbours_1, X5_areNeighbours_4, X5_areNeighbours_5, X5_areNeighbours_8, X5_areNeighbours_11, X5_areNeighbours_12, X5_areNeighbours_15, X5_areNeighbours_16, X5_areNeighbours_19, X5_areNeighbours_22, X5_areNeighbours_32, X5_areNeighbours_33, X5_areNeighbours_34, X5_areNeighbours_37, X5_areNeighbours_38, X5_areNeighbours_41, X5_areNeighbours_42, X5_areNeighbours_43, X5_areNeighbours_46, X5_areNeighbours_49, X5_areNeighbours_50, X5_areNeighbours_53, X5_areNeighbours_54, X5_areNeighbours_55, X5_areNeighbours_58, X5_areNeighbours_61, X5_areNeighbours_62, X5_areNeighbours_65, X5_areNeighbours_66 okz0, X5_areNeighbours_66 okz1, gz0, Option.some.injEq, exists_eq_left', eq_self, okz0, okz1, ht, cz0, sw_hasSeat, sw_isNext, Kr_v, Kj_v, h1, h2, if_false, a]
    rw [if_neg b, if_neg b, if_neg d]
    simp only [if_true]
theorem sw_append {L : Nat} (hP : P 1 = nI L) (hL : L ≤ 60) {y : Int32} (hy : narrow .char (.int y) = .int y) : Ev X 21 0 [some (.ref x), some (.int y)] [] (SW w x T pa be Z P C D R Lt) n 0 0 Q ↔ if L < 60 then Q (.inl (some (.int (nI (L + 1))))) (SW w x T pa be Z (upd P 1 (nI (L + 1))) (upd C L y) D R Lt) n else Q (.inr ISE) (SW w x T pa be Z P C D R Lt) (n.map (· + 1)) := by
  by_cases a : L < 60
  · have a' : nI L < 60 := show nI L < nI 60 from nI_lt a (by decide)
    rw [if_pos a]
    simp only [X5_append_0, X5_append_1, X5_append_4, X5_append_7, X5_append_9, X5_append_12, X5_append_22, X5_append_23, X5_append_26, X5_append_29, X5_append_30, X5_append_33, X5_append_36, X5_append_37, X5_append_38, X5_append_39, X5_append_42, X5_append_43, X5_append_46, X5_append_47, X5_append_48, X5_append_51, X5_append_52, X5_append_55, X5_append_58, gz7, gzX (show 1 ≤ 1 by decide) (show 1 < 4 by decide), gzX0, Option.some.injEq, exists_eq_left', eq_self, okz0, okz1, ht, hP, a', if_true, hy, szC a, nI_1, pzX (show 1 ≤ 1 by decide) (show 1 < 4 by decide), upd_same]
  · have a' : ¬ nI L < 60 := fun q => nI_nlt (show 60 ≤ L by omega) (by omega) (show nI L < nI 60 from q)
    rw [if_neg a]
    simp only [X5_append_0, X5_append_1, X5_append_4, X5_append_7, X5_append_9, X5_append_12, X5_append_22, X5_append_23, X5_append_26, X5_append_29, X5_append_30, X5_append_33, X5_append_36, X5_append_37, X5_append_38, X5_append_39, X5_append_42, X5_append_43, X5_append_46, X5_append_47, X5_append_48, X5_append_51, X5_append_52, X5_append_55, X5_append_58, gz7, gzX (show 1 ≤ 1 by decide) (show 1 < 4 by decide), Option.some.injEq, exists_eq_left', eq_self, okz0, okz1, ht, hP, a', if_false, ISE]
theorem sw_faultPosition : Ev X 77 0 [some (.ref x)] [] (SW w x T pa be Z P C D R Lt) n 0 0 Q ↔ Q (.inl (some (.int (Z 8)))) (SW w x T pa be Z P C D R Lt) n := by
  simp only [X5_faultPosition_0, X5_faultPosition_1, X5_faultPosition_4, gz8, Option.some.injEq, exists_eq_left', eq_self, okz0, okz1, ht]
theorem sw_reason {y : Int32} : Ev X 18 0 [some (.ref x), some (.int y)] [] (SW w x T pa be Z P C D R Lt) n 0 0 Q ↔ if y < 0 then Q (.inr IAE) (SW w x T pa be Z P C D R Lt) (n.map (· + 1)) else if 2 < y then Q (.inr IAE) (SW w x T pa be Z P C D R Lt) (n.map (· + 1)) else if R 0 = 0 then Q (.inr NSE) (SW w x T pa be Z P C D R Lt) (n.map (· + 1)) else Q (.inl (some (.int (if y = 0 then R 0 else if y = 1 then R 1 else R 2)))) (SW w x T pa be Z P C D R Lt) n := by
  simp only [X5_reason_0, X5_reason_1, X5_reason_4, X5_reason_5, X5_reason_6, X5_reason_9, X5_reason_19, X5_reason_20, X5_reason_23, X5_reason_26, X5_reason_29, X5_reason_39, X5_reason_40, X5_reason_43, X5_reason_44, X5_reason_47, X5_reason_50, X5_reason_51, X5_reason_52, X5_reason_53, X5_reason_56, X5_reason_57, X5_reason_60, X5_reason_63, X5_reason_66, X5_reason_67, X5_reason_70, X5_reason_73, gz9, gzR (show 0 < 3 by decide), gzR (show 1 < 3 by decide), gzR (show 2 < 3 by decide), Option.some.injEq, exists_eq_left', eq_self, okz0, okz1, ht, IAE, NSE]
  by_cases a : y < 0
  · simp only [a, if_true]
  by_cases b : 2 < y
  · simp only [a, b, if_true, if_false]
  by_cases d : R 0 = 0
  · simp only [a, b, d, if_true, if_false]
  by_cases e : y = 0
  · subst e
    simp only [a, b, d, if_true, if_false]
  by_cases f : y = 1
  · subst f
    simp only [a, b, d, e, if_true, if_false]
  · simp only [a, b, d, e, f, if_false]
theorem sw_character {m : Nat} (hZ : Z 11 = nI m) (hm : m ≤ 40) {y : Int32} (hLt : ∀ k, k < m → okr (some .char) (Lt k) = true) : Ev X 94 0 [some (.ref x), some (.int y)] [] (SW w x T pa be Z P C D R Lt) n 0 0 Q ↔ if hasS (nI m) y = 0 then Q (.inr IOO) (SW w x T pa be Z P C D R Lt) (n.map (· + 1)) else Q (.inl (some (.int (Lt y.toNatClampNeg)))) (SW w x T pa be Z P C D R Lt) n := by
  by_cases a : y < 0
  · have e : hasS (nI m) y = 0 := if_pos a
    rw [if_pos e]
    simp only [X5_character_0, X5_character_1, X5_character_4, X5_character_5, X5_character_6, X5_character_9, X5_character_12, X5_character_22, X5_character_23, X5_character_26, X5_character_27, X5_character_28, a, if_true, IOO]
  · obtain ⟨j, hj, rfl⟩ := nI_of a
    by_cases b : nI j < nI m
    · have hjm : j < m := Nat.lt_of_not_le (fun q => nI_nlt q hj b)
      have e : ¬ hasS (nI m) (nI j) = 0 := by unfold hasS; rw [if_neg a, if_pos b]; decide
      rw [if_neg e, nI_clamp hj]
      have ho := hLt j hjm
      simp only [X5_character_0, X5_character_1, X5_character_4, X5_character_5, X5_character_6, X5_character_9, X5_character_12, X5_character_22, X5_character_23, X5_character_26, X5_character_27, X5_character_28, gz10, gz11, Option.some.injEq, exists_eq_left', eq_self, okz0, okz1, ht, hZ, a, b, if_true, if_false, gzL (show j < 40 by omega), ho]
    · have e : hasS (nI m) (nI j) = 0 := by unfold hasS; rw [if_neg a, if_neg b]
      rw [if_pos e]
      simp only [X5_character_0, X5_character_1, X5_character_4, X5_character_5, X5_character_6, X5_character_9, X5_character_12, X5_character_22, X5_character_23, X5_character_26, X5_character_27, X5_character_28, gz11, Option.some.injEq, exists_eq_left', eq_self, okz0, okz1, ht, hZ, a, b, if_false, IOO]
theorem sw_meanWait (hc : (T 0).1 2 = nI cnt) (h8 : cnt ≤ 8) (hn : itr (mealsOfAllF (T 0).2.2) cnt 0 ≠ 0 → n64 (FP.ddiv (FP.i2d (itr (waitsOfAllF (T 0).2.2) cnt 0)) (FP.i2d (itr (mealsOfAllF (T 0).2.2) cnt 0))) = true) : Ev X 107 0 [some (.ref x), none] [] (SW w x T pa be Z P C D R Lt) n 0 0 Q ↔ if itr (mealsOfAllF (T 0).2.2) cnt 0 = 0 then Q (.inr ARE) (SW w x T pa be Z P C D R Lt) (n.map (· + 1)) else Q (.inl (some (.double (FP.ddiv (FP.i2d (itr (waitsOfAllF (T 0).2.2) cnt 0)) (FP.i2d (itr (mealsOfAllF (T 0).2.2) cnt 0)))))) (SW w x T pa be Z P C D R Lt) n := by
  by_cases a : itr (mealsOfAllF (T 0).2.2) cnt 0 = 0
  · rw [if_pos a]
    simp only [X5_meanWait_0, X5_meanWait_1, X5_meanWait_4, X5_meanWait_7, X5_meanWait_8, X5_meanWait_9, X5_meanWait_12, X5_meanWait_22, X5_meanWait_23, X5_meanWait_26, X5_meanWait_29, X5_meanWait_30, X5_meanWait_31, X5_meanWait_32, X5_meanWait_33, gz0, Option.some.injEq, exists_eq_left', eq_self, okz0, okz1, ht, cz0, sw_mealsOfAll hc h8, Kr_v, Kj_v, a, if_true, ARE]
  · rw [if_neg a]
    have h := hn a
    simp only [X5_meanWait_0, X5_meanWait_1, X5_meanWait_4, X5_meanWait_7, X5_meanWait_8, X5_meanWait_9, X5_meanWait_12, X5_meanWait_22, X5_meanWait_23, X5_meanWait_26, X5_meanWait_29, X5_meanWait_30, X5_meanWait_31, X5_meanWait_32, X5_meanWait_33, gz0, Option.some.injEq, exists_eq_left', eq_self, okz0, okz1, ht, cz0, sw_mealsOfAll hc h8, sw_waitsOfAll hc h8, Kr_v, Kj_v, a, if_false, h]
theorem sw_fairness (hc : (T 0).1 2 = nI cnt) (h8 : cnt ≤ 8) (hn : itr (mostMealsF (T 0).2.2) cnt 0 ≠ 0 → n32 (FP.fdiv (FP.i2f (fewF cnt (T 0).2.2)) (FP.i2f (itr (mostMealsF (T 0).2.2) cnt 0))) = true) : Ev X 111 0 [some (.ref x), none] [] (SW w x T pa be Z P C D R Lt) n 0 0 Q ↔ if itr (mostMealsF (T 0).2.2) cnt 0 = 0 then Q (.inr ARE) (SW w x T pa be Z P C D R Lt) (n.map (· + 1)) else Q (.inl (some (.float (FP.fdiv (FP.i2f (fewF cnt (T 0).2.2)) (FP.i2f (itr (mostMealsF (T 0).2.2) cnt 0)))))) (SW w x T pa be Z P C D R Lt) n := by
  by_cases a : itr (mostMealsF (T 0).2.2) cnt 0 = 0
  · rw [if_pos a]
    simp only [X5_fairness_0, X5_fairness_1, X5_fairness_4, X5_fairness_7, X5_fairness_8, X5_fairness_9, X5_fairness_12, X5_fairness_23, X5_fairness_24, X5_fairness_27, X5_fairness_30, X5_fairness_31, X5_fairness_32, X5_fairness_33, X5_fairness_34, gz0, Option.some.injEq, exists_eq_left', eq_self, okz0, okz1, ht, cz0, sw_mostMeals hc h8, Kr_v, Kj_v, a, if_true, ARE]
  · rw [if_neg a]
    have h := hn a
    simp only [X5_fairness_0, X5_fairness_1, X5_fairness_4, X5_fairness_7, X5_fairness_8, X5_fairness_9, X5_fairness_12, X5_fairness_23, X5_fairness_24, X5_fairness_27, X5_fairness_30, X5_fairness_31, X5_fairness_32, X5_fairness_33, X5_fairness_34, gz0, Option.some.injEq, exists_eq_left', eq_self, okz0, okz1, ht, cz0, sw_mostMeals hc h8, sw_fewestMeals hc h8, Kr_v, Kj_v, a, if_false, h]
end QRY
