/-! ===== who wants which ladle, and who awaits whom ===== -/
section TBL2
variable {X : Cxt} {w : Wld} {n : Option Nat} {Q : (Option Value ⊕ String) → Wld → Option Nat → Prop} {t cnt : Nat} {F G : Nat → Int32} {S : Nat → Nat → Int32}
theorem hasS_in (h8 : cnt ≤ 8) {k : Nat} (hk : k < cnt) : hasS (nI cnt) (nI k) = 1 := by
  have h : ¬ nI k < 0 := fun h => nI_nlt (Nat.zero_le k) (by omega) (show nI k < nI 0 from h)
  unfold hasS
  rw [if_neg h, if_pos (nI_lt hk (by omega))]
theorem hasS_m1 {c : Int32} : hasS c (-1) = 0 := if_pos (by decide)
def wantF (cnt : Nat) (G : Nat → Int32) (S : Nat → Nat → Int32) (k : Nat) : Int32 := if S k 3 = 2 then nI (ladN cnt S k 1) else if S k 3 = 3 then (if G (ladN cnt S k 1) = nI k then nI (ladN cnt S k 0) else nI (ladN cnt S k 1)) else -1
theorem sp_wantedLadle (hc : F 2 = nI cnt) (h8 : cnt ≤ 8) {k : Nat} (hk : k < cnt) : Ev X 67 0 [some (.ref t), some (.int (nI k)), none] [] (blk w t F G S) n 0 0 Q ↔ Q (.inl (some (.int (wantF cnt G S k)))) (blk w t F G S) n := by
  have h1 : ladN cnt S k 1 < 8 := Nat.lt_of_lt_of_le (ladN_lt hk) h8
  simp only [X2_wantedLadle_0, X2_wantedLadle_1, X2_wantedLadle_2, X2_wantedLadle_3, X2_wantedLadle_6, X2_wantedLadle_7, X2_wantedLadle_8, X2_wantedLadle_11, X2_wantedLadle_12, X2_wantedLadle_13, X2_wantedLadle_16, X2_wantedLadle_17, X2_wantedLadle_20, X2_wantedLadle_21, X2_wantedLadle_22, X2_wantedLadle_23, X2_wantedLadle_26, X2_wantedLadle_27, X2_wantedLadle_28, X2_wantedLadle_31, X2_wantedLadle_32, X2_wantedLadle_35, X2_wantedLadle_36, X2_wantedLadle_37, X2_wantedLadle_38, X2_wantedLadle_41, X2_wantedLadle_42, X2_wantedLadle_43, X2_wantedLadle_44, X2_wantedLadle_47, X2_wantedLadle_48, X2_wantedLadle_49, X2_wantedLadle_50, X2_wantedLadle_53, X2_wantedLadle_56, X2_wantedLadle_57, sp_ladleOf hc h8 hk, Kr_v, Kj_v, gt0, gt1, gt2, Option.some.injEq, exists_eq_left', eq_self, okz0, okz1, ht, hc, gq (show k < 8 by omega), gh (show k < 8 by omega), gs (show k < 8 by omega) (show 0 < 9 by decide), gs (show k < 8 by omega) (show 1 < 9 by decide), gs (show k < 8 by omega) (show 2 < 9 by decide), gs (show k < 8 by omega) (show 3 < 9 by decide), gs (show k < 8 by omega) (show 4 < 9 by decide), gs (show k < 8 by omega) (show 5 < 9 by decide), gs (show k < 8 by omega) (show 6 < 9 by decide), gs (show k < 8 by omega) (show 7 < 9 by decide), gs (show k < 8 by omega) (show 8 < 9 by decide), gh h1]
  unfold wantF
  (repeat' split) <;> first | rfl | (exfalso; simp_all)
def awF (cnt : Nat) (G : Nat → Int32) (S : Nat → Nat → Int32) (k : Nat) : Int32 := if S k 3 = 2 then G (ladN cnt S k 1) else if S k 3 = 3 then (if G (ladN cnt S k 1) = nI k then G (ladN cnt S k 0) else G (ladN cnt S k 1)) else -1
theorem sp_awaitedSeat (hc : F 2 = nI cnt) (h8 : cnt ≤ 8) {k : Nat} (hk : k < cnt) : Ev X 86 0 [some (.ref t), some (.int (nI k)), none] [] (blk w t F G S) n 0 0 Q ↔ Q (.inl (some (.int (awF cnt G S k)))) (blk w t F G S) n := by
  have h1 : ladN cnt S k 1 < 8 := Nat.lt_of_lt_of_le (ladN_lt hk) h8
  have h0 : ladN cnt S k 0 < 8 := Nat.lt_of_lt_of_le (ladN_lt hk) h8
  have e1 : (1 : Int32) = 0 ↔ False := by decide
  have e2 : hasS (F 2) (nI k) = 1 := by rw [hc, hasS_in h8 hk]
  have e3 : hasS (F 2) (nI (ladN cnt S k 1)) = 1 := by rw [hc, hasS_in h8 (ladN_lt hk)]
  have e4 : hasS (F 2) (nI (ladN cnt S k 0)) = 1 := by rw [hc, hasS_in h8 (ladN_lt hk)]
  by_cases a : S k 3 = 2
  · have r1 : wantF cnt G S k = nI (ladN cnt S k 1) := if_pos a
    have r2 : awF cnt G S k = G (ladN cnt S k 1) := if_pos a
    simp only [X2_awaitedSeat_0, X2_awaitedSeat_1, X2_awaitedSeat_2, X2_awaitedSeat_5, X2_awaitedSeat_8, X2_awaitedSeat_9, X2_awaitedSeat_10, X2_awaitedSeat_11, X2_awaitedSeat_12, X2_awaitedSeat_15, X2_awaitedSeat_16, X2_awaitedSeat_17, X2_awaitedSeat_18, X2_awaitedSeat_21, X2_awaitedSeat_24, X2_awaitedSeat_25, X2_awaitedSeat_28, X2_awaitedSeat_29, X2_awaitedSeat_30, X2_awaitedSeat_33, X2_awaitedSeat_34, sp_hasSeat, sp_wantedLadle hc h8 hk, Kr_v, Kj_v, gt1, Option.some.injEq, exists_eq_left', eq_self, okz0, okz1, ht, e2, e1, if_false, r1, r2, e3, gh h1]
  by_cases b : S k 3 = 3
  · by_cases d : G (ladN cnt S k 1) = nI k
    · have r1 : wantF cnt G S k = nI (ladN cnt S k 0) := by unfold wantF; rw [if_neg a, if_pos b, if_pos d]
      have r2 : awF cnt G S k = G (ladN cnt S k 0) := by unfold awF; rw [if_neg a, if_pos b, if_pos d]
      simp only [X2_awaitedSeat_0, X2_awaitedSeat_1, X2_awaitedSeat_2, X2_awaitedSeat_5, X2_awaitedSeat_8, X2_awaitedSeat_9, X2_awaitedSeat_10, X2_awaitedSeat_11, X2_awaitedSeat_12, X2_awaitedSeat_15, X2_awaitedSeat_16, X2_awaitedSeat_17, X2_awaitedSeat_18, X2_awaitedSeat_21, X2_awaitedSeat_24, X2_awaitedSeat_25, X2_awaitedSeat_28, X2_awaitedSeat_29, X2_awaitedSeat_30, X2_awaitedSeat_33, X2_awaitedSeat_34, sp_hasSeat, sp_wantedLadle hc h8 hk, Kr_v, Kj_v, gt1, Option.some.injEq, exists_eq_left', eq_self, okz0, okz1, ht, e2, e1, if_false, r1, r2, e4, gh h0]
    · have r1 : wantF cnt G S k = nI (ladN cnt S k 1) := by unfold wantF; rw [if_neg a, if_pos b, if_neg d]
      have r2 : awF cnt G S k = G (ladN cnt S k 1) := by unfold awF; rw [if_neg a, if_pos b, if_neg d]
      simp only [X2_awaitedSeat_0, X2_awaitedSeat_1, X2_awaitedSeat_2, X2_awaitedSeat_5, X2_awaitedSeat_8, X2_awaitedSeat_9, X2_awaitedSeat_10, X2_awaitedSeat_11, X2_awaitedSeat_12, X2_awaitedSeat_15, X2_awaitedSeat_16, X2_awaitedSeat_17, X2_awaitedSeat_18, X2_awaitedSeat_21, X2_awaitedSeat_24, X2_awaitedSeat_25, X2_awaitedSeat_28, X2_awaitedSeat_29, X2_awaitedSeat_30, X2_awaitedSeat_33, X2_awaitedSeat_34, sp_hasSeat, sp_wantedLadle hc h8 hk, Kr_v, Kj_v, gt1, Option.some.injEq, exists_eq_left', eq_self, okz0, okz1, ht, e2, e1, if_false, r1, r2, e3, gh h1]
  · have r1 : wantF cnt G S k = -1 := by unfold wantF; rw [if_neg a, if_neg b]
    have r2 : awF cnt G S k = -1 := by unfold awF; rw [if_neg a, if_neg b]
    simp only [X2_awaitedSeat_0, X2_awaitedSeat_1, X2_awaitedSeat_2, X2_awaitedSeat_5, X2_awaitedSeat_8, X2_awaitedSeat_9, X2_awaitedSeat_10, X2_awaitedSeat_11, X2_awaitedSeat_12, X2_awaitedSeat_15, X2_awaitedSeat_16, X2_awaitedSeat_17, X2_awaitedSeat_18, X2_awaitedSeat_21, X2_awaitedSeat_24, X2_awaitedSeat_25, X2_awaitedSeat_28, X2_awaitedSeat_29, X2_awaitedSeat_30, X2_awaitedSeat_33, X2_awaitedSeat_34, sp_hasSeat, sp_wantedLadle hc h8 hk, Kr_v, Kj_v, gt1, Option.some.injEq, exists_eq_left', eq_self, okz0, okz1, ht, e2, e1, if_false, r1, r2, hasS_m1, if_true]
theorem sp_awaitedSeat_m1 : Ev X 86 0 [some (.ref t), some (.int (-1)), none] [] (blk w t F G S) n 0 0 Q ↔ Q (.inl (some (.int (-1)))) (blk w t F G S) n := by
  simp only [X2_awaitedSeat_0, X2_awaitedSeat_1, X2_awaitedSeat_2, X2_awaitedSeat_5, X2_awaitedSeat_8, X2_awaitedSeat_9, X2_awaitedSeat_10, X2_awaitedSeat_11, X2_awaitedSeat_12, X2_awaitedSeat_15, X2_awaitedSeat_16, X2_awaitedSeat_17, X2_awaitedSeat_18, X2_awaitedSeat_21, X2_awaitedSeat_24, X2_awaitedSeat_25, X2_awaitedSeat_28, X2_awaitedSeat_29, X2_awaitedSeat_30, X2_awaitedSeat_33, X2_awaitedSeat_34, sp_hasSeat, Kr_v, Kj_v, Option.some.injEq, exists_eq_left', eq_self, okz0, okz1, ht, hasS_m1, if_true]
def freeF (c : Int32) (G : Nat → Int32) (k : Nat) : Int32 := if G k = -1 then 1 else 0
theorem sp_isFree (hc : F 2 = nI cnt) (h8 : cnt ≤ 8) {k : Nat} (hk : k < cnt) : Ev X 68 0 [some (.ref t), some (.int (nI k))] [] (blk w t F G S) n 0 0 Q ↔ Q (.inl (some (.int (if G k = -1 then 1 else 0)))) (blk w t F G S) n := by
  have e1 : (1 : Int32) = 0 ↔ False := by decide
  simp only [X2_isFree_0, X2_isFree_1, X2_isFree_2, X2_isFree_5, X2_isFree_8, X2_isFree_9, X2_isFree_12, X2_isFree_13, X2_isFree_14, X2_isFree_15, X2_isFree_18, X2_isFree_19, X2_isFree_22, X2_isFree_23 okz0, X2_isFree_23 okz1, sp_hasSeat, Kr_v, Kj_v, gt1, Option.some.injEq, exists_eq_left', eq_self, okz0, okz1, ht, hc, hasS_in h8 hk, e1, if_false, gh (show k < 8 by omega)]
  split <;> rfl
theorem sp_isFree_m1 : Ev X 68 0 [some (.ref t), some (.int (-1))] [] (blk w t F G S) n 0 0 Q ↔ Q (.inl (some (.int 0))) (blk w t F G S) n := by
  simp only [X2_isFree_0, X2_isFree_1, X2_isFree_2, X2_isFree_5, X2_isFree_8, X2_isFree_9, X2_isFree_12, X2_isFree_13, X2_isFree_14, X2_isFree_15, X2_isFree_18, X2_isFree_19, X2_isFree_22, X2_isFree_23 okz0, X2_isFree_23 okz1, sp_hasSeat, Kr_v, Kj_v, Option.some.injEq, exists_eq_left', eq_self, okz0, okz1, ht, hasS_m1, if_true]
def nextF (cnt : Nat) (k : Nat) : Nat := if k + 1 = cnt then 0 else k + 1
def befF (S : Nat → Nat → Int32) (i k : Nat) (a : Int32) : Int32 := if S k 3 = 1 then (if 0 < S k 7 - S i 7 then a + 1 else if S k 7 - S i 7 = 0 then (if nI k < nI i then a + 1 else a) else a) else a
theorem sp_askersBefore (hc : F 2 = nI cnt) (h8 : cnt ≤ 8) {i : Nat} (hi : i < cnt) : Ev X 63 0 [some (.ref t), some (.int (nI i)), none, none, none] [] (blk w t F G S) n 0 0 Q ↔ Q (.inl (some (.int (itr (befF S i) cnt 0)))) (blk w t F G S) n := by
  have hL : ∀ l4, (Ev X 63 4 [some (.ref t), some (.int (nI i)), some (.int 0), some (.int 0), l4] [] (blk w t F G S) n 0 0 Q ↔ Q (.inl (some (.int (itr (befF S i) cnt 0)))) (blk w t F G S) n) := by
    intro l4
    have h := loop_up (α := Int32 × Option Value) (P := fun k a => Ev X 63 4 [some (.ref t), some (.int (nI i)), some (.int a.1), some (.int (nI k)), a.2] [] (blk w t F G S) n 0 0 Q) (f := fun k a => (befF S i k a.1, some (.int (S k 7 - S i 7)))) (n := cnt) (a0 := (0, l4)) (fun k a hk => by
      have hlt : nI k < nI cnt := nI_lt hk (by omega)
      dsimp only
      rw [X2_askersBefore_4]
      simp only [X2_askersBefore_0, X2_askersBefore_1, X2_askersBefore_2, X2_askersBefore_3, X2_askersBefore_5, X2_askersBefore_6, X2_askersBefore_9, X2_askersBefore_12, X2_askersBefore_13, X2_askersBefore_16, X2_askersBefore_17, X2_askersBefore_18, X2_askersBefore_21, X2_askersBefore_22, X2_askersBefore_25, X2_askersBefore_26, X2_askersBefore_27, X2_askersBefore_30, X2_askersBefore_31, X2_askersBefore_33, X2_askersBefore_34, X2_askersBefore_37, X2_askersBefore_38, X2_askersBefore_39, X2_askersBefore_42, X2_askersBefore_43, X2_askersBefore_46, X2_askersBefore_48, X2_askersBefore_51, X2_askersBefore_53, X2_askersBefore_56, X2_askersBefore_57, X2_askersBefore_58, X2_askersBefore_61, X2_askersBefore_64, X2_askersBefore_67, X2_askersBefore_70, X2_askersBefore_71, gt0, gt1, gt2, Option.some.injEq, exists_eq_left', eq_self, okz0, okz1, ht, hc, hlt, if_true, gq (show k < 8 by omega), gh (show k < 8 by omega), gs (show k < 8 by omega) (show 0 < 9 by decide), gs (show k < 8 by omega) (show 1 < 9 by decide), gs (show k < 8 by omega) (show 2 < 9 by decide), gs (show k < 8 by omega) (show 3 < 9 by decide), gs (show k < 8 by omega) (show 4 < 9 by decide), gs (show k < 8 by omega) (show 5 < 9 by decide), gs (show k < 8 by omega) (show 6 < 9 by decide), gs (show k < 8 by omega) (show 7 < 9 by decide), gs (show k < 8 by omega) (show 8 < 9 by decide), gq (show i < 8 by omega), gs (show i < 8 by omega) (show 7 < 9 by decide), nI_1]
      unfold befF
      (repeat' split) <;> rfl)
    have h2 : ∀ m, (itr (fun k (a : Int32 × Option Value) => (befF S i k a.1, some (.int (S k 7 - S i 7)))) m (0, l4)).1 = itr (befF S i) m 0 := by
      intro m
      induction m with
      | zero => rfl
      | succ m ih => rw [itr_s, itr_s, ih]
    dsimp only at h
    refine h.trans ?_
    rw [h2]
    simp only [X2_askersBefore_0, X2_askersBefore_1, X2_askersBefore_2, X2_askersBefore_3, X2_askersBefore_4, X2_askersBefore_5, X2_askersBefore_6, X2_askersBefore_9, X2_askersBefore_12, X2_askersBefore_13, X2_askersBefore_16, X2_askersBefore_17, X2_askersBefore_18, X2_askersBefore_21, X2_askersBefore_22, X2_askersBefore_25, X2_askersBefore_26, X2_askersBefore_27, X2_askersBefore_30, X2_askersBefore_31, X2_askersBefore_33, X2_askersBefore_34, X2_askersBefore_37, X2_askersBefore_38, X2_askersBefore_39, X2_askersBefore_42, X2_askersBefore_43, X2_askersBefore_46, X2_askersBefore_48, X2_askersBefore_51, X2_askersBefore_53, X2_askersBefore_56, X2_askersBefore_57, X2_askersBefore_58, X2_askersBefore_61, X2_askersBefore_64, X2_askersBefore_67, X2_askersBefore_70, X2_askersBefore_71, gt2, Option.some.injEq, exists_eq_left', eq_self, okz0, okz1, ht, hc, Int32.lt_irrefl, if_false]
  simp only [X2_askersBefore_0, X2_askersBefore_1, X2_askersBefore_2, X2_askersBefore_3]
  exact hL none
end TBL2
