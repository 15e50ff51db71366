/-! ===== who is asking, who is hungriest, hands ===== -/
section TBL3
variable {X : Cxt} {w : Wld} {n : Option Nat} {Q : (Option Value ⊕ String) → Wld → Option Nat → Prop} {t cnt : Nat} {F G : Nat → Int32} {S : Nat → Nat → Int32}
def oI : Option Nat → Int32
  | some j => nI j
  | none => -1
def askP (cnt : Nat) (S : Nat → Nat → Int32) (x : Int32) (k : Nat) : Bool := decide (S k 3 = 1 ∧ itr (befF S k) cnt 0 = x)
theorem sp_askerAt (hc : F 2 = nI cnt) (h8 : cnt ≤ 8) {x : Int32} : Ev X 64 0 [some (.ref t), some (.int x), none] [] (blk w t F G S) n 0 0 Q ↔ Q (.inl (some (.int (oI (ff (askP cnt S x) cnt 0))))) (blk w t F G S) n := by
  have h := loop_ff (P := fun k => Ev X 64 2 [some (.ref t), some (.int x), some (.int (nI k))] [] (blk w t F G S) n 0 0 Q) (R := fun j => Q (.inl (some (.int (nI j)))) (blk w t F G S) n) (p := askP cnt S x) (n := cnt) (fun k hk => by
    have hlt : nI k < nI cnt := nI_lt hk (by omega)
    rw [X2_askerAt_2]
    simp only [X2_askerAt_0, X2_askerAt_1, X2_askerAt_3, X2_askerAt_4, X2_askerAt_7, X2_askerAt_10, X2_askerAt_11, X2_askerAt_14, X2_askerAt_15, X2_askerAt_16, X2_askerAt_19, X2_askerAt_20, X2_askerAt_23, X2_askerAt_24, X2_askerAt_25, X2_askerAt_28, X2_askerAt_29, X2_askerAt_32, X2_askerAt_33, X2_askerAt_34, X2_askerAt_37, X2_askerAt_40, X2_askerAt_41, gt0, gt1, gt2, Option.some.injEq, exists_eq_left', eq_self, okz0, okz1, ht, hc, hlt, if_true, gq (show k < 8 by omega), gh (show k < 8 by omega), gs (show k < 8 by omega) (show 0 < 9 by decide), gs (show k < 8 by omega) (show 1 < 9 by decide), gs (show k < 8 by omega) (show 2 < 9 by decide), gs (show k < 8 by omega) (show 3 < 9 by decide), gs (show k < 8 by omega) (show 4 < 9 by decide), gs (show k < 8 by omega) (show 5 < 9 by decide), gs (show k < 8 by omega) (show 6 < 9 by decide), gs (show k < 8 by omega) (show 7 < 9 by decide), gs (show k < 8 by omega) (show 8 < 9 by decide), nI_1, sp_askersBefore hc h8 hk, Kr_v, Kj_v]
    unfold askP
    by_cases a : S k 3 = 1 <;> by_cases b : itr (befF S k) cnt 0 = x <;> simp [a, b]) cnt 0 (Nat.zero_add cnt)
  simp only [X2_askerAt_0, X2_askerAt_1]
  refine h.trans ?_
  unfold oI
  cases ff (askP cnt S x) cnt 0 with
  | some j => exact Iff.rfl
  | none => simp only [X2_askerAt_0, X2_askerAt_1, X2_askerAt_2, X2_askerAt_3, X2_askerAt_4, X2_askerAt_7, X2_askerAt_10, X2_askerAt_11, X2_askerAt_14, X2_askerAt_15, X2_askerAt_16, X2_askerAt_19, X2_askerAt_20, X2_askerAt_23, X2_askerAt_24, X2_askerAt_25, X2_askerAt_28, X2_askerAt_29, X2_askerAt_32, X2_askerAt_33, X2_askerAt_34, X2_askerAt_37, X2_askerAt_40, X2_askerAt_41, gt2, Option.some.injEq, exists_eq_left', eq_self, okz0, okz1, ht, hc, Int32.lt_irrefl, if_false]
def hgr (S : Nat → Nat → Int32) (a b : Nat) : Bool := if S a 5 < S b 5 then true else if S a 5 = S b 5 then decide (S b 6 < S a 6) else false
theorem sp_isHungrierThan {a b : Nat} (ha : a < 8) (hb : b < 8) : Ev X 122 0 [some (.ref (t + 3 + a)), some (.ref (t + 3 + b))] [] (blk w t F G S) n 0 0 Q ↔ Q (.inl (some (.int (if hgr S a b then 1 else 0)))) (blk w t F G S) n := by
  simp only [X1_isHungrierThan_0, X1_isHungrierThan_1, X1_isHungrierThan_4, X1_isHungrierThan_5, X1_isHungrierThan_8, X1_isHungrierThan_11, X1_isHungrierThan_12, X1_isHungrierThan_15, X1_isHungrierThan_16, X1_isHungrierThan_19, X1_isHungrierThan_22, X1_isHungrierThan_23, X1_isHungrierThan_26, X1_isHungrierThan_27, X1_isHungrierThan_30, X1_isHungrierThan_33, X1_isHungrierThan_34, X1_isHungrierThan_37, X1_isHungrierThan_38 okz0, X1_isHungrierThan_38 okz1, gs ha (show 5 < 9 by decide), gs ha (show 6 < 9 by decide), gs hb (show 5 < 9 by decide), gs hb (show 6 < 9 by decide), Option.some.injEq, exists_eq_left', eq_self, okz0, okz1, ht]
  unfold hgr
  by_cases h1 : S a 5 < S b 5
  · simp [h1]
  by_cases h2 : S a 5 = S b 5
  · by_cases h3 : S b 6 < S a 6 <;> simp [h1, h2, h3]
  · simp [h1, h2]
def hunF (S : Nat → Nat → Int32) (i k : Nat) (a : Int32) : Int32 := if hgr S k i then a + 1 else if nI k < nI i then (if hgr S i k then a else a + 1) else a
theorem sp_hungrierThan (hc : F 2 = nI cnt) (h8 : cnt ≤ 8) {i : Nat} (hi : i < cnt) : Ev X 123 0 [some (.ref t), some (.int (nI i)), none, none, none] [] (blk w t F G S) n 0 0 Q ↔ Q (.inl (some (.int (itr (hunF S i) cnt 0)))) (blk w t F G S) n := by
  have hL : ∀ l4, (Ev X 123 4 [some (.ref t), some (.int (nI i)), some (.int 0), some (.int 0), l4] [] (blk w t F G S) n 0 0 Q ↔ Q (.inl (some (.int (itr (hunF S i) cnt 0)))) (blk w t F G S) n) := by
    intro l4
    let f : Nat → (Int32 × Option Value) → (Int32 × Option Value) := fun k a => (hunF S i k a.1, some (.int (if nI k < nI i then (if hgr S i k then 0 else 1) else 0)))
    have h := loop_up (α := Int32 × Option Value) (P := fun k a => Ev X 123 4 [some (.ref t), some (.int (nI i)), some (.int a.1), some (.int (nI k)), a.2] [] (blk w t F G S) n 0 0 Q) (f := f) (n := cnt) (a0 := (0, l4)) (fun k a hk => by
      have hlt : nI k < nI cnt := nI_lt hk (by omega)
      have e1 : (1 : Int32) = 0 ↔ False := by decide
      rw [X2_hungrierThan_4]
      simp only [X2_hungrierThan_0, X2_hungrierThan_1, X2_hungrierThan_2, X2_hungrierThan_3, X2_hungrierThan_5, X2_hungrierThan_6, X2_hungrierThan_9, X2_hungrierThan_12, X2_hungrierThan_13, X2_hungrierThan_14, X2_hungrierThan_17, X2_hungrierThan_18, X2_hungrierThan_21, X2_hungrierThan_22, X2_hungrierThan_23, X2_hungrierThan_24, X2_hungrierThan_27, X2_hungrierThan_28, X2_hungrierThan_29, X2_hungrierThan_32, X2_hungrierThan_35, X2_hungrierThan_36, X2_hungrierThan_39, X2_hungrierThan_40, X2_hungrierThan_42, X2_hungrierThan_43, X2_hungrierThan_46, X2_hungrierThan_47, X2_hungrierThan_48, X2_hungrierThan_49, X2_hungrierThan_52, X2_hungrierThan_53, X2_hungrierThan_54, X2_hungrierThan_57, X2_hungrierThan_60, X2_hungrierThan_62, X2_hungrierThan_65, X2_hungrierThan_68, X2_hungrierThan_71, X2_hungrierThan_74, X2_hungrierThan_75, gt0, gt1, gt2, Option.some.injEq, exists_eq_left', eq_self, okz0, okz1, ht, hc, hlt, if_true, gq (show k < 8 by omega), gh (show k < 8 by omega), gs (show k < 8 by omega) (show 0 < 9 by decide), gs (show k < 8 by omega) (show 1 < 9 by decide), gs (show k < 8 by omega) (show 2 < 9 by decide), gs (show k < 8 by omega) (show 3 < 9 by decide), gs (show k < 8 by omega) (show 4 < 9 by decide), gs (show k < 8 by omega) (show 5 < 9 by decide), gs (show k < 8 by omega) (show 6 < 9 by decide), gs (show k < 8 by omega) (show 7 < 9 by decide), gs (show k < 8 by omega) (show 8 < 9 by decide), gq (show i < 8 by omega), hs_ (show k < 8 by omega), hs_ (show i < 8 by omega), sp_isHungrierThan (show i < 8 by omega) (show k < 8 by omega), sp_isHungrierThan (show k < 8 by omega) (show i < 8 by omega), Kr_v, Kj_v, nI_1]
      show _ ↔ Ev X 123 4 [some (.ref t), some (.int (nI i)), some (.int (hunF S i k a.1)), some (.int (nI (k + 1))), some (.int (if nI k < nI i then (if hgr S i k then 0 else 1) else 0))] [] (blk w t F G S) n 0 0 Q
      unfold hunF
      by_cases a1 : nI k < nI i <;> by_cases a2 : hgr S i k = true <;> by_cases a3 : hgr S k i = true <;> simp [a1, a2, a3])
    have h2 : ∀ m, (itr f m (0, l4)).1 = itr (hunF S i) m 0 := by
      intro m
      induction m with
      | zero => rfl
      | succ m ih => rw [itr_s, itr_s, ← ih]
    dsimp only at h
    refine h.trans ?_
    rw [h2]
    simp only [X2_hungrierThan_0, X2_hungrierThan_1, X2_hungrierThan_2, X2_hungrierThan_3, X2_hungrierThan_4, X2_hungrierThan_5, X2_hungrierThan_6, X2_hungrierThan_9, X2_hungrierThan_12, X2_hungrierThan_13, X2_hungrierThan_14, X2_hungrierThan_17, X2_hungrierThan_18, X2_hungrierThan_21, X2_hungrierThan_22, X2_hungrierThan_23, X2_hungrierThan_24, X2_hungrierThan_27, X2_hungrierThan_28, X2_hungrierThan_29, X2_hungrierThan_32, X2_hungrierThan_35, X2_hungrierThan_36, X2_hungrierThan_39, X2_hungrierThan_40, X2_hungrierThan_42, X2_hungrierThan_43, X2_hungrierThan_46, X2_hungrierThan_47, X2_hungrierThan_48, X2_hungrierThan_49, X2_hungrierThan_52, X2_hungrierThan_53, X2_hungrierThan_54, X2_hungrierThan_57, X2_hungrierThan_60, X2_hungrierThan_62, X2_hungrierThan_65, X2_hungrierThan_68, X2_hungrierThan_71, X2_hungrierThan_74, X2_hungrierThan_75, gt2, Option.some.injEq, exists_eq_left', eq_self, okz0, okz1, ht, hc, Int32.lt_irrefl, if_false]
  simp only [X2_hungrierThan_0, X2_hungrierThan_1, X2_hungrierThan_2, X2_hungrierThan_3]
  exact hL none
def hunP (cnt : Nat) (S : Nat → Nat → Int32) (x : Int32) (k : Nat) : Bool := decide (itr (hunF S k) cnt 0 = x)
theorem sp_hungriestAt (hc : F 2 = nI cnt) (h8 : cnt ≤ 8) {x : Int32} : Ev X 124 0 [some (.ref t), some (.int x), none] [] (blk w t F G S) n 0 0 Q ↔ Q (.inl (some (.int (oI (ff (hunP cnt S x) cnt 0))))) (blk w t F G S) n := by
  have h := loop_ff (P := fun k => Ev X 124 2 [some (.ref t), some (.int x), some (.int (nI k))] [] (blk w t F G S) n 0 0 Q) (R := fun j => Q (.inl (some (.int (nI j)))) (blk w t F G S) n) (p := hunP cnt S x) (n := cnt) (fun k hk => by
    have hlt : nI k < nI cnt := nI_lt hk (by omega)
    rw [X2_hungriestAt_2]
    simp only [X2_hungriestAt_0, X2_hungriestAt_1, X2_hungriestAt_3, X2_hungriestAt_4, X2_hungriestAt_7, X2_hungriestAt_10, X2_hungriestAt_11, X2_hungriestAt_12, X2_hungriestAt_15, X2_hungriestAt_16, X2_hungriestAt_19, X2_hungriestAt_20, X2_hungriestAt_21, X2_hungriestAt_24, X2_hungriestAt_27, X2_hungriestAt_28, gt0, gt1, gt2, Option.some.injEq, exists_eq_left', eq_self, okz0, okz1, ht, hc, hlt, if_true, nI_1, sp_hungrierThan hc h8 hk, Kr_v, Kj_v]
    unfold hunP
    by_cases b : itr (hunF S k) cnt 0 = x <;> simp [b]) cnt 0 (Nat.zero_add cnt)
  simp only [X2_hungriestAt_0, X2_hungriestAt_1]
  refine h.trans ?_
  unfold oI
  cases ff (hunP cnt S x) cnt 0 with
  | some j => exact Iff.rfl
  | none => simp only [X2_hungriestAt_0, X2_hungriestAt_1, X2_hungriestAt_2, X2_hungriestAt_3, X2_hungriestAt_4, X2_hungriestAt_7, X2_hungriestAt_10, X2_hungriestAt_11, X2_hungriestAt_12, X2_hungriestAt_15, X2_hungriestAt_16, X2_hungriestAt_19, X2_hungriestAt_20, X2_hungriestAt_21, X2_hungriestAt_24, X2_hungriestAt_27, X2_hungriestAt_28, gt2, Option.some.injEq, exists_eq_left', eq_self, okz0, okz1, ht, hc, Int32.lt_irrefl, if_false]
def bothP (S : Nat → Nat → Int32) (k : Nat) : Bool := decide (S k 0 ≠ S 0 0)
theorem sp_hasBothManners (hc : F 2 = nI cnt) (h8 : cnt ≤ 8) : Ev X 82 0 [some (.ref t), none] [] (blk w t F G S) n 0 0 Q ↔ Q (.inl (some (.int (if (ff (bothP S) (cnt - 1) 1).isSome then 1 else 0)))) (blk w t F G S) n := by
  rcases Nat.eq_zero_or_pos cnt with rfl | hp
  · have hlt : ¬ (1 : Int32) < nI 0 := by decide
    simp only [X2_hasBothManners_0, X2_hasBothManners_1, X2_hasBothManners_2, X2_hasBothManners_3, X2_hasBothManners_4, X2_hasBothManners_7, X2_hasBothManners_10, X2_hasBothManners_11, X2_hasBothManners_14, X2_hasBothManners_15, X2_hasBothManners_16, X2_hasBothManners_19, X2_hasBothManners_20, X2_hasBothManners_23, X2_hasBothManners_24, X2_hasBothManners_25, X2_hasBothManners_28, X2_hasBothManners_31, X2_hasBothManners_32 okz0, X2_hasBothManners_32 okz1, X2_hasBothManners_33, X2_hasBothManners_36, X2_hasBothManners_39, X2_hasBothManners_40 okz0, X2_hasBothManners_40 okz1, gt2, Option.some.injEq, exists_eq_left', eq_self, okz0, okz1, ht, hc, hlt, if_false]
    rfl
  have h := loop_ff (P := fun k => Ev X 82 2 [some (.ref t), some (.int (nI k))] [] (blk w t F G S) n 0 0 Q) (R := fun j => Q (.inl (some (.int 1))) (blk w t F G S) n) (p := bothP S) (n := cnt) (fun k hk => by
    have hlt : nI k < nI cnt := nI_lt hk (by omega)
    have h0 : (ga (blk w t F G S) (t + 1) 4 0).or (ga (blk w t F G S) (t + 1) 5 0) = some (.ref (t + 3 + 0)) := gq (k := 0) (by decide)
    rw [X2_hasBothManners_2]
    simp only [X2_hasBothManners_0, X2_hasBothManners_1, X2_hasBothManners_3, X2_hasBothManners_4, X2_hasBothManners_7, X2_hasBothManners_10, X2_hasBothManners_11, X2_hasBothManners_14, X2_hasBothManners_15, X2_hasBothManners_16, X2_hasBothManners_19, X2_hasBothManners_20, X2_hasBothManners_23, X2_hasBothManners_24, X2_hasBothManners_25, X2_hasBothManners_28, X2_hasBothManners_31, X2_hasBothManners_32 okz0, X2_hasBothManners_32 okz1, X2_hasBothManners_33, X2_hasBothManners_36, X2_hasBothManners_39, X2_hasBothManners_40 okz0, X2_hasBothManners_40 okz1, gt0, gt1, gt2, Option.some.injEq, exists_eq_left', eq_self, okz0, okz1, ht, hc, hlt, if_true, gq (show k < 8 by omega), gh (show k < 8 by omega), gs (show k < 8 by omega) (show 0 < 9 by decide), gs (show k < 8 by omega) (show 1 < 9 by decide), gs (show k < 8 by omega) (show 2 < 9 by decide), gs (show k < 8 by omega) (show 3 < 9 by decide), gs (show k < 8 by omega) (show 4 < 9 by decide), gs (show k < 8 by omega) (show 5 < 9 by decide), gs (show k < 8 by omega) (show 6 < 9 by decide), gs (show k < 8 by omega) (show 7 < 9 by decide), gs (show k < 8 by omega) (show 8 < 9 by decide), h0, gs (show 0 < 8 by decide) (show 0 < 9 by decide), nI_1]
    unfold bothP
    by_cases b : S k 0 = S 0 0 <;> simp [b]) (cnt - 1) 1 (by omega)
  simp only [X2_hasBothManners_0, X2_hasBothManners_1]
  refine h.trans ?_
  cases ff (bothP S) (cnt - 1) 1 with
  | some j => exact Iff.rfl
  | none => simp only [X2_hasBothManners_0, X2_hasBothManners_1, X2_hasBothManners_2, X2_hasBothManners_3, X2_hasBothManners_4, X2_hasBothManners_7, X2_hasBothManners_10, X2_hasBothManners_11, X2_hasBothManners_14, X2_hasBothManners_15, X2_hasBothManners_16, X2_hasBothManners_19, X2_hasBothManners_20, X2_hasBothManners_23, X2_hasBothManners_24, X2_hasBothManners_25, X2_hasBothManners_28, X2_hasBothManners_31, X2_hasBothManners_32 okz0, X2_hasBothManners_32 okz1, X2_hasBothManners_33, X2_hasBothManners_36, X2_hasBothManners_39, X2_hasBothManners_40 okz0, X2_hasBothManners_40 okz1, gt2, Option.some.injEq, exists_eq_left', eq_self, okz0, okz1, ht, hc, Int32.lt_irrefl, if_false]; rfl
theorem sp_isNext {x y : Int32} : Ev X 127 0 [some (.ref t), some (.int x), some (.int y)] [] (blk w t F G S) n 0 0 Q ↔ Q (.inl (some (.int (if y = (if x = F 2 - 1 then 0 else x + 1) then 1 else 0)))) (blk w t F G S) n := by
  simp only [X2_isNext_0, X2_isNext_1, X2_isNext_2, X2_isNext_3, X2_isNext_6, X2_isNext_7, X2_isNext_8, X2_isNext_11, X2_isNext_12, X2_isNext_15, X2_isNext_16, X2_isNext_17, X2_isNext_18, X2_isNext_21, X2_isNext_22, X2_isNext_25, X2_isNext_26 okz0, X2_isNext_26 okz1, gt2, Option.some.injEq, exists_eq_left', eq_self, okz0, okz1, ht]
  (repeat' split) <;> simp_all
def fewF (cnt : Nat) (S : Nat → Nat → Int32) : Int32 := if cnt = 0 then 0 else itr (fun k a => imn a (S (k + 1) 5)) (cnt - 1) (S 0 5)
theorem sp_fewestMeals (hc : F 2 = nI cnt) (h8 : cnt ≤ 8) : Ev X 110 0 [some (.ref t), none, none] [] (blk w t F G S) n 0 0 Q ↔ Q (.inl (some (.int (fewF cnt S)))) (blk w t F G S) n := by
  rcases Nat.eq_zero_or_pos cnt with rfl | hp
  · have hlt : ¬ (1 : Int32) < nI 0 := by decide
    have h0 : nI 0 = 0 := rfl
    have hlt2 : ¬ (1 : Int32) < 0 := by decide
    simp only [X2_fewestMeals_0, X2_fewestMeals_1, X2_fewestMeals_4, X2_fewestMeals_7, X2_fewestMeals_8, X2_fewestMeals_11, X2_fewestMeals_12, X2_fewestMeals_15, X2_fewestMeals_16, X2_fewestMeals_17, X2_fewestMeals_20, X2_fewestMeals_21, X2_fewestMeals_22, X2_fewestMeals_23, X2_fewestMeals_24, X2_fewestMeals_25, X2_fewestMeals_28, X2_fewestMeals_31, X2_fewestMeals_32, X2_fewestMeals_33, X2_fewestMeals_36, X2_fewestMeals_37, X2_fewestMeals_38, X2_fewestMeals_41, X2_fewestMeals_44, X2_fewestMeals_45, X2_fewestMeals_48, X2_fewestMeals_51, X2_fewestMeals_52, gt2, Option.some.injEq, exists_eq_left', eq_self, okz0, okz1, ht, hc, hlt, hlt2, h0, if_false, if_true]
    rfl
  have h := loop_up (P := fun k a => Ev X 110 23 [some (.ref t), some (.int a), some (.int (nI (k + 1)))] [] (blk w t F G S) n 0 0 Q) (f := fun k a => imn a (S (k + 1) 5)) (n := cnt - 1) (a0 := S 0 5) (fun k a hk => by
    have hlt : nI (k + 1) < nI cnt := nI_lt (by omega) (by omega)
    rw [X2_fewestMeals_23]
    simp only [X2_fewestMeals_0, X2_fewestMeals_1, X2_fewestMeals_4, X2_fewestMeals_7, X2_fewestMeals_8, X2_fewestMeals_11, X2_fewestMeals_12, X2_fewestMeals_15, X2_fewestMeals_16, X2_fewestMeals_17, X2_fewestMeals_20, X2_fewestMeals_21, X2_fewestMeals_22, X2_fewestMeals_24, X2_fewestMeals_25, X2_fewestMeals_28, X2_fewestMeals_31, X2_fewestMeals_32, X2_fewestMeals_33, X2_fewestMeals_36, X2_fewestMeals_37, X2_fewestMeals_38, X2_fewestMeals_41, X2_fewestMeals_44, X2_fewestMeals_45, X2_fewestMeals_48, X2_fewestMeals_51, X2_fewestMeals_52, gt0, gt1, gt2, Option.some.injEq, exists_eq_left', eq_self, okz0, okz1, ht, hc, hlt, if_true, gq (show k + 1 < 8 by omega), gs (show k + 1 < 8 by omega) (show 5 < 9 by decide), nI_1])
  have h0 : (ga (blk w t F G S) (t + 1) 4 0).or (ga (blk w t F G S) (t + 1) 5 0) = some (.ref (t + 3 + 0)) := gq (k := 0) (by decide)
  have hn : nI cnt = 0 ↔ False := ⟨fun q => nI_ne0 hp (by omega) q, False.elim⟩
  simp only [X2_fewestMeals_0, X2_fewestMeals_1, X2_fewestMeals_4, X2_fewestMeals_7, X2_fewestMeals_8, X2_fewestMeals_11, X2_fewestMeals_12, X2_fewestMeals_15, X2_fewestMeals_16, X2_fewestMeals_17, X2_fewestMeals_20, X2_fewestMeals_21, X2_fewestMeals_22, X2_fewestMeals_24, X2_fewestMeals_25, X2_fewestMeals_28, X2_fewestMeals_31, X2_fewestMeals_32, X2_fewestMeals_33, X2_fewestMeals_36, X2_fewestMeals_37, X2_fewestMeals_38, X2_fewestMeals_41, X2_fewestMeals_44, X2_fewestMeals_45, X2_fewestMeals_48, X2_fewestMeals_51, X2_fewestMeals_52, gt0, gt2, Option.some.injEq, exists_eq_left', eq_self, okz0, okz1, ht, hc, hn, if_false, h0, gs (show 0 < 8 by decide) (show 5 < 9 by decide)] at h ⊢
  refine h.trans ?_
  rw [Nat.sub_add_cancel hp]
  simp only [X2_fewestMeals_0, X2_fewestMeals_1, X2_fewestMeals_4, X2_fewestMeals_7, X2_fewestMeals_8, X2_fewestMeals_11, X2_fewestMeals_12, X2_fewestMeals_15, X2_fewestMeals_16, X2_fewestMeals_17, X2_fewestMeals_20, X2_fewestMeals_21, X2_fewestMeals_22, X2_fewestMeals_23, X2_fewestMeals_24, X2_fewestMeals_25, X2_fewestMeals_28, X2_fewestMeals_31, X2_fewestMeals_32, X2_fewestMeals_33, X2_fewestMeals_36, X2_fewestMeals_37, X2_fewestMeals_38, X2_fewestMeals_41, X2_fewestMeals_44, X2_fewestMeals_45, X2_fewestMeals_48, X2_fewestMeals_51, X2_fewestMeals_52, gt2, Option.some.injEq, exists_eq_left', eq_self, okz0, okz1, ht, hc, Int32.lt_irrefl, if_false]
  unfold fewF
  rw [if_neg (by omega)]
def usr (x y : Int32) : Int32 := (x.toUInt32 >>> (y.toUInt32 &&& Int32.toUInt32 31)).toInt32
def bcI (x : Int32) : Int32 :=
  let a := x - (usr x 1 &&& 1431655765)
  let b := (a &&& 858993459) + (usr a 2 &&& 858993459)
  let c := (b + usr b 4) &&& 252645135
  let d := c + usr c 8
  let e := d + usr d 16
  e &&& 63
theorem sp_bitCount {w : Wld} {x : Int32} : Ev X 26 0 [some (.int x)] [] w n 0 0 Q ↔ Q (.inl (some (.int (bcI x)))) w n := by
  simp only [J6_bitCount_0f7a4_0, J6_bitCount_0f7a4_1, J6_bitCount_0f7a4_2, J6_bitCount_0f7a4_3, J6_bitCount_0f7a4_4, J6_bitCount_0f7a4_7, J6_bitCount_0f7a4_8, J6_bitCount_0f7a4_9, J6_bitCount_0f7a4_10, J6_bitCount_0f7a4_11, J6_bitCount_0f7a4_14, J6_bitCount_0f7a4_15, J6_bitCount_0f7a4_16, J6_bitCount_0f7a4_17, J6_bitCount_0f7a4_18, J6_bitCount_0f7a4_21, J6_bitCount_0f7a4_22, J6_bitCount_0f7a4_23, J6_bitCount_0f7a4_24, J6_bitCount_0f7a4_25, J6_bitCount_0f7a4_26, J6_bitCount_0f7a4_27, J6_bitCount_0f7a4_28, J6_bitCount_0f7a4_29, J6_bitCount_0f7a4_32, J6_bitCount_0f7a4_33, J6_bitCount_0f7a4_34, J6_bitCount_0f7a4_35, J6_bitCount_0f7a4_36, J6_bitCount_0f7a4_38, J6_bitCount_0f7a4_39, J6_bitCount_0f7a4_40, J6_bitCount_0f7a4_41, J6_bitCount_0f7a4_42, J6_bitCount_0f7a4_43, J6_bitCount_0f7a4_45, J6_bitCount_0f7a4_46, J6_bitCount_0f7a4_47, J6_bitCount_0f7a4_48, J6_bitCount_0f7a4_49, J6_bitCount_0f7a4_51, J6_bitCount_0f7a4_52]
  rfl
def moreF (cnt : Nat) (F : Nat → Int32) (S : Nat → Nat → Int32) : Int32 := if F 3 = 0 then 1 else if bcI (itr (setWithLeaveF S) cnt 0) < F 3 then 1 else 0
theorem sp_waiterLetsMore (hc : F 2 = nI cnt) (h8 : cnt ≤ 8) : Ev X 65 0 [some (.ref t)] [] (blk w t F G S) n 0 0 Q ↔ Q (.inl (some (.int (moreF cnt F S)))) (blk w t F G S) n := by
  simp only [X2_waiterLetsMore_0, X2_waiterLetsMore_1, X2_waiterLetsMore_4, X2_waiterLetsMore_7, X2_waiterLetsMore_8, X2_waiterLetsMore_11, X2_waiterLetsMore_14, X2_waiterLetsMore_15, X2_waiterLetsMore_18, X2_waiterLetsMore_21, X2_waiterLetsMore_22, X2_waiterLetsMore_25, X2_waiterLetsMore_26 okz0, X2_waiterLetsMore_26 okz1, gt3, Option.some.injEq, exists_eq_left', eq_self, okz0, okz1, ht, sp_setWithLeave hc h8, sp_bitCount, Kr_v, Kj_v]
  unfold moreF
  (repeat' split) <;> rfl
end TBL3
