/-! ===== loops, told once ===== -/
/-- f done for 0, 1, .. n - 1 -/
def itr {α : Type} (f : Nat → α → α) : Nat → α → α
  | 0, a => a
  | n + 1, a => f n (itr f n a)
theorem itr_s {α : Type} (f : Nat → α → α) (n : Nat) (a : α) : itr f (n + 1) a = f n (itr f n a) := rfl
theorem itr_congr {α : Type} {f g : Nat → α → α} {n : Nat} (h : ∀ k a, k < n → f k a = g k a) (a : α) : itr f n a = itr g n a := by
  induction n with
  | zero => rfl
  | succ n ih => rw [itr_s, itr_s, ih (fun k a hk => h k a (by omega)), h _ _ (by omega)]
/-- a loop that runs its whole way -/
theorem loop_up {α : Type} {P : Nat → α → Prop} {f : Nat → α → α} {n : Nat} {a0 : α} (step : ∀ k a, k < n → (P k a ↔ P (k + 1) (f k a))) : P 0 a0 ↔ P n (itr f n a0) := by
  have h : ∀ m, m ≤ n → (P 0 a0 ↔ P m (itr f m a0)) := by
    intro m
    induction m with
    | zero => intro _; exact Iff.rfl
    | succ m ih => intro hm; exact (ih (by omega)).trans (step m _ (by omega))
  exact h n (Nat.le_refl n)
/-- the same with what holds on the way -/
theorem loop_upI {α : Type} {P : Nat → α → Prop} {f : Nat → α → α} {n : Nat} {a0 : α} {I : Nat → α → Prop} (h0 : I 0 a0) (hI : ∀ k a, k < n → I k a → I (k + 1) (f k a)) (step : ∀ k a, k < n → I k a → (P k a ↔ P (k + 1) (f k a))) : (P 0 a0 ↔ P n (itr f n a0)) ∧ I n (itr f n a0) := by
  have h : ∀ m, m ≤ n → (P 0 a0 ↔ P m (itr f m a0)) ∧ I m (itr f m a0) := by
    intro m
    induction m with
    | zero => intro _; exact ⟨Iff.rfl, h0⟩
    | succ m ih =>
      intro hm
      obtain ⟨h1, h2⟩ := ih (by omega)
      exact ⟨h1.trans (step m _ (by omega) h2), hI m _ (by omega) h2⟩
  exact h n (Nat.le_refl n)
/-- the first of k, k + 1, .. k + d - 1 with p -/
def ff (p : Nat → Bool) : Nat → Nat → Option Nat
  | 0, _ => none
  | d + 1, k => if p k then some k else ff p d (k + 1)
/-- a loop that looks for a first one -/
theorem loop_ff {P : Nat → Prop} {R : Nat → Prop} {p : Nat → Bool} {n : Nat} (step : ∀ k, k < n → (P k ↔ if p k then R k else P (k + 1))) : ∀ d k, k + d = n → (P k ↔ match ff p d k with | some j => R j | none => P n) := by
  intro d
  induction d with
  | zero => intro k hk; rw [show k = n by omega]; exact Iff.rfl
  | succ d ih =>
    intro k hk
    rw [step k (by omega)]
    unfold ff
    by_cases h : p k = true
    · rw [if_pos h, if_pos h]
    · rw [if_neg h, if_neg h]
      exact ih (k + 1) (by omega)
theorem ff_some {p : Nat → Bool} : ∀ {d k j : Nat}, ff p d k = some j → k ≤ j ∧ j < k + d ∧ p j = true := by
  intro d
  induction d with
  | zero => intro k j h; cases h
  | succ d ih =>
    intro k j h
    unfold ff at h
    by_cases hp : p k = true
    · rw [if_pos hp] at h
      cases h
      exact ⟨Nat.le_refl _, by omega, hp⟩
    · rw [if_neg hp] at h
      obtain ⟨a, b, c⟩ := ih h
      exact ⟨by omega, by omega, c⟩
theorem ff_congr {p q : Nat → Bool} : ∀ {d k : Nat}, (∀ j, k ≤ j → j < k + d → p j = q j) → ff p d k = ff q d k := by
  intro d
  induction d with
  | zero => intro k _; rfl
  | succ d ih =>
    intro k h
    unfold ff
    rw [h k (Nat.le_refl _) (by omega), ih (fun j h1 h2 => h j (by omega) (by omega))]
/-! ===== reading methods of a table ===== -/
theorem okz0 : okr (some .boolean) 0 = true := rfl
theorem okz1 : okr (some .boolean) 1 = true := rfl
section TBL
variable {X : Cxt} {w : Wld} {n : Option Nat} {Q : (Option Value ⊕ String) → Wld → Option Nat → Prop} {t cnt : Nat} {F G : Nat → Int32} {S : Nat → Nat → Int32}
def heldF (G : Nat → Int32) (k : Nat) (a : Int32) : Int32 := if G k = -1 then a else a + 1
theorem sp_heldLadles (hc : F 2 = nI cnt) (h8 : cnt ≤ 8) : Ev X 24 0 [some (.ref t), none, none] [] (blk w t F G S) n 0 0 Q ↔ Q (.inl (some (.int (itr (heldF G) cnt 0)))) (blk w t F G S) n := by
  have h := loop_up (P := fun k a => Ev X 24 4 [some (.ref t), some (.int a), some (.int (nI k))] [] (blk w t F G S) n 0 0 Q) (f := heldF G) (n := cnt) (a0 := 0) (fun k a hk => by
    have hlt : nI k < nI cnt := nI_lt hk (by omega)
    rw [X2_heldLadles_4]
    simp only [X2_heldLadles_0, X2_heldLadles_1, X2_heldLadles_2, X2_heldLadles_3, X2_heldLadles_5, X2_heldLadles_6, X2_heldLadles_9, X2_heldLadles_12, X2_heldLadles_13, X2_heldLadles_16, X2_heldLadles_17, X2_heldLadles_18, X2_heldLadles_19, X2_heldLadles_22, X2_heldLadles_25, X2_heldLadles_28, X2_heldLadles_31, X2_heldLadles_32, gt1, gt2, Option.some.injEq, exists_eq_left', eq_self, okz0, okz1, ht, hc, hlt, if_true, gh (show k < 8 by omega), nI_1]
    unfold heldF
    split <;> rfl)
  simp only [X2_heldLadles_0, X2_heldLadles_1, X2_heldLadles_2, X2_heldLadles_3]
  refine h.trans ?_
  simp only [X2_heldLadles_0, X2_heldLadles_1, X2_heldLadles_2, X2_heldLadles_3, X2_heldLadles_4, X2_heldLadles_5, X2_heldLadles_6, X2_heldLadles_9, X2_heldLadles_12, X2_heldLadles_13, X2_heldLadles_16, X2_heldLadles_17, X2_heldLadles_18, X2_heldLadles_19, X2_heldLadles_22, X2_heldLadles_25, X2_heldLadles_28, X2_heldLadles_31, X2_heldLadles_32, gt2, Option.some.injEq, exists_eq_left', eq_self, okz0, okz1, ht, hc, Int32.lt_irrefl, if_false]
def hasS (c x : Int32) : Int32 := if x < 0 then 0 else if x < c then 1 else 0
theorem ok01 (ty : FieldType) (h : ty = .boolean) : okr (some ty) 0 = true ∧ okr (some ty) 1 = true := by subst h; exact ⟨rfl, rfl⟩
theorem sp_hasSeat {x : Int32} : Ev X 55 0 [some (.ref t), some (.int x)] [] (blk w t F G S) n 0 0 Q ↔ Q (.inl (some (.int (hasS (F 2) x)))) (blk w t F G S) n := by
  simp only [X2_hasSeat_0, X2_hasSeat_1, X2_hasSeat_4, X2_hasSeat_5, X2_hasSeat_6, X2_hasSeat_9, X2_hasSeat_12, X2_hasSeat_13, X2_hasSeat_16, X2_hasSeat_17 okz0, X2_hasSeat_17 okz1, gt2, Option.some.injEq, exists_eq_left', eq_self, okz0, okz1, ht]
  unfold hasS
  (repeat' split) <;> rfl
theorem sp_canTick : Ev X 61 0 [some (.ref t)] [] (blk w t F G S) n 0 0 Q ↔ Q (.inl (some (.int (if F 2 < 2 then 0 else 1)))) (blk w t F G S) n := by
  simp only [X2_canTick_0, X2_canTick_1, X2_canTick_4, X2_canTick_5, X2_canTick_8, X2_canTick_9, X2_canTick_12, X2_canTick_13 okz0, X2_canTick_13 okz1, gt2, Option.some.injEq, exists_eq_left', eq_self, okz0, okz1, ht]
  split <;> rfl
/-- the ladle of the seat k: the one taken first, or the other -/
def ladN (cnt : Nat) (S : Nat → Nat → Int32) (k : Nat) (b : Int32) : Nat := if b = (if S k 0 = 1 then 1 else 0) then k else if k = 0 then cnt - 1 else k - 1
theorem ladN_lt {k : Nat} {b : Int32} (hk : k < cnt) : ladN cnt S k b < cnt := by
  unfold ladN
  by_cases h : b = (if S k 0 = 1 then 1 else 0)
  · rw [if_pos h]; exact hk
  rw [if_neg h]
  split <;> omega
theorem nI_p {k : Nat} (h : 0 < k) : nI k - 1 = nI (k - 1) := by
  obtain ⟨j, rfl⟩ : ∃ j, k = j + 1 := ⟨k - 1, by omega⟩
  rw [nI_pred]
  rfl
theorem sp_ladleOf (hc : F 2 = nI cnt) (h8 : cnt ≤ 8) {k : Nat} (hk : k < cnt) {b : Int32} : Ev X 59 0 [some (.ref t), some (.int (nI k)), some (.int b), none] [] (blk w t F G S) n 0 0 Q ↔ Q (.inl (some (.int (nI (ladN cnt S k b))))) (blk w t F G S) n := by
  simp only [X2_ladleOf_0, X2_ladleOf_1, X2_ladleOf_2, X2_ladleOf_5, X2_ladleOf_6, X2_ladleOf_7, X2_ladleOf_10, X2_ladleOf_11, X2_ladleOf_14, X2_ladleOf_15, X2_ladleOf_18, X2_ladleOf_19, X2_ladleOf_22, X2_ladleOf_23, X2_ladleOf_26, X2_ladleOf_27, X2_ladleOf_28, X2_ladleOf_29, X2_ladleOf_32, X2_ladleOf_33, X2_ladleOf_34, X2_ladleOf_35, X2_ladleOf_38, X2_ladleOf_39, X2_ladleOf_42, X2_ladleOf_43, X2_ladleOf_44, X2_ladleOf_47, X2_ladleOf_48, X2_ladleOf_49, X2_ladleOf_50, gt0, gt2, gq (show k < 8 by omega), gs (show k < 8 by omega) (show 0 < 9 by decide), Option.some.injEq, exists_eq_left', eq_self, okz0, okz1, ht, hc]
  unfold ladN
  have h0 : (nI k = 0) ↔ k = 0 := ⟨fun h => by rcases Nat.eq_zero_or_pos k with q | q; exact q; exact absurd h (nI_ne0 q (by omega)), fun h => by rw [h]; rfl⟩
  simp only [h0]
  rcases Nat.eq_zero_or_pos k with q | q
  · subst q
    rw [nI_p (show 0 < cnt by omega)]
    by_cases h1 : S 0 0 = 1 <;> by_cases h2 : b = 1 <;> by_cases h3 : b = 0 <;> simp [h1, h2, h3]
  · rw [nI_p q]
    have q' : k ≠ 0 := by omega
    by_cases h1 : S k 0 = 1 <;> by_cases h2 : b = 1 <;> by_cases h3 : b = 0 <;> simp [h1, h2, h3, q']
def askersF (S : Nat → Nat → Int32) (k : Nat) (a : Int32) : Int32 := if S k 3 = 1 then a + 1 else a
theorem sp_askers (hc : F 2 = nI cnt) (h8 : cnt ≤ 8) : Ev X 27 0 [some (.ref t), none, none] [] (blk w t F G S) n 0 0 Q ↔ Q (.inl (some (.int (itr (askersF S) cnt 0)))) (blk w t F G S) n := by
  have h := loop_up (P := fun k a => Ev X 27 4 [some (.ref t), some (.int a), some (.int (nI k))] [] (blk w t F G S) n 0 0 Q) (f := askersF S) (n := cnt) (a0 := 0) (fun k a hk => by
    have hlt : nI k < nI cnt := nI_lt hk (by omega)
    rw [X2_askers_4]
    simp only [X2_askers_0, X2_askers_1, X2_askers_2, X2_askers_3, X2_askers_5, X2_askers_6, X2_askers_9, X2_askers_12, X2_askers_13, X2_askers_16, X2_askers_17, X2_askers_18, X2_askers_21, X2_askers_22, X2_askers_25, X2_askers_28, X2_askers_31, X2_askers_34, X2_askers_35, gt0, gt1, gt2, Option.some.injEq, exists_eq_left', eq_self, okz0, okz1, ht, hc, hlt, if_true, gq (show k < 8 by omega), gh (show k < 8 by omega), gs (show k < 8 by omega) (show 0 < 9 by decide), gs (show k < 8 by omega) (show 1 < 9 by decide), gs (show k < 8 by omega) (show 2 < 9 by decide), gs (show k < 8 by omega) (show 3 < 9 by decide), gs (show k < 8 by omega) (show 4 < 9 by decide), gs (show k < 8 by omega) (show 5 < 9 by decide), gs (show k < 8 by omega) (show 6 < 9 by decide), gs (show k < 8 by omega) (show 7 < 9 by decide), gs (show k < 8 by omega) (show 8 < 9 by decide), nI_1]
    unfold askersF
    first | done | rfl | (split <;> rfl))
  simp only [X2_askers_0, X2_askers_1, X2_askers_2, X2_askers_3, X2_askers_5, X2_askers_6, X2_askers_9, X2_askers_12, X2_askers_13, X2_askers_16, X2_askers_17, X2_askers_18, X2_askers_21, X2_askers_22, X2_askers_25, X2_askers_28, X2_askers_31, X2_askers_34, X2_askers_35] at h ⊢
  refine h.trans ?_
  simp only [X2_askers_0, X2_askers_1, X2_askers_2, X2_askers_3, X2_askers_4, X2_askers_5, X2_askers_6, X2_askers_9, X2_askers_12, X2_askers_13, X2_askers_16, X2_askers_17, X2_askers_18, X2_askers_21, X2_askers_22, X2_askers_25, X2_askers_28, X2_askers_31, X2_askers_34, X2_askers_35, gt2, Option.some.injEq, exists_eq_left', eq_self, okz0, okz1, ht, hc, Int32.lt_irrefl, if_false]
def setWithLeaveF (S : Nat → Nat → Int32) (k : Nat) (a : Int32) : Int32 := if S k 3 < 2 then a else a ||| (1 <<< (nI k &&& 31))
theorem sp_setWithLeave (hc : F 2 = nI cnt) (h8 : cnt ≤ 8) : Ev X 25 0 [some (.ref t), none, none] [] (blk w t F G S) n 0 0 Q ↔ Q (.inl (some (.int (itr (setWithLeaveF S) cnt 0)))) (blk w t F G S) n := by
  have h := loop_up (P := fun k a => Ev X 25 4 [some (.ref t), some (.int a), some (.int (nI k))] [] (blk w t F G S) n 0 0 Q) (f := setWithLeaveF S) (n := cnt) (a0 := 0) (fun k a hk => by
    have hlt : nI k < nI cnt := nI_lt hk (by omega)
    rw [X2_setWithLeave_4]
    simp only [X2_setWithLeave_0, X2_setWithLeave_1, X2_setWithLeave_2, X2_setWithLeave_3, X2_setWithLeave_5, X2_setWithLeave_6, X2_setWithLeave_9, X2_setWithLeave_12, X2_setWithLeave_13, X2_setWithLeave_16, X2_setWithLeave_17, X2_setWithLeave_18, X2_setWithLeave_21, X2_setWithLeave_22, X2_setWithLeave_25, X2_setWithLeave_26, X2_setWithLeave_27, X2_setWithLeave_28, X2_setWithLeave_29, X2_setWithLeave_30, X2_setWithLeave_31, X2_setWithLeave_34, X2_setWithLeave_37, X2_setWithLeave_38, gt0, gt1, gt2, Option.some.injEq, exists_eq_left', eq_self, okz0, okz1, ht, hc, hlt, if_true, gq (show k < 8 by omega), gh (show k < 8 by omega), gs (show k < 8 by omega) (show 0 < 9 by decide), gs (show k < 8 by omega) (show 1 < 9 by decide), gs (show k < 8 by omega) (show 2 < 9 by decide), gs (show k < 8 by omega) (show 3 < 9 by decide), gs (show k < 8 by omega) (show 4 < 9 by decide), gs (show k < 8 by omega) (show 5 < 9 by decide), gs (show k < 8 by omega) (show 6 < 9 by decide), gs (show k < 8 by omega) (show 7 < 9 by decide), gs (show k < 8 by omega) (show 8 < 9 by decide), nI_1]
    unfold setWithLeaveF
    first | done | rfl | (split <;> rfl))
  simp only [X2_setWithLeave_0, X2_setWithLeave_1, X2_setWithLeave_2, X2_setWithLeave_3, X2_setWithLeave_5, X2_setWithLeave_6, X2_setWithLeave_9, X2_setWithLeave_12, X2_setWithLeave_13, X2_setWithLeave_16, X2_setWithLeave_17, X2_setWithLeave_18, X2_setWithLeave_21, X2_setWithLeave_22, X2_setWithLeave_25, X2_setWithLeave_26, X2_setWithLeave_27, X2_setWithLeave_28, X2_setWithLeave_29, X2_setWithLeave_30, X2_setWithLeave_31, X2_setWithLeave_34, X2_setWithLeave_37, X2_setWithLeave_38] at h ⊢
  refine h.trans ?_
  simp only [X2_setWithLeave_0, X2_setWithLeave_1, X2_setWithLeave_2, X2_setWithLeave_3, X2_setWithLeave_4, X2_setWithLeave_5, X2_setWithLeave_6, X2_setWithLeave_9, X2_setWithLeave_12, X2_setWithLeave_13, X2_setWithLeave_16, X2_setWithLeave_17, X2_setWithLeave_18, X2_setWithLeave_21, X2_setWithLeave_22, X2_setWithLeave_25, X2_setWithLeave_26, X2_setWithLeave_27, X2_setWithLeave_28, X2_setWithLeave_29, X2_setWithLeave_30, X2_setWithLeave_31, X2_setWithLeave_34, X2_setWithLeave_37, X2_setWithLeave_38, gt2, Option.some.injEq, exists_eq_left', eq_self, okz0, okz1, ht, hc, Int32.lt_irrefl, if_false]
def mealsOfAllF (S : Nat → Nat → Int32) (k : Nat) (a : Int32) : Int32 := a + S k 5
theorem sp_mealsOfAll (hc : F 2 = nI cnt) (h8 : cnt ≤ 8) : Ev X 23 0 [some (.ref t), none, none] [] (blk w t F G S) n 0 0 Q ↔ Q (.inl (some (.int (itr (mealsOfAllF S) cnt 0)))) (blk w t F G S) n := by
  have h := loop_up (P := fun k a => Ev X 23 4 [some (.ref t), some (.int a), some (.int (nI k))] [] (blk w t F G S) n 0 0 Q) (f := mealsOfAllF S) (n := cnt) (a0 := 0) (fun k a hk => by
    have hlt : nI k < nI cnt := nI_lt hk (by omega)
    rw [X2_mealsOfAll_4]
    simp only [X2_mealsOfAll_0, X2_mealsOfAll_1, X2_mealsOfAll_2, X2_mealsOfAll_3, X2_mealsOfAll_5, X2_mealsOfAll_6, X2_mealsOfAll_9, X2_mealsOfAll_12, X2_mealsOfAll_13, X2_mealsOfAll_14, X2_mealsOfAll_17, X2_mealsOfAll_18, X2_mealsOfAll_19, X2_mealsOfAll_22, X2_mealsOfAll_23, X2_mealsOfAll_24, X2_mealsOfAll_27, X2_mealsOfAll_30, X2_mealsOfAll_31, gt0, gt1, gt2, Option.some.injEq, exists_eq_left', eq_self, okz0, okz1, ht, hc, hlt, if_true, gq (show k < 8 by omega), gh (show k < 8 by omega), gs (show k < 8 by omega) (show 0 < 9 by decide), gs (show k < 8 by omega) (show 1 < 9 by decide), gs (show k < 8 by omega) (show 2 < 9 by decide), gs (show k < 8 by omega) (show 3 < 9 by decide), gs (show k < 8 by omega) (show 4 < 9 by decide), gs (show k < 8 by omega) (show 5 < 9 by decide), gs (show k < 8 by omega) (show 6 < 9 by decide), gs (show k < 8 by omega) (show 7 < 9 by decide), gs (show k < 8 by omega) (show 8 < 9 by decide), nI_1]
    unfold mealsOfAllF
    first | done | rfl | (split <;> rfl))
  simp only [X2_mealsOfAll_0, X2_mealsOfAll_1, X2_mealsOfAll_2, X2_mealsOfAll_3, X2_mealsOfAll_5, X2_mealsOfAll_6, X2_mealsOfAll_9, X2_mealsOfAll_12, X2_mealsOfAll_13, X2_mealsOfAll_14, X2_mealsOfAll_17, X2_mealsOfAll_18, X2_mealsOfAll_19, X2_mealsOfAll_22, X2_mealsOfAll_23, X2_mealsOfAll_24, X2_mealsOfAll_27, X2_mealsOfAll_30, X2_mealsOfAll_31] at h ⊢
  refine h.trans ?_
  simp only [X2_mealsOfAll_0, X2_mealsOfAll_1, X2_mealsOfAll_2, X2_mealsOfAll_3, X2_mealsOfAll_4, X2_mealsOfAll_5, X2_mealsOfAll_6, X2_mealsOfAll_9, X2_mealsOfAll_12, X2_mealsOfAll_13, X2_mealsOfAll_14, X2_mealsOfAll_17, X2_mealsOfAll_18, X2_mealsOfAll_19, X2_mealsOfAll_22, X2_mealsOfAll_23, X2_mealsOfAll_24, X2_mealsOfAll_27, X2_mealsOfAll_30, X2_mealsOfAll_31, gt2, Option.some.injEq, exists_eq_left', eq_self, okz0, okz1, ht, hc, Int32.lt_irrefl, if_false]
def waitsOfAllF (S : Nat → Nat → Int32) (k : Nat) (a : Int32) : Int32 := a + S k 6
theorem sp_waitsOfAll (hc : F 2 = nI cnt) (h8 : cnt ≤ 8) : Ev X 106 0 [some (.ref t), none, none] [] (blk w t F G S) n 0 0 Q ↔ Q (.inl (some (.int (itr (waitsOfAllF S) cnt 0)))) (blk w t F G S) n := by
  have h := loop_up (P := fun k a => Ev X 106 4 [some (.ref t), some (.int a), some (.int (nI k))] [] (blk w t F G S) n 0 0 Q) (f := waitsOfAllF S) (n := cnt) (a0 := 0) (fun k a hk => by
    have hlt : nI k < nI cnt := nI_lt hk (by omega)
    rw [X2_waitsOfAll_4]
    simp only [X2_waitsOfAll_0, X2_waitsOfAll_1, X2_waitsOfAll_2, X2_waitsOfAll_3, X2_waitsOfAll_5, X2_waitsOfAll_6, X2_waitsOfAll_9, X2_waitsOfAll_12, X2_waitsOfAll_13, X2_waitsOfAll_14, X2_waitsOfAll_17, X2_waitsOfAll_18, X2_waitsOfAll_19, X2_waitsOfAll_22, X2_waitsOfAll_23, X2_waitsOfAll_24, X2_waitsOfAll_27, X2_waitsOfAll_30, X2_waitsOfAll_31, gt0, gt1, gt2, Option.some.injEq, exists_eq_left', eq_self, okz0, okz1, ht, hc, hlt, if_true, gq (show k < 8 by omega), gh (show k < 8 by omega), gs (show k < 8 by omega) (show 0 < 9 by decide), gs (show k < 8 by omega) (show 1 < 9 by decide), gs (show k < 8 by omega) (show 2 < 9 by decide), gs (show k < 8 by omega) (show 3 < 9 by decide), gs (show k < 8 by omega) (show 4 < 9 by decide), gs (show k < 8 by omega) (show 5 < 9 by decide), gs (show k < 8 by omega) (show 6 < 9 by decide), gs (show k < 8 by omega) (show 7 < 9 by decide), gs (show k < 8 by omega) (show 8 < 9 by decide), nI_1]
    unfold waitsOfAllF
    first | done | rfl | (split <;> rfl))
  simp only [X2_waitsOfAll_0, X2_waitsOfAll_1, X2_waitsOfAll_2, X2_waitsOfAll_3, X2_waitsOfAll_5, X2_waitsOfAll_6, X2_waitsOfAll_9, X2_waitsOfAll_12, X2_waitsOfAll_13, X2_waitsOfAll_14, X2_waitsOfAll_17, X2_waitsOfAll_18, X2_waitsOfAll_19, X2_waitsOfAll_22, X2_waitsOfAll_23, X2_waitsOfAll_24, X2_waitsOfAll_27, X2_waitsOfAll_30, X2_waitsOfAll_31] at h ⊢
  refine h.trans ?_
  simp only [X2_waitsOfAll_0, X2_waitsOfAll_1, X2_waitsOfAll_2, X2_waitsOfAll_3, X2_waitsOfAll_4, X2_waitsOfAll_5, X2_waitsOfAll_6, X2_waitsOfAll_9, X2_waitsOfAll_12, X2_waitsOfAll_13, X2_waitsOfAll_14, X2_waitsOfAll_17, X2_waitsOfAll_18, X2_waitsOfAll_19, X2_waitsOfAll_22, X2_waitsOfAll_23, X2_waitsOfAll_24, X2_waitsOfAll_27, X2_waitsOfAll_30, X2_waitsOfAll_31, gt2, Option.some.injEq, exists_eq_left', eq_self, okz0, okz1, ht, hc, Int32.lt_irrefl, if_false]
def mostMealsF (S : Nat → Nat → Int32) (k : Nat) (a : Int32) : Int32 := imx a (S k 5)
theorem sp_mostMeals (hc : F 2 = nI cnt) (h8 : cnt ≤ 8) : Ev X 109 0 [some (.ref t), none, none] [] (blk w t F G S) n 0 0 Q ↔ Q (.inl (some (.int (itr (mostMealsF S) cnt 0)))) (blk w t F G S) n := by
  have h := loop_up (P := fun k a => Ev X 109 4 [some (.ref t), some (.int a), some (.int (nI k))] [] (blk w t F G S) n 0 0 Q) (f := mostMealsF S) (n := cnt) (a0 := 0) (fun k a hk => by
    have hlt : nI k < nI cnt := nI_lt hk (by omega)
    rw [X2_mostMeals_4]
    simp only [X2_mostMeals_0, X2_mostMeals_1, X2_mostMeals_2, X2_mostMeals_3, X2_mostMeals_5, X2_mostMeals_6, X2_mostMeals_9, X2_mostMeals_12, X2_mostMeals_13, X2_mostMeals_14, X2_mostMeals_17, X2_mostMeals_18, X2_mostMeals_19, X2_mostMeals_22, X2_mostMeals_25, X2_mostMeals_26, X2_mostMeals_29, X2_mostMeals_32, X2_mostMeals_33, gt0, gt1, gt2, Option.some.injEq, exists_eq_left', eq_self, okz0, okz1, ht, hc, hlt, if_true, gq (show k < 8 by omega), gh (show k < 8 by omega), gs (show k < 8 by omega) (show 0 < 9 by decide), gs (show k < 8 by omega) (show 1 < 9 by decide), gs (show k < 8 by omega) (show 2 < 9 by decide), gs (show k < 8 by omega) (show 3 < 9 by decide), gs (show k < 8 by omega) (show 4 < 9 by decide), gs (show k < 8 by omega) (show 5 < 9 by decide), gs (show k < 8 by omega) (show 6 < 9 by decide), gs (show k < 8 by omega) (show 7 < 9 by decide), gs (show k < 8 by omega) (show 8 < 9 by decide), nI_1]
    unfold mostMealsF
    first | done | rfl | (split <;> rfl))
  simp only [X2_mostMeals_0, X2_mostMeals_1, X2_mostMeals_2, X2_mostMeals_3, X2_mostMeals_5, X2_mostMeals_6, X2_mostMeals_9, X2_mostMeals_12, X2_mostMeals_13, X2_mostMeals_14, X2_mostMeals_17, X2_mostMeals_18, X2_mostMeals_19, X2_mostMeals_22, X2_mostMeals_25, X2_mostMeals_26, X2_mostMeals_29, X2_mostMeals_32, X2_mostMeals_33] at h ⊢
  refine h.trans ?_
  simp only [X2_mostMeals_0, X2_mostMeals_1, X2_mostMeals_2, X2_mostMeals_3, X2_mostMeals_4, X2_mostMeals_5, X2_mostMeals_6, X2_mostMeals_9, X2_mostMeals_12, X2_mostMeals_13, X2_mostMeals_14, X2_mostMeals_17, X2_mostMeals_18, X2_mostMeals_19, X2_mostMeals_22, X2_mostMeals_25, X2_mostMeals_26, X2_mostMeals_29, X2_mostMeals_32, X2_mostMeals_33, gt2, Option.some.injEq, exists_eq_left', eq_self, okz0, okz1, ht, hc, Int32.lt_irrefl, if_false]
end TBL
