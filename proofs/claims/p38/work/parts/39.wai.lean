/-! ===== who waits for whom ===== -/
section WAI
variable {X : Cxt} {w : Wld} {n : Option Nat} {Q : (Option Value ⊕ String) → Wld → Option Nat → Prop} {t cnt : Nat} {F G : Nat → Int32} {S : Nat → Nat → Int32}
/-- no seat, or one of the table's -/
def seatI (cnt : Nat) (x : Int32) : Prop := x = -1 ∨ ∃ i, i < cnt ∧ x = nI i
def nxI (cnt : Nat) (G : Nat → Int32) (S : Nat → Nat → Int32) (x : Int32) : Int32 := if x = -1 then -1 else awF cnt G S x.toNatClampNeg
theorem nI_m1 {j : Nat} (hj : j < 2 ^ 31) : nI j = -1 ↔ False := ⟨fun q => absurd (show nI j < 0 by rw [q]; decide) (nI_pos hj), False.elim⟩
theorem aw_seat (hG : ∀ j, j < cnt → seatI cnt (G j)) {k : Nat} (hk : k < cnt) : seatI cnt (awF cnt G S k) := by
  unfold awF
  (repeat' split) <;> first | exact hG _ (ladN_lt hk) | exact Or.inl rfl
theorem nx_seat (hG : ∀ j, j < cnt → seatI cnt (G j)) (h8 : cnt ≤ 8) {x : Int32} (hx : seatI cnt x) : seatI cnt (nxI cnt G S x) := by
  unfold nxI
  rcases hx with rfl | ⟨i, hi, rfl⟩
  · exact Or.inl rfl
  · rw [if_neg (fun q => (nI_m1 (by omega)).1 q), nI_clamp (by omega)]
    exact aw_seat hG hi
theorem sp_awaitedSeatX (hc : F 2 = nI cnt) (h8 : cnt ≤ 8) {x : Int32} (hx : seatI cnt x) : Ev X 86 0 [some (.ref t), some (.int x), none] [] (blk w t F G S) n 0 0 Q ↔ Q (.inl (some (.int (nxI cnt G S x)))) (blk w t F G S) n := by
  unfold nxI
  rcases hx with rfl | ⟨i, hi, rfl⟩
  · rw [if_pos rfl]; exact sp_awaitedSeat_m1
  · rw [if_neg (fun q => (nI_m1 (by omega)).1 q), nI_clamp (by omega)]
    exact sp_awaitedSeat hc h8 hi
/-- does the way from x come to the seat i in d steps? -/
def cbF (cnt : Nat) (G : Nat → Int32) (S : Nat → Nat → Int32) (i : Nat) : Nat → Int32 → Bool
  | 0, _ => false
  | d + 1, x => if nxI cnt G S x = nI i then true else cbF cnt G S i d (nxI cnt G S x)
theorem sp_comesBackTo (hG : ∀ j, j < cnt → seatI cnt (G j)) (hc : F 2 = nI cnt) (h8 : cnt ≤ 8) {i : Nat} (hi : i < cnt) : Ev X 87 0 [some (.ref t), some (.int (nI i)), none, none] [] (blk w t F G S) n 0 0 Q ↔ Q (.inl (some (.int (if cbF cnt G S i cnt (nI i) then 1 else 0)))) (blk w t F G S) n := by
  have h : ∀ d k, k + d = cnt → ∀ x, seatI cnt x → (Ev X 87 4 [some (.ref t), some (.int (nI i)), some (.int x), some (.int (nI k))] [] (blk w t F G S) n 0 0 Q ↔ Q (.inl (some (.int (if cbF cnt G S i d x then 1 else 0)))) (blk w t F G S) n) := by
    intro d
    induction d with
    | zero =>
      intro k hk x hx
      obtain rfl : k = cnt := by omega
      simp only [X4_comesBackTo_0, X4_comesBackTo_1, X4_comesBackTo_2, X4_comesBackTo_3, X4_comesBackTo_4, X4_comesBackTo_5, X4_comesBackTo_6, X4_comesBackTo_9, X4_comesBackTo_12, X4_comesBackTo_13, X4_comesBackTo_14, X4_comesBackTo_17, X4_comesBackTo_18, X4_comesBackTo_19, X4_comesBackTo_20, X4_comesBackTo_23, X4_comesBackTo_24 okz0, X4_comesBackTo_24 okz1, X4_comesBackTo_25, X4_comesBackTo_28, X4_comesBackTo_31, X4_comesBackTo_32 okz0, X4_comesBackTo_32 okz1, gt2, Option.some.injEq, exists_eq_left', eq_self, okz0, okz1, ht, hc, Int32.lt_irrefl, if_false]
      exact Iff.rfl
    | succ d ih =>
      intro k hk x hx
      have hlt : nI k < nI cnt := nI_lt (by omega) (by omega)
      rw [X4_comesBackTo_4]
      by_cases b : nxI cnt G S x = nI i
      · have e : cbF cnt G S i (d + 1) x = true := by unfold cbF; rw [if_pos b]
        rw [e]
        simp only [X4_comesBackTo_0, X4_comesBackTo_1, X4_comesBackTo_2, X4_comesBackTo_3, X4_comesBackTo_5, X4_comesBackTo_6, X4_comesBackTo_9, X4_comesBackTo_12, X4_comesBackTo_13, X4_comesBackTo_14, X4_comesBackTo_17, X4_comesBackTo_18, X4_comesBackTo_19, X4_comesBackTo_20, X4_comesBackTo_23, X4_comesBackTo_24 okz0, X4_comesBackTo_24 okz1, X4_comesBackTo_25, X4_comesBackTo_28, X4_comesBackTo_31, X4_comesBackTo_32 okz0, X4_comesBackTo_32 okz1, gt2, Option.some.injEq, exists_eq_left', eq_self, okz0, okz1, ht, hc, hlt, if_true, sp_awaitedSeatX hc h8 hx, Kr_v, Kj_v, b]
        done
      · have e : cbF cnt G S i (d + 1) x = cbF cnt G S i d (nxI cnt G S x) := by rw [cbF, if_neg b]
        rw [e, ← ih (k + 1) (by omega) _ (nx_seat hG h8 hx)]
        simp only [X4_comesBackTo_0, X4_comesBackTo_1, X4_comesBackTo_2, X4_comesBackTo_3, X4_comesBackTo_5, X4_comesBackTo_6, X4_comesBackTo_9, X4_comesBackTo_12, X4_comesBackTo_13, X4_comesBackTo_14, X4_comesBackTo_17, X4_comesBackTo_18, X4_comesBackTo_19, X4_comesBackTo_20, X4_comesBackTo_23, X4_comesBackTo_24 okz0, X4_comesBackTo_24 okz1, X4_comesBackTo_25, X4_comesBackTo_28, X4_comesBackTo_31, X4_comesBackTo_32 okz0, X4_comesBackTo_32 okz1, gt2, Option.some.injEq, exists_eq_left', eq_self, okz0, okz1, ht, hc, hlt, if_true, sp_awaitedSeatX hc h8 hx, Kr_v, Kj_v, b, if_false, nI_1]
        done
  simp only [X4_comesBackTo_0, X4_comesBackTo_1, X4_comesBackTo_2, X4_comesBackTo_3]
  exact h cnt 0 (Nat.zero_add cnt) (nI i) (Or.inr ⟨i, hi, rfl⟩)
def ringF (cnt : Nat) (G : Nat → Int32) (S : Nat → Nat → Int32) (k : Nat) (a : Int32) : Int32 := if cbF cnt G S k cnt (nI k) then a ||| (1 <<< (nI k &&& 31)) else a
theorem sp_ringOf (hG : ∀ j, j < cnt → seatI cnt (G j)) (hc : F 2 = nI cnt) (h8 : cnt ≤ 8) : Ev X 88 0 [some (.ref t), none, none] [] (blk w t F G S) n 0 0 Q ↔ Q (.inl (some (.int (itr (ringF cnt G S) cnt 0)))) (blk w t F G S) n := by
  have e1 : (1 : Int32) = 0 ↔ False := by decide
  have h := loop_up (P := fun k a => Ev X 88 4 [some (.ref t), some (.int a), some (.int (nI k))] [] (blk w t F G S) n 0 0 Q) (f := ringF cnt G S) (n := cnt) (a0 := 0) (fun k a hk => by
    have hlt : nI k < nI cnt := nI_lt hk (by omega)
    rw [X4_ringOf_4]
    unfold ringF
    by_cases b : cbF cnt G S k cnt (nI k) = true
    · simp only [X4_ringOf_0, X4_ringOf_1, X4_ringOf_2, X4_ringOf_3, X4_ringOf_5, X4_ringOf_6, X4_ringOf_9, X4_ringOf_12, X4_ringOf_13, X4_ringOf_14, X4_ringOf_17, X4_ringOf_20, X4_ringOf_21, X4_ringOf_22, X4_ringOf_23, X4_ringOf_24, X4_ringOf_25, X4_ringOf_26, X4_ringOf_29, X4_ringOf_32, X4_ringOf_33, gt2, Option.some.injEq, exists_eq_left', eq_self, okz0, okz1, ht, hc, hlt, if_true, sp_comesBackTo hG hc h8 hk, Kr_v, Kj_v, b, e1, if_false, nI_1]
      done
    · simp only [X4_ringOf_0, X4_ringOf_1, X4_ringOf_2, X4_ringOf_3, X4_ringOf_5, X4_ringOf_6, X4_ringOf_9, X4_ringOf_12, X4_ringOf_13, X4_ringOf_14, X4_ringOf_17, X4_ringOf_20, X4_ringOf_21, X4_ringOf_22, X4_ringOf_23, X4_ringOf_24, X4_ringOf_25, X4_ringOf_26, X4_ringOf_29, X4_ringOf_32, X4_ringOf_33, gt2, Option.some.injEq, exists_eq_left', eq_self, okz0, okz1, ht, hc, hlt, if_true, sp_comesBackTo hG hc h8 hk, Kr_v, Kj_v, b, if_false, nI_1, Bool.false_eq_true]
      done)
  simp only [X4_ringOf_0, X4_ringOf_1, X4_ringOf_2, X4_ringOf_3, X4_ringOf_5, X4_ringOf_6, X4_ringOf_9, X4_ringOf_12, X4_ringOf_13, X4_ringOf_14, X4_ringOf_17, X4_ringOf_20, X4_ringOf_21, X4_ringOf_22, X4_ringOf_23, X4_ringOf_24, X4_ringOf_25, X4_ringOf_26, X4_ringOf_29, X4_ringOf_32, X4_ringOf_33] at h ⊢
  refine h.trans ?_
  simp only [X4_ringOf_0, X4_ringOf_1, X4_ringOf_2, X4_ringOf_3, X4_ringOf_4, X4_ringOf_5, X4_ringOf_6, X4_ringOf_9, X4_ringOf_12, X4_ringOf_13, X4_ringOf_14, X4_ringOf_17, X4_ringOf_20, X4_ringOf_21, X4_ringOf_22, X4_ringOf_23, X4_ringOf_24, X4_ringOf_25, X4_ringOf_26, X4_ringOf_29, X4_ringOf_32, X4_ringOf_33, gt2, Option.some.injEq, exists_eq_left', eq_self, okz0, okz1, ht, hc, Int32.lt_irrefl, if_false]
def wfoF (cnt : Nat) (G : Nat → Int32) (S : Nat → Nat → Int32) (s : Int32) (k : Nat) (a : Int32) : Int32 := if awF cnt G S k = -1 then a else if (s >>> (awF cnt G S k &&& 31)) &&& 1 = 1 then a ||| (1 <<< (nI k &&& 31)) else a
theorem sp_waitingForOneIn (hc : F 2 = nI cnt) (h8 : cnt ≤ 8) {s : Int32} : Ev X 89 0 [some (.ref t), some (.int s), none, none, none] [] (blk w t F G S) n 0 0 Q ↔ Q (.inl (some (.int (itr (wfoF cnt G S s) cnt 0)))) (blk w t F G S) n := by
  let f : Nat → (Int32 × Option Value) → (Int32 × Option Value) := fun k a => (wfoF cnt G S s k a.1, some (.int (awF cnt G S k)))
  have h := loop_up (α := Int32 × Option Value) (P := fun k a => Ev X 89 4 [some (.ref t), some (.int s), some (.int a.1), some (.int (nI k)), a.2] [] (blk w t F G S) n 0 0 Q) (f := f) (n := cnt) (a0 := (0, none)) (fun k a hk => by
    have hlt : nI k < nI cnt := nI_lt hk (by omega)
    rw [X4_waitingForOneIn_4]
    show _ ↔ Ev X 89 4 [some (.ref t), some (.int s), some (.int (wfoF cnt G S s k a.1)), some (.int (nI (k + 1))), some (.int (awF cnt G S k))] [] (blk w t F G S) n 0 0 Q
    unfold wfoF
    by_cases b : awF cnt G S k = -1
    · simp only [X4_waitingForOneIn_0, X4_waitingForOneIn_1, X4_waitingForOneIn_2, X4_waitingForOneIn_3, X4_waitingForOneIn_5, X4_waitingForOneIn_6, X4_waitingForOneIn_9, X4_waitingForOneIn_12, X4_waitingForOneIn_13, X4_waitingForOneIn_14, X4_waitingForOneIn_17, X4_waitingForOneIn_19, X4_waitingForOneIn_21, X4_waitingForOneIn_22, X4_waitingForOneIn_25, X4_waitingForOneIn_26, X4_waitingForOneIn_28, X4_waitingForOneIn_29, X4_waitingForOneIn_30, X4_waitingForOneIn_31, X4_waitingForOneIn_32, X4_waitingForOneIn_35, X4_waitingForOneIn_36, X4_waitingForOneIn_37, X4_waitingForOneIn_38, X4_waitingForOneIn_39, X4_waitingForOneIn_40, X4_waitingForOneIn_41, X4_waitingForOneIn_44, X4_waitingForOneIn_47, X4_waitingForOneIn_48, gt2, Option.some.injEq, exists_eq_left', eq_self, okz0, okz1, ht, hc, hlt, if_true, sp_awaitedSeat hc h8 hk, Kr_v, Kj_v, b, nI_1]
      done
    · by_cases d : (s >>> (awF cnt G S k &&& 31)) &&& 1 = 1
      · simp only [X4_waitingForOneIn_0, X4_waitingForOneIn_1, X4_waitingForOneIn_2, X4_waitingForOneIn_3, X4_waitingForOneIn_5, X4_waitingForOneIn_6, X4_waitingForOneIn_9, X4_waitingForOneIn_12, X4_waitingForOneIn_13, X4_waitingForOneIn_14, X4_waitingForOneIn_17, X4_waitingForOneIn_19, X4_waitingForOneIn_21, X4_waitingForOneIn_22, X4_waitingForOneIn_25, X4_waitingForOneIn_26, X4_waitingForOneIn_28, X4_waitingForOneIn_29, X4_waitingForOneIn_30, X4_waitingForOneIn_31, X4_waitingForOneIn_32, X4_waitingForOneIn_35, X4_waitingForOneIn_36, X4_waitingForOneIn_37, X4_waitingForOneIn_38, X4_waitingForOneIn_39, X4_waitingForOneIn_40, X4_waitingForOneIn_41, X4_waitingForOneIn_44, X4_waitingForOneIn_47, X4_waitingForOneIn_48, gt2, Option.some.injEq, exists_eq_left', eq_self, okz0, okz1, ht, hc, hlt, if_true, sp_awaitedSeat hc h8 hk, Kr_v, Kj_v, b, if_false, d, nI_1]
        done
      · simp only [X4_waitingForOneIn_0, X4_waitingForOneIn_1, X4_waitingForOneIn_2, X4_waitingForOneIn_3, X4_waitingForOneIn_5, X4_waitingForOneIn_6, X4_waitingForOneIn_9, X4_waitingForOneIn_12, X4_waitingForOneIn_13, X4_waitingForOneIn_14, X4_waitingForOneIn_17, X4_waitingForOneIn_19, X4_waitingForOneIn_21, X4_waitingForOneIn_22, X4_waitingForOneIn_25, X4_waitingForOneIn_26, X4_waitingForOneIn_28, X4_waitingForOneIn_29, X4_waitingForOneIn_30, X4_waitingForOneIn_31, X4_waitingForOneIn_32, X4_waitingForOneIn_35, X4_waitingForOneIn_36, X4_waitingForOneIn_37, X4_waitingForOneIn_38, X4_waitingForOneIn_39, X4_waitingForOneIn_40, X4_waitingForOneIn_41, X4_waitingForOneIn_44, X4_waitingForOneIn_47, X4_waitingForOneIn_48, gt2, Option.some.injEq, exists_eq_left', eq_self, okz0, okz1, ht, hc, hlt, if_true, sp_awaitedSeat hc h8 hk, Kr_v, Kj_v, b, if_false, d, nI_1]
        done)
  have h2 : ∀ m, (itr f m (0, none)).1 = itr (wfoF cnt G S s) m 0 := by
    intro m
    induction m with
    | zero => rfl
    | succ m ih => rw [itr_s, itr_s, ← ih]
  simp only [X4_waitingForOneIn_0, X4_waitingForOneIn_1, X4_waitingForOneIn_2, X4_waitingForOneIn_3]
  refine h.trans ?_
  rw [h2]
  simp only [X4_waitingForOneIn_0, X4_waitingForOneIn_1, X4_waitingForOneIn_2, X4_waitingForOneIn_3, X4_waitingForOneIn_4, X4_waitingForOneIn_5, X4_waitingForOneIn_6, X4_waitingForOneIn_9, X4_waitingForOneIn_12, X4_waitingForOneIn_13, X4_waitingForOneIn_14, X4_waitingForOneIn_17, X4_waitingForOneIn_19, X4_waitingForOneIn_21, X4_waitingForOneIn_22, X4_waitingForOneIn_25, X4_waitingForOneIn_26, X4_waitingForOneIn_28, X4_waitingForOneIn_29, X4_waitingForOneIn_30, X4_waitingForOneIn_31, X4_waitingForOneIn_32, X4_waitingForOneIn_35, X4_waitingForOneIn_36, X4_waitingForOneIn_37, X4_waitingForOneIn_38, X4_waitingForOneIn_39, X4_waitingForOneIn_40, X4_waitingForOneIn_41, X4_waitingForOneIn_44, X4_waitingForOneIn_47, X4_waitingForOneIn_48, gt2, Option.some.injEq, exists_eq_left', eq_self, okz0, okz1, ht, hc, Int32.lt_irrefl, if_false]
end WAI
