/-! ===== the reference's small methods on a table ===== -/
def ix (s j : Nat) : Nat := 23 + 10 * s + j
def lx (k : Nat) : Nat := 15 + k
def qx (k : Nat) : Nat := 7 + k
theorem ix_lt {s j : Nat} (hs : s < 8) (hj : j < 10) : ix s j < 103 := by unfold ix; omega
theorem ix_inj {s j s2 j2 : Nat} (hj : j < 10) (hj2 : j2 < 10) : ix s j = ix s2 j2 ↔ s = s2 ∧ j = j2 := by unfold ix; omega
theorem ix_i {s j : Nat} : (23 : Int32) + 10 * nI s + nI j = nI (ix s j) := by
  have h23 : (23 : Int32) = nI 23 := rfl
  have h10 : (10 : Int32) = nI 10 := rfl
  rw [h23, h10, nI_mul, nI_add, nI_add]
  rfl
theorem lx_i {k : Nat} : (15 : Int32) + nI k = nI (lx k) := by
  have h : (15 : Int32) = nI 15 := rfl
  rw [h, nI_add]
  rfl
theorem qx_i {k : Nat} : (7 : Int32) + nI k = nI (qx k) := by
  have h : (7 : Int32) = nI 7 := rfl
  rw [h, nI_add]
  rfl
theorem inS {cnt : Nat} (h8 : cnt ≤ 8) {y : Int32} : inF y 0 (nI cnt - 1) = hasS (nI cnt) y := by
  unfold inF hasS
  by_cases a : y < 0
  · rw [if_pos a, if_pos a]
  · rw [if_neg a, if_neg a]
    obtain ⟨j, hj, rfl⟩ := nI_of a
    rcases Nat.eq_zero_or_pos cnt with h0 | h0
    · subst h0
      have e : nI 0 - 1 = -1 := by decide
      rw [e, if_pos (Int32.lt_of_lt_of_le (by decide : (-1 : Int32) < 0) (nI_pos' hj)), if_neg (nI_nlt (Nat.zero_le j) hj)]
    · rw [nI_p h0]
      by_cases b : j < cnt
      · rw [if_neg (nI_nlt (by omega) (by omega)), if_pos (nI_lt b (by omega))]
      · rw [if_pos (nI_lt (by omega) hj), if_neg (nI_nlt (by omega) hj)]
section MSS
variable {X : Cxt} {w : Wld} {n : Option Nat} {Q : (Option Value ⊕ String) → Wld → Option Nat → Prop} {m cnt : Nat} {V N : Nat → Int32} {A : Nat → Nat → Int32}
theorem gn0 : ga (MW w m V N A) (m + 1) 0 0 = some (.int (N 0)) := gn (k := 0) (by decide)
theorem gn1 : ga (MW w m V N A) (m + 1) 0 1 = some (.int (N 1)) := gn (k := 1) (by decide)
theorem gn2 : ga (MW w m V N A) (m + 1) 0 2 = some (.int (N 2)) := gn (k := 2) (by decide)
theorem gn3 : ga (MW w m V N A) (m + 1) 0 3 = some (.int (N 3)) := gn (k := 3) (by decide)
theorem gn4 : ga (MW w m V N A) (m + 1) 0 4 = some (.int (N 4)) := gn (k := 4) (by decide)
theorem gn5 : ga (MW w m V N A) (m + 1) 0 5 = some (.int (N 5)) := gn (k := 5) (by decide)
theorem gn6 : ga (MW w m V N A) (m + 1) 0 6 = some (.int (N 6)) := gn (k := 6) (by decide)
theorem gn7 : ga (MW w m V N A) (m + 1) 0 7 = some (.int (N 7)) := gn (k := 7) (by decide)
theorem sn0 {v : Int32} : sa (MW w m V N A) (m + 1) 0 0 (.int v) = some (MW w m V (upd N 0 v) A) := sn (k := 0) (by decide)
theorem sn1 {v : Int32} : sa (MW w m V N A) (m + 1) 0 1 (.int v) = some (MW w m V (upd N 1 v) A) := sn (k := 1) (by decide)
theorem sn2 {v : Int32} : sa (MW w m V N A) (m + 1) 0 2 (.int v) = some (MW w m V (upd N 2 v) A) := sn (k := 2) (by decide)
theorem sn3 {v : Int32} : sa (MW w m V N A) (m + 1) 0 3 (.int v) = some (MW w m V (upd N 3 v) A) := sn (k := 3) (by decide)
theorem sn4 {v : Int32} : sa (MW w m V N A) (m + 1) 0 4 (.int v) = some (MW w m V (upd N 4 v) A) := sn (k := 4) (by decide)
theorem sn5 {v : Int32} : sa (MW w m V N A) (m + 1) 0 5 (.int v) = some (MW w m V (upd N 5 v) A) := sn (k := 5) (by decide)
theorem sn6 {v : Int32} : sa (MW w m V N A) (m + 1) 0 6 (.int v) = some (MW w m V (upd N 6 v) A) := sn (k := 6) (by decide)
theorem gnL {k : Nat} (h : k < 8) : ga (MW w m V N A) (m + 1) 0 (nI (lx k)) = some (.int (N (lx k))) := gn (by unfold lx; omega)
theorem snL {k : Nat} (h : k < 8) {v : Int32} : sa (MW w m V N A) (m + 1) 0 (nI (lx k)) (.int v) = some (MW w m V (upd N (lx k) v) A) := sn (by unfold lx; omega)
theorem gnQ {k : Nat} (h : k ≤ 8) : ga (MW w m V N A) (m + 1) 0 (nI (qx k)) = some (.int (N (qx k))) := gn (by unfold qx; omega)
theorem snQ {k : Nat} (h : k ≤ 8) {v : Int32} : sa (MW w m V N A) (m + 1) 0 (nI (qx k)) (.int v) = some (MW w m V (upd N (qx k) v) A) := sn (by unfold qx; omega)
theorem mw_isSeat (hN : N 0 = nI cnt) (h8 : cnt ≤ 8) {y : Int32} : Ev X 41 0 [some (.ref m), some (.int y)] [] (MW w m V N A) n 0 0 Q ↔ Q (.inl (some (.int (hasS (nI cnt) y)))) (MW w m V N A) n := by
  have h01 : okr (some .boolean) (hasS (nI cnt) y) = true := by unfold hasS; (repeat' split) <;> rfl
  simp only [X6_isSeat_0, X6_isSeat_1, X6_isSeat_2, X6_isSeat_3, X6_isSeat_6, X6_isSeat_7, X6_isSeat_8, X6_isSeat_9, X6_isSeat_10, gm0, gn0, Option.some.injEq, exists_eq_left', eq_self, okz0, okz1, ht, hN, mw_in, inS h8, Kr_v, X6_isSeat_13 h01]
theorem mw_of {s j : Nat} (hs : s < 8) (hj : j < 10) : Ev X 42 0 [some (.ref m), some (.int (nI s)), some (.int (nI j))] [] (MW w m V N A) n 0 0 Q ↔ Q (.inl (some (.int (N (ix s j))))) (MW w m V N A) n := by
  simp only [X6_of_0, X6_of_1, X6_of_4, X6_of_6, X6_of_8, X6_of_9, X6_of_10, X6_of_11, X6_of_12, X6_of_13, X6_of_14, gm0, ix_i, gn (ix_lt hs hj), Option.some.injEq, exists_eq_left', eq_self, okz0, okz1, ht]
theorem mw_sets {s j : Nat} {v : Int32} (hs : s < 8) (hj : j < 10) : Ev X 23 0 [some (.ref m), some (.int (nI s)), some (.int (nI j)), some (.int v)] [] (MW w m V N A) n 0 0 Q ↔ Q (.inl none) (MW w m V (upd N (ix s j) v) A) n := by
  simp only [X6_sets_0, X6_sets_1, X6_sets_4, X6_sets_6, X6_sets_8, X6_sets_9, X6_sets_10, X6_sets_11, X6_sets_12, X6_sets_13, X6_sets_14, X6_sets_15, gm0, ix_i, sn (ix_lt hs hj), Option.some.injEq, exists_eq_left', eq_self, okz0, okz1, ht]
theorem mw_of0 {s : Nat} (hs : s < 8) : Ev X 42 0 [some (.ref m), some (.int (nI s)), some (.int 0)] [] (MW w m V N A) n 0 0 Q ↔ Q (.inl (some (.int (N (ix s 0))))) (MW w m V N A) n := mw_of (j := 0) hs (by decide)
theorem mw_sets0 {s : Nat} {v : Int32} (hs : s < 8) : Ev X 23 0 [some (.ref m), some (.int (nI s)), some (.int 0), some (.int v)] [] (MW w m V N A) n 0 0 Q ↔ Q (.inl none) (MW w m V (upd N (ix s 0) v) A) n := mw_sets (j := 0) hs (by decide)
theorem mw_of1 {s : Nat} (hs : s < 8) : Ev X 42 0 [some (.ref m), some (.int (nI s)), some (.int 1)] [] (MW w m V N A) n 0 0 Q ↔ Q (.inl (some (.int (N (ix s 1))))) (MW w m V N A) n := mw_of (j := 1) hs (by decide)
theorem mw_sets1 {s : Nat} {v : Int32} (hs : s < 8) : Ev X 23 0 [some (.ref m), some (.int (nI s)), some (.int 1), some (.int v)] [] (MW w m V N A) n 0 0 Q ↔ Q (.inl none) (MW w m V (upd N (ix s 1) v) A) n := mw_sets (j := 1) hs (by decide)
theorem mw_of2 {s : Nat} (hs : s < 8) : Ev X 42 0 [some (.ref m), some (.int (nI s)), some (.int 2)] [] (MW w m V N A) n 0 0 Q ↔ Q (.inl (some (.int (N (ix s 2))))) (MW w m V N A) n := mw_of (j := 2) hs (by decide)
theorem mw_sets2 {s : Nat} {v : Int32} (hs : s < 8) : Ev X 23 0 [some (.ref m), some (.int (nI s)), some (.int 2), some (.int v)] [] (MW w m V N A) n 0 0 Q ↔ Q (.inl none) (MW w m V (upd N (ix s 2) v) A) n := mw_sets (j := 2) hs (by decide)
theorem mw_of3 {s : Nat} (hs : s < 8) : Ev X 42 0 [some (.ref m), some (.int (nI s)), some (.int 3)] [] (MW w m V N A) n 0 0 Q ↔ Q (.inl (some (.int (N (ix s 3))))) (MW w m V N A) n := mw_of (j := 3) hs (by decide)
theorem mw_sets3 {s : Nat} {v : Int32} (hs : s < 8) : Ev X 23 0 [some (.ref m), some (.int (nI s)), some (.int 3), some (.int v)] [] (MW w m V N A) n 0 0 Q ↔ Q (.inl none) (MW w m V (upd N (ix s 3) v) A) n := mw_sets (j := 3) hs (by decide)
theorem mw_of4 {s : Nat} (hs : s < 8) : Ev X 42 0 [some (.ref m), some (.int (nI s)), some (.int 4)] [] (MW w m V N A) n 0 0 Q ↔ Q (.inl (some (.int (N (ix s 4))))) (MW w m V N A) n := mw_of (j := 4) hs (by decide)
theorem mw_sets4 {s : Nat} {v : Int32} (hs : s < 8) : Ev X 23 0 [some (.ref m), some (.int (nI s)), some (.int 4), some (.int v)] [] (MW w m V N A) n 0 0 Q ↔ Q (.inl none) (MW w m V (upd N (ix s 4) v) A) n := mw_sets (j := 4) hs (by decide)
theorem mw_of5 {s : Nat} (hs : s < 8) : Ev X 42 0 [some (.ref m), some (.int (nI s)), some (.int 5)] [] (MW w m V N A) n 0 0 Q ↔ Q (.inl (some (.int (N (ix s 5))))) (MW w m V N A) n := mw_of (j := 5) hs (by decide)
theorem mw_sets5 {s : Nat} {v : Int32} (hs : s < 8) : Ev X 23 0 [some (.ref m), some (.int (nI s)), some (.int 5), some (.int v)] [] (MW w m V N A) n 0 0 Q ↔ Q (.inl none) (MW w m V (upd N (ix s 5) v) A) n := mw_sets (j := 5) hs (by decide)
theorem mw_of6 {s : Nat} (hs : s < 8) : Ev X 42 0 [some (.ref m), some (.int (nI s)), some (.int 6)] [] (MW w m V N A) n 0 0 Q ↔ Q (.inl (some (.int (N (ix s 6))))) (MW w m V N A) n := mw_of (j := 6) hs (by decide)
theorem mw_sets6 {s : Nat} {v : Int32} (hs : s < 8) : Ev X 23 0 [some (.ref m), some (.int (nI s)), some (.int 6), some (.int v)] [] (MW w m V N A) n 0 0 Q ↔ Q (.inl none) (MW w m V (upd N (ix s 6) v) A) n := mw_sets (j := 6) hs (by decide)
theorem mw_of7 {s : Nat} (hs : s < 8) : Ev X 42 0 [some (.ref m), some (.int (nI s)), some (.int 7)] [] (MW w m V N A) n 0 0 Q ↔ Q (.inl (some (.int (N (ix s 7))))) (MW w m V N A) n := mw_of (j := 7) hs (by decide)
theorem mw_sets7 {s : Nat} {v : Int32} (hs : s < 8) : Ev X 23 0 [some (.ref m), some (.int (nI s)), some (.int 7), some (.int v)] [] (MW w m V N A) n 0 0 Q ↔ Q (.inl none) (MW w m V (upd N (ix s 7) v) A) n := mw_sets (j := 7) hs (by decide)
theorem mw_of8 {s : Nat} (hs : s < 8) : Ev X 42 0 [some (.ref m), some (.int (nI s)), some (.int 8)] [] (MW w m V N A) n 0 0 Q ↔ Q (.inl (some (.int (N (ix s 8))))) (MW w m V N A) n := mw_of (j := 8) hs (by decide)
theorem mw_sets8 {s : Nat} {v : Int32} (hs : s < 8) : Ev X 23 0 [some (.ref m), some (.int (nI s)), some (.int 8), some (.int v)] [] (MW w m V N A) n 0 0 Q ↔ Q (.inl none) (MW w m V (upd N (ix s 8) v) A) n := mw_sets (j := 8) hs (by decide)
theorem mw_of9 {s : Nat} (hs : s < 8) : Ev X 42 0 [some (.ref m), some (.int (nI s)), some (.int 9)] [] (MW w m V N A) n 0 0 Q ↔ Q (.inl (some (.int (N (ix s 9))))) (MW w m V N A) n := mw_of (j := 9) hs (by decide)
theorem mw_sets9 {s : Nat} {v : Int32} (hs : s < 8) : Ev X 23 0 [some (.ref m), some (.int (nI s)), some (.int 9), some (.int v)] [] (MW w m V N A) n 0 0 Q ↔ Q (.inl none) (MW w m V (upd N (ix s 9) v) A) n := mw_sets (j := 9) hs (by decide)
theorem mw_how {s : Nat} (hs : s < 8) : Ev X 43 0 [some (.ref m), some (.int (nI s))] [] (MW w m V N A) n 0 0 Q ↔ Q (.inl (some (.int (N (ix s 3))))) (MW w m V N A) n := by
  simp only [X6_how_0, X6_how_1, X6_how_2, X6_how_3, X6_how_6, cm, mw_of3 hs, Kr_v]
def lfN (cnt k : Nat) : Nat := if k = 0 then cnt - 1 else k - 1
theorem lfN_lt {cnt k : Nat} (h : k < cnt) : lfN cnt k < cnt := by unfold lfN; split <;> omega
theorem nI_0iff {k : Nat} (h : k < 2 ^ 31) : nI k = 0 ↔ k = 0 := ⟨fun q => by rcases Nat.eq_zero_or_pos k with z | z; exact z; exact absurd q (nI_ne0 z h), fun q => by rw [q]; rfl⟩
theorem mw_left (hN : N 0 = nI cnt) (h8 : cnt ≤ 8) {s : Nat} (hs : s < cnt) : Ev X 66 0 [some (.ref m), some (.int (nI s))] [] (MW w m V N A) n 0 0 Q ↔ Q (.inl (some (.int (nI (lfN cnt s))))) (MW w m V N A) n := by
  unfold lfN
  rcases Nat.eq_zero_or_pos s with h | h
  · subst h
    have z : nI 0 = 0 := rfl
    simp only [X6_left_0, X6_left_1, X6_left_4, X6_left_5, X6_left_8, X6_left_9, X6_left_10, X6_left_11, X6_left_12, X6_left_15, X6_left_16, X6_left_17, X6_left_18, z, if_true, gm0, gn0, Option.some.injEq, exists_eq_left', eq_self, okz0, okz1, ht, hN, nI_p (show 0 < cnt by omega)]
  · have z : nI s = 0 ↔ False := ⟨fun q => nI_ne0 h (by omega) q, False.elim⟩
    have z2 : s = 0 ↔ False := ⟨fun q => by omega, False.elim⟩
    simp only [X6_left_0, X6_left_1, X6_left_4, X6_left_5, X6_left_8, X6_left_9, X6_left_10, X6_left_11, X6_left_12, X6_left_15, X6_left_16, X6_left_17, X6_left_18, z, z2, if_false, nI_p h]
def mlN (cnt : Nat) (N : Nat → Int32) (k : Nat) (b : Int32) : Nat := if (if N (ix k 0) = 0 then 1 else 0) = b then lfN cnt k else k
theorem mlN_lt {cnt k : Nat} {N : Nat → Int32} {b : Int32} (h : k < cnt) : mlN cnt N k b < cnt := by
  unfold mlN
  by_cases q : (if N (ix k 0) = 0 then (1 : Int32) else 0) = b
  · rw [if_pos q]; exact lfN_lt h
  · rw [if_neg q]; exact h
theorem mw_ladleOf (hN : N 0 = nI cnt) (h8 : cnt ≤ 8) {s : Nat} (hs : s < cnt) {b : Int32} : Ev X 90 0 [some (.ref m), some (.int (nI s)), some (.int b)] [] (MW w m V N A) n 0 0 Q ↔ Q (.inl (some (.int (nI (mlN cnt N s b))))) (MW w m V N A) n := by
  unfold mlN
  by_cases a : N (ix s 0) = 0
  · by_cases e : 1 = b
    · subst e
      simp only [X6_ladleOf_0, X6_ladleOf_1, X6_ladleOf_2, X6_ladleOf_3, X6_ladleOf_6, X6_ladleOf_9, X6_ladleOf_10, X6_ladleOf_13, X6_ladleOf_14, X6_ladleOf_15, X6_ladleOf_18, X6_ladleOf_19, X6_ladleOf_20, X6_ladleOf_23, X6_ladleOf_26, X6_ladleOf_27, cm, mw_of0 (show s < 8 by omega), Kr_v, a, if_true, mw_left hN h8 hs]
    · simp only [X6_ladleOf_0, X6_ladleOf_1, X6_ladleOf_2, X6_ladleOf_3, X6_ladleOf_6, X6_ladleOf_9, X6_ladleOf_10, X6_ladleOf_13, X6_ladleOf_14, X6_ladleOf_15, X6_ladleOf_18, X6_ladleOf_19, X6_ladleOf_20, X6_ladleOf_23, X6_ladleOf_26, X6_ladleOf_27, cm, mw_of0 (show s < 8 by omega), Kr_v, a, if_true, e, if_false]
  · by_cases e : 0 = b
    · subst e
      simp only [X6_ladleOf_0, X6_ladleOf_1, X6_ladleOf_2, X6_ladleOf_3, X6_ladleOf_6, X6_ladleOf_9, X6_ladleOf_10, X6_ladleOf_13, X6_ladleOf_14, X6_ladleOf_15, X6_ladleOf_18, X6_ladleOf_19, X6_ladleOf_20, X6_ladleOf_23, X6_ladleOf_26, X6_ladleOf_27, cm, mw_of0 (show s < 8 by omega), Kr_v, a, if_false, if_true, mw_left hN h8 hs]
    · simp only [X6_ladleOf_0, X6_ladleOf_1, X6_ladleOf_2, X6_ladleOf_3, X6_ladleOf_6, X6_ladleOf_9, X6_ladleOf_10, X6_ladleOf_13, X6_ladleOf_14, X6_ladleOf_15, X6_ladleOf_18, X6_ladleOf_19, X6_ladleOf_20, X6_ladleOf_23, X6_ladleOf_26, X6_ladleOf_27, cm, mw_of0 (show s < 8 by omega), Kr_v, a, if_false, e]
theorem mw_by {k : Nat} (hk : k < 8) : Ev X 65 0 [some (.ref m), some (.int (nI k))] [] (MW w m V N A) n 0 0 Q ↔ Q (.inl (some (.int (N (lx k) - 1)))) (MW w m V N A) n := by
  simp only [X6_by_0, X6_by_1, X6_by_4, X6_by_6, X6_by_7, X6_by_8, X6_by_9, X6_by_10, X6_by_11, gm0, lx_i, gnL hk, Option.some.injEq, exists_eq_left', eq_self, okz0, okz1, ht]
def hdM (N : Nat → Int32) (k : Nat) (a : Int32) : Int32 := if 0 < N (lx k) then a + 1 else a
theorem mw_held : Ev X 22 0 [some (.ref m), none, none] [] (MW w m V N A) n 0 0 Q ↔ Q (.inl (some (.int (itr (hdM N) 8 0)))) (MW w m V N A) n := by
  have h := loop_up (P := fun k a => Ev X 22 4 [some (.ref m), some (.int a), some (.int (nI k))] [] (MW w m V N A) n 0 0 Q) (f := hdM N) (n := 8) (a0 := 0) (fun k a hk => by
    have hlt : nI k < 8 := show nI k < nI 8 from nI_lt hk (by decide)
    rw [X6_held_4]
    unfold hdM
    by_cases b : 0 < N (lx k)
    · simp only [X6_held_0, X6_held_1, X6_held_2, X6_held_3, X6_held_5, X6_held_7, X6_held_10, X6_held_11, X6_held_14, X6_held_16, X6_held_17, X6_held_18, X6_held_19, X6_held_22, X6_held_25, X6_held_28, X6_held_31, X6_held_32, hlt, if_true, gm0, lx_i, gnL hk, Option.some.injEq, exists_eq_left', eq_self, okz0, okz1, ht, b, nI_1]
    · simp only [X6_held_0, X6_held_1, X6_held_2, X6_held_3, X6_held_5, X6_held_7, X6_held_10, X6_held_11, X6_held_14, X6_held_16, X6_held_17, X6_held_18, X6_held_19, X6_held_22, X6_held_25, X6_held_28, X6_held_31, X6_held_32, hlt, if_true, gm0, lx_i, gnL hk, Option.some.injEq, exists_eq_left', eq_self, okz0, okz1, ht, b, if_false, nI_1])
  have hl : nI 8 < 8 ↔ False := by decide
  simp only [X6_held_0, X6_held_1, X6_held_2, X6_held_3]
  refine h.trans ?_
  simp only [X6_held_0, X6_held_1, X6_held_2, X6_held_3, X6_held_4, X6_held_5, X6_held_7, X6_held_10, X6_held_11, X6_held_14, X6_held_16, X6_held_17, X6_held_18, X6_held_19, X6_held_22, X6_held_25, X6_held_28, X6_held_31, X6_held_32, hl, if_false]
def waM (cnt : Nat) (N : Nat → Int32) (s : Nat) : Int32 := if N (ix s 3) = 2 then nI (mlN cnt N s 1) else if N (ix s 3) = 3 then (if N (lx s) - 1 = nI s then nI (lfN cnt s) else nI s) else -1
theorem mw_wanted (hN : N 0 = nI cnt) (h8 : cnt ≤ 8) {s : Nat} (hs : s < cnt) : Ev X 91 0 [some (.ref m), some (.int (nI s))] [] (MW w m V N A) n 0 0 Q ↔ Q (.inl (some (.int (waM cnt N s)))) (MW w m V N A) n := by
  have s8 : s < 8 := by omega
  unfold waM
  by_cases a : N (ix s 3) = 2
  · simp only [X6_wanted_0, X6_wanted_1, X6_wanted_2, X6_wanted_5, X6_wanted_6, X6_wanted_9, X6_wanted_10, X6_wanted_11, X6_wanted_12, X6_wanted_15, X6_wanted_16, X6_wanted_17, X6_wanted_18, X6_wanted_21, X6_wanted_22, X6_wanted_25, X6_wanted_26, X6_wanted_27, X6_wanted_28, X6_wanted_29, X6_wanted_32, X6_wanted_33, X6_wanted_36, X6_wanted_37, X6_wanted_38, X6_wanted_41, X6_wanted_44, X6_wanted_45, cm, mw_how s8, Kr_v, a, if_true, mw_ladleOf hN h8 hs]
  · by_cases b : N (ix s 3) = 3
    · have e32 : (3 : Int32) = 2 ↔ False := by decide
      by_cases d : N (lx s) - 1 = nI s
      · simp only [X6_wanted_0, X6_wanted_1, X6_wanted_2, X6_wanted_5, X6_wanted_6, X6_wanted_9, X6_wanted_10, X6_wanted_11, X6_wanted_12, X6_wanted_15, X6_wanted_16, X6_wanted_17, X6_wanted_18, X6_wanted_21, X6_wanted_22, X6_wanted_25, X6_wanted_26, X6_wanted_27, X6_wanted_28, X6_wanted_29, X6_wanted_32, X6_wanted_33, X6_wanted_36, X6_wanted_37, X6_wanted_38, X6_wanted_41, X6_wanted_44, X6_wanted_45, cm, mw_how s8, Kr_v, b, e32, if_false, if_true, mw_by s8, d, mw_left hN h8 hs]
      · simp only [X6_wanted_0, X6_wanted_1, X6_wanted_2, X6_wanted_5, X6_wanted_6, X6_wanted_9, X6_wanted_10, X6_wanted_11, X6_wanted_12, X6_wanted_15, X6_wanted_16, X6_wanted_17, X6_wanted_18, X6_wanted_21, X6_wanted_22, X6_wanted_25, X6_wanted_26, X6_wanted_27, X6_wanted_28, X6_wanted_29, X6_wanted_32, X6_wanted_33, X6_wanted_36, X6_wanted_37, X6_wanted_38, X6_wanted_41, X6_wanted_44, X6_wanted_45, cm, mw_how s8, Kr_v, b, e32, if_false, if_true, mw_by s8, d]
    · simp only [X6_wanted_0, X6_wanted_1, X6_wanted_2, X6_wanted_5, X6_wanted_6, X6_wanted_9, X6_wanted_10, X6_wanted_11, X6_wanted_12, X6_wanted_15, X6_wanted_16, X6_wanted_17, X6_wanted_18, X6_wanted_21, X6_wanted_22, X6_wanted_25, X6_wanted_26, X6_wanted_27, X6_wanted_28, X6_wanted_29, X6_wanted_32, X6_wanted_33, X6_wanted_36, X6_wanted_37, X6_wanted_38, X6_wanted_41, X6_wanted_44, X6_wanted_45, cm, mw_how s8, Kr_v, a, b, if_false]
def wlM (N : Nat → Int32) (s : Nat) (a : Int32) : Int32 := a + N (ix s 9)
theorem mw_withLeave (hN : N 0 = nI cnt) (h8 : cnt ≤ 8) : Ev X 88 0 [some (.ref m), none, none] [] (MW w m V N A) n 0 0 Q ↔ Q (.inl (some (.int (itr (wlM N) cnt 0)))) (MW w m V N A) n := by
  have h := loop_up (P := fun k a => Ev X 88 4 [some (.ref m), some (.int a), some (.int (nI k))] [] (MW w m V N A) n 0 0 Q) (f := wlM N) (n := cnt) (a0 := 0) (fun k a hk => by
    have hlt : nI k < nI cnt := nI_lt hk (by omega)
    rw [X6_withLeave_4]
    simp only [X6_withLeave_0, X6_withLeave_1, X6_withLeave_2, X6_withLeave_3, X6_withLeave_5, X6_withLeave_6, X6_withLeave_9, X6_withLeave_10, X6_withLeave_11, X6_withLeave_14, X6_withLeave_15, X6_withLeave_16, X6_withLeave_17, X6_withLeave_19, X6_withLeave_22, X6_withLeave_23, X6_withLeave_24, X6_withLeave_27, X6_withLeave_30, X6_withLeave_31, gm0, gn0, hN, hlt, if_true, Option.some.injEq, exists_eq_left', eq_self, okz0, okz1, ht, cm, mw_of9 (show k < 8 by omega), Kr_v, nI_1, wlM])
  simp only [X6_withLeave_0, X6_withLeave_1, X6_withLeave_2, X6_withLeave_3]
  refine h.trans ?_
  simp only [X6_withLeave_0, X6_withLeave_1, X6_withLeave_2, X6_withLeave_3, X6_withLeave_4, X6_withLeave_5, X6_withLeave_6, X6_withLeave_9, X6_withLeave_10, X6_withLeave_11, X6_withLeave_14, X6_withLeave_15, X6_withLeave_16, X6_withLeave_17, X6_withLeave_19, X6_withLeave_22, X6_withLeave_23, X6_withLeave_24, X6_withLeave_27, X6_withLeave_30, X6_withLeave_31, gm0, gn0, hN, Option.some.injEq, exists_eq_left', eq_self, okz0, okz1, ht, Int32.lt_irrefl, if_false]
def letM (cnt : Nat) (N : Nat → Int32) : Int32 := if N 3 = 0 then 1 else if itr (wlM N) cnt 0 < N 3 then 1 else 0
theorem mw_lets (hN : N 0 = nI cnt) (h8 : cnt ≤ 8) : Ev X 89 0 [some (.ref m)] [] (MW w m V N A) n 0 0 Q ↔ Q (.inl (some (.int (letM cnt N)))) (MW w m V N A) n := by
  unfold letM
  by_cases a : N 3 = 0
  · simp only [X6_lets_0, X6_lets_1, X6_lets_4, X6_lets_5, X6_lets_6, X6_lets_9, X6_lets_10, X6_lets_13, X6_lets_14, X6_lets_17, X6_lets_18, X6_lets_19, X6_lets_22, X6_lets_23, X6_lets_26, X6_lets_27 okz0, X6_lets_27 okz1, gm0, gn3, Option.some.injEq, exists_eq_left', eq_self, okz0, okz1, ht, a, if_true]
  · by_cases b : itr (wlM N) cnt 0 < N 3
    · simp only [X6_lets_0, X6_lets_1, X6_lets_4, X6_lets_5, X6_lets_6, X6_lets_9, X6_lets_10, X6_lets_13, X6_lets_14, X6_lets_17, X6_lets_18, X6_lets_19, X6_lets_22, X6_lets_23, X6_lets_26, X6_lets_27 okz0, X6_lets_27 okz1, gm0, gn3, Option.some.injEq, exists_eq_left', eq_self, okz0, okz1, ht, a, if_false, cm, mw_withLeave hN h8, Kr_v, b, if_true]
    · simp only [X6_lets_0, X6_lets_1, X6_lets_4, X6_lets_5, X6_lets_6, X6_lets_9, X6_lets_10, X6_lets_13, X6_lets_14, X6_lets_17, X6_lets_18, X6_lets_19, X6_lets_22, X6_lets_23, X6_lets_26, X6_lets_27 okz0, X6_lets_27 okz1, gm0, gn3, Option.some.injEq, exists_eq_left', eq_self, okz0, okz1, ht, a, if_false, cm, mw_withLeave hN h8, Kr_v, b]
/-- the queue without its place k -/
def dpN (a k : Nat) (N : Nat → Int32) : Nat → Int32 := fun i => if i = 6 then nI (a - 1) else if 7 + k ≤ i ∧ i < 7 + (a - 1) then N (i + 1) else N i
def dqN (a : Nat) (y : Int32) (N : Nat → Int32) : Nat → Int32 := match ff (fun k => decide (N (qx k) = y)) a 0 with
  | none => N
  | some k => dpN a k N
theorem dp_itr {a k : Nat} {N : Nat → Int32} (hk : k < a) : ∀ d, k + d ≤ a - 1 → itr (fun j (b : Nat → Int32) => upd b (qx (k + j)) (b (qx (k + j + 1)))) d (upd N 6 (nI (a - 1))) = fun i => if i = 6 then nI (a - 1) else if 7 + k ≤ i ∧ i < 7 + (k + d) then N (i + 1) else N i := by
  intro d
  induction d with
  | zero =>
    intro _
    funext i
    show upd N 6 _ i = _
    unfold upd
    by_cases h : i = 6
    · rw [if_pos h, if_pos h]
    · rw [if_neg h, if_neg h, if_neg (by omega)]
  | succ d ih =>
    intro hd
    rw [itr_s, ih (by omega)]
    funext i
    unfold upd qx
    by_cases h : i = 7 + (k + d)
    · rw [if_pos h, if_neg (by omega), if_pos (by omega)]
      dsimp only
      rw [if_neg (by omega), if_neg (by omega), h]
      rfl
    · rw [if_neg h]
      dsimp only
      by_cases h6 : i = 6
      · rw [if_pos h6, if_pos h6]
      · rw [if_neg h6, if_neg h6]
        by_cases h7 : 7 + k ≤ i ∧ i < 7 + (k + d)
        · rw [if_pos h7, if_pos (by omega)]
        · rw [if_neg h7, if_neg (by omega)]
theorem mw_drops {a : Nat} (hA : N 6 = nI a) (ha : a ≤ 8) {y : Int32} : Ev X 34 0 [some (.ref m), some (.int y), none, none] [] (MW w m V N A) n 0 0 Q ↔ Q (.inl none) (MW w m V (dqN a y N) A) n := by
  have g6 : ∀ {N : Nat → Int32}, ga (MW w m V N A) (m + 1) 0 6 = some (.int (N 6)) := gn6
  have h := loop_ff (P := fun k => Ev X 34 2 [some (.ref m), some (.int y), some (.int (nI k)), none] [] (MW w m V N A) n 0 0 Q) (R := fun k => Ev X 34 32 [some (.ref m), some (.int y), some (.int (nI k)), none] [] (MW w m V N A) n 0 0 Q) (p := fun k => decide (N (qx k) = y)) (n := a) (fun k hk => by
    have hlt : nI k < nI a := nI_lt hk (by omega)
    rw [X6_drops_2]
    by_cases b : N (qx k) = y
    · simp only [X6_drops_3, X6_drops_4, X6_drops_7, X6_drops_9, X6_drops_10, X6_drops_13, X6_drops_14, X6_drops_17, X6_drops_19, X6_drops_20, X6_drops_21, X6_drops_22, X6_drops_23, gm0, gn6, hA, hlt, if_true, Option.some.injEq, exists_eq_left', eq_self, okz0, okz1, ht, qx_i, gnQ (show k ≤ 8 by omega), b, decide_true]
    · simp only [X6_drops_3, X6_drops_4, X6_drops_7, X6_drops_9, X6_drops_10, X6_drops_13, X6_drops_14, X6_drops_17, X6_drops_19, X6_drops_20, X6_drops_21, X6_drops_22, X6_drops_23, X6_drops_26, X6_drops_29, gm0, gn6, hA, hlt, if_true, Option.some.injEq, exists_eq_left', eq_self, okz0, okz1, ht, qx_i, gnQ (show k ≤ 8 by omega), b, if_false, decide_false, Bool.false_eq_true, nI_1]) a 0 (Nat.zero_add a)
  simp only [X6_drops_0, X6_drops_1]
  refine h.trans ?_
  unfold dqN
  cases hf : ff (fun k => decide (N (qx k) = y)) a 0 with
  | none =>
    dsimp only
    simp only [X6_drops_2, X6_drops_3, X6_drops_4, X6_drops_7, X6_drops_9, X6_drops_10, gm0, gn6, hA, Option.some.injEq, exists_eq_left', eq_self, okz0, okz1, ht, Int32.lt_irrefl, if_false, X6_drops_32, X6_drops_33, X6_drops_34, X6_drops_37, X6_drops_39, X6_drops_40, if_true, X6_drops_43]
  | some k =>
    dsimp only
    obtain ⟨-, hk, -⟩ := ff_some hf
    have hk : k < a := by omega
    have hne : nI k = nI a ↔ False := ⟨fun q => by have := (nI_eq (by omega) (by omega)).mp q; omega, False.elim⟩
    have e7 : ∀ j : Nat, qx j + 1 = qx (j + 1) := fun j => rfl
    have hL := loop_upI (P := fun j (b : Nat → Int32) => Ev X 34 57 [some (.ref m), some (.int y), some (.int (nI k)), some (.int (nI (k + j)))] [] (MW w m V b A) n 0 0 Q) (f := fun j (b : Nat → Int32) => upd b (qx (k + j)) (b (qx (k + j + 1)))) (n := a - 1 - k) (a0 := upd N 6 (nI (a - 1))) (I := fun _ b => b 6 = nI (a - 1)) upd_same (fun j b hj hb => by rw [upd_ne (by unfold qx; omega)]; exact hb) (fun j b hj hb => by
      have hlt : nI (k + j) < nI (a - 1) := nI_lt (by omega) (by omega)
      rw [X6_drops_57]
      simp only [X6_drops_58, X6_drops_59, X6_drops_62, X6_drops_64, X6_drops_65, gm0, gn6, hb, hlt, if_true, Option.some.injEq, exists_eq_left', eq_self, okz0, okz1, ht, X6_drops_68, X6_drops_69, X6_drops_72, X6_drops_74, X6_drops_75, X6_drops_76, X6_drops_77, X6_drops_80, X6_drops_82, X6_drops_83, X6_drops_84, X6_drops_85, e7, X6_drops_86, gnQ (show k + j + 1 ≤ 8 by omega), qx_i, X6_drops_87, snQ (show k + j ≤ 8 by omega), X6_drops_88, X6_drops_91, nI_1]
      exact Iff.rfl)
    obtain ⟨hL, hI⟩ := hL
    rw [dp_itr hk (a - 1 - k) (by omega)] at hL hI
    have ek : k + (a - 1 - k) = a - 1 := by omega
    rw [ek] at hL hI
    have eb : nI a - 1 = nI (a - 1) := nI_p (by omega)
    simp only [X6_drops_32, X6_drops_33, X6_drops_34, X6_drops_37, X6_drops_39, X6_drops_40, gm0, gn6, hA, Option.some.injEq, exists_eq_left', eq_self, okz0, okz1, ht, hne, if_false, X6_drops_44, X6_drops_45, X6_drops_48, X6_drops_50, X6_drops_51, X6_drops_52, X6_drops_53, eb, X6_drops_54, sn6, X6_drops_55, X6_drops_56]
    refine hL.trans ?_
    simp only [X6_drops_57, X6_drops_58, X6_drops_59, X6_drops_62, X6_drops_64, X6_drops_65, gm0, gn6, Option.some.injEq, exists_eq_left', eq_self, okz0, okz1, ht, if_true, Int32.lt_irrefl, if_false, X6_drops_94]
    exact Iff.rfl
end MSS
