/-! ===== the reference's queries ===== -/
section MQU
variable {X : Cxt} {w : Wld} {n : Option Nat} {Q : (Option Value ⊕ String) → Wld → Option Nat → Prop} {m cnt c : Nat} {V N : Nat → Int32} {A : Nat → Nat → Int32}
theorem p19 {v : Int32} : pf (MW w m V N A) m 5 19 (.int v) = some (MW w m (upd V 19 v) N A) := pm (by decide)
theorem mw_seatOf_out (hN : N 0 = nI cnt) (h8 : cnt ≤ 8) {y j : Int32} (h : hasS (nI cnt) y = 0) : Ev X 100 0 [some (.ref m), some (.int y), some (.int j)] [] (MW w m V N A) n 0 0 Q ↔ Q (.inl (some (.int 0))) (MW w m (upd V 19 1) N A) n := by
  simp only [X6_seatOf_0, X6_seatOf_1, X6_seatOf_2, X6_seatOf_5, X6_seatOf_6, X6_seatOf_7, X6_seatOf_10, X6_seatOf_13, X6_seatOf_14, X6_seatOf_15, X6_seatOf_18, X6_seatOf_19, X6_seatOf_20, X6_seatOf_21, X6_seatOf_23, X6_seatOf_26, X6_seatOf_29, X6_seatOf_30, X6_seatOf_31, X6_seatOf_34, X6_seatOf_35, X6_seatOf_36, X6_seatOf_37, X6_seatOf_40, X6_seatOf_41, X6_seatOf_42, X6_seatOf_45, X6_seatOf_46, X6_seatOf_47, X6_seatOf_50, X6_seatOf_53, X6_seatOf_54, X6_seatOf_57, X6_seatOf_58, X6_seatOf_59, X6_seatOf_60, X6_seatOf_63, p19, Option.some.injEq, exists_eq_left', eq_self, okz0, okz1, ht, cm, mw_isSeat hN h8, Kr_v, h, if_true, mw_raises, upd_upd]
theorem mw_seatOf_bad (hN : N 0 = nI cnt) (h8 : cnt ≤ 8) {y j : Int32} (h : ¬ hasS (nI cnt) y = 0) (hj : inF j 0 9 = 0) : Ev X 100 0 [some (.ref m), some (.int y), some (.int j)] [] (MW w m V N A) n 0 0 Q ↔ Q (.inl (some (.int 0))) (MW w m (upd V 19 2) N A) n := by
  simp only [X6_seatOf_0, X6_seatOf_1, X6_seatOf_2, X6_seatOf_5, X6_seatOf_6, X6_seatOf_7, X6_seatOf_10, X6_seatOf_13, X6_seatOf_14, X6_seatOf_15, X6_seatOf_18, X6_seatOf_19, X6_seatOf_20, X6_seatOf_21, X6_seatOf_23, X6_seatOf_26, X6_seatOf_29, X6_seatOf_30, X6_seatOf_31, X6_seatOf_34, X6_seatOf_35, X6_seatOf_36, X6_seatOf_37, X6_seatOf_40, X6_seatOf_41, X6_seatOf_42, X6_seatOf_45, X6_seatOf_46, X6_seatOf_47, X6_seatOf_50, X6_seatOf_53, X6_seatOf_54, X6_seatOf_57, X6_seatOf_58, X6_seatOf_59, X6_seatOf_60, X6_seatOf_63, p19, Option.some.injEq, exists_eq_left', eq_self, okz0, okz1, ht, cm, mw_isSeat hN h8, mw_in, Kr_v, h, hj, if_true, if_false, mw_raises, upd_upd]
def smM (N : Nat → Int32) (k j : Nat) : Int32 := if j = 4 then (if inF (N (ix k 3)) 1 3 = 0 then N (ix k 4) else 0) else N (ix k j)
theorem mw_seatOf (hN : N 0 = nI cnt) (h8 : cnt ≤ 8) {k j : Nat} (hk : k < cnt) (hj : j < 10) : Ev X 100 0 [some (.ref m), some (.int (nI k)), some (.int (nI j))] [] (MW w m V N A) n 0 0 Q ↔ Q (.inl (some (.int (smM N k j)))) (MW w m (upd V 19 0) N A) n := by
  have k8 : k < 8 := by omega
  have h : ¬ hasS (nI cnt) (nI k) = 0 := by rw [hasS_in h8 hk]; decide
  have hi : ¬ inF (nI j) 0 9 = 0 := by
    unfold inF
    rw [if_neg (nI_pos (by omega)), if_neg (show ¬ (9 : Int32) < nI j from fun q => nI_nlt (show j ≤ 9 by omega) (by decide) (show nI 9 < nI j from q))]
    decide
  unfold smM
  by_cases a : j = 4
  · subst a
    have e4 : nI 4 = 4 := rfl
    by_cases b : inF (N (ix k 3)) 1 3 = 0
    · rw [e4] at hi
      simp only [e4, X6_seatOf_0, X6_seatOf_1, X6_seatOf_2, X6_seatOf_5, X6_seatOf_6, X6_seatOf_7, X6_seatOf_10, X6_seatOf_13, X6_seatOf_14, X6_seatOf_15, X6_seatOf_18, X6_seatOf_19, X6_seatOf_20, X6_seatOf_21, X6_seatOf_23, X6_seatOf_26, X6_seatOf_29, X6_seatOf_30, X6_seatOf_31, X6_seatOf_34, X6_seatOf_35, X6_seatOf_36, X6_seatOf_37, X6_seatOf_40, X6_seatOf_41, X6_seatOf_42, X6_seatOf_45, X6_seatOf_46, X6_seatOf_47, X6_seatOf_50, X6_seatOf_53, X6_seatOf_54, X6_seatOf_57, X6_seatOf_58, X6_seatOf_59, X6_seatOf_60, X6_seatOf_63, p19, Option.some.injEq, exists_eq_left', eq_self, okz0, okz1, ht, cm, mw_isSeat hN h8, mw_in, mw_how k8, Kr_v, h, hi, b, if_true, if_false, mw_of4 k8]
    · rw [e4] at hi
      simp only [e4, X6_seatOf_0, X6_seatOf_1, X6_seatOf_2, X6_seatOf_5, X6_seatOf_6, X6_seatOf_7, X6_seatOf_10, X6_seatOf_13, X6_seatOf_14, X6_seatOf_15, X6_seatOf_18, X6_seatOf_19, X6_seatOf_20, X6_seatOf_21, X6_seatOf_23, X6_seatOf_26, X6_seatOf_29, X6_seatOf_30, X6_seatOf_31, X6_seatOf_34, X6_seatOf_35, X6_seatOf_36, X6_seatOf_37, X6_seatOf_40, X6_seatOf_41, X6_seatOf_42, X6_seatOf_45, X6_seatOf_46, X6_seatOf_47, X6_seatOf_50, X6_seatOf_53, X6_seatOf_54, X6_seatOf_57, X6_seatOf_58, X6_seatOf_59, X6_seatOf_60, X6_seatOf_63, p19, Option.some.injEq, exists_eq_left', eq_self, okz0, okz1, ht, cm, mw_isSeat hN h8, mw_in, mw_how k8, Kr_v, h, hi, b, if_true, if_false]
  · have e4 : nI j = 4 ↔ False := ⟨fun q => a ((nI_eq (by omega) (by decide)).mp (show nI j = nI 4 from q)), False.elim⟩
    rw [if_neg a]
    simp only [X6_seatOf_0, X6_seatOf_1, X6_seatOf_2, X6_seatOf_5, X6_seatOf_6, X6_seatOf_7, X6_seatOf_10, X6_seatOf_13, X6_seatOf_14, X6_seatOf_15, X6_seatOf_18, X6_seatOf_19, X6_seatOf_20, X6_seatOf_21, X6_seatOf_23, X6_seatOf_26, X6_seatOf_29, X6_seatOf_30, X6_seatOf_31, X6_seatOf_34, X6_seatOf_35, X6_seatOf_36, X6_seatOf_37, X6_seatOf_40, X6_seatOf_41, X6_seatOf_42, X6_seatOf_45, X6_seatOf_46, X6_seatOf_47, X6_seatOf_50, X6_seatOf_53, X6_seatOf_54, X6_seatOf_57, X6_seatOf_58, X6_seatOf_59, X6_seatOf_60, X6_seatOf_63, p19, Option.some.injEq, exists_eq_left', eq_self, okz0, okz1, ht, cm, mw_isSeat hN h8, mw_in, Kr_v, h, hi, e4, if_false, mw_of k8 hj]
theorem mw_ladle_out (hN : N 0 = nI cnt) (h8 : cnt ≤ 8) {y b : Int32} (h : hasS (nI cnt) y = 0) : Ev X 103 0 [some (.ref m), some (.int y), some (.int b)] [] (MW w m V N A) n 0 0 Q ↔ Q (.inl (some (.int 0))) (MW w m (upd V 19 1) N A) n := by
  simp only [X6_ladle_0, X6_ladle_1, X6_ladle_2, X6_ladle_5, X6_ladle_6, X6_ladle_7, X6_ladle_10, X6_ladle_13, X6_ladle_14, X6_ladle_15, X6_ladle_16, X6_ladle_19, X6_ladle_22, X6_ladle_23, X6_ladle_24, X6_ladle_27, p19, Option.some.injEq, exists_eq_left', eq_self, okz0, okz1, ht, cm, mw_isSeat hN h8, Kr_v, h, if_true, mw_raises, upd_upd]
theorem mw_ladle (hN : N 0 = nI cnt) (h8 : cnt ≤ 8) {k : Nat} (hk : k < cnt) {b : Int32} : Ev X 103 0 [some (.ref m), some (.int (nI k)), some (.int b)] [] (MW w m V N A) n 0 0 Q ↔ Q (.inl (some (.int (nI (mlN cnt N k b))))) (MW w m (upd V 19 0) N A) n := by
  have h : ¬ hasS (nI cnt) (nI k) = 0 := by rw [hasS_in h8 hk]; decide
  simp only [X6_ladle_0, X6_ladle_1, X6_ladle_2, X6_ladle_5, X6_ladle_6, X6_ladle_7, X6_ladle_10, X6_ladle_13, X6_ladle_14, X6_ladle_15, X6_ladle_16, X6_ladle_19, X6_ladle_22, X6_ladle_23, X6_ladle_24, X6_ladle_27, p19, Option.some.injEq, exists_eq_left', eq_self, okz0, okz1, ht, cm, mw_isSeat hN h8, Kr_v, h, if_false, mw_ladleOf hN h8 hk]
theorem mw_holder_out (hN : N 0 = nI cnt) (h8 : cnt ≤ 8) {y : Int32} (h : hasS (nI cnt) y = 0) : Ev X 106 0 [some (.ref m), some (.int y)] [] (MW w m V N A) n 0 0 Q ↔ Q (.inl (some (.int 0))) (MW w m (upd V 19 1) N A) n := by
  simp only [X6_holder_0, X6_holder_1, X6_holder_2, X6_holder_5, X6_holder_6, X6_holder_7, X6_holder_10, X6_holder_13, X6_holder_14, X6_holder_15, X6_holder_18, X6_holder_21, X6_holder_22, X6_holder_23, X6_holder_26, p19, Option.some.injEq, exists_eq_left', eq_self, okz0, okz1, ht, cm, mw_isSeat hN h8, Kr_v, h, if_true, mw_raises, upd_upd]
theorem mw_holder (hN : N 0 = nI cnt) (h8 : cnt ≤ 8) {k : Nat} (hk : k < cnt) : Ev X 106 0 [some (.ref m), some (.int (nI k))] [] (MW w m V N A) n 0 0 Q ↔ Q (.inl (some (.int (N (lx k) - 1)))) (MW w m (upd V 19 0) N A) n := by
  have h : ¬ hasS (nI cnt) (nI k) = 0 := by rw [hasS_in h8 hk]; decide
  simp only [X6_holder_0, X6_holder_1, X6_holder_2, X6_holder_5, X6_holder_6, X6_holder_7, X6_holder_10, X6_holder_13, X6_holder_14, X6_holder_15, X6_holder_18, X6_holder_21, X6_holder_22, X6_holder_23, X6_holder_26, p19, Option.some.injEq, exists_eq_left', eq_self, okz0, okz1, ht, cm, mw_isSeat hN h8, Kr_v, h, if_false, mw_by (show k < 8 by omega)]
/-- the seat for which a seat waits -/
def otM (cnt : Nat) (N : Nat → Int32) (s : Nat) : Int32 := if N (ix s 3) = 2 then N (lx (mlN cnt N s 1)) - 1 else if N (ix s 3) = 3 then N (lx (w2N cnt s N)) - 1 else -1
theorem mw_other (hN : N 0 = nI cnt) (h8 : cnt ≤ 8) {s : Nat} (hs : s < cnt) : Ev X 110 0 [some (.ref m), some (.int (nI s)), none] [] (MW w m V N A) n 0 0 Q ↔ Q (.inl (some (.int (otM cnt N s)))) (MW w m V N A) n := by
  unfold otM
  by_cases a : N (ix s 3) = 2
  · have ew : waM cnt N s = nI (mlN cnt N s 1) := if_pos a
    have l8 : mlN cnt N s 1 < 8 := Nat.lt_of_lt_of_le (mlN_lt hs) h8
    have hp : ¬ nI (mlN cnt N s 1) < 0 := nI_pos (by omega)
    rw [if_pos a]
    simp only [X6_other_0, X6_other_1, X6_other_2, X6_other_5, X6_other_6, X6_other_7, X6_other_10, X6_other_11, X6_other_14, X6_other_15, X6_other_16, X6_other_19, cm, mw_wanted hN h8 hs, ew, Kr_v, hp, if_false, mw_by l8]
  · by_cases b : N (ix s 3) = 3
    · have ew : waM cnt N s = nI (w2N cnt s N) := by
        unfold waM w2N
        rw [if_neg a, if_pos b]
        split <;> rfl
      have l8 : w2N cnt s N < 8 := Nat.lt_of_lt_of_le (w2N_lt hs) h8
      have hp : ¬ nI (w2N cnt s N) < 0 := nI_pos (by omega)
      rw [if_neg a, if_pos b]
      simp only [X6_other_0, X6_other_1, X6_other_2, X6_other_5, X6_other_6, X6_other_7, X6_other_10, X6_other_11, X6_other_14, X6_other_15, X6_other_16, X6_other_19, cm, mw_wanted hN h8 hs, ew, Kr_v, hp, if_false, mw_by l8]
    · have ew : waM cnt N s = -1 := by unfold waM; rw [if_neg a, if_neg b]
      have hp : (-1 : Int32) < 0 := by decide
      rw [if_neg a, if_neg b]
      simp only [X6_other_0, X6_other_1, X6_other_2, X6_other_5, X6_other_6, X6_other_7, X6_other_10, X6_other_11, X6_other_14, X6_other_15, X6_other_16, X6_other_19, cm, mw_wanted hN h8 hs, ew, Kr_v, hp, if_true]
theorem mw_waitsFor_out (hN : N 0 = nI cnt) (h8 : cnt ≤ 8) {y : Int32} (h : hasS (nI cnt) y = 0) : Ev X 111 0 [some (.ref m), some (.int y)] [] (MW w m V N A) n 0 0 Q ↔ Q (.inl (some (.int 0))) (MW w m (upd V 19 1) N A) n := by
  simp only [X6_waitsFor_0, X6_waitsFor_1, X6_waitsFor_2, X6_waitsFor_5, X6_waitsFor_6, X6_waitsFor_7, X6_waitsFor_10, X6_waitsFor_13, X6_waitsFor_14, X6_waitsFor_15, X6_waitsFor_18, X6_waitsFor_19, X6_waitsFor_20, X6_waitsFor_21, X6_waitsFor_24, X6_waitsFor_27, X6_waitsFor_28, X6_waitsFor_29, X6_waitsFor_32, X6_waitsFor_35, X6_waitsFor_36, X6_waitsFor_37, X6_waitsFor_40, p19, Option.some.injEq, exists_eq_left', eq_self, okz0, okz1, ht, cm, mw_isSeat hN h8, Kr_v, h, if_true, mw_raises, upd_upd]
theorem mw_waitsFor (hN : N 0 = nI cnt) (h8 : cnt ≤ 8) {k : Nat} (hk : k < cnt) : Ev X 111 0 [some (.ref m), some (.int (nI k))] [] (MW w m V N A) n 0 0 Q ↔ if otM cnt N k < 0 then Q (.inl (some (.int 0))) (MW w m (upd V 19 2) N A) n else Q (.inl (some (.int (otM cnt N k)))) (MW w m (upd V 19 0) N A) n := by
  have h : ¬ hasS (nI cnt) (nI k) = 0 := by rw [hasS_in h8 hk]; decide
  by_cases a : otM cnt N k < 0
  · rw [if_pos a]
    simp only [X6_waitsFor_0, X6_waitsFor_1, X6_waitsFor_2, X6_waitsFor_5, X6_waitsFor_6, X6_waitsFor_7, X6_waitsFor_10, X6_waitsFor_13, X6_waitsFor_14, X6_waitsFor_15, X6_waitsFor_18, X6_waitsFor_19, X6_waitsFor_20, X6_waitsFor_21, X6_waitsFor_24, X6_waitsFor_27, X6_waitsFor_28, X6_waitsFor_29, X6_waitsFor_32, X6_waitsFor_35, X6_waitsFor_36, X6_waitsFor_37, X6_waitsFor_40, p19, Option.some.injEq, exists_eq_left', eq_self, okz0, okz1, ht, cm, mw_isSeat hN h8, Kr_v, h, if_false, mw_other hN h8 hk, a, if_true, mw_raises, upd_upd]
  · rw [if_neg a]
    simp only [X6_waitsFor_0, X6_waitsFor_1, X6_waitsFor_2, X6_waitsFor_5, X6_waitsFor_6, X6_waitsFor_7, X6_waitsFor_10, X6_waitsFor_13, X6_waitsFor_14, X6_waitsFor_15, X6_waitsFor_18, X6_waitsFor_19, X6_waitsFor_20, X6_waitsFor_21, X6_waitsFor_24, X6_waitsFor_27, X6_waitsFor_28, X6_waitsFor_29, X6_waitsFor_32, X6_waitsFor_35, X6_waitsFor_36, X6_waitsFor_37, X6_waitsFor_40, p19, Option.some.injEq, exists_eq_left', eq_self, okz0, okz1, ht, cm, mw_isSeat hN h8, Kr_v, h, if_false, mw_other hN h8 hk, a]
theorem mw_asking {a : Nat} (hA : N 6 = nI a) (ha : a ≤ 8) {y : Int32} : Ev X 114 0 [some (.ref m), some (.int y)] [] (MW w m V N A) n 0 0 Q ↔ if hasS (nI a) y = 0 then Q (.inl (some (.int 0))) (MW w m (upd V 19 1) N A) n else Q (.inl (some (.int (N (qx y.toNatClampNeg))))) (MW w m (upd V 19 0) N A) n := by
  by_cases h : hasS (nI a) y = 0
  · rw [if_pos h]
    simp only [X6_asking_0, X6_asking_1, X6_asking_2, X6_asking_5, X6_asking_6, X6_asking_7, X6_asking_8, X6_asking_11, X6_asking_13, X6_asking_14, X6_asking_15, X6_asking_16, X6_asking_19, X6_asking_22, X6_asking_23, X6_asking_26, X6_asking_28, X6_asking_29, X6_asking_30, X6_asking_31, X6_asking_34, X6_asking_35, X6_asking_36, X6_asking_39, p19, Option.some.injEq, exists_eq_left', eq_self, okz0, okz1, ht, gm0, gn6, hA, mw_in, inS ha, Kr_v, h, if_true, cm, mw_raises, upd_upd]
  · rw [if_neg h]
    have h' := h
    obtain ⟨k, hk, rfl⟩ := hasS_ex ha h'
    rw [nI_clamp (by omega)]
    simp only [X6_asking_0, X6_asking_1, X6_asking_2, X6_asking_5, X6_asking_6, X6_asking_7, X6_asking_8, X6_asking_11, X6_asking_13, X6_asking_14, X6_asking_15, X6_asking_16, X6_asking_19, X6_asking_22, X6_asking_23, X6_asking_26, X6_asking_28, X6_asking_29, X6_asking_30, X6_asking_31, X6_asking_34, X6_asking_35, X6_asking_36, X6_asking_39, p19, Option.some.injEq, exists_eq_left', eq_self, okz0, okz1, ht, gm0, gn6, hA, mw_in, inS ha, Kr_v, h, if_false, qx_i, gnQ (show k ≤ 8 by omega)]
def thM (N : Nat → Int32) (h : Int32) (k : Nat) (a : Int32) : Int32 := if N (ix k 3) = h then a ||| (1 <<< (nI k &&& 31)) else a
theorem mw_those (hN : N 0 = nI cnt) (h8 : cnt ≤ 8) {h : Int32} : Ev X 116 0 [some (.ref m), some (.int h), none, none] [] (MW w m V N A) n 0 0 Q ↔ Q (.inl (some (.int (itr (thM N h) cnt 0)))) (MW w m V N A) n := by
  have hL := loop_up (P := fun k a => Ev X 116 4 [some (.ref m), some (.int h), some (.int a), some (.int (nI k))] [] (MW w m V N A) n 0 0 Q) (f := thM N h) (n := cnt) (a0 := 0) (fun k a hk => by
    have hlt : nI k < nI cnt := nI_lt hk (by omega)
    rw [X6_those_4]
    unfold thM
    by_cases b : N (ix k 3) = h
    · simp only [X6_those_0, X6_those_1, X6_those_2, X6_those_3, X6_those_5, X6_those_6, X6_those_9, X6_those_10, X6_those_11, X6_those_14, X6_those_15, X6_those_16, X6_those_19, X6_those_20, X6_those_23, X6_those_24, X6_those_25, X6_those_26, X6_those_27, X6_those_28, X6_those_29, X6_those_32, X6_those_35, X6_those_36, gm0, gn0, hN, hlt, if_true, Option.some.injEq, exists_eq_left', eq_self, okz0, okz1, ht, cm, mw_how (show k < 8 by omega), Kr_v, b, nI_1]
    · simp only [X6_those_0, X6_those_1, X6_those_2, X6_those_3, X6_those_5, X6_those_6, X6_those_9, X6_those_10, X6_those_11, X6_those_14, X6_those_15, X6_those_16, X6_those_19, X6_those_20, X6_those_23, X6_those_24, X6_those_25, X6_those_26, X6_those_27, X6_those_28, X6_those_29, X6_those_32, X6_those_35, X6_those_36, gm0, gn0, hN, hlt, if_true, Option.some.injEq, exists_eq_left', eq_self, okz0, okz1, ht, cm, mw_how (show k < 8 by omega), Kr_v, b, if_false, nI_1])
  simp only [X6_those_0, X6_those_1, X6_those_2, X6_those_3]
  refine hL.trans ?_
  simp only [X6_those_0, X6_those_1, X6_those_2, X6_those_3, X6_those_4, X6_those_5, X6_those_6, X6_those_9, X6_those_10, X6_those_11, X6_those_14, X6_those_15, X6_those_16, X6_those_19, X6_those_20, X6_those_23, X6_those_24, X6_those_25, X6_those_26, X6_those_27, X6_those_28, X6_those_29, X6_those_32, X6_those_35, X6_those_36, gm0, gn0, hN, Option.some.injEq, exists_eq_left', eq_self, okz0, okz1, ht, Int32.lt_irrefl, if_false]
theorem mw_eaters (hN : N 0 = nI cnt) (h8 : cnt ≤ 8) : Ev X 117 0 [some (.ref m)] [] (MW w m V N A) n 0 0 Q ↔ Q (.inl (some (.int (itr (thM N 4) cnt 0)))) (MW w m (upd V 19 0) N A) n := by
  simp only [X6_eaters_0, X6_eaters_1, X6_eaters_2, X6_eaters_5, X6_eaters_6, X6_eaters_7, X6_eaters_10, p19, Option.some.injEq, exists_eq_left', eq_self, okz0, okz1, ht, cm, mw_those hN h8, Kr_v]
/-- f done for s, s + 1, .. s + d - 1 -/
def fwd {α : Type} (f : Nat → α → α) : Nat → Nat → α → α
  | 0, _, a => a
  | d + 1, s, a => fwd f d (s + 1) (f s a)
theorem fwd_itr {α : Type} {f : Nat → α → α} {a0 : α} : ∀ d s, fwd f d s (itr f s a0) = itr f (s + d) a0 := by
  intro d
  induction d with
  | zero => intro s; rfl
  | succ d ih =>
    intro s
    show fwd f d (s + 1) (f s (itr f s a0)) = _
    have h := ih (s + 1)
    rw [itr_s] at h
    rw [h]
    congr 1
    omega
/-- where the way of waiting from x comes to in at most d steps, or to the seat s, or to none -/
def rgM (cnt : Nat) (N : Nat → Int32) (s : Nat) : Nat → Int32 → Int32
  | 0, x => x
  | d + 1, x => if x < 0 then x else if x = nI s then x else rgM cnt N s d (otM cnt N x.toNatClampNeg)
def rnM (cnt : Nat) (N : Nat → Int32) (s : Nat) (a : Int32) : Int32 := if rgM cnt N s (cnt - 1) (otM cnt N s) = nI s then a ||| (1 <<< (nI s &&& 31)) else a
theorem ot_seat (hG : ∀ j, j < cnt → seatI cnt (N (lx j) - 1)) {s : Nat} (hs : s < cnt) : seatI cnt (otM cnt N s) := by
  unfold otM
  by_cases a : N (ix s 3) = 2
  · rw [if_pos a]; exact hG _ (mlN_lt hs)
  · by_cases b : N (ix s 3) = 3
    · rw [if_neg a, if_pos b]; exact hG _ (w2N_lt hs)
    · rw [if_neg a, if_neg b]; exact Or.inl rfl
theorem mw_rings (hG : ∀ j, j < cnt → seatI cnt (N (lx j) - 1)) (hN : N 0 = nI cnt) (h8 : cnt ≤ 8) : Ev X 121 0 [some (.ref m), none, none, none, none] [] (MW w m V N A) n 0 0 Q ↔ Q (.inl (some (.int (itr (rnM cnt N) cnt 0)))) (MW w m V N A) n := by
  have inner : ∀ (s : Nat), s < cnt → ∀ (b : Int32) (d k : Nat) (x : Int32), k + d = cnt → 1 ≤ k → seatI cnt x → ((∀ l4, Ev X 121 55 [some (.ref m), some (.int b), some (.int (nI s)), some (.int (rgM cnt N s d x)), l4] [] (MW w m V N A) n 0 0 Q ↔ Ev X 121 55 [some (.ref m), some (.int b), some (.int (nI s)), some (.int (rgM cnt N s d x)), some (.int 0)] [] (MW w m V N A) n 0 0 Q) → (Ev X 121 23 [some (.ref m), some (.int b), some (.int (nI s)), some (.int x), some (.int (nI k))] [] (MW w m V N A) n 0 0 Q ↔ Ev X 121 55 [some (.ref m), some (.int b), some (.int (nI s)), some (.int (rgM cnt N s d x)), some (.int 0)] [] (MW w m V N A) n 0 0 Q)) := by
    intro s hs b d
    induction d with
    | zero =>
      intro k x hk h1 hx hh
      obtain rfl : k = cnt := by omega
      rw [X6_rings_23]
      simp only [X6_rings_25, X6_rings_26, X6_rings_29, X6_rings_30, X6_rings_31, gm0, gn0, hN, Option.some.injEq, exists_eq_left', eq_self, okz0, okz1, ht, Int32.lt_irrefl, if_false]
      exact hh _
    | succ d ih =>
      intro k x hk h1 hx hh
      have hlt : nI k < nI cnt := nI_lt (by omega) (by omega)
      rw [X6_rings_23]
      rcases hx with rfl | ⟨i, hi, rfl⟩
      · have hm : (-1 : Int32) < 0 := by decide
        have e : rgM cnt N s (d + 1) (-1) = -1 := by unfold rgM; rw [if_pos hm]
        rw [e] at hh ⊢
        simp only [X6_rings_25, X6_rings_26, X6_rings_29, X6_rings_30, X6_rings_31, gm0, gn0, hN, Option.some.injEq, exists_eq_left', eq_self, okz0, okz1, ht, hlt, if_true, X6_rings_34, X6_rings_35, hm]
        exact hh _
      · have hp : ¬ nI i < 0 := nI_pos (by omega)
        by_cases q : nI i = nI s
        · have e : rgM cnt N s (d + 1) (nI i) = nI i := by unfold rgM; rw [if_neg hp, if_pos q]
          rw [e] at hh ⊢
          rw [q] at hh hp ⊢
          simp only [X6_rings_25, X6_rings_26, X6_rings_29, X6_rings_30, X6_rings_31, gm0, gn0, hN, Option.some.injEq, exists_eq_left', eq_self, okz0, okz1, ht, hlt, if_true, X6_rings_34, X6_rings_35, hp, if_false, X6_rings_38, X6_rings_39, X6_rings_40]
          exact hh _
        · have e : rgM cnt N s (d + 1) (nI i) = rgM cnt N s d (otM cnt N i) := by rw [rgM, if_neg hp, if_neg q, nI_clamp (by omega)]
          rw [e] at hh ⊢
          simp only [X6_rings_25, X6_rings_26, X6_rings_29, X6_rings_30, X6_rings_31, gm0, gn0, hN, Option.some.injEq, exists_eq_left', eq_self, okz0, okz1, ht, hlt, if_true, X6_rings_34, X6_rings_35, hp, if_false, X6_rings_38, X6_rings_39, X6_rings_40, q, X6_rings_43, X6_rings_44, X6_rings_45 cm, mw_other hN h8 hi, Kr_v, X6_rings_48, X6_rings_49, X6_rings_52, nI_1]
          exact ih (k + 1) _ (by omega) (by omega) (ot_seat hG hi) hh
  have outer : ∀ d s, s + d = cnt → ∀ (b : Int32) (l3 l4 : Option Value), (Ev X 121 4 [some (.ref m), some (.int b), some (.int (nI s)), l3, l4] [] (MW w m V N A) n 0 0 Q ↔ Q (.inl (some (.int (fwd (rnM cnt N) d s b)))) (MW w m V N A) n) := by
    intro d
    induction d with
    | zero =>
      intro s hs b l3 l4
      obtain rfl : s = cnt := by omega
      rw [X6_rings_4]
      simp only [X6_rings_5, X6_rings_6, X6_rings_9, X6_rings_10, X6_rings_11, gm0, gn0, hN, Option.some.injEq, exists_eq_left', eq_self, okz0, okz1, ht, Int32.lt_irrefl, if_false, X6_rings_72, X6_rings_73]
      exact Iff.rfl
    | succ d ih =>
      intro s hs b l3 l4
      have hsc : s < cnt := by omega
      have hlt : nI s < nI cnt := nI_lt hsc (by omega)
      have z1 : (1 : Int32) = nI 1 := rfl
      have tail : ∀ l4, (Ev X 121 55 [some (.ref m), some (.int b), some (.int (nI s)), some (.int (rgM cnt N s (cnt - 1) (otM cnt N s))), l4] [] (MW w m V N A) n 0 0 Q ↔ Q (.inl (some (.int (fwd (rnM cnt N) (d + 1) s b)))) (MW w m V N A) n) := by
        intro l4
        have e : fwd (rnM cnt N) (d + 1) s b = fwd (rnM cnt N) d (s + 1) (rnM cnt N s b) := rfl
        rw [e]
        rw [X6_rings_55]
        unfold rnM
        by_cases q : rgM cnt N s (cnt - 1) (otM cnt N s) = nI s
        · rw [if_pos q]
          simp only [X6_rings_56, X6_rings_57, q, if_true, X6_rings_60, X6_rings_61, X6_rings_62, X6_rings_63, X6_rings_64, X6_rings_65, X6_rings_66, X6_rings_69, nI_1]
          exact ih (s + 1) (by omega) _ _ _
        · rw [if_neg q]
          simp only [X6_rings_56, X6_rings_57, q, if_false, X6_rings_66, X6_rings_69, nI_1]
          exact ih (s + 1) (by omega) _ _ _
      rw [X6_rings_4]
      simp only [X6_rings_5, X6_rings_6, X6_rings_9, X6_rings_10, X6_rings_11, gm0, gn0, hN, Option.some.injEq, exists_eq_left', eq_self, okz0, okz1, ht, hlt, if_true, X6_rings_14, X6_rings_15, X6_rings_16 cm, mw_other hN h8 hsc, Kr_v, X6_rings_19, X6_rings_20, X6_rings_21]
      rw [z1]
      refine (inner s hsc b (cnt - 1) 1 _ (by omega) (Nat.le_refl 1) (ot_seat hG hsc) (fun l4 => (tail l4).trans (tail _).symm)).trans ?_
      exact tail _
  have z0 : nI 0 = 0 := rfl
  have h := outer cnt 0 (Nat.zero_add cnt) 0 none none
  have e : fwd (rnM cnt N) cnt 0 0 = itr (rnM cnt N) cnt 0 := by
    have := fwd_itr (f := rnM cnt N) (a0 := 0) cnt 0
    rw [Nat.zero_add] at this
    exact this
  rw [e, z0] at h
  simp only [X6_rings_0, X6_rings_1, X6_rings_2, X6_rings_3]
  exact h
theorem mw_ring (hG : ∀ j, j < cnt → seatI cnt (N (lx j) - 1)) (hN : N 0 = nI cnt) (h8 : cnt ≤ 8) : Ev X 122 0 [some (.ref m)] [] (MW w m V N A) n 0 0 Q ↔ Q (.inl (some (.int (itr (rnM cnt N) cnt 0)))) (MW w m (upd V 19 0) N A) n := by
  simp only [X6_ring_0, X6_ring_1, X6_ring_2, X6_ring_5, X6_ring_6, X6_ring_9, p19, Option.some.injEq, exists_eq_left', eq_self, okz0, okz1, ht, cm, mw_rings hG hN h8, Kr_v]
/-- one pass over the seats that are stuck -/
def spM (cnt : Nat) (N : Nat → Int32) (s : Nat) (a : Int32 × Int32) : Int32 × Int32 :=
  let b := if otM cnt N s < 0 then a.1 else if (a.1 >>> (otM cnt N s &&& 31)) &&& 1 = 1 then a.1 ||| (1 <<< (nI s &&& 31)) else a.1
  (b, if N (ix s 9) = 1 then (if (b >>> (nI s &&& 31)) &&& 1 = 0 then 0 else a.2) else a.2)
def psM (cnt : Nat) (N : Nat → Int32) (x : Int32) : Int32 :=
  let z := itr (spM cnt N) cnt (x, 1)
  if z.2 = 0 then z.1 else if letM cnt N = 0 then z.1 ||| itr (thM N 1) cnt 0 else z.1
def stM (cnt : Nat) (N : Nat → Int32) : Int32 := itr (fun _ x => psM cnt N x) 20 (itr (rnM cnt N) cnt 0)
theorem mw_stuckOnes (hG : ∀ j, j < cnt → seatI cnt (N (lx j) - 1)) (hN : N 0 = nI cnt) (h8 : cnt ≤ 8) (h1 : itr (rnM cnt N) cnt 0 ≠ -1) (hF : psM cnt N (stM cnt N) = stM cnt N) : Ev X 126 0 [some (.ref m), none, none, none, none] [] (MW w m V N A) n 0 0 Q ↔ Q (.inl (some (.int (stM cnt N)))) (MW w m V N A) n := by
  have e1 : (1 : Int32) = 0 ↔ False := by decide
  have pass : ∀ (x had : Int32) (l3 l4 : Option Value), ¬ x = had → (Ev X 126 7 [some (.ref m), some (.int x), some (.int had), l3, l4] [] (MW w m V N A) n 0 0 Q ↔ Ev X 126 7 [some (.ref m), some (.int (psM cnt N x)), some (.int x), some (.int (itr (spM cnt N) cnt (x, 1)).2), some (.int (nI cnt))] [] (MW w m V N A) n 0 0 Q) := by
    intro x had l3 l4 hne
    have hL := loop_up (α := Int32 × Int32) (P := fun k a => Ev X 126 19 [some (.ref m), some (.int a.1), some (.int x), some (.int a.2), some (.int (nI k))] [] (MW w m V N A) n 0 0 Q) (f := spM cnt N) (n := cnt) (a0 := (x, 1)) (fun k a hk => by
      have hlt : nI k < nI cnt := nI_lt hk (by omega)
      have k8 : k < 8 := by omega
      have tail : ∀ b : Int32, (Ev X 126 60 [some (.ref m), some (.int b), some (.int x), some (.int a.2), some (.int (nI k))] [] (MW w m V N A) n 0 0 Q ↔ Ev X 126 19 [some (.ref m), some (.int b), some (.int x), some (.int (if N (ix k 9) = 1 then (if (b >>> (nI k &&& 31)) &&& 1 = 0 then 0 else a.2) else a.2)), some (.int (nI (k + 1)))] [] (MW w m V N A) n 0 0 Q) := by
        intro b
        rw [X6_stuckOnes_60]
        by_cases q : N (ix k 9) = 1
        · by_cases q2 : (b >>> (nI k &&& 31)) &&& 1 = 0
          · simp only [X6_stuckOnes_61, X6_stuckOnes_63, X6_stuckOnes_65 cm, mw_of9 k8, Kr_v, X6_stuckOnes_68, X6_stuckOnes_69, q, if_true, X6_stuckOnes_72, X6_stuckOnes_73, X6_stuckOnes_75, X6_stuckOnes_76, X6_stuckOnes_77, X6_stuckOnes_78, q2, X6_stuckOnes_81, X6_stuckOnes_82, X6_stuckOnes_83, X6_stuckOnes_86, nI_1]
          · simp only [X6_stuckOnes_61, X6_stuckOnes_63, X6_stuckOnes_65 cm, mw_of9 k8, Kr_v, X6_stuckOnes_68, X6_stuckOnes_69, q, if_true, X6_stuckOnes_72, X6_stuckOnes_73, X6_stuckOnes_75, X6_stuckOnes_76, X6_stuckOnes_77, X6_stuckOnes_78, q2, if_false, X6_stuckOnes_83, X6_stuckOnes_86, nI_1]
        · simp only [X6_stuckOnes_61, X6_stuckOnes_63, X6_stuckOnes_65 cm, mw_of9 k8, Kr_v, X6_stuckOnes_68, X6_stuckOnes_69, q, if_false, X6_stuckOnes_83, X6_stuckOnes_86, nI_1]
      rw [X6_stuckOnes_19]
      unfold spM
      dsimp only
      rw [← tail]
      by_cases b : otM cnt N k < 0
      · simp only [X6_stuckOnes_21, X6_stuckOnes_22, X6_stuckOnes_25, X6_stuckOnes_26, X6_stuckOnes_27, gm0, gn0, hN, Option.some.injEq, exists_eq_left', eq_self, okz0, okz1, ht, hlt, if_true, X6_stuckOnes_30, X6_stuckOnes_31, X6_stuckOnes_33 cm, mw_other hN h8 hk, Kr_v, X6_stuckOnes_36, b]
      · by_cases d : (a.1 >>> (otM cnt N k &&& 31)) &&& 1 = 1
        · simp only [X6_stuckOnes_21, X6_stuckOnes_22, X6_stuckOnes_25, X6_stuckOnes_26, X6_stuckOnes_27, gm0, gn0, hN, Option.some.injEq, exists_eq_left', eq_self, okz0, okz1, ht, hlt, if_true, X6_stuckOnes_30, X6_stuckOnes_31, X6_stuckOnes_33 cm, mw_other hN h8 hk, Kr_v, X6_stuckOnes_36, b, if_false, X6_stuckOnes_39, X6_stuckOnes_40, X6_stuckOnes_41, X6_stuckOnes_43 cm, X6_stuckOnes_46, X6_stuckOnes_47, X6_stuckOnes_48, X6_stuckOnes_49, X6_stuckOnes_50, d, X6_stuckOnes_53, X6_stuckOnes_54, X6_stuckOnes_55, X6_stuckOnes_57, X6_stuckOnes_58, X6_stuckOnes_59]
        · simp only [X6_stuckOnes_21, X6_stuckOnes_22, X6_stuckOnes_25, X6_stuckOnes_26, X6_stuckOnes_27, gm0, gn0, hN, Option.some.injEq, exists_eq_left', eq_self, okz0, okz1, ht, hlt, if_true, X6_stuckOnes_30, X6_stuckOnes_31, X6_stuckOnes_33 cm, mw_other hN h8 hk, Kr_v, X6_stuckOnes_36, b, if_false, X6_stuckOnes_39, X6_stuckOnes_40, X6_stuckOnes_41, X6_stuckOnes_43 cm, X6_stuckOnes_46, X6_stuckOnes_47, X6_stuckOnes_48, X6_stuckOnes_49, X6_stuckOnes_50, d])
    have z0 : nI 0 = 0 := rfl
    rw [z0] at hL
    rw [X6_stuckOnes_7]
    simp only [X6_stuckOnes_8, X6_stuckOnes_9, hne, if_false, X6_stuckOnes_12, X6_stuckOnes_13, X6_stuckOnes_14, X6_stuckOnes_15, X6_stuckOnes_16, X6_stuckOnes_17]
    refine hL.trans ?_
    unfold psM
    generalize itr (spM cnt N) cnt (x, 1) = z
    obtain ⟨z1, z2⟩ := z
    dsimp only
    rw [X6_stuckOnes_19]
    by_cases a : z2 = 0
    · simp only [X6_stuckOnes_21, X6_stuckOnes_22, X6_stuckOnes_25, X6_stuckOnes_26, X6_stuckOnes_27, gm0, gn0, hN, Option.some.injEq, exists_eq_left', eq_self, okz0, okz1, ht, Int32.lt_irrefl, if_false, X6_stuckOnes_89, X6_stuckOnes_90, a, if_true, X6_stuckOnes_108]
    · by_cases b : letM cnt N = 0
      · simp only [X6_stuckOnes_21, X6_stuckOnes_22, X6_stuckOnes_25, X6_stuckOnes_26, X6_stuckOnes_27, gm0, gn0, hN, Option.some.injEq, exists_eq_left', eq_self, okz0, okz1, ht, Int32.lt_irrefl, if_false, X6_stuckOnes_89, X6_stuckOnes_90, a, X6_stuckOnes_93, X6_stuckOnes_94 cm, mw_lets hN h8, Kr_v, X6_stuckOnes_97, b, if_true, X6_stuckOnes_100, X6_stuckOnes_101, X6_stuckOnes_102, X6_stuckOnes_103 cm, mw_those hN h8, X6_stuckOnes_106, X6_stuckOnes_107, X6_stuckOnes_108]
      · simp only [X6_stuckOnes_21, X6_stuckOnes_22, X6_stuckOnes_25, X6_stuckOnes_26, X6_stuckOnes_27, gm0, gn0, hN, Option.some.injEq, exists_eq_left', eq_self, okz0, okz1, ht, Int32.lt_irrefl, if_false, X6_stuckOnes_89, X6_stuckOnes_90, a, X6_stuckOnes_93, X6_stuckOnes_94 cm, mw_lets hN h8, Kr_v, X6_stuckOnes_97, b, X6_stuckOnes_108]
  have exit_ : ∀ (x : Int32) (l3 l4 : Option Value), (Ev X 126 7 [some (.ref m), some (.int x), some (.int x), l3, l4] [] (MW w m V N A) n 0 0 Q ↔ Q (.inl (some (.int x))) (MW w m V N A) n) := by
    intro x l3 l4
    rw [X6_stuckOnes_7]
    simp only [X6_stuckOnes_8, X6_stuckOnes_9, if_true, X6_stuckOnes_111, X6_stuckOnes_112]
  have run : ∀ (d : Nat) (x had : Int32) (l3 l4 : Option Value), ¬ x = had → psM cnt N (itr (fun _ x => psM cnt N x) d x) = itr (fun _ x => psM cnt N x) d x → (Ev X 126 7 [some (.ref m), some (.int x), some (.int had), l3, l4] [] (MW w m V N A) n 0 0 Q ↔ Q (.inl (some (.int (itr (fun _ x => psM cnt N x) d x)))) (MW w m V N A) n) := by
    intro d
    induction d with
    | zero =>
      intro x had l3 l4 hne hf
      have hf : psM cnt N x = x := hf
      rw [pass x had l3 l4 hne, hf]
      exact exit_ x _ _
    | succ d ih =>
      intro x had l3 l4 hne hf
      rw [← itr_c] at hf ⊢
      rw [pass x had l3 l4 hne]
      by_cases q : psM cnt N x = x
      · rw [q]
        have e : ∀ d, itr (fun _ x => psM cnt N x) d x = x := by
          intro d
          induction d with
          | zero => rfl
          | succ d ih => rw [itr_s, ih, q]
        rw [e]
        exact exit_ x _ _
      · exact ih _ _ _ _ q hf
  simp only [X6_stuckOnes_0, X6_stuckOnes_1 cm, mw_rings hG hN h8, Kr_v, X6_stuckOnes_4, X6_stuckOnes_5, X6_stuckOnes_6]
  exact run 20 _ (-1) none none h1 hF
theorem mw_stuck (hG : ∀ j, j < cnt → seatI cnt (N (lx j) - 1)) (hN : N 0 = nI cnt) (h8 : cnt ≤ 8) (h1 : itr (rnM cnt N) cnt 0 ≠ -1) (hF : psM cnt N (stM cnt N) = stM cnt N) : Ev X 127 0 [some (.ref m)] [] (MW w m V N A) n 0 0 Q ↔ Q (.inl (some (.int (stM cnt N)))) (MW w m (upd V 19 0) N A) n := by
  simp only [X6_stuck_0, X6_stuck_1, X6_stuck_2, X6_stuck_5, X6_stuck_6, X6_stuck_9, p19, Option.some.injEq, exists_eq_left', eq_self, okz0, okz1, ht, cm, mw_stuckOnes hG hN h8 h1 hF, Kr_v]
theorem mw_stuckAgain (hG : ∀ j, j < cnt → seatI cnt (N (lx j) - 1)) (hN : N 0 = nI cnt) (h8 : cnt ≤ 8) (h1 : itr (rnM cnt N) cnt 0 ≠ -1) (hF : psM cnt N (stM cnt N) = stM cnt N) : Ev X 131 0 [some (.ref m)] [] (MW w m V N A) n 0 0 Q ↔ Q (.inl (some (.int (stM cnt N)))) (MW w m (upd V 19 0) N A) n := by
  simp only [X6_stuckAgain_0, X6_stuckAgain_1, X6_stuckAgain_4, cm, mw_stuck hG hN h8 h1 hF, Kr_v]
end MQU
