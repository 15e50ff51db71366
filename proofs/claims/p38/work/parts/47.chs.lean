/-! ===== the eight changes of a SoupTable ===== -/
def manX (cnt : Nat) (y m : Int32) (s : Tb) : (Int32 × Int32) ⊕ (Int32 × Tb) := if hasS (s.1 2) y = 0 then .inl (3, y) else manF y.toNatClampNeg m s
def cloX (cnt : Nat) (y a b : Int32) (s : Tb) : (Int32 × Int32) ⊕ (Int32 × Tb) := if hasS (s.1 2) y = 0 then .inl (3, y) else cloF y.toNatClampNeg a b s
def takX (cnt : Nat) (y : Int32) (s : Tb) : (Int32 × Int32) ⊕ (Int32 × Tb) := if hasS (s.1 2) y = 0 then .inl (3, y) else takF cnt y.toNatClampNeg s
section CHS
variable {X : Cxt} {w : Wld} {n : Option Nat} {Q : (Option Value ⊕ String) → Wld → Option Nat → Prop} {x cnt c : Nat} {T : Nat → Tb} {pa : Nat → Nat} {be : Nat} {Z P C D R Lt : Nat → Int32}
/-- the end of a change of the table numbered 0 -/
def ansS (Q : (Option Value ⊕ String) → Wld → Option Nat → Prop) (w : Wld) (x : Nat) (T : Nat → Tb) (pa : Nat → Nat) (be : Nat) (Z P C D R Lt : Nat → Int32) (n : Option Nat) : (Int32 × Int32) ⊕ (Int32 × Tb) → Prop
  | .inl (a, b) => Q (.inl (some (.int (-1)))) (SW w x T pa be Z P C D (upd (upd R 0 a) 1 b) Lt) n
  | .inr (v, s2) => Q (.inl (some (.int v))) (SW w x (updT T 0 s2) pa be Z P C D R Lt) n
theorem ansS_eq {r : (Int32 × Int32) ⊕ (Int32 × Tb)} : ans Q (SW w x T pa be Z P C D R Lt) (x + 49) (x + 1) R (T 0) n r ↔ ansS Q w x T pa be Z P C D R Lt n r := by
  cases r with
  | inl q =>
    obtain ⟨a, b⟩ := q
    show Q _ (bk (rfc _ _ _) _ _) n ↔ Q _ _ n
    rw [SW_R, SW_id0]
  | inr q =>
    obtain ⟨v, s2⟩ := q
    show Q _ (bk (rfc _ _ _) _ _) n ↔ Q _ _ n
    rw [SW_R, SW_up0]
theorem sw_addSeat (hc : (T 0).1 2 = nI cnt) (h8 : cnt ≤ 8) {m a b : Int32} : Ev X 53 0 [some (.ref (x + 1)), some (.int m), some (.int a), some (.int b), some (.ref (x + 49))] [] (SW w x T pa be Z P C D R Lt) n 0 0 Q ↔ ansS Q w x T pa be Z P C D R Lt n (addF cnt m a b (T 0)) := by
  have e := sp_addSeat (X := X) (n := n) (Q := Q) (w := SW w x T pa be Z P C D R Lt) (t := x + 1) (r := x + 49) (F := (T 0).1) (G := (T 0).2.1) (S := (T 0).2.2) (R := R) r49 hc h8 (m := m) (a := a) (b := b)
  rw [R_own] at e
  exact e.trans ansS_eq
theorem sw_removeSeat (hc : (T 0).1 2 = nI cnt) (h8 : cnt ≤ 8) : Ev X 54 0 [some (.ref (x + 1)), some (.ref (x + 49))] [] (SW w x T pa be Z P C D R Lt) n 0 0 Q ↔ ansS Q w x T pa be Z P C D R Lt n (remF cnt (T 0)) := by
  have e := sp_removeSeat (X := X) (n := n) (Q := Q) (w := SW w x T pa be Z P C D R Lt) (t := x + 1) (r := x + 49) (F := (T 0).1) (G := (T 0).2.1) (S := (T 0).2.2) (R := R) r49 hc h8 
  rw [R_own] at e
  exact e.trans ansS_eq
theorem sw_setManner (hc : (T 0).1 2 = nI cnt) (h8 : cnt ≤ 8) {y m : Int32} : Ev X 56 0 [some (.ref (x + 1)), some (.int y), some (.int m), some (.ref (x + 49))] [] (SW w x T pa be Z P C D R Lt) n 0 0 Q ↔ ansS Q w x T pa be Z P C D R Lt n (manX cnt y m (T 0)) := by
  unfold manX
  by_cases h : hasS ((T 0).1 2) y = 0
  · rw [if_pos h]
    have e := sp_setManner_out (X := X) (n := n) (Q := Q) (w := SW w x T pa be Z P C D R Lt) (t := x + 1) (r := x + 49) (F := (T 0).1) (G := (T 0).2.1) (S := (T 0).2.2) (R := R) r49 (x := y) (m := m) h
    rw [R_own] at e
    exact e.trans ansS_eq
  · rw [if_neg h]
    rw [hc] at h
    obtain ⟨k, hk, rfl⟩ := hasS_ex h8 h
    have e := sp_setManner (X := X) (n := n) (Q := Q) (w := SW w x T pa be Z P C D R Lt) (t := x + 1) (r := x + 49) (F := (T 0).1) (G := (T 0).2.1) (S := (T 0).2.2) (R := R) r49 hc h8 hk (m := m)
    rw [R_own] at e
    rw [nI_clamp (by omega)]
    exact e.trans ansS_eq
theorem sw_setClocks (hc : (T 0).1 2 = nI cnt) (h8 : cnt ≤ 8) {y a b : Int32} : Ev X 57 0 [some (.ref (x + 1)), some (.int y), some (.int a), some (.int b), some (.ref (x + 49)), none] [] (SW w x T pa be Z P C D R Lt) n 0 0 Q ↔ ansS Q w x T pa be Z P C D R Lt n (cloX cnt y a b (T 0)) := by
  unfold cloX
  by_cases h : hasS ((T 0).1 2) y = 0
  · rw [if_pos h]
    have e := sp_setClocks_out (X := X) (n := n) (Q := Q) (w := SW w x T pa be Z P C D R Lt) (t := x + 1) (r := x + 49) (F := (T 0).1) (G := (T 0).2.1) (S := (T 0).2.2) (R := R) r49 (x := y) (a := a) (b := b) h
    rw [R_own] at e
    exact e.trans ansS_eq
  · rw [if_neg h]
    rw [hc] at h
    obtain ⟨k, hk, rfl⟩ := hasS_ex h8 h
    have e := sp_setClocks (X := X) (n := n) (Q := Q) (w := SW w x T pa be Z P C D R Lt) (t := x + 1) (r := x + 49) (F := (T 0).1) (G := (T 0).2.1) (S := (T 0).2.2) (R := R) r49 hc h8 hk (a := a) (b := b)
    rw [R_own] at e
    rw [nI_clamp (by omega)]
    exact e.trans ansS_eq
theorem sw_setWaiter {y : Int32} : Ev X 58 0 [some (.ref (x + 1)), some (.int y), some (.ref (x + 49)), none] [] (SW w x T pa be Z P C D R Lt) n 0 0 Q ↔ ansS Q w x T pa be Z P C D R Lt n (waiF y (T 0)) := by
  have e := sp_setWaiter (X := X) (n := n) (Q := Q) (w := SW w x T pa be Z P C D R Lt) (t := x + 1) (r := x + 49) (F := (T 0).1) (G := (T 0).2.1) (S := (T 0).2.2) (R := R) r49 (x := y)
  rw [R_own] at e
  exact e.trans ansS_eq
theorem sw_addBowls {y : Int32} : Ev X 13 0 [some (.ref (x + 1)), some (.int y), some (.ref (x + 49))] [] (SW w x T pa be Z P C D R Lt) n 0 0 Q ↔ ansS Q w x T pa be Z P C D R Lt n (briF y (T 0)) := by
  have e := sp_addBowls (X := X) (n := n) (Q := Q) (w := SW w x T pa be Z P C D R Lt) (t := x + 1) (r := x + 49) (F := (T 0).1) (G := (T 0).2.1) (S := (T 0).2.2) (R := R) r49 (x := y)
  rw [R_own] at e
  exact e.trans ansS_eq
theorem sw_takeAway (hc : (T 0).1 2 = nI cnt) (h8 : cnt ≤ 8) {y : Int32} : Ev X 60 0 [some (.ref (x + 1)), some (.int y), some (.ref (x + 49)), none, none] [] (SW w x T pa be Z P C D R Lt) n 0 0 Q ↔ ansS Q w x T pa be Z P C D R Lt n (takX cnt y (T 0)) := by
  unfold takX
  by_cases h : hasS ((T 0).1 2) y = 0
  · rw [if_pos h]
    have e := sp_takeAway_out (X := X) (n := n) (Q := Q) (w := SW w x T pa be Z P C D R Lt) (t := x + 1) (r := x + 49) (F := (T 0).1) (G := (T 0).2.1) (S := (T 0).2.2) (R := R) r49 (x := y)  h
    rw [R_own] at e
    exact e.trans ansS_eq
  · rw [if_neg h]
    rw [hc] at h
    obtain ⟨k, hk, rfl⟩ := hasS_ex h8 h
    have e := sp_takeAway (X := X) (n := n) (Q := Q) (w := SW w x T pa be Z P C D R Lt) (t := x + 1) (r := x + 49) (F := (T 0).1) (G := (T 0).2.1) (S := (T 0).2.2) (R := R) r49 hc h8 hk 
    rw [R_own] at e
    rw [nI_clamp (by omega)]
    exact e.trans ansS_eq
theorem sw_passTicks (hc : (T 0).1 2 = nI cnt) (h8 : cnt ≤ 8) {y : Int32} : Ev X 73 0 [some (.ref (x + 1)), some (.int y), some (.ref (x + 49)), none, none] [] (SW w x T pa be Z P C D R Lt) n 0 0 Q ↔ ansS Q w x T pa be Z P C D R Lt n (pasF cnt y (T 0)) := by
  have e := sp_passTicks (X := X) (n := n) (Q := Q) (w := SW w x T pa be Z P C D R Lt) (t := x + 1) (r := x + 49) (F := (T 0).1) (G := (T 0).2.1) (S := (T 0).2.2) (R := R) r49 hc h8 (x := y)
  rw [R_own] at e
  exact e.trans ansS_eq
theorem sw_copy0 {i : Nat} (hi : i < 12) (h3 : 3 ≤ i) : Ev X 6 0 [some (.ref (x + tof i)), some (.ref (x + 1)), none] [] (SW w x T pa be Z P C D R Lt) n 0 0 Q ↔ Q (.inl none) (SW w x (mixT T i 0) pa be Z P C D R Lt) n := sw_copy (j := 0) hi (by decide) (by omega)
theorem sw_join (hZ : Z 5 = nI c) (hc8 : c ≤ 8) (hP : Pm pa be) (hc : (T 0).1 2 = nI cnt) (h8 : cnt ≤ 8) {m a b : Int32} (hv : ∀ v s2, addF cnt m a b (T 0) = .inr (v, s2) → v ≠ -1) : Ev X 78 0 [some (.ref x), some (.int m), some (.int a), some (.int b)] [] (SW w x T pa be Z P C D R Lt) n 0 0 Q ↔ aft Q w x T pa be Z P C D R Lt c n (addF cnt m a b (T 0)) := by
  have hc' : (mixT T be 0 0).1 2 = nI cnt := by rw [mixT_0 hP.2.1.1]; exact hc
  simp only [X5_join_0, X5_join_1, X5_join_4, X5_join_5, X5_join_8, X5_join_11, X5_join_12, X5_join_13, X5_join_16, X5_join_17, X5_join_18, X5_join_19, X5_join_20, X5_join_23, gz0, gz6, gz9, Option.some.injEq, exists_eq_left', eq_self, okz0, okz1, ht, czT hP.2.1.2, cz0, sw_copy0 hP.2.1.2 hP.2.1.1, Kr_n, Kj_n, sw_addSeat hc' h8, mixT_0 hP.2.1.1]
  cases hr : addF cnt m a b (T 0) with
  | inl q =>
    obtain ⟨u1, u2⟩ := q
    simp only [ansS, Kr_v, Kj_v, X5_join_26 cz, sw_kept_no, Kr_e, aft]
  | inr q =>
    obtain ⟨v, s2⟩ := q
    simp only [ansS, Kr_v, Kj_v, X5_join_26 cz, sw_kept_ok hZ hc8 hP (hv v s2 hr), X5_join_29, aft]
theorem sw_leave (hZ : Z 5 = nI c) (hc8 : c ≤ 8) (hP : Pm pa be) (hc : (T 0).1 2 = nI cnt) (h8 : cnt ≤ 8) (hv : ∀ v s2, remF cnt (T 0) = .inr (v, s2) → v ≠ -1) : Ev X 80 0 [some (.ref x)] [] (SW w x T pa be Z P C D R Lt) n 0 0 Q ↔ aft Q w x T pa be Z P C D R Lt c n (remF cnt (T 0)) := by
  have hc' : (mixT T be 0 0).1 2 = nI cnt := by rw [mixT_0 hP.2.1.1]; exact hc
  simp only [X5_leave_0, X5_leave_1, X5_leave_4, X5_leave_5, X5_leave_8, X5_leave_11, X5_leave_12, X5_leave_13, X5_leave_16, X5_leave_17, X5_leave_20, gz0, gz6, gz9, Option.some.injEq, exists_eq_left', eq_self, okz0, okz1, ht, czT hP.2.1.2, cz0, sw_copy0 hP.2.1.2 hP.2.1.1, Kr_n, Kj_n, sw_removeSeat hc' h8, mixT_0 hP.2.1.1]
  cases hr : remF cnt (T 0) with
  | inl q =>
    obtain ⟨u1, u2⟩ := q
    simp only [ansS, Kr_v, Kj_v, X5_leave_23 cz, sw_kept_no, Kr_e, aft]
  | inr q =>
    obtain ⟨v, s2⟩ := q
    simp only [ansS, Kr_v, Kj_v, X5_leave_23 cz, sw_kept_ok hZ hc8 hP (hv v s2 hr), X5_leave_26, aft]
theorem sw_manner (hZ : Z 5 = nI c) (hc8 : c ≤ 8) (hP : Pm pa be) (hc : (T 0).1 2 = nI cnt) (h8 : cnt ≤ 8) {y m : Int32} (hv : ∀ v s2, manX cnt y m (T 0) = .inr (v, s2) → v ≠ -1) : Ev X 141 0 [some (.ref x), some (.int y), some (.int m)] [] (SW w x T pa be Z P C D R Lt) n 0 0 Q ↔ aft Q w x T pa be Z P C D R Lt c n (manX cnt y m (T 0)) := by
  have hc' : (mixT T be 0 0).1 2 = nI cnt := by rw [mixT_0 hP.2.1.1]; exact hc
  simp only [X5_manner_0, X5_manner_1, X5_manner_4, X5_manner_5, X5_manner_8, X5_manner_11, X5_manner_12, X5_manner_13, X5_manner_16, X5_manner_17, X5_manner_18, X5_manner_19, X5_manner_22, gz0, gz6, gz9, Option.some.injEq, exists_eq_left', eq_self, okz0, okz1, ht, czT hP.2.1.2, cz0, sw_copy0 hP.2.1.2 hP.2.1.1, Kr_n, Kj_n, sw_setManner hc' h8, mixT_0 hP.2.1.1]
  cases hr : manX cnt y m (T 0) with
  | inl q =>
    obtain ⟨u1, u2⟩ := q
    simp only [ansS, Kr_v, Kj_v, X5_manner_25 cz, sw_kept_no, Kr_e, aft]
  | inr q =>
    obtain ⟨v, s2⟩ := q
    simp only [ansS, Kr_v, Kj_v, X5_manner_25 cz, sw_kept_ok hZ hc8 hP (hv v s2 hr), X5_manner_28, aft]
theorem sw_clocks (hZ : Z 5 = nI c) (hc8 : c ≤ 8) (hP : Pm pa be) (hc : (T 0).1 2 = nI cnt) (h8 : cnt ≤ 8) {y a b : Int32} (hv : ∀ v s2, cloX cnt y a b (T 0) = .inr (v, s2) → v ≠ -1) : Ev X 143 0 [some (.ref x), some (.int y), some (.int a), some (.int b)] [] (SW w x T pa be Z P C D R Lt) n 0 0 Q ↔ aft Q w x T pa be Z P C D R Lt c n (cloX cnt y a b (T 0)) := by
  have hc' : (mixT T be 0 0).1 2 = nI cnt := by rw [mixT_0 hP.2.1.1]; exact hc
  simp only [X5_clocks_0, X5_clocks_1, X5_clocks_4, X5_clocks_5, X5_clocks_8, X5_clocks_11, X5_clocks_12, X5_clocks_13, X5_clocks_16, X5_clocks_17, X5_clocks_18, X5_clocks_19, X5_clocks_20, X5_clocks_23, gz0, gz6, gz9, Option.some.injEq, exists_eq_left', eq_self, okz0, okz1, ht, czT hP.2.1.2, cz0, sw_copy0 hP.2.1.2 hP.2.1.1, Kr_n, Kj_n, sw_setClocks hc' h8, mixT_0 hP.2.1.1]
  cases hr : cloX cnt y a b (T 0) with
  | inl q =>
    obtain ⟨u1, u2⟩ := q
    simp only [ansS, Kr_v, Kj_v, X5_clocks_26 cz, sw_kept_no, Kr_e, aft]
  | inr q =>
    obtain ⟨v, s2⟩ := q
    simp only [ansS, Kr_v, Kj_v, X5_clocks_26 cz, sw_kept_ok hZ hc8 hP (hv v s2 hr), X5_clocks_29, aft]
theorem sw_waiter (hZ : Z 5 = nI c) (hc8 : c ≤ 8) (hP : Pm pa be) {y : Int32} (hv : ∀ v s2, waiF y (T 0) = .inr (v, s2) → v ≠ -1) : Ev X 103 0 [some (.ref x), some (.int y)] [] (SW w x T pa be Z P C D R Lt) n 0 0 Q ↔ aft Q w x T pa be Z P C D R Lt c n (waiF y (T 0)) := by
  simp only [X5_waiter_0, X5_waiter_1, X5_waiter_4, X5_waiter_5, X5_waiter_8, X5_waiter_11, X5_waiter_12, X5_waiter_13, X5_waiter_16, X5_waiter_17, X5_waiter_18, X5_waiter_21, gz0, gz6, gz9, Option.some.injEq, exists_eq_left', eq_self, okz0, okz1, ht, czT hP.2.1.2, cz0, sw_copy0 hP.2.1.2 hP.2.1.1, Kr_n, Kj_n, sw_setWaiter, mixT_0 hP.2.1.1]
  cases hr : waiF y (T 0) with
  | inl q =>
    obtain ⟨u1, u2⟩ := q
    simp only [ansS, Kr_v, Kj_v, X5_waiter_24 cz, sw_kept_no, Kr_e, aft]
  | inr q =>
    obtain ⟨v, s2⟩ := q
    simp only [ansS, Kr_v, Kj_v, X5_waiter_24 cz, sw_kept_ok hZ hc8 hP (hv v s2 hr), X5_waiter_27, aft]
theorem sw_bring (hZ : Z 5 = nI c) (hc8 : c ≤ 8) (hP : Pm pa be) {y : Int32} (hv : ∀ v s2, briF y (T 0) = .inr (v, s2) → v ≠ -1) : Ev X 16 0 [some (.ref x), some (.int y)] [] (SW w x T pa be Z P C D R Lt) n 0 0 Q ↔ aft Q w x T pa be Z P C D R Lt c n (briF y (T 0)) := by
  simp only [X5_bring_0, X5_bring_1, X5_bring_4, X5_bring_5, X5_bring_8, X5_bring_11, X5_bring_12, X5_bring_13, X5_bring_16, X5_bring_17, X5_bring_18, X5_bring_21, gz0, gz6, gz9, Option.some.injEq, exists_eq_left', eq_self, okz0, okz1, ht, czT hP.2.1.2, cz0, sw_copy0 hP.2.1.2 hP.2.1.1, Kr_n, Kj_n, sw_addBowls, mixT_0 hP.2.1.1]
  cases hr : briF y (T 0) with
  | inl q =>
    obtain ⟨u1, u2⟩ := q
    simp only [ansS, Kr_v, Kj_v, X5_bring_24 cz, sw_kept_no, Kr_e, aft]
  | inr q =>
    obtain ⟨v, s2⟩ := q
    simp only [ansS, Kr_v, Kj_v, X5_bring_24 cz, sw_kept_ok hZ hc8 hP (hv v s2 hr), X5_bring_27, aft]
theorem sw_take (hZ : Z 5 = nI c) (hc8 : c ≤ 8) (hP : Pm pa be) (hc : (T 0).1 2 = nI cnt) (h8 : cnt ≤ 8) {y : Int32} (hv : ∀ v s2, takX cnt y (T 0) = .inr (v, s2) → v ≠ -1) : Ev X 145 0 [some (.ref x), some (.int y)] [] (SW w x T pa be Z P C D R Lt) n 0 0 Q ↔ aft Q w x T pa be Z P C D R Lt c n (takX cnt y (T 0)) := by
  have hc' : (mixT T be 0 0).1 2 = nI cnt := by rw [mixT_0 hP.2.1.1]; exact hc
  simp only [X5_take_0, X5_take_1, X5_take_4, X5_take_5, X5_take_8, X5_take_11, X5_take_12, X5_take_13, X5_take_16, X5_take_17, X5_take_18, X5_take_21, gz0, gz6, gz9, Option.some.injEq, exists_eq_left', eq_self, okz0, okz1, ht, czT hP.2.1.2, cz0, sw_copy0 hP.2.1.2 hP.2.1.1, Kr_n, Kj_n, sw_takeAway hc' h8, mixT_0 hP.2.1.1]
  cases hr : takX cnt y (T 0) with
  | inl q =>
    obtain ⟨u1, u2⟩ := q
    simp only [ansS, Kr_v, Kj_v, X5_take_24 cz, sw_kept_no, Kr_e, aft]
  | inr q =>
    obtain ⟨v, s2⟩ := q
    simp only [ansS, Kr_v, Kj_v, X5_take_24 cz, sw_kept_ok hZ hc8 hP (hv v s2 hr), X5_take_27, aft]
theorem sw_pass (hZ : Z 5 = nI c) (hc8 : c ≤ 8) (hP : Pm pa be) (hc : (T 0).1 2 = nI cnt) (h8 : cnt ≤ 8) {y : Int32} (hv : ∀ v s2, pasF cnt y (T 0) = .inr (v, s2) → v ≠ -1) : Ev X 84 0 [some (.ref x), some (.int y)] [] (SW w x T pa be Z P C D R Lt) n 0 0 Q ↔ aft Q w x T pa be Z P C D R Lt c n (pasF cnt y (T 0)) := by
  have hc' : (mixT T be 0 0).1 2 = nI cnt := by rw [mixT_0 hP.2.1.1]; exact hc
  simp only [X5_pass_0, X5_pass_1, X5_pass_4, X5_pass_5, X5_pass_8, X5_pass_11, X5_pass_12, X5_pass_13, X5_pass_16, X5_pass_17, X5_pass_18, X5_pass_21, gz0, gz6, gz9, Option.some.injEq, exists_eq_left', eq_self, okz0, okz1, ht, czT hP.2.1.2, cz0, sw_copy0 hP.2.1.2 hP.2.1.1, Kr_n, Kj_n, sw_passTicks hc' h8, mixT_0 hP.2.1.1]
  cases hr : pasF cnt y (T 0) with
  | inl q =>
    obtain ⟨u1, u2⟩ := q
    simp only [ansS, Kr_v, Kj_v, X5_pass_24 cz, sw_kept_no, Kr_e, aft]
  | inr q =>
    obtain ⟨v, s2⟩ := q
    simp only [ansS, Kr_v, Kj_v, X5_pass_24 cz, sw_kept_ok hZ hc8 hP (hv v s2 hr), X5_pass_27, aft]
/-- what a command of a text does -/
def obF (cnt k : Nat) (D : Nat → Int32) (s : Tb) : (Int32 × Int32) ⊕ (Int32 × Tb) := match k with
  | 0 => addF cnt (D 0) (D 1) (D 2) s
  | 1 => remF cnt s
  | 2 => manX cnt (D 0) (D 1) s
  | 3 => cloX cnt (D 0) (D 1) (D 2) s
  | 4 => waiF (D 0) s
  | 5 => briF (D 0) s
  | 6 => takX cnt (D 0) s
  | _ => pasF cnt (D 0) s
theorem ansS_Kr {M pc : Nat} {ls : Lcs} {r : (Int32 × Int32) ⊕ (Int32 × Tb)} (h : ∀ (v : Int32) (w2 : Wld), Ev X M pc ls [.int v] w2 n 0 0 Q ↔ Q (.inl (some (.int v))) w2 n) : ansS (Kr X M pc ls [] 0 0 Q) w x T pa be Z P C D R Lt n r ↔ ansS Q w x T pa be Z P C D R Lt n r := by
  cases r with
  | inl q => obtain ⟨a, b⟩ := q; exact h _ _
  | inr q => obtain ⟨v, s2⟩ := q; exact h _ _
theorem X2_obey_27_7 {l0 l1 l2 l3 l4 l5 : Option Value} {st : Stk} {w : Wld} : Ev X 74 27 [l0, l1, l2, l3, l4, l5] (.int 7 :: st) w n 0 0 Q ↔ Ev X 74 126 [l0, l1, l2, l3, l4, l5] st w n 0 0 Q := E_p ok_X2_obey (show decode (mB 74) 27 = .ok (.tableswitch 99 0 6 #[41, 52, 58, 67, 78, 85, 92], 41) by decide +kernel) rfl rfl
theorem sw_obey (hc : (T 0).1 2 = nI cnt) (h8 : cnt ≤ 8) {k : Nat} (hk : k < 8) (hP : P 3 = nI k) : Ev X 74 0 [some (.ref (x + 1)), some (.ref (x + 46)), some (.ref (x + 49)), none, none, none] [] (SW w x T pa be Z P C D R Lt) n 0 0 Q ↔ ansS Q w x T pa be Z P C D R Lt n (obF cnt k D (T 0)) := by
  have n0 : ga (SW w x T pa be Z P C D R Lt) (x + 48) 0 0 = some (.int (D 0)) := gzN (k := 0) (by decide)
  have n1 : ga (SW w x T pa be Z P C D R Lt) (x + 48) 0 1 = some (.int (D 1)) := gzN (k := 1) (by decide)
  have n2 : ga (SW w x T pa be Z P C D R Lt) (x + 48) 0 2 = some (.int (D 2)) := gzN (k := 2) (by decide)
  have d0 : nI 0 = 0 := rfl
  have d1 : nI 1 = 1 := rfl
  have d2 : nI 2 = 2 := rfl
  have d3 : nI 3 = 3 := rfl
  have d4 : nI 4 = 4 := rfl
  have d5 : nI 5 = 5 := rfl
  have d6 : nI 6 = 6 := rfl
  have d7 : nI 7 = 7 := rfl
  rw [X2_obey_0, X2_obey_1]
  simp only [gzX4, Option.some.injEq, exists_eq_left', eq_self, okz0, okz1, ht, X2_obey_4, X2_obey_5, n0, X2_obey_6, X2_obey_7, X2_obey_8, X2_obey_11, X2_obey_12, n1, X2_obey_13, X2_obey_15, X2_obey_16, X2_obey_19, X2_obey_20, n2, X2_obey_21, X2_obey_23, X2_obey_24, gzX (show 1 ≤ 3 by decide) (show 3 < 4 by decide), hP]
  rcases (show k = 0 ∨ k = 1 ∨ k = 2 ∨ k = 3 ∨ k = 4 ∨ k = 5 ∨ k = 6 ∨ k = 7 by omega) with rfl | rfl | rfl | rfl | rfl | rfl | rfl | rfl
  · simp only [d0, X2_obey_27_7, X2_obey_0, X2_obey_1, X2_obey_4, X2_obey_5, X2_obey_6, X2_obey_7, X2_obey_8, X2_obey_11, X2_obey_12, X2_obey_13, X2_obey_15, X2_obey_16, X2_obey_19, X2_obey_20, X2_obey_21, X2_obey_23, X2_obey_24, X2_obey_27_0, X2_obey_27_1, X2_obey_27_2, X2_obey_27_3, X2_obey_27_4, X2_obey_27_5, X2_obey_27_6, X2_obey_68, X2_obey_69, X2_obey_70, X2_obey_72, X2_obey_74, X2_obey_75, X2_obey_79, X2_obey_80, X2_obey_81, X2_obey_84, X2_obey_85, X2_obey_86, X2_obey_87, X2_obey_89, X2_obey_90, X2_obey_93, X2_obey_94, X2_obey_95, X2_obey_96, X2_obey_98, X2_obey_100, X2_obey_101, X2_obey_104, X2_obey_105, X2_obey_106, X2_obey_107, X2_obey_108, X2_obey_111, X2_obey_112, X2_obey_113, X2_obey_114, X2_obey_115, X2_obey_118, X2_obey_119, X2_obey_120, X2_obey_121, X2_obey_122, X2_obey_125, X2_obey_126, X2_obey_127, X2_obey_128, X2_obey_129, X2_obey_132, cz0, sw_addSeat hc h8]
    exact ansS_Kr (fun v w2 => X2_obey_78)
  · simp only [d1, X2_obey_27_7, X2_obey_0, X2_obey_1, X2_obey_4, X2_obey_5, X2_obey_6, X2_obey_7, X2_obey_8, X2_obey_11, X2_obey_12, X2_obey_13, X2_obey_15, X2_obey_16, X2_obey_19, X2_obey_20, X2_obey_21, X2_obey_23, X2_obey_24, X2_obey_27_0, X2_obey_27_1, X2_obey_27_2, X2_obey_27_3, X2_obey_27_4, X2_obey_27_5, X2_obey_27_6, X2_obey_68, X2_obey_69, X2_obey_70, X2_obey_72, X2_obey_74, X2_obey_75, X2_obey_78, X2_obey_79, X2_obey_80, X2_obey_81, X2_obey_85, X2_obey_86, X2_obey_87, X2_obey_89, X2_obey_90, X2_obey_93, X2_obey_94, X2_obey_95, X2_obey_96, X2_obey_98, X2_obey_100, X2_obey_101, X2_obey_104, X2_obey_105, X2_obey_106, X2_obey_107, X2_obey_108, X2_obey_111, X2_obey_112, X2_obey_113, X2_obey_114, X2_obey_115, X2_obey_118, X2_obey_119, X2_obey_120, X2_obey_121, X2_obey_122, X2_obey_125, X2_obey_126, X2_obey_127, X2_obey_128, X2_obey_129, X2_obey_132, cz0, sw_removeSeat hc h8]
    exact ansS_Kr (fun v w2 => X2_obey_84)
  · simp only [d2, X2_obey_27_7, X2_obey_0, X2_obey_1, X2_obey_4, X2_obey_5, X2_obey_6, X2_obey_7, X2_obey_8, X2_obey_11, X2_obey_12, X2_obey_13, X2_obey_15, X2_obey_16, X2_obey_19, X2_obey_20, X2_obey_21, X2_obey_23, X2_obey_24, X2_obey_27_0, X2_obey_27_1, X2_obey_27_2, X2_obey_27_3, X2_obey_27_4, X2_obey_27_5, X2_obey_27_6, X2_obey_68, X2_obey_69, X2_obey_70, X2_obey_72, X2_obey_74, X2_obey_75, X2_obey_78, X2_obey_79, X2_obey_80, X2_obey_81, X2_obey_84, X2_obey_85, X2_obey_86, X2_obey_87, X2_obey_89, X2_obey_90, X2_obey_94, X2_obey_95, X2_obey_96, X2_obey_98, X2_obey_100, X2_obey_101, X2_obey_104, X2_obey_105, X2_obey_106, X2_obey_107, X2_obey_108, X2_obey_111, X2_obey_112, X2_obey_113, X2_obey_114, X2_obey_115, X2_obey_118, X2_obey_119, X2_obey_120, X2_obey_121, X2_obey_122, X2_obey_125, X2_obey_126, X2_obey_127, X2_obey_128, X2_obey_129, X2_obey_132, cz0, sw_setManner hc h8]
    exact ansS_Kr (fun v w2 => X2_obey_93)
  · simp only [d3, X2_obey_27_7, X2_obey_0, X2_obey_1, X2_obey_4, X2_obey_5, X2_obey_6, X2_obey_7, X2_obey_8, X2_obey_11, X2_obey_12, X2_obey_13, X2_obey_15, X2_obey_16, X2_obey_19, X2_obey_20, X2_obey_21, X2_obey_23, X2_obey_24, X2_obey_27_0, X2_obey_27_1, X2_obey_27_2, X2_obey_27_3, X2_obey_27_4, X2_obey_27_5, X2_obey_27_6, X2_obey_68, X2_obey_69, X2_obey_70, X2_obey_72, X2_obey_74, X2_obey_75, X2_obey_78, X2_obey_79, X2_obey_80, X2_obey_81, X2_obey_84, X2_obey_85, X2_obey_86, X2_obey_87, X2_obey_89, X2_obey_90, X2_obey_93, X2_obey_94, X2_obey_95, X2_obey_96, X2_obey_98, X2_obey_100, X2_obey_101, X2_obey_105, X2_obey_106, X2_obey_107, X2_obey_108, X2_obey_111, X2_obey_112, X2_obey_113, X2_obey_114, X2_obey_115, X2_obey_118, X2_obey_119, X2_obey_120, X2_obey_121, X2_obey_122, X2_obey_125, X2_obey_126, X2_obey_127, X2_obey_128, X2_obey_129, X2_obey_132, cz0, sw_setClocks hc h8]
    exact ansS_Kr (fun v w2 => X2_obey_104)
  · simp only [d4, X2_obey_27_7, X2_obey_0, X2_obey_1, X2_obey_4, X2_obey_5, X2_obey_6, X2_obey_7, X2_obey_8, X2_obey_11, X2_obey_12, X2_obey_13, X2_obey_15, X2_obey_16, X2_obey_19, X2_obey_20, X2_obey_21, X2_obey_23, X2_obey_24, X2_obey_27_0, X2_obey_27_1, X2_obey_27_2, X2_obey_27_3, X2_obey_27_4, X2_obey_27_5, X2_obey_27_6, X2_obey_68, X2_obey_69, X2_obey_70, X2_obey_72, X2_obey_74, X2_obey_75, X2_obey_78, X2_obey_79, X2_obey_80, X2_obey_81, X2_obey_84, X2_obey_85, X2_obey_86, X2_obey_87, X2_obey_89, X2_obey_90, X2_obey_93, X2_obey_94, X2_obey_95, X2_obey_96, X2_obey_98, X2_obey_100, X2_obey_101, X2_obey_104, X2_obey_105, X2_obey_106, X2_obey_107, X2_obey_108, X2_obey_112, X2_obey_113, X2_obey_114, X2_obey_115, X2_obey_118, X2_obey_119, X2_obey_120, X2_obey_121, X2_obey_122, X2_obey_125, X2_obey_126, X2_obey_127, X2_obey_128, X2_obey_129, X2_obey_132, cz0, sw_setWaiter]
    exact ansS_Kr (fun v w2 => X2_obey_111)
  · simp only [d5, X2_obey_27_7, X2_obey_0, X2_obey_1, X2_obey_4, X2_obey_5, X2_obey_6, X2_obey_7, X2_obey_8, X2_obey_11, X2_obey_12, X2_obey_13, X2_obey_15, X2_obey_16, X2_obey_19, X2_obey_20, X2_obey_21, X2_obey_23, X2_obey_24, X2_obey_27_0, X2_obey_27_1, X2_obey_27_2, X2_obey_27_3, X2_obey_27_4, X2_obey_27_5, X2_obey_27_6, X2_obey_68, X2_obey_69, X2_obey_70, X2_obey_72, X2_obey_74, X2_obey_75, X2_obey_78, X2_obey_79, X2_obey_80, X2_obey_81, X2_obey_84, X2_obey_85, X2_obey_86, X2_obey_87, X2_obey_89, X2_obey_90, X2_obey_93, X2_obey_94, X2_obey_95, X2_obey_96, X2_obey_98, X2_obey_100, X2_obey_101, X2_obey_104, X2_obey_105, X2_obey_106, X2_obey_107, X2_obey_108, X2_obey_111, X2_obey_112, X2_obey_113, X2_obey_114, X2_obey_115, X2_obey_119, X2_obey_120, X2_obey_121, X2_obey_122, X2_obey_125, X2_obey_126, X2_obey_127, X2_obey_128, X2_obey_129, X2_obey_132, cz0, sw_addBowls]
    exact ansS_Kr (fun v w2 => X2_obey_118)
  · simp only [d6, X2_obey_27_7, X2_obey_0, X2_obey_1, X2_obey_4, X2_obey_5, X2_obey_6, X2_obey_7, X2_obey_8, X2_obey_11, X2_obey_12, X2_obey_13, X2_obey_15, X2_obey_16, X2_obey_19, X2_obey_20, X2_obey_21, X2_obey_23, X2_obey_24, X2_obey_27_0, X2_obey_27_1, X2_obey_27_2, X2_obey_27_3, X2_obey_27_4, X2_obey_27_5, X2_obey_27_6, X2_obey_68, X2_obey_69, X2_obey_70, X2_obey_72, X2_obey_74, X2_obey_75, X2_obey_78, X2_obey_79, X2_obey_80, X2_obey_81, X2_obey_84, X2_obey_85, X2_obey_86, X2_obey_87, X2_obey_89, X2_obey_90, X2_obey_93, X2_obey_94, X2_obey_95, X2_obey_96, X2_obey_98, X2_obey_100, X2_obey_101, X2_obey_104, X2_obey_105, X2_obey_106, X2_obey_107, X2_obey_108, X2_obey_111, X2_obey_112, X2_obey_113, X2_obey_114, X2_obey_115, X2_obey_118, X2_obey_119, X2_obey_120, X2_obey_121, X2_obey_122, X2_obey_126, X2_obey_127, X2_obey_128, X2_obey_129, X2_obey_132, cz0, sw_takeAway hc h8]
    exact ansS_Kr (fun v w2 => X2_obey_125)
  · simp only [d7, X2_obey_27_7, X2_obey_0, X2_obey_1, X2_obey_4, X2_obey_5, X2_obey_6, X2_obey_7, X2_obey_8, X2_obey_11, X2_obey_12, X2_obey_13, X2_obey_15, X2_obey_16, X2_obey_19, X2_obey_20, X2_obey_21, X2_obey_23, X2_obey_24, X2_obey_27_0, X2_obey_27_1, X2_obey_27_2, X2_obey_27_3, X2_obey_27_4, X2_obey_27_5, X2_obey_27_6, X2_obey_68, X2_obey_69, X2_obey_70, X2_obey_72, X2_obey_74, X2_obey_75, X2_obey_78, X2_obey_79, X2_obey_80, X2_obey_81, X2_obey_84, X2_obey_85, X2_obey_86, X2_obey_87, X2_obey_89, X2_obey_90, X2_obey_93, X2_obey_94, X2_obey_95, X2_obey_96, X2_obey_98, X2_obey_100, X2_obey_101, X2_obey_104, X2_obey_105, X2_obey_106, X2_obey_107, X2_obey_108, X2_obey_111, X2_obey_112, X2_obey_113, X2_obey_114, X2_obey_115, X2_obey_118, X2_obey_119, X2_obey_120, X2_obey_121, X2_obey_122, X2_obey_125, X2_obey_126, X2_obey_127, X2_obey_128, X2_obey_129, cz0, sw_passTicks hc h8]
    exact ansS_Kr (fun v w2 => X2_obey_132)
end CHS
