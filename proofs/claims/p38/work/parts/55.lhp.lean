/-! ===== the law's helpers ===== -/
section LHP
variable {X : Cxt} {W : Wld} {n : Option Nat} {Q : (Option Value ⊕ String) → Wld → Option Nat → Prop} {x : Nat}
theorem Ev_mono {M pc : Nat} {ls : Lcs} {st : Stk} {c sl : Nat} {Q1 Q2 : (Option Value ⊕ String) → Wld → Option Nat → Prop} (h : ∀ r w n, Q1 r w n → Q2 r w n) (H : Ev X M pc ls st W n c sl Q1) : Ev X M pc ls st W n c sl Q2 := by
  obtain ⟨f, u, h1, h2⟩ := H
  exact ⟨f, u, h1, h _ _ _ h2⟩
/-- a number comes back as it is, a throw as its number -/
def KH (Q : (Option Value ⊕ String) → Wld → Option Nat → Prop) (hs : List (String × Int32)) : (Option Value ⊕ String) → Wld → Option Nat → Prop := fun r w n => match r with
  | .inl (some (.int v)) => Q (.inl (some (.int v))) w n
  | .inr e => ∃ k, (e, k) ∈ hs ∧ Q (.inl (some (.int k))) w n
  | _ => False
def KHB (Q : (Option Value ⊕ String) → Wld → Option Nat → Prop) (hs : List (String × Int32)) : (Option Value ⊕ String) → Wld → Option Nat → Prop := fun r w n => match r with
  | .inl (some (.int v)) => Q (.inl (some (.int (if v = 0 then 0 else 1)))) w n
  | .inr e => ∃ k, (e, k) ∈ hs ∧ Q (.inl (some (.int k))) w n
  | _ => False
def KHD (Q : (Option Value ⊕ String) → Wld → Option Nat → Prop) : (Option Value ⊕ String) → Wld → Option Nat → Prop := fun r w n => match r with
  | .inl (some (.double v)) => Q (.inl (some (.double v))) w n
  | .inr e => e = ARE ∧ Q (.inl (some (.double 13875388141788987392))) w n
  | _ => False
def KHF (Q : (Option Value ⊕ String) → Wld → Option Nat → Prop) : (Option Value ⊕ String) → Wld → Option Nat → Prop := fun r w n => match r with
  | .inl (some (.float v)) => Q (.inl (some (.float v))) w n
  | .inr e => e = ARE ∧ Q (.inl (some (.float 3296346112))) w n
  | _ => False
theorem hd_join_UOE : hdl 79 4 UOE = some (4, 10) := by decide +kernel
theorem lh_join {p1 p2 p3 : Int32} (h : hasc W x 4 = true) (H : Ev X 78 0 [some (.ref x), some (.int p1), some (.int p2), some (.int p3)] [] W n 0 0 (KH Q [(UOE, -1001)])) : Ev X 79 0 [some (.ref x), some (.int p1), some (.int p2), some (.int p3), none] [] W n 0 0 Q := by
  refine L_join_0.mpr (L_join_1.mpr (L_join_2.mpr (L_join_3.mpr ((L_join_4 h).mpr ?_))))
  refine Ev_mono (fun r w2 n2 hr => ?_) H
  cases r with
  | inr e =>
    obtain ⟨k, e1, q⟩ := hr
    cases List.mem_singleton.mp e1
    exact (Kh_e hd_join_UOE).mpr (L_join_10.mpr (L_join_13.mpr q))
  | inl v =>
    cases v with
    | none => exact hr.elim
    | some v =>
      cases v with
      | int v =>
        exact L_join_7.mpr hr
      | _ => exact hr.elim
theorem hd_leave_UOE : hdl 81 1 UOE = some (1, 6) := by decide +kernel
theorem lh_leave (h : hasc W x 4 = true) (H : Ev X 80 0 [some (.ref x)] [] W n 0 0 (KH Q [(UOE, -1001)])) : Ev X 81 0 [some (.ref x), none] [] W n 0 0 Q := by
  refine L_leave_0.mpr ((L_leave_1 h).mpr ?_)
  refine Ev_mono (fun r w2 n2 hr => ?_) H
  cases r with
  | inr e =>
    obtain ⟨k, e1, q⟩ := hr
    cases List.mem_singleton.mp e1
    exact (Kh_e hd_leave_UOE).mpr (L_leave_6.mpr (L_leave_9.mpr q))
  | inl v =>
    cases v with
    | none => exact hr.elim
    | some v =>
      cases v with
      | int v =>
        exact L_leave_4.mpr hr
      | _ => exact hr.elim
theorem hd_manner_UOE : hdl 142 3 UOE = some (3, 8) := by decide +kernel
theorem lh_manner {p1 p2 : Int32} (h : hasc W x 4 = true) (H : Ev X 141 0 [some (.ref x), some (.int p1), some (.int p2)] [] W n 0 0 (KH Q [(UOE, -1001)])) : Ev X 142 0 [some (.ref x), some (.int p1), some (.int p2), none] [] W n 0 0 Q := by
  refine L_manner_0.mpr (L_manner_1.mpr (L_manner_2.mpr ((L_manner_3 h).mpr ?_)))
  refine Ev_mono (fun r w2 n2 hr => ?_) H
  cases r with
  | inr e =>
    obtain ⟨k, e1, q⟩ := hr
    cases List.mem_singleton.mp e1
    exact (Kh_e hd_manner_UOE).mpr (L_manner_8.mpr (L_manner_11.mpr q))
  | inl v =>
    cases v with
    | none => exact hr.elim
    | some v =>
      cases v with
      | int v =>
        exact L_manner_6.mpr hr
      | _ => exact hr.elim
theorem hd_clocks_UOE : hdl 144 4 UOE = some (4, 10) := by decide +kernel
theorem lh_clocks {p1 p2 p3 : Int32} (h : hasc W x 4 = true) (H : Ev X 143 0 [some (.ref x), some (.int p1), some (.int p2), some (.int p3)] [] W n 0 0 (KH Q [(UOE, -1001)])) : Ev X 144 0 [some (.ref x), some (.int p1), some (.int p2), some (.int p3), none] [] W n 0 0 Q := by
  refine L_clocks_0.mpr (L_clocks_1.mpr (L_clocks_2.mpr (L_clocks_3.mpr ((L_clocks_4 h).mpr ?_))))
  refine Ev_mono (fun r w2 n2 hr => ?_) H
  cases r with
  | inr e =>
    obtain ⟨k, e1, q⟩ := hr
    cases List.mem_singleton.mp e1
    exact (Kh_e hd_clocks_UOE).mpr (L_clocks_10.mpr (L_clocks_13.mpr q))
  | inl v =>
    cases v with
    | none => exact hr.elim
    | some v =>
      cases v with
      | int v =>
        exact L_clocks_7.mpr hr
      | _ => exact hr.elim
theorem hd_waiter_UOE : hdl 104 2 UOE = some (2, 7) := by decide +kernel
theorem lh_waiter {p1 : Int32} (h : hasc W x 4 = true) (H : Ev X 103 0 [some (.ref x), some (.int p1)] [] W n 0 0 (KH Q [(UOE, -1001)])) : Ev X 104 0 [some (.ref x), some (.int p1), none] [] W n 0 0 Q := by
  refine L_waiter_0.mpr (L_waiter_1.mpr ((L_waiter_2 h).mpr ?_))
  refine Ev_mono (fun r w2 n2 hr => ?_) H
  cases r with
  | inr e =>
    obtain ⟨k, e1, q⟩ := hr
    cases List.mem_singleton.mp e1
    exact (Kh_e hd_waiter_UOE).mpr (L_waiter_7.mpr (L_waiter_10.mpr q))
  | inl v =>
    cases v with
    | none => exact hr.elim
    | some v =>
      cases v with
      | int v =>
        exact L_waiter_5.mpr hr
      | _ => exact hr.elim
theorem hd_bring_UOE : hdl 17 2 UOE = some (2, 7) := by decide +kernel
theorem lh_bring {p1 : Int32} (h : hasc W x 4 = true) (H : Ev X 16 0 [some (.ref x), some (.int p1)] [] W n 0 0 (KH Q [(UOE, -1001)])) : Ev X 17 0 [some (.ref x), some (.int p1), none] [] W n 0 0 Q := by
  refine L_bring_0.mpr (L_bring_1.mpr ((L_bring_2 h).mpr ?_))
  refine Ev_mono (fun r w2 n2 hr => ?_) H
  cases r with
  | inr e =>
    obtain ⟨k, e1, q⟩ := hr
    cases List.mem_singleton.mp e1
    exact (Kh_e hd_bring_UOE).mpr (L_bring_7.mpr (L_bring_10.mpr q))
  | inl v =>
    cases v with
    | none => exact hr.elim
    | some v =>
      cases v with
      | int v =>
        exact L_bring_5.mpr hr
      | _ => exact hr.elim
theorem hd_take_UOE : hdl 146 2 UOE = some (2, 7) := by decide +kernel
theorem lh_take {p1 : Int32} (h : hasc W x 4 = true) (H : Ev X 145 0 [some (.ref x), some (.int p1)] [] W n 0 0 (KH Q [(UOE, -1001)])) : Ev X 146 0 [some (.ref x), some (.int p1), none] [] W n 0 0 Q := by
  refine L_take_0.mpr (L_take_1.mpr ((L_take_2 h).mpr ?_))
  refine Ev_mono (fun r w2 n2 hr => ?_) H
  cases r with
  | inr e =>
    obtain ⟨k, e1, q⟩ := hr
    cases List.mem_singleton.mp e1
    exact (Kh_e hd_take_UOE).mpr (L_take_7.mpr (L_take_10.mpr q))
  | inl v =>
    cases v with
    | none => exact hr.elim
    | some v =>
      cases v with
      | int v =>
        exact L_take_5.mpr hr
      | _ => exact hr.elim
theorem hd_pass_UOE : hdl 85 2 UOE = some (2, 7) := by decide +kernel
theorem lh_pass {p1 : Int32} (h : hasc W x 4 = true) (H : Ev X 84 0 [some (.ref x), some (.int p1)] [] W n 0 0 (KH Q [(UOE, -1001)])) : Ev X 85 0 [some (.ref x), some (.int p1), none] [] W n 0 0 Q := by
  refine L_pass_0.mpr (L_pass_1.mpr ((L_pass_2 h).mpr ?_))
  refine Ev_mono (fun r w2 n2 hr => ?_) H
  cases r with
  | inr e =>
    obtain ⟨k, e1, q⟩ := hr
    cases List.mem_singleton.mp e1
    exact (Kh_e hd_pass_UOE).mpr (L_pass_7.mpr (L_pass_10.mpr q))
  | inl v =>
    cases v with
    | none => exact hr.elim
    | some v =>
      cases v with
      | int v =>
        exact L_pass_5.mpr hr
      | _ => exact hr.elim
theorem hd_seatOf_IOO : hdl 115 3 IOO = some (3, 8) := by decide +kernel
theorem hd_seatOf_IAE : hdl 115 3 IAE = some (3, 13) := by decide +kernel
theorem lh_seatOf {p1 p2 : Int32} (h : hasc W x 4 = true) (H : Ev X 114 0 [some (.ref x), some (.int p1), some (.int p2)] [] W n 0 0 (KH Q [(IOO, -1001), (IAE, -1002)])) : Ev X 115 0 [some (.ref x), some (.int p1), some (.int p2), none] [] W n 0 0 Q := by
  refine L_seatOf_0.mpr (L_seatOf_1.mpr (L_seatOf_2.mpr ((L_seatOf_3 h).mpr ?_)))
  refine Ev_mono (fun r w2 n2 hr => ?_) H
  cases r with
  | inr e =>
    obtain ⟨k, e1, q⟩ := hr
    rcases List.mem_cons.mp e1 with e2 | e2
    · cases e2
      exact (Kh_e hd_seatOf_IOO).mpr (L_seatOf_8.mpr (L_seatOf_11.mpr q))
    · cases List.mem_singleton.mp e2
      exact (Kh_e hd_seatOf_IAE).mpr (L_seatOf_13.mpr (L_seatOf_16.mpr q))
  | inl v =>
    cases v with
    | none => exact hr.elim
    | some v =>
      cases v with
      | int v =>
        exact L_seatOf_6.mpr hr
      | _ => exact hr.elim
theorem hd_ladle_IOO : hdl 117 3 IOO = some (3, 8) := by decide +kernel
theorem lh_ladle {p1 p2 : Int32} (h : hasc W x 4 = true) (H : Ev X 116 0 [some (.ref x), some (.int p1), some (.int p2)] [] W n 0 0 (KH Q [(IOO, -1001)])) : Ev X 117 0 [some (.ref x), some (.int p1), some (.int p2), none] [] W n 0 0 Q := by
  refine L_ladle_0.mpr (L_ladle_1.mpr (L_ladle_2.mpr ((L_ladle_3 h).mpr ?_)))
  refine Ev_mono (fun r w2 n2 hr => ?_) H
  cases r with
  | inr e =>
    obtain ⟨k, e1, q⟩ := hr
    cases List.mem_singleton.mp e1
    exact (Kh_e hd_ladle_IOO).mpr (L_ladle_8.mpr (L_ladle_11.mpr q))
  | inl v =>
    cases v with
    | none => exact hr.elim
    | some v =>
      cases v with
      | int v =>
        exact L_ladle_6.mpr hr
      | _ => exact hr.elim
theorem hd_holder_IOO : hdl 119 2 IOO = some (2, 7) := by decide +kernel
theorem lh_holder {p1 : Int32} (h : hasc W x 4 = true) (H : Ev X 118 0 [some (.ref x), some (.int p1)] [] W n 0 0 (KH Q [(IOO, -1001)])) : Ev X 119 0 [some (.ref x), some (.int p1), none] [] W n 0 0 Q := by
  refine L_holder_0.mpr (L_holder_1.mpr ((L_holder_2 h).mpr ?_))
  refine Ev_mono (fun r w2 n2 hr => ?_) H
  cases r with
  | inr e =>
    obtain ⟨k, e1, q⟩ := hr
    cases List.mem_singleton.mp e1
    exact (Kh_e hd_holder_IOO).mpr (L_holder_7.mpr (L_holder_10.mpr q))
  | inl v =>
    cases v with
    | none => exact hr.elim
    | some v =>
      cases v with
      | int v =>
        exact L_holder_5.mpr hr
      | _ => exact hr.elim
theorem hd_waitsFor_IOO : hdl 100 2 IOO = some (2, 7) := by decide +kernel
theorem hd_waitsFor_NSE : hdl 100 2 NSE = some (2, 12) := by decide +kernel
theorem lh_waitsFor {p1 : Int32} (h : hasc W x 4 = true) (H : Ev X 99 0 [some (.ref x), some (.int p1), none] [] W n 0 0 (KH Q [(IOO, -1001), (NSE, -1002)])) : Ev X 100 0 [some (.ref x), some (.int p1), none] [] W n 0 0 Q := by
  refine L_waitsFor_0.mpr (L_waitsFor_1.mpr ((L_waitsFor_2 h).mpr ?_))
  refine Ev_mono (fun r w2 n2 hr => ?_) H
  cases r with
  | inr e =>
    obtain ⟨k, e1, q⟩ := hr
    rcases List.mem_cons.mp e1 with e2 | e2
    · cases e2
      exact (Kh_e hd_waitsFor_IOO).mpr (L_waitsFor_7.mpr (L_waitsFor_10.mpr q))
    · cases List.mem_singleton.mp e2
      exact (Kh_e hd_waitsFor_NSE).mpr (L_waitsFor_12.mpr (L_waitsFor_15.mpr q))
  | inl v =>
    cases v with
    | none => exact hr.elim
    | some v =>
      cases v with
      | int v =>
        exact L_waitsFor_5.mpr hr
      | _ => exact hr.elim
theorem hd_asking_NSE : hdl 121 2 NSE = some (2, 7) := by decide +kernel
theorem lh_asking {p1 : Int32} (h : hasc W x 4 = true) (H : Ev X 120 0 [some (.ref x), some (.int p1), none] [] W n 0 0 (KH Q [(NSE, -1001)])) : Ev X 121 0 [some (.ref x), some (.int p1), none] [] W n 0 0 Q := by
  refine L_asking_0.mpr (L_asking_1.mpr ((L_asking_2 h).mpr ?_))
  refine Ev_mono (fun r w2 n2 hr => ?_) H
  cases r with
  | inr e =>
    obtain ⟨k, e1, q⟩ := hr
    cases List.mem_singleton.mp e1
    exact (Kh_e hd_asking_NSE).mpr (L_asking_7.mpr (L_asking_10.mpr q))
  | inl v =>
    cases v with
    | none => exact hr.elim
    | some v =>
      cases v with
      | int v =>
        exact L_asking_5.mpr hr
      | _ => exact hr.elim
theorem hd_mealsIn_IAE : hdl 135 2 IAE = some (2, 7) := by decide +kernel
theorem lh_mealsIn {p1 : Int32} (h : hasc W x 4 = true) (H : Ev X 134 0 [some (.ref x), some (.int p1), none] [] W n 0 0 (KH Q [(IAE, -1001)])) : Ev X 135 0 [some (.ref x), some (.int p1), none] [] W n 0 0 Q := by
  refine L_mealsIn_0.mpr (L_mealsIn_1.mpr ((L_mealsIn_2 h).mpr ?_))
  refine Ev_mono (fun r w2 n2 hr => ?_) H
  cases r with
  | inr e =>
    obtain ⟨k, e1, q⟩ := hr
    cases List.mem_singleton.mp e1
    exact (Kh_e hd_mealsIn_IAE).mpr (L_mealsIn_7.mpr (L_mealsIn_10.mpr q))
  | inl v =>
    cases v with
    | none => exact hr.elim
    | some v =>
      cases v with
      | int v =>
        exact L_mealsIn_5.mpr hr
      | _ => exact hr.elim
theorem hd_stuckIn_NSE : hdl 137 1 NSE = some (1, 6) := by decide +kernel
theorem lh_stuckIn (h : hasc W x 4 = true) (H : Ev X 136 0 [some (.ref x), none] [] W n 0 0 (KH Q [(NSE, -1001)])) : Ev X 137 0 [some (.ref x), none] [] W n 0 0 Q := by
  refine L_stuckIn_0.mpr ((L_stuckIn_1 h).mpr ?_)
  refine Ev_mono (fun r w2 n2 hr => ?_) H
  cases r with
  | inr e =>
    obtain ⟨k, e1, q⟩ := hr
    cases List.mem_singleton.mp e1
    exact (Kh_e hd_stuckIn_NSE).mpr (L_stuckIn_6.mpr (L_stuckIn_9.mpr q))
  | inl v =>
    cases v with
    | none => exact hr.elim
    | some v =>
      cases v with
      | int v =>
        exact L_stuckIn_4.mpr hr
      | _ => exact hr.elim
theorem hd_hungriest_NSE : hdl 126 2 NSE = some (2, 7) := by decide +kernel
theorem lh_hungriest {p1 : Int32} (h : hasc W x 4 = true) (H : Ev X 125 0 [some (.ref x), some (.int p1), none] [] W n 0 0 (KH Q [(NSE, -1001)])) : Ev X 126 0 [some (.ref x), some (.int p1), none] [] W n 0 0 Q := by
  refine L_hungriest_0.mpr (L_hungriest_1.mpr ((L_hungriest_2 h).mpr ?_))
  refine Ev_mono (fun r w2 n2 hr => ?_) H
  cases r with
  | inr e =>
    obtain ⟨k, e1, q⟩ := hr
    cases List.mem_singleton.mp e1
    exact (Kh_e hd_hungriest_NSE).mpr (L_hungriest_7.mpr (L_hungriest_10.mpr q))
  | inl v =>
    cases v with
    | none => exact hr.elim
    | some v =>
      cases v with
      | int v =>
        exact L_hungriest_5.mpr hr
      | _ => exact hr.elim
theorem hd_neighbours_IOO : hdl 129 3 IOO = some (3, 16) := by decide +kernel
theorem lh_neighbours {p1 p2 : Int32} (h : hasc W x 4 = true) (H : Ev X 128 0 [some (.ref x), some (.int p1), some (.int p2)] [] W n 0 0 (KHB Q [(IOO, -1001)])) : Ev X 129 0 [some (.ref x), some (.int p1), some (.int p2), none] [] W n 0 0 Q := by
  refine L_neighbours_0.mpr (L_neighbours_1.mpr (L_neighbours_2.mpr ((L_neighbours_3 h).mpr ?_)))
  refine Ev_mono (fun r w2 n2 hr => ?_) H
  cases r with
  | inr e =>
    obtain ⟨k, e1, q⟩ := hr
    cases List.mem_singleton.mp e1
    exact (Kh_e hd_neighbours_IOO).mpr (L_neighbours_16.mpr (L_neighbours_19.mpr q))
  | inl v =>
    cases v with
    | none => exact hr.elim
    | some v =>
      cases v with
      | int v =>
        refine L_neighbours_6.mpr ?_
        have hr : Q (.inl (some (.int (if v = 0 then 0 else 1)))) w2 n2 := hr
        by_cases z : v = 0
        · rw [if_pos z] at hr ⊢
          exact L_neighbours_13.mpr (L_neighbours_14.mpr hr)
        · rw [if_neg z] at hr ⊢
          exact L_neighbours_9.mpr (L_neighbours_10.mpr (L_neighbours_14.mpr hr))
      | _ => exact hr.elim
theorem hd_append_ISE : hdl 22 2 ISE = some (2, 7) := by decide +kernel
theorem lh_append {p1 : Int32} (h : hasc W x 4 = true) (H : Ev X 21 0 [some (.ref x), some (.int p1)] [] W n 0 0 (KH Q [(ISE, -1001)])) : Ev X 22 0 [some (.ref x), some (.int p1), none] [] W n 0 0 Q := by
  refine L_append_0.mpr (L_append_1.mpr ((L_append_2 h).mpr ?_))
  refine Ev_mono (fun r w2 n2 hr => ?_) H
  cases r with
  | inr e =>
    obtain ⟨k, e1, q⟩ := hr
    cases List.mem_singleton.mp e1
    exact (Kh_e hd_append_ISE).mpr (L_append_7.mpr (L_append_10.mpr q))
  | inl v =>
    cases v with
    | none => exact hr.elim
    | some v =>
      cases v with
      | int v =>
        exact L_append_5.mpr hr
      | _ => exact hr.elim
theorem hd_commands_IAE : hdl 76 1 IAE = some (1, 6) := by decide +kernel
theorem hd_commands_UOE : hdl 76 1 UOE = some (1, 11) := by decide +kernel
theorem lh_commands (h : hasc W x 4 = true) (H : Ev X 75 0 [some (.ref x), none, none] [] W n 0 0 (KH Q [(IAE, -1001), (UOE, -1002)])) : Ev X 76 0 [some (.ref x), none] [] W n 0 0 Q := by
  refine L_commands_0.mpr ((L_commands_1 h).mpr ?_)
  refine Ev_mono (fun r w2 n2 hr => ?_) H
  cases r with
  | inr e =>
    obtain ⟨k, e1, q⟩ := hr
    rcases List.mem_cons.mp e1 with e2 | e2
    · cases e2
      exact (Kh_e hd_commands_IAE).mpr (L_commands_6.mpr (L_commands_9.mpr q))
    · cases List.mem_singleton.mp e2
      exact (Kh_e hd_commands_UOE).mpr (L_commands_11.mpr (L_commands_14.mpr q))
  | inl v =>
    cases v with
    | none => exact hr.elim
    | some v =>
      cases v with
      | int v =>
        exact L_commands_4.mpr hr
      | _ => exact hr.elim
theorem hd_reason_IAE : hdl 19 2 IAE = some (2, 7) := by decide +kernel
theorem hd_reason_NSE : hdl 19 2 NSE = some (2, 12) := by decide +kernel
theorem lh_reason {p1 : Int32} (h : hasc W x 4 = true) (H : Ev X 18 0 [some (.ref x), some (.int p1)] [] W n 0 0 (KH Q [(IAE, -1001), (NSE, -1002)])) : Ev X 19 0 [some (.ref x), some (.int p1), none] [] W n 0 0 Q := by
  refine L_reason_0.mpr (L_reason_1.mpr ((L_reason_2 h).mpr ?_))
  refine Ev_mono (fun r w2 n2 hr => ?_) H
  cases r with
  | inr e =>
    obtain ⟨k, e1, q⟩ := hr
    rcases List.mem_cons.mp e1 with e2 | e2
    · cases e2
      exact (Kh_e hd_reason_IAE).mpr (L_reason_7.mpr (L_reason_10.mpr q))
    · cases List.mem_singleton.mp e2
      exact (Kh_e hd_reason_NSE).mpr (L_reason_12.mpr (L_reason_15.mpr q))
  | inl v =>
    cases v with
    | none => exact hr.elim
    | some v =>
      cases v with
      | int v =>
        exact L_reason_5.mpr hr
      | _ => exact hr.elim
theorem hd_character_IOO : hdl 95 2 IOO = some (2, 7) := by decide +kernel
theorem lh_character {p1 : Int32} (h : hasc W x 4 = true) (H : Ev X 94 0 [some (.ref x), some (.int p1)] [] W n 0 0 (KH Q [(IOO, -1001)])) : Ev X 95 0 [some (.ref x), some (.int p1), none] [] W n 0 0 Q := by
  refine L_character_0.mpr (L_character_1.mpr ((L_character_2 h).mpr ?_))
  refine Ev_mono (fun r w2 n2 hr => ?_) H
  cases r with
  | inr e =>
    obtain ⟨k, e1, q⟩ := hr
    cases List.mem_singleton.mp e1
    exact (Kh_e hd_character_IOO).mpr (L_character_7.mpr (L_character_10.mpr q))
  | inl v =>
    cases v with
    | none => exact hr.elim
    | some v =>
      cases v with
      | int v =>
        exact L_character_5.mpr hr
      | _ => exact hr.elim
theorem hd_meanWait_ARE : hdl 108 1 ARE = some (1, 6) := by decide +kernel
theorem lh_meanWait (h : hasc W x 4 = true) (H : Ev X 107 0 [some (.ref x), none] [] W n 0 0 (KHD Q)) : Ev X 108 0 [some (.ref x), none] [] W n 0 0 Q := by
  refine L_meanWait_0.mpr ((L_meanWait_1 h).mpr ?_)
  refine Ev_mono (fun r w2 n2 hr => ?_) H
  cases r with
  | inr e =>
    obtain ⟨rfl, q⟩ := hr
    exact (Kh_e hd_meanWait_ARE).mpr (L_meanWait_6.mpr (L_meanWait_9.mpr q))
  | inl v =>
    cases v with
    | none => exact hr.elim
    | some v =>
      cases v with
      | double v =>
        exact L_meanWait_4.mpr hr
      | _ => exact hr.elim
theorem hd_fairness_ARE : hdl 112 1 ARE = some (1, 6) := by decide +kernel
theorem lh_fairness (h : hasc W x 4 = true) (H : Ev X 111 0 [some (.ref x), none] [] W n 0 0 (KHF Q)) : Ev X 112 0 [some (.ref x), none] [] W n 0 0 Q := by
  refine L_fairness_0.mpr ((L_fairness_1 h).mpr ?_)
  refine Ev_mono (fun r w2 n2 hr => ?_) H
  cases r with
  | inr e =>
    obtain ⟨rfl, q⟩ := hr
    exact (Kh_e hd_fairness_ARE).mpr (L_fairness_6.mpr (L_fairness_8.mpr q))
  | inl v =>
    cases v with
    | none => exact hr.elim
    | some v =>
      cases v with
      | float v =>
        exact L_fairness_4.mpr hr
      | _ => exact hr.elim
theorem hd_account_IAE : hdl 29 2 IAE = some (2, 7) := by decide +kernel
theorem lh_account {p1 : Int32} (h : hasc W x 4 = true) (H : Ev X 28 0 [some (.ref x), some (.int p1)] [] W n 0 0 (KH Q [(IAE, -1001)])) : Ev X 29 0 [some (.ref x), some (.int p1), none] [] W n 0 0 Q := by
  refine L_account_0.mpr (L_account_1.mpr ((L_account_2 h).mpr ?_))
  refine Ev_mono (fun r w2 n2 hr => ?_) H
  cases r with
  | inr e =>
    obtain ⟨k, e1, q⟩ := hr
    cases List.mem_singleton.mp e1
    exact (Kh_e hd_account_IAE).mpr (L_account_7.mpr (L_account_10.mpr q))
  | inl v =>
    cases v with
    | none => exact hr.elim
    | some v =>
      cases v with
      | int v =>
        exact L_account_5.mpr hr
      | _ => exact hr.elim
theorem hd_undo_ISE : hdl 8 1 ISE = some (1, 6) := by decide +kernel
theorem lh_undo (h : hasc W x 4 = true) (H : Ev X 7 0 [some (.ref x)] [] W n 0 0 (KH Q [(ISE, -1001)])) : Ev X 8 0 [some (.ref x), none] [] W n 0 0 Q := by
  refine L_undo_0.mpr ((L_undo_1 h).mpr ?_)
  refine Ev_mono (fun r w2 n2 hr => ?_) H
  cases r with
  | inr e =>
    obtain ⟨k, e1, q⟩ := hr
    cases List.mem_singleton.mp e1
    exact (Kh_e hd_undo_ISE).mpr (L_undo_6.mpr (L_undo_9.mpr q))
  | inl v =>
    cases v with
    | none => exact hr.elim
    | some v =>
      cases v with
      | int v =>
        exact L_undo_4.mpr hr
      | _ => exact hr.elim
theorem hd_restore_ISE : hdl 10 1 ISE = some (1, 6) := by decide +kernel
theorem lh_restore (h : hasc W x 4 = true) (H : Ev X 9 0 [some (.ref x)] [] W n 0 0 (KH Q [(ISE, -1001)])) : Ev X 10 0 [some (.ref x), none] [] W n 0 0 Q := by
  refine L_restore_0.mpr ((L_restore_1 h).mpr ?_)
  refine Ev_mono (fun r w2 n2 hr => ?_) H
  cases r with
  | inr e =>
    obtain ⟨k, e1, q⟩ := hr
    cases List.mem_singleton.mp e1
    exact (Kh_e hd_restore_ISE).mpr (L_restore_6.mpr (L_restore_9.mpr q))
  | inl v =>
    cases v with
    | none => exact hr.elim
    | some v =>
      cases v with
      | int v =>
        exact L_restore_4.mpr hr
      | _ => exact hr.elim
end LHP
