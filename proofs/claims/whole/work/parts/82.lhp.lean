/-! ===== the law's helpers ===== -/
section LHP
variable {X : Cxt} {W : Wld} {n : Option Nat} {Q : (Option Value ⊕ String) → Wld → Option Nat → Prop} {x o : Nat}
theorem Ev_mono {M pc : Nat} {ls : Lcs} {st : Stk} {c sl : Nat} {Q1 Q2 : (Option Value ⊕ String) → Wld → Option Nat → Prop} (h : ∀ r w n, Q1 r w n → Q2 r w n) (H : Ev X M pc ls st W n c sl Q1) : Ev X M pc ls st W n c sl Q2 := by
  obtain ⟨f, u, h1, h2⟩ := H
  exact ⟨f, u, h1, h _ _ _ h2⟩
/-- an answer goes into the array as a long and 0 comes back; a throw comes back as its number -/
def KH (Q : (Option Value ⊕ String) → Wld → Option Nat → Prop) (o : Nat) (hs : List (String × Int32)) : (Option Value ⊕ String) → Wld → Option Nat → Prop := fun r w n => match r with
  | .inl (some (.int v)) => ∃ w2, sa w o 2 0 (.long v.toInt64) = some w2 ∧ Q (.inl (some (.int 0))) w2 n
  | .inr e => ∃ k, (e, k) ∈ hs ∧ Q (.inl (some (.int k))) w n
  | _ => False
/-- a yes or no goes in as 1 or 0 -/
def KHB (Q : (Option Value ⊕ String) → Wld → Option Nat → Prop) (o : Nat) (hs : List (String × Int32)) : (Option Value ⊕ String) → Wld → Option Nat → Prop := fun r w n => match r with
  | .inl (some (.int v)) => ∃ w2, sa w o 2 0 (.long (if v = 0 then 0 else 1)) = some w2 ∧ Q (.inl (some (.int 0))) w2 n
  | .inr e => ∃ k, (e, k) ∈ hs ∧ Q (.inl (some (.int k))) w n
  | _ => False
def KHD (Q : (Option Value ⊕ String) → Wld → Option Nat → Prop) (o : Nat) (hs : List (String × Int32)) : (Option Value ⊕ String) → Wld → Option Nat → Prop := fun r w n => match r with
  | .inl (some (.double v)) => ∃ w2, sa w o 3 0 (.double v) = some w2 ∧ Q (.inl (some (.int 0))) w2 n
  | .inr e => ∃ k, (e, k) ∈ hs ∧ Q (.inl (some (.int k))) w n
  | _ => False
def KHF (Q : (Option Value ⊕ String) → Wld → Option Nat → Prop) (o : Nat) (hs : List (String × Int32)) : (Option Value ⊕ String) → Wld → Option Nat → Prop := fun r w n => match r with
  | .inl (some (.float v)) => n64 (FP.f2d v) = true ∧ ∃ w2, sa w o 3 0 (.double (FP.f2d v)) = some w2 ∧ Q (.inl (some (.int 0))) w2 n
  | .inr e => ∃ k, (e, k) ∈ hs ∧ Q (.inl (some (.int k))) w n
  | _ => False
theorem hd_L_join_UOE : hdl 18 7 UOE = some (5, 17) := by decide +kernel
theorem lh_join {p1 p2 p3 : Int32} (h : hasc W x 4 = true) (H : Ev X 17 0 [some (.ref x), some (.int p1), some (.int p2), some (.int p3)] [] W n 0 0 (KH Q o [(UOE, 1)])) : Ev X 18 0 [some (.ref x), some (.int p1), some (.int p2), some (.int p3), some (.ref o), none] [] W n 0 0 Q := by
  rw [L_join_0, L_join_2, L_join_3, L_join_4, L_join_5, L_join_6, L_join_7 h]
  refine Ev_mono (fun r w2 n2 hr => ?_) H
  cases r with
  | inr e =>
    obtain ⟨k, e1, q⟩ := hr
    have e2 := List.mem_singleton.mp e1
    cases e2
    exact (Kh_e hd_L_join_UOE).mpr (L_join_17.mpr (L_join_18.mpr q))
  | inl v =>
    cases v with
    | none => exact hr.elim
    | some v =>
      cases v with
      | int v =>
        obtain ⟨w3, e, q⟩ := hr
        exact L_join_10.mpr (L_join_11.mpr ⟨w3, e, L_join_12.mpr (L_join_19.mpr (L_join_20.mpr q))⟩)
      | _ => exact hr.elim
theorem hd_L_leave_UOE : hdl 33 3 UOE = some (2, 12) := by decide +kernel
theorem lh_leave (h : hasc W x 4 = true) (H : Ev X 32 0 [some (.ref x)] [] W n 0 0 (KH Q o [(UOE, 1)])) : Ev X 33 0 [some (.ref x), some (.ref o), none] [] W n 0 0 Q := by
  rw [L_leave_0, L_leave_1, L_leave_2, L_leave_3 h]
  refine Ev_mono (fun r w2 n2 hr => ?_) H
  cases r with
  | inr e =>
    obtain ⟨k, e1, q⟩ := hr
    have e2 := List.mem_singleton.mp e1
    cases e2
    exact (Kh_e hd_L_leave_UOE).mpr (L_leave_12.mpr (L_leave_13.mpr q))
  | inl v =>
    cases v with
    | none => exact hr.elim
    | some v =>
      cases v with
      | int v =>
        obtain ⟨w3, e, q⟩ := hr
        exact L_leave_6.mpr (L_leave_7.mpr ⟨w3, e, L_leave_8.mpr (L_leave_14.mpr (L_leave_15.mpr q))⟩)
      | _ => exact hr.elim
theorem hd_L_manner_UOE : hdl 40 5 UOE = some (4, 15) := by decide +kernel
theorem lh_manner {p1 p2 : Int32} (h : hasc W x 4 = true) (H : Ev X 39 0 [some (.ref x), some (.int p1), some (.int p2)] [] W n 0 0 (KH Q o [(UOE, 1)])) : Ev X 40 0 [some (.ref x), some (.int p1), some (.int p2), some (.ref o), none] [] W n 0 0 Q := by
  rw [L_manner_0, L_manner_1, L_manner_2, L_manner_3, L_manner_4, L_manner_5 h]
  refine Ev_mono (fun r w2 n2 hr => ?_) H
  cases r with
  | inr e =>
    obtain ⟨k, e1, q⟩ := hr
    have e2 := List.mem_singleton.mp e1
    cases e2
    exact (Kh_e hd_L_manner_UOE).mpr (L_manner_15.mpr (L_manner_16.mpr q))
  | inl v =>
    cases v with
    | none => exact hr.elim
    | some v =>
      cases v with
      | int v =>
        obtain ⟨w3, e, q⟩ := hr
        exact L_manner_8.mpr (L_manner_9.mpr ⟨w3, e, L_manner_10.mpr (L_manner_17.mpr (L_manner_18.mpr q))⟩)
      | _ => exact hr.elim
theorem hd_L_clocks_UOE : hdl 48 7 UOE = some (5, 17) := by decide +kernel
theorem lh_clocks {p1 p2 p3 : Int32} (h : hasc W x 4 = true) (H : Ev X 47 0 [some (.ref x), some (.int p1), some (.int p2), some (.int p3)] [] W n 0 0 (KH Q o [(UOE, 1)])) : Ev X 48 0 [some (.ref x), some (.int p1), some (.int p2), some (.int p3), some (.ref o), none] [] W n 0 0 Q := by
  rw [L_clocks_0, L_clocks_2, L_clocks_3, L_clocks_4, L_clocks_5, L_clocks_6, L_clocks_7 h]
  refine Ev_mono (fun r w2 n2 hr => ?_) H
  cases r with
  | inr e =>
    obtain ⟨k, e1, q⟩ := hr
    have e2 := List.mem_singleton.mp e1
    cases e2
    exact (Kh_e hd_L_clocks_UOE).mpr (L_clocks_17.mpr (L_clocks_18.mpr q))
  | inl v =>
    cases v with
    | none => exact hr.elim
    | some v =>
      cases v with
      | int v =>
        obtain ⟨w3, e, q⟩ := hr
        exact L_clocks_10.mpr (L_clocks_11.mpr ⟨w3, e, L_clocks_12.mpr (L_clocks_19.mpr (L_clocks_20.mpr q))⟩)
      | _ => exact hr.elim
theorem hd_L_waiter_UOE : hdl 53 4 UOE = some (3, 13) := by decide +kernel
theorem lh_waiter {p1 : Int32} (h : hasc W x 4 = true) (H : Ev X 52 0 [some (.ref x), some (.int p1)] [] W n 0 0 (KH Q o [(UOE, 1)])) : Ev X 53 0 [some (.ref x), some (.int p1), some (.ref o), none] [] W n 0 0 Q := by
  rw [L_waiter_0, L_waiter_1, L_waiter_2, L_waiter_3, L_waiter_4 h]
  refine Ev_mono (fun r w2 n2 hr => ?_) H
  cases r with
  | inr e =>
    obtain ⟨k, e1, q⟩ := hr
    have e2 := List.mem_singleton.mp e1
    cases e2
    exact (Kh_e hd_L_waiter_UOE).mpr (L_waiter_13.mpr (L_waiter_14.mpr q))
  | inl v =>
    cases v with
    | none => exact hr.elim
    | some v =>
      cases v with
      | int v =>
        obtain ⟨w3, e, q⟩ := hr
        exact L_waiter_7.mpr (L_waiter_8.mpr ⟨w3, e, L_waiter_9.mpr (L_waiter_15.mpr (L_waiter_16.mpr q))⟩)
      | _ => exact hr.elim
theorem hd_L_bring_UOE : hdl 58 4 UOE = some (3, 13) := by decide +kernel
theorem lh_bring {p1 : Int32} (h : hasc W x 4 = true) (H : Ev X 57 0 [some (.ref x), some (.int p1)] [] W n 0 0 (KH Q o [(UOE, 1)])) : Ev X 58 0 [some (.ref x), some (.int p1), some (.ref o), none] [] W n 0 0 Q := by
  rw [L_bring_0, L_bring_1, L_bring_2, L_bring_3, L_bring_4 h]
  refine Ev_mono (fun r w2 n2 hr => ?_) H
  cases r with
  | inr e =>
    obtain ⟨k, e1, q⟩ := hr
    have e2 := List.mem_singleton.mp e1
    cases e2
    exact (Kh_e hd_L_bring_UOE).mpr (L_bring_13.mpr (L_bring_14.mpr q))
  | inl v =>
    cases v with
    | none => exact hr.elim
    | some v =>
      cases v with
      | int v =>
        obtain ⟨w3, e, q⟩ := hr
        exact L_bring_7.mpr (L_bring_8.mpr ⟨w3, e, L_bring_9.mpr (L_bring_15.mpr (L_bring_16.mpr q))⟩)
      | _ => exact hr.elim
theorem hd_L_take_UOE : hdl 64 4 UOE = some (3, 13) := by decide +kernel
theorem lh_take {p1 : Int32} (h : hasc W x 4 = true) (H : Ev X 63 0 [some (.ref x), some (.int p1)] [] W n 0 0 (KH Q o [(UOE, 1)])) : Ev X 64 0 [some (.ref x), some (.int p1), some (.ref o), none] [] W n 0 0 Q := by
  rw [L_take_0, L_take_1, L_take_2, L_take_3, L_take_4 h]
  refine Ev_mono (fun r w2 n2 hr => ?_) H
  cases r with
  | inr e =>
    obtain ⟨k, e1, q⟩ := hr
    have e2 := List.mem_singleton.mp e1
    cases e2
    exact (Kh_e hd_L_take_UOE).mpr (L_take_13.mpr (L_take_14.mpr q))
  | inl v =>
    cases v with
    | none => exact hr.elim
    | some v =>
      cases v with
      | int v =>
        obtain ⟨w3, e, q⟩ := hr
        exact L_take_7.mpr (L_take_8.mpr ⟨w3, e, L_take_9.mpr (L_take_15.mpr (L_take_16.mpr q))⟩)
      | _ => exact hr.elim
theorem hd_L_pass_UOE : hdl 86 4 UOE = some (3, 13) := by decide +kernel
theorem lh_pass {p1 : Int32} (h : hasc W x 4 = true) (H : Ev X 85 0 [some (.ref x), some (.int p1)] [] W n 0 0 (KH Q o [(UOE, 1)])) : Ev X 86 0 [some (.ref x), some (.int p1), some (.ref o), none] [] W n 0 0 Q := by
  rw [L_pass_0, L_pass_1, L_pass_2, L_pass_3, L_pass_4 h]
  refine Ev_mono (fun r w2 n2 hr => ?_) H
  cases r with
  | inr e =>
    obtain ⟨k, e1, q⟩ := hr
    have e2 := List.mem_singleton.mp e1
    cases e2
    exact (Kh_e hd_L_pass_UOE).mpr (L_pass_13.mpr (L_pass_14.mpr q))
  | inl v =>
    cases v with
    | none => exact hr.elim
    | some v =>
      cases v with
      | int v =>
        obtain ⟨w3, e, q⟩ := hr
        exact L_pass_7.mpr (L_pass_8.mpr ⟨w3, e, L_pass_9.mpr (L_pass_15.mpr (L_pass_16.mpr q))⟩)
      | _ => exact hr.elim
theorem hd_L_seatOf_IOO : hdl 99 5 IOO = some (4, 15) := by decide +kernel
theorem hd_L_seatOf_IAE : hdl 99 5 IAE = some (4, 19) := by decide +kernel
theorem lh_seatOf {p1 p2 : Int32} (h : hasc W x 4 = true) (H : Ev X 98 0 [some (.ref x), some (.int p1), some (.int p2)] [] W n 0 0 (KH Q o [(IOO, 1), (IAE, 2)])) : Ev X 99 0 [some (.ref x), some (.int p1), some (.int p2), some (.ref o), none] [] W n 0 0 Q := by
  rw [L_seatOf_0, L_seatOf_1, L_seatOf_2, L_seatOf_3, L_seatOf_4, L_seatOf_5 h]
  refine Ev_mono (fun r w2 n2 hr => ?_) H
  cases r with
  | inr e =>
    obtain ⟨k, e1, q⟩ := hr
    rcases List.mem_cons.mp e1 with e2 | e2
    · cases e2
      exact (Kh_e hd_L_seatOf_IOO).mpr (L_seatOf_15.mpr (L_seatOf_16.mpr q))
    · have e2 := List.mem_singleton.mp e2
      cases e2
      exact (Kh_e hd_L_seatOf_IAE).mpr (L_seatOf_19.mpr (L_seatOf_20.mpr q))
  | inl v =>
    cases v with
    | none => exact hr.elim
    | some v =>
      cases v with
      | int v =>
        obtain ⟨w3, e, q⟩ := hr
        exact L_seatOf_8.mpr (L_seatOf_9.mpr ⟨w3, e, L_seatOf_10.mpr (L_seatOf_21.mpr (L_seatOf_22.mpr q))⟩)
      | _ => exact hr.elim
theorem hd_L_ladle_IOO : hdl 102 5 IOO = some (4, 15) := by decide +kernel
theorem lh_ladle {p1 p2 : Int32} (h : hasc W x 4 = true) (H : Ev X 101 0 [some (.ref x), some (.int p1), some (.int p2)] [] W n 0 0 (KH Q o [(IOO, 1)])) : Ev X 102 0 [some (.ref x), some (.int p1), some (.int p2), some (.ref o), none] [] W n 0 0 Q := by
  rw [L_ladle_0, L_ladle_1, L_ladle_2, L_ladle_3, L_ladle_4, L_ladle_5 h]
  refine Ev_mono (fun r w2 n2 hr => ?_) H
  cases r with
  | inr e =>
    obtain ⟨k, e1, q⟩ := hr
    have e2 := List.mem_singleton.mp e1
    cases e2
    exact (Kh_e hd_L_ladle_IOO).mpr (L_ladle_15.mpr (L_ladle_16.mpr q))
  | inl v =>
    cases v with
    | none => exact hr.elim
    | some v =>
      cases v with
      | int v =>
        obtain ⟨w3, e, q⟩ := hr
        exact L_ladle_8.mpr (L_ladle_9.mpr ⟨w3, e, L_ladle_10.mpr (L_ladle_17.mpr (L_ladle_18.mpr q))⟩)
      | _ => exact hr.elim
theorem hd_L_holder_IOO : hdl 105 4 IOO = some (3, 13) := by decide +kernel
theorem lh_holder {p1 : Int32} (h : hasc W x 4 = true) (H : Ev X 104 0 [some (.ref x), some (.int p1)] [] W n 0 0 (KH Q o [(IOO, 1)])) : Ev X 105 0 [some (.ref x), some (.int p1), some (.ref o), none] [] W n 0 0 Q := by
  rw [L_holder_0, L_holder_1, L_holder_2, L_holder_3, L_holder_4 h]
  refine Ev_mono (fun r w2 n2 hr => ?_) H
  cases r with
  | inr e =>
    obtain ⟨k, e1, q⟩ := hr
    have e2 := List.mem_singleton.mp e1
    cases e2
    exact (Kh_e hd_L_holder_IOO).mpr (L_holder_13.mpr (L_holder_14.mpr q))
  | inl v =>
    cases v with
    | none => exact hr.elim
    | some v =>
      cases v with
      | int v =>
        obtain ⟨w3, e, q⟩ := hr
        exact L_holder_7.mpr (L_holder_8.mpr ⟨w3, e, L_holder_9.mpr (L_holder_15.mpr (L_holder_16.mpr q))⟩)
      | _ => exact hr.elim
theorem hd_L_waitsFor_IOO : hdl 109 4 IOO = some (3, 13) := by decide +kernel
theorem hd_L_waitsFor_NSE : hdl 109 4 NSE = some (3, 16) := by decide +kernel
theorem lh_waitsFor {p1 : Int32} (h : hasc W x 4 = true) (H : Ev X 108 0 [some (.ref x), some (.int p1), none] [] W n 0 0 (KH Q o [(IOO, 1), (NSE, 2)])) : Ev X 109 0 [some (.ref x), some (.int p1), some (.ref o), none] [] W n 0 0 Q := by
  rw [L_waitsFor_0, L_waitsFor_1, L_waitsFor_2, L_waitsFor_3, L_waitsFor_4 h]
  refine Ev_mono (fun r w2 n2 hr => ?_) H
  cases r with
  | inr e =>
    obtain ⟨k, e1, q⟩ := hr
    rcases List.mem_cons.mp e1 with e2 | e2
    · cases e2
      exact (Kh_e hd_L_waitsFor_IOO).mpr (L_waitsFor_13.mpr (L_waitsFor_14.mpr q))
    · have e2 := List.mem_singleton.mp e2
      cases e2
      exact (Kh_e hd_L_waitsFor_NSE).mpr (L_waitsFor_16.mpr (L_waitsFor_17.mpr q))
  | inl v =>
    cases v with
    | none => exact hr.elim
    | some v =>
      cases v with
      | int v =>
        obtain ⟨w3, e, q⟩ := hr
        exact L_waitsFor_7.mpr (L_waitsFor_8.mpr ⟨w3, e, L_waitsFor_9.mpr (L_waitsFor_18.mpr (L_waitsFor_19.mpr q))⟩)
      | _ => exact hr.elim
theorem hd_L_asking_NSE : hdl 113 4 NSE = some (3, 13) := by decide +kernel
theorem lh_asking {p1 : Int32} (h : hasc W x 4 = true) (H : Ev X 112 0 [some (.ref x), some (.int p1), none] [] W n 0 0 (KH Q o [(NSE, 1)])) : Ev X 113 0 [some (.ref x), some (.int p1), some (.ref o), none] [] W n 0 0 Q := by
  rw [L_asking_0, L_asking_1, L_asking_2, L_asking_3, L_asking_4 h]
  refine Ev_mono (fun r w2 n2 hr => ?_) H
  cases r with
  | inr e =>
    obtain ⟨k, e1, q⟩ := hr
    have e2 := List.mem_singleton.mp e1
    cases e2
    exact (Kh_e hd_L_asking_NSE).mpr (L_asking_13.mpr (L_asking_14.mpr q))
  | inl v =>
    cases v with
    | none => exact hr.elim
    | some v =>
      cases v with
      | int v =>
        obtain ⟨w3, e, q⟩ := hr
        exact L_asking_7.mpr (L_asking_8.mpr ⟨w3, e, L_asking_9.mpr (L_asking_15.mpr (L_asking_16.mpr q))⟩)
      | _ => exact hr.elim
theorem hd_L_mealsIn_IAE : hdl 136 4 IAE = some (3, 13) := by decide +kernel
theorem lh_mealsIn {p1 : Int32} (h : hasc W x 4 = true) (H : Ev X 135 0 [some (.ref x), some (.int p1), none] [] W n 0 0 (KH Q o [(IAE, 1)])) : Ev X 136 0 [some (.ref x), some (.int p1), some (.ref o), none] [] W n 0 0 Q := by
  rw [L_mealsIn_0, L_mealsIn_1, L_mealsIn_2, L_mealsIn_3, L_mealsIn_4 h]
  refine Ev_mono (fun r w2 n2 hr => ?_) H
  cases r with
  | inr e =>
    obtain ⟨k, e1, q⟩ := hr
    have e2 := List.mem_singleton.mp e1
    cases e2
    exact (Kh_e hd_L_mealsIn_IAE).mpr (L_mealsIn_13.mpr (L_mealsIn_14.mpr q))
  | inl v =>
    cases v with
    | none => exact hr.elim
    | some v =>
      cases v with
      | int v =>
        obtain ⟨w3, e, q⟩ := hr
        exact L_mealsIn_7.mpr (L_mealsIn_8.mpr ⟨w3, e, L_mealsIn_9.mpr (L_mealsIn_15.mpr (L_mealsIn_16.mpr q))⟩)
      | _ => exact hr.elim
theorem hd_L_stuckIn_NSE : hdl 141 3 NSE = some (2, 12) := by decide +kernel
theorem lh_stuckIn (h : hasc W x 4 = true) (H : Ev X 140 0 [some (.ref x), none] [] W n 0 0 (KH Q o [(NSE, 1)])) : Ev X 141 0 [some (.ref x), some (.ref o), none] [] W n 0 0 Q := by
  rw [L_stuckIn_0, L_stuckIn_1, L_stuckIn_2, L_stuckIn_3 h]
  refine Ev_mono (fun r w2 n2 hr => ?_) H
  cases r with
  | inr e =>
    obtain ⟨k, e1, q⟩ := hr
    have e2 := List.mem_singleton.mp e1
    cases e2
    exact (Kh_e hd_L_stuckIn_NSE).mpr (L_stuckIn_12.mpr (L_stuckIn_13.mpr q))
  | inl v =>
    cases v with
    | none => exact hr.elim
    | some v =>
      cases v with
      | int v =>
        obtain ⟨w3, e, q⟩ := hr
        exact L_stuckIn_6.mpr (L_stuckIn_7.mpr ⟨w3, e, L_stuckIn_8.mpr (L_stuckIn_14.mpr (L_stuckIn_15.mpr q))⟩)
      | _ => exact hr.elim
theorem hd_L_hungriest_NSE : hdl 147 4 NSE = some (3, 13) := by decide +kernel
theorem lh_hungriest {p1 : Int32} (h : hasc W x 4 = true) (H : Ev X 146 0 [some (.ref x), some (.int p1), none] [] W n 0 0 (KH Q o [(NSE, 1)])) : Ev X 147 0 [some (.ref x), some (.int p1), some (.ref o), none] [] W n 0 0 Q := by
  rw [L_hungriest_0, L_hungriest_1, L_hungriest_2, L_hungriest_3, L_hungriest_4 h]
  refine Ev_mono (fun r w2 n2 hr => ?_) H
  cases r with
  | inr e =>
    obtain ⟨k, e1, q⟩ := hr
    have e2 := List.mem_singleton.mp e1
    cases e2
    exact (Kh_e hd_L_hungriest_NSE).mpr (L_hungriest_13.mpr (L_hungriest_14.mpr q))
  | inl v =>
    cases v with
    | none => exact hr.elim
    | some v =>
      cases v with
      | int v =>
        obtain ⟨w3, e, q⟩ := hr
        exact L_hungriest_7.mpr (L_hungriest_8.mpr ⟨w3, e, L_hungriest_9.mpr (L_hungriest_15.mpr (L_hungriest_16.mpr q))⟩)
      | _ => exact hr.elim
theorem hd_L_areNeighbours_IOO : hdl 156 5 IOO = some (4, 22) := by decide +kernel
theorem lh_areNeighbours {p1 p2 : Int32} (h : hasc W x 4 = true) (H : Ev X 155 0 [some (.ref x), some (.int p1), some (.int p2)] [] W n 0 0 (KHB Q o [(IOO, 1)])) : Ev X 156 0 [some (.ref x), some (.int p1), some (.int p2), some (.ref o), none] [] W n 0 0 Q := by
  rw [L_areNeighbours_0, L_areNeighbours_1, L_areNeighbours_2, L_areNeighbours_3, L_areNeighbours_4, L_areNeighbours_5 h]
  refine Ev_mono (fun r w2 n2 hr => ?_) H
  cases r with
  | inr e =>
    obtain ⟨k, e1, q⟩ := hr
    have e2 := List.mem_singleton.mp e1
    cases e2
    exact (Kh_e hd_L_areNeighbours_IOO).mpr (L_areNeighbours_22.mpr (L_areNeighbours_23.mpr q))
  | inl v =>
    cases v with
    | none => exact hr.elim
    | some v =>
      cases v with
      | int v =>
        obtain ⟨w3, e, q⟩ := hr
        refine L_areNeighbours_8.mpr ?_
        by_cases c : v = 0
        · rw [if_pos c] at e ⊢
          exact L_areNeighbours_15.mpr (L_areNeighbours_16.mpr ⟨w3, e, L_areNeighbours_17.mpr (L_areNeighbours_24.mpr (L_areNeighbours_25.mpr q))⟩)
        · rw [if_neg c] at e ⊢
          exact L_areNeighbours_11.mpr (L_areNeighbours_12.mpr (L_areNeighbours_16.mpr ⟨w3, e, L_areNeighbours_17.mpr (L_areNeighbours_24.mpr (L_areNeighbours_25.mpr q))⟩))
      | _ => exact hr.elim
theorem hd_L_append_ISE : hdl 159 4 ISE = some (3, 13) := by decide +kernel
theorem lh_append {p1 : Int32} (h : hasc W x 4 = true) (H : Ev X 158 0 [some (.ref x), some (.int p1)] [] W n 0 0 (KH Q o [(ISE, 1)])) : Ev X 159 0 [some (.ref x), some (.int p1), some (.ref o), none] [] W n 0 0 Q := by
  rw [L_append_0, L_append_1, L_append_2, L_append_3, L_append_4 h]
  refine Ev_mono (fun r w2 n2 hr => ?_) H
  cases r with
  | inr e =>
    obtain ⟨k, e1, q⟩ := hr
    have e2 := List.mem_singleton.mp e1
    cases e2
    exact (Kh_e hd_L_append_ISE).mpr (L_append_13.mpr (L_append_14.mpr q))
  | inl v =>
    cases v with
    | none => exact hr.elim
    | some v =>
      cases v with
      | int v =>
        obtain ⟨w3, e, q⟩ := hr
        exact L_append_7.mpr (L_append_8.mpr ⟨w3, e, L_append_9.mpr (L_append_15.mpr (L_append_16.mpr q))⟩)
      | _ => exact hr.elim
theorem hd_L_commands_IAE : hdl 182 3 IAE = some (2, 12) := by decide +kernel
theorem hd_L_commands_UOE : hdl 182 3 UOE = some (2, 15) := by decide +kernel
theorem lh_commands (h : hasc W x 4 = true) (H : Ev X 181 0 [some (.ref x), none, none] [] W n 0 0 (KH Q o [(IAE, 1), (UOE, 2)])) : Ev X 182 0 [some (.ref x), some (.ref o), none] [] W n 0 0 Q := by
  rw [L_commands_0, L_commands_1, L_commands_2, L_commands_3 h]
  refine Ev_mono (fun r w2 n2 hr => ?_) H
  cases r with
  | inr e =>
    obtain ⟨k, e1, q⟩ := hr
    rcases List.mem_cons.mp e1 with e2 | e2
    · cases e2
      exact (Kh_e hd_L_commands_IAE).mpr (L_commands_12.mpr (L_commands_13.mpr q))
    · have e2 := List.mem_singleton.mp e2
      cases e2
      exact (Kh_e hd_L_commands_UOE).mpr (L_commands_15.mpr (L_commands_16.mpr q))
  | inl v =>
    cases v with
    | none => exact hr.elim
    | some v =>
      cases v with
      | int v =>
        obtain ⟨w3, e, q⟩ := hr
        exact L_commands_6.mpr (L_commands_7.mpr ⟨w3, e, L_commands_8.mpr (L_commands_17.mpr (L_commands_18.mpr q))⟩)
      | _ => exact hr.elim
theorem hd_L_reason_IAE : hdl 193 4 IAE = some (3, 13) := by decide +kernel
theorem hd_L_reason_NSE : hdl 193 4 NSE = some (3, 16) := by decide +kernel
theorem lh_reason {p1 : Int32} (h : hasc W x 4 = true) (H : Ev X 192 0 [some (.ref x), some (.int p1)] [] W n 0 0 (KH Q o [(IAE, 1), (NSE, 2)])) : Ev X 193 0 [some (.ref x), some (.int p1), some (.ref o), none] [] W n 0 0 Q := by
  rw [L_reason_0, L_reason_1, L_reason_2, L_reason_3, L_reason_4 h]
  refine Ev_mono (fun r w2 n2 hr => ?_) H
  cases r with
  | inr e =>
    obtain ⟨k, e1, q⟩ := hr
    rcases List.mem_cons.mp e1 with e2 | e2
    · cases e2
      exact (Kh_e hd_L_reason_IAE).mpr (L_reason_13.mpr (L_reason_14.mpr q))
    · have e2 := List.mem_singleton.mp e2
      cases e2
      exact (Kh_e hd_L_reason_NSE).mpr (L_reason_16.mpr (L_reason_17.mpr q))
  | inl v =>
    cases v with
    | none => exact hr.elim
    | some v =>
      cases v with
      | int v =>
        obtain ⟨w3, e, q⟩ := hr
        exact L_reason_7.mpr (L_reason_8.mpr ⟨w3, e, L_reason_9.mpr (L_reason_18.mpr (L_reason_19.mpr q))⟩)
      | _ => exact hr.elim
theorem hd_L_character_IOO : hdl 200 4 IOO = some (3, 13) := by decide +kernel
theorem lh_character {p1 : Int32} (h : hasc W x 4 = true) (H : Ev X 199 0 [some (.ref x), some (.int p1)] [] W n 0 0 (KH Q o [(IOO, 1)])) : Ev X 200 0 [some (.ref x), some (.int p1), some (.ref o), none] [] W n 0 0 Q := by
  rw [L_character_0, L_character_1, L_character_2, L_character_3, L_character_4 h]
  refine Ev_mono (fun r w2 n2 hr => ?_) H
  cases r with
  | inr e =>
    obtain ⟨k, e1, q⟩ := hr
    have e2 := List.mem_singleton.mp e1
    cases e2
    exact (Kh_e hd_L_character_IOO).mpr (L_character_13.mpr (L_character_14.mpr q))
  | inl v =>
    cases v with
    | none => exact hr.elim
    | some v =>
      cases v with
      | int v =>
        obtain ⟨w3, e, q⟩ := hr
        exact L_character_7.mpr (L_character_8.mpr ⟨w3, e, L_character_9.mpr (L_character_15.mpr (L_character_16.mpr q))⟩)
      | _ => exact hr.elim
theorem hd_L_meanWait_ARE : hdl 204 3 ARE = some (2, 11) := by decide +kernel
theorem lh_meanWait (h : hasc W x 4 = true) (H : Ev X 203 0 [some (.ref x), none] [] W n 0 0 (KHD Q o [(ARE, 1)])) : Ev X 204 0 [some (.ref x), some (.ref o), none] [] W n 0 0 Q := by
  rw [L_meanWait_0, L_meanWait_1, L_meanWait_2, L_meanWait_3 h]
  refine Ev_mono (fun r w2 n2 hr => ?_) H
  cases r with
  | inr e =>
    obtain ⟨k, e1, q⟩ := hr
    have e2 := List.mem_singleton.mp e1
    cases e2
    exact (Kh_e hd_L_meanWait_ARE).mpr (L_meanWait_11.mpr (L_meanWait_12.mpr q))
  | inl v =>
    cases v with
    | none => exact hr.elim
    | some v =>
      cases v with
      | double v =>
        obtain ⟨w3, e, q⟩ := hr
        exact L_meanWait_6.mpr ⟨w3, e, L_meanWait_7.mpr (L_meanWait_13.mpr (L_meanWait_14.mpr q))⟩
      | _ => exact hr.elim
theorem hd_L_fairness_ARE : hdl 209 3 ARE = some (2, 12) := by decide +kernel
theorem lh_fairness (h : hasc W x 4 = true) (H : Ev X 208 0 [some (.ref x), none] [] W n 0 0 (KHF Q o [(ARE, 1)])) : Ev X 209 0 [some (.ref x), some (.ref o), none] [] W n 0 0 Q := by
  rw [L_fairness_0, L_fairness_1, L_fairness_2, L_fairness_3 h]
  refine Ev_mono (fun r w2 n2 hr => ?_) H
  cases r with
  | inr e =>
    obtain ⟨k, e1, q⟩ := hr
    have e2 := List.mem_singleton.mp e1
    cases e2
    exact (Kh_e hd_L_fairness_ARE).mpr (L_fairness_12.mpr (L_fairness_13.mpr q))
  | inl v =>
    cases v with
    | none => exact hr.elim
    | some v =>
      cases v with
      | float v =>
        obtain ⟨hn, w3, e, q⟩ := hr
        exact (L_fairness_6 hn).mpr (L_fairness_7.mpr ⟨w3, e, L_fairness_8.mpr (L_fairness_14.mpr (L_fairness_15.mpr q))⟩)
      | _ => exact hr.elim
theorem hd_L_account_IAE : hdl 213 4 IAE = some (3, 13) := by decide +kernel
theorem lh_account {p1 : Int32} (h : hasc W x 4 = true) (H : Ev X 212 0 [some (.ref x), some (.int p1)] [] W n 0 0 (KH Q o [(IAE, 1)])) : Ev X 213 0 [some (.ref x), some (.int p1), some (.ref o), none] [] W n 0 0 Q := by
  rw [L_account_0, L_account_1, L_account_2, L_account_3, L_account_4 h]
  refine Ev_mono (fun r w2 n2 hr => ?_) H
  cases r with
  | inr e =>
    obtain ⟨k, e1, q⟩ := hr
    have e2 := List.mem_singleton.mp e1
    cases e2
    exact (Kh_e hd_L_account_IAE).mpr (L_account_13.mpr (L_account_14.mpr q))
  | inl v =>
    cases v with
    | none => exact hr.elim
    | some v =>
      cases v with
      | int v =>
        obtain ⟨w3, e, q⟩ := hr
        exact L_account_7.mpr (L_account_8.mpr ⟨w3, e, L_account_9.mpr (L_account_15.mpr (L_account_16.mpr q))⟩)
      | _ => exact hr.elim
theorem hd_L_undo_ISE : hdl 216 3 ISE = some (2, 12) := by decide +kernel
theorem lh_undo (h : hasc W x 4 = true) (H : Ev X 215 0 [some (.ref x)] [] W n 0 0 (KH Q o [(ISE, 1)])) : Ev X 216 0 [some (.ref x), some (.ref o), none] [] W n 0 0 Q := by
  rw [L_undo_0, L_undo_1, L_undo_2, L_undo_3 h]
  refine Ev_mono (fun r w2 n2 hr => ?_) H
  cases r with
  | inr e =>
    obtain ⟨k, e1, q⟩ := hr
    have e2 := List.mem_singleton.mp e1
    cases e2
    exact (Kh_e hd_L_undo_ISE).mpr (L_undo_12.mpr (L_undo_13.mpr q))
  | inl v =>
    cases v with
    | none => exact hr.elim
    | some v =>
      cases v with
      | int v =>
        obtain ⟨w3, e, q⟩ := hr
        exact L_undo_6.mpr (L_undo_7.mpr ⟨w3, e, L_undo_8.mpr (L_undo_14.mpr (L_undo_15.mpr q))⟩)
      | _ => exact hr.elim
theorem hd_L_restore_ISE : hdl 221 3 ISE = some (2, 12) := by decide +kernel
theorem lh_restore (h : hasc W x 4 = true) (H : Ev X 220 0 [some (.ref x)] [] W n 0 0 (KH Q o [(ISE, 1)])) : Ev X 221 0 [some (.ref x), some (.ref o), none] [] W n 0 0 Q := by
  rw [L_restore_0, L_restore_1, L_restore_2, L_restore_3 h]
  refine Ev_mono (fun r w2 n2 hr => ?_) H
  cases r with
  | inr e =>
    obtain ⟨k, e1, q⟩ := hr
    have e2 := List.mem_singleton.mp e1
    cases e2
    exact (Kh_e hd_L_restore_ISE).mpr (L_restore_12.mpr (L_restore_13.mpr q))
  | inl v =>
    cases v with
    | none => exact hr.elim
    | some v =>
      cases v with
      | int v =>
        obtain ⟨w3, e, q⟩ := hr
        exact L_restore_6.mpr (L_restore_7.mpr ⟨w3, e, L_restore_8.mpr (L_restore_14.mpr (L_restore_15.mpr q))⟩)
      | _ => exact hr.elim
end LHP
