section ROWS3
variable {X : Cxt} {M pc : Nat} {ls : Lcs} {st : Stk} {w : Wld} {n : Option Nat} {c sl : Nat} {Q : (Option Value ⊕ String) → Wld → Option Nat → Prop}
theorem ent_eq {M k : Nat} {vs : List Value} (h : mL M - vs.length = k) : entl M vs = vs.map some ++ List.replicate k none := by
  unfold entl
  rw [h]
def only (cls : String) (ci : Nat) : Bool := (List.range 6).all (fun j => ((KL.getD j ("", TX0, 0)).1 == cls) == Nat.beq j ci) && !("" == cls) && decide (ci < 6)
theorem rc_gen {M2 ci b : Nat} (hn : Nat.beq (mK M2) 1 = false) (ho : only (mY M2).cls ci = true) : rcv X w M2 b = hasc w b ci := by
  unfold only at ho
  simp only [Bool.and_eq_true, List.all_eq_true, Bool.not_eq_true', beq_eq_false_iff_ne, decide_eq_true_eq] at ho
  refine rcv_eq hn (fun j hj => ?_) ho.1.2 ho.2
  have h1 := ho.1.1 j (List.mem_range.mpr hj)
  rw [beq_iff_eq] at h1
  constructor
  · intro h
    have h2 : ((KL.getD j ("", TX0, 0)).1 == (mY M2).cls) = true := beq_iff_eq.mpr h
    rw [h1] at h2
    exact Nat.eq_of_beq_eq_true h2
  · intro h
    have h2 : Nat.beq j ci = true := by rw [h]; exact Nat.beq_refl ci
    rw [h2] at h1
    exact beq_iff_eq.mp h1
theorem rc_Refusal {M2 b : Nat} (hn : Nat.beq (mK M2) 1 = false) (ho : only (mY M2).cls 0 = true) : rcv X w M2 b = hasc w b 0 := rc_gen hn ho
theorem rc_Seat {M2 b : Nat} (hn : Nat.beq (mK M2) 1 = false) (ho : only (mY M2).cls 1 = true) : rcv X w M2 b = hasc w b 1 := rc_gen hn ho
theorem rc_Table {M2 b : Nat} (hn : Nat.beq (mK M2) 1 = false) (ho : only (mY M2).cls 2 = true) : rcv X w M2 b = hasc w b 2 := rc_gen hn ho
theorem rc_Text {M2 b : Nat} (hn : Nat.beq (mK M2) 1 = false) (ho : only (mY M2).cls 3 = true) : rcv X w M2 b = hasc w b 3 := rc_gen hn ho
theorem rc_SoupTable {M2 b : Nat} (hn : Nat.beq (mK M2) 1 = false) (ho : only (mY M2).cls 4 = true) : rcv X w M2 b = hasc w b 4 := rc_gen hn ho
theorem rc_SoupTableModel {M2 b : Nat} (hn : Nat.beq (mK M2) 1 = false) (ho : only (mY M2).cls 5 = true) : rcv X w M2 b = hasc w b 5 := rc_gen hn ho
theorem rcS {M2 b : Nat} (hn : mK M2 = 1) : rcv X w M2 b = (X.2.1 b).isSome := by
  unfold rcv
  rw [hn]
  rfl
end ROWS3
