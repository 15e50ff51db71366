/-! ===== the two quotients are numbers ===== -/
theorem n64_iff {r : UInt64} : n64 r = true ↔ FP.Core.val64 r ≠ .nan := by
  have e1 : (r &&& 0x7fffffffffffffff).toNat = r.toNat % 2 ^ 63 := by
    rw [UInt64.toNat_and]
    exact Nat.and_two_pow_sub_one_eq_mod r.toNat 63
  have e2 : (r &&& 0x7fffffffffffffff ≤ 0x7ff0000000000000) ↔ r.toNat % 2 ^ 63 ≤ 9218868437227405312 := by
    rw [UInt64.le_iff_toNat_le, e1]
    exact Iff.rfl
  have hr := r.toNat_lt
  have e3 : n64 r = true ↔ r.toNat % 2 ^ 63 ≤ 9218868437227405312 := by
    unfold n64
    rw [decide_eq_true_iff, e2]
  rw [e3]
  have d : FP.Core.val64 r = if r.toNat / 4503599627370496 % 2048 = 2047 then (if r.toNat % 4503599627370496 = 0 then .inf (FP.Core.fieldS FP.Core.b64 r.toNat) else .nan) else if r.toNat / 4503599627370496 % 2048 = 0 then .fin (FP.Core.fieldS FP.Core.b64 r.toNat) (FP.Core.fieldT FP.Core.b64 r.toNat) FP.Core.b64.qmin else .fin (FP.Core.fieldS FP.Core.b64 r.toNat) (FP.Core.b64.tails + FP.Core.fieldT FP.Core.b64 r.toNat) (FP.Core.b64.qmin + ((FP.Core.fieldE FP.Core.b64 r.toNat : Int) - 1)) := rfl
  rw [d]
  by_cases c1 : r.toNat / 4503599627370496 % 2048 = 2047
  · rw [if_pos c1]
    by_cases c2 : r.toNat % 4503599627370496 = 0
    · rw [if_pos c2]
      exact ⟨fun _ h => (by cases h), fun _ => (by omega)⟩
    · rw [if_neg c2]
      exact ⟨fun h => by omega, fun h => absurd rfl h⟩
  · rw [if_neg c1]
    refine ⟨fun _ h => ?_, fun _ => by omega⟩
    split at h <;> cases h
theorem n32_iff {r : UInt32} : n32 r = true ↔ FP.Core.val32 r ≠ .nan := by
  have e1 : (r &&& 0x7fffffff).toNat = r.toNat % 2 ^ 31 := by
    rw [UInt32.toNat_and]
    exact Nat.and_two_pow_sub_one_eq_mod r.toNat 31
  have e2 : (r &&& 0x7fffffff ≤ 0x7f800000) ↔ r.toNat % 2 ^ 31 ≤ 2139095040 := by
    rw [UInt32.le_iff_toNat_le, e1]
    exact Iff.rfl
  have hr := r.toNat_lt
  have e3 : n32 r = true ↔ r.toNat % 2 ^ 31 ≤ 2139095040 := by
    unfold n32
    rw [decide_eq_true_iff, e2]
  rw [e3]
  have d : FP.Core.val32 r = if r.toNat / 8388608 % 256 = 255 then (if r.toNat % 8388608 = 0 then .inf (FP.Core.fieldS FP.Core.b32 r.toNat) else .nan) else if r.toNat / 8388608 % 256 = 0 then .fin (FP.Core.fieldS FP.Core.b32 r.toNat) (FP.Core.fieldT FP.Core.b32 r.toNat) FP.Core.b32.qmin else .fin (FP.Core.fieldS FP.Core.b32 r.toNat) (FP.Core.b32.tails + FP.Core.fieldT FP.Core.b32 r.toNat) (FP.Core.b32.qmin + ((FP.Core.fieldE FP.Core.b32 r.toNat : Int) - 1)) := rfl
  rw [d]
  by_cases c1 : r.toNat / 8388608 % 256 = 255
  · rw [if_pos c1]
    by_cases c2 : r.toNat % 8388608 = 0
    · rw [if_pos c2]
      exact ⟨fun _ h => (by cases h), fun _ => (by omega)⟩
    · rw [if_neg c2]
      exact ⟨fun h => by omega, fun h => absurd rfl h⟩
  · rw [if_neg c1]
    refine ⟨fun _ h => ?_, fun _ => by omega⟩
    split at h <;> cases h
theorem rr_num {f : FP.Core.Fmt} {s : Bool} {a b : Nat} {e : Int} : FP.Core.roundRatio f s a b e ≠ .nan := by
  unfold FP.Core.roundRatio FP.Core.roundAt FP.Core.settle FP.Core.bound
  intro h
  (repeat' split at h) <;> cases h
theorem q_num2 {f : FP.Core.Fmt} {i j : Int} {x y : FP.Core.Datum} (hx : FP.Core.Whole i x) (hy : FP.Core.Whole j y) (hj : j ≠ 0) : FP.Core.quotient f x y ≠ .nan := by
  cases x with
  | nan => exact absurd hx id
  | inf s => exact absurd hx id
  | fin s c q =>
    cases y with
    | nan => exact absurd hy id
    | inf s => exact absurd hy id
    | fin t d r =>
      have hd : ¬ d = 0 := fun z => hj ((FP.Core.whole_zero hy).mp z)
      have e : FP.Core.quotient f (.fin s c q) (.fin t d r) = FP.Core.roundRatio f (s != t) c d (q - r) := if_neg hd
      rw [e]
      exact rr_num
theorem n64_mean {a b : Int32} (hb : b ≠ 0) : n64 (FP.ddiv (FP.i2d a) (FP.i2d b)) = true := by
  rw [n64_iff]
  show FP.Core.val64 (FP.Core.ddiv (FP.Core.i2d a) (FP.Core.i2d b)) ≠ .nan
  rw [FP.Core.val64_ddiv]
  exact q_num2 (FP.Core.i2d_int a) (FP.Core.i2d_int b) (fun z => hb (Int32.toInt_inj.mp z))
theorem n32_fair {a b : Int32} (hb : b ≠ 0) (ha : a.toInt.natAbs ≤ 2 ^ 24) (hb2 : b.toInt.natAbs ≤ 2 ^ 24) : n32 (FP.fdiv (FP.i2f a) (FP.i2f b)) = true := by
  rw [n32_iff]
  show FP.Core.val32 (FP.Core.fdiv (FP.Core.i2f a) (FP.Core.i2f b)) ≠ .nan
  rw [FP.Core.val32_fdiv]
  exact q_num2 (FP.Core.i2f_int ha) (FP.Core.i2f_int hb2) (fun z => hb (Int32.toInt_inj.mp z))
theorem n64_f2d {x : UInt32} (hx : n32 x = true) : n64 (FP.f2d x) = true := by
  have h := n32_iff.mp hx
  have e : FP.f2d x = FP.Core.f2d x := by
    unfold FP.f2d
    rw [if_neg (fun z => h ((FP.Core.fIsNaN_iff x).mp z))]
  rw [e, n64_iff, FP.Core.val64_f2d]
  cases hv : FP.Core.val32 x with
  | nan => exact absurd hv h
  | inf s => exact fun z => by cases z
  | fin s c q => exact rr_num
theorem dc_self {x : UInt64} (hx : n64 x = true) : FP.dcmp x x = some .eq := FP.Core.dcmp_self (n64_iff.mp hx)
