section ROWS3
variable {X : Cxt} {M pc : Nat} {ls : Lcs} {st : Stk} {w : Wld} {n : Option Nat} {c sl : Nat} {Q : (Option Value ⊕ String) → Wld → Option Nat → Prop}
theorem ent_eq {M k : Nat} {vs : List Value} (h : mL M - vs.length = k) : entl M vs = vs.map some ++ List.replicate k none := by
  unfold entl
  rw [h]
def only (cls : String) (ci : Nat) : Bool := (List.range 6).all (fun j => ((KL.getD j ("", TX0, 0)).1 == cls) == Nat.beq j ci) && !("" == cls) && decide (ci < 6)
theorem rc_gen {M2 ci b : Nat} (hn : Nat.beq (mK M2) 1 = false) (ho : only (mY M2).cls ci = true) : rcv X w M2 b = hasc w b ci := by
  unfold only at ho
  simp only [Bool.and_eq_true, List.all_eq_true, Bool.not_eq_true', beq_eq_false_iff_ne, decide_eq_true_eq] at ho
  refine rcv_eq hn (fun j hj => ?_) ho.1.2 ho.2
  have h1 := ho.1.1 j (List.mem_range.mpr hj)
  rw [beq_iff_eq] at h1
  constructor
  · intro h
    have h2 : ((KL.getD j ("", TX0, 0)).1 == (mY M2).cls) = true := beq_iff_eq.mpr h
    rw [h1] at h2
    exact Nat.eq_of_beq_eq_true h2
  · intro h
    have h2 : Nat.beq j ci = true := by rw [h]; exact Nat.beq_refl ci
    rw [h2] at h1
    exact beq_iff_eq.mp h1
theorem rc_Refusal {M2 b : Nat} (hn : Nat.beq (mK M2) 1 = false) (ho : only (mY M2).cls 0 = true) : rcv X w M2 b = hasc w b 0 := rc_gen hn ho
theorem rc_Seat {M2 b : Nat} (hn : Nat.beq (mK M2) 1 = false) (ho : only (mY M2).cls 1 = true) : rcv X w M2 b = hasc w b 1 := rc_gen hn ho
theorem rc_Table {M2 b : Nat} (hn : Nat.beq (mK M2) 1 = false) (ho : only (mY M2).cls 2 = true) : rcv X w M2 b = hasc w b 2 := rc_gen hn ho
theorem rc_Text {M2 b : Nat} (hn : Nat.beq (mK M2) 1 = false) (ho : only (mY M2).cls 3 = true) : rcv X w M2 b = hasc w b 3 := rc_gen hn ho
theorem rc_SoupTable {M2 b : Nat} (hn : Nat.beq (mK M2) 1 = false) (ho : only (mY M2).cls 4 = true) : rcv X w M2 b = hasc w b 4 := rc_gen hn ho
theorem rc_SoupTableModel {M2 b : Nat} (hn : Nat.beq (mK M2) 1 = false) (ho : only (mY M2).cls 5 = true) : rcv X w M2 b = hasc w b 5 := rc_gen hn ho
theorem rcS {M2 b : Nat} (hn : mK M2 = 1) : rcv X w M2 b = (X.2.1 b).isSome := by
  unfold rcv
  rw [hn]
  rfl
end ROWS3
section ROWS4
variable {X : Cxt} {M pc : Nat} {ls : Lcs} {st : Stk} {w : Wld} {n : Option Nat} {c sl : Nat} {Q : (Option Value ⊕ String) → Wld → Option Nat → Prop}
theorem E_getS0 {idx a v : Nat} (hk : okP M = true) (hn : mK M = 1) (hd : decode (mB M) pc = .ok (.getfield idx, 3)) (hf : sff (mN M) idx = some 0) (h : X.2.1 a = some v) : Ev X M pc ls (.ref a :: st) w n c sl Q ↔ Ev X M (pc + 3) ls (.ref v :: st) w n c sl Q := by
  refine Ev_nx (q := (pc + 3, ls, .ref v :: st, w, n, c, sl)) hd ?_
  rw [okP_mk hk]
  show g1 3 3 _ = _
  rw [g1_same]
  show (match mK M with | 1 => _ | _ => _) = _
  rw [hn]
  show (match X.2.1 a, sff (mN M) idx with | some v, some 0 => _ | some _, some _ => _ | _, _ => none) = _
  rw [h, hf]
  rfl
theorem E_getS1 {idx a v : Nat} (hk : okP M = true) (hn : mK M = 1) (hd : decode (mB M) pc = .ok (.getfield idx, 3)) (hf : sff (mN M) idx = some 1) (h : X.2.1 a = some v) : Ev X M pc ls (.ref a :: st) w n c sl Q ↔ Ev X M (pc + 3) ls (.int 0 :: st) w n c sl Q := by
  refine Ev_nx (q := (pc + 3, ls, .int 0 :: st, w, n, c, sl)) hd ?_
  rw [okP_mk hk]
  show g1 3 3 _ = _
  rw [g1_same]
  show (match mK M with | 1 => _ | _ => _) = _
  rw [hn]
  show (match X.2.1 a, sff (mN M) idx with | some v, some 0 => _ | some _, some _ => _ | _, _ => none) = _
  rw [h, hf]
  rfl
theorem E_ldcwS {idx j : Nat} (hk : okP M = true) (hd : decode (mB M) pc = .ok (.ldc_w idx, 3)) (h0 : icst (mN M) idx = none) (hl : lit (mN M) idx = some j) : Ev X M pc ls st w n c sl Q ↔ Ev X M (pc + 3) ls (.ref (X.1 j) :: st) w n c sl Q := by
  refine Ev_nx (q := (pc + 3, ls, .ref (X.1 j) :: st, w, n, c, sl)) hd ?_
  rw [okP_mk hk]
  show g1 3 3 (match icst (mN M) idx with | some v => _ | none => match lit (mN M) idx with | some j => _ | none => none) = _
  rw [g1_same, h0, hl]
  rfl
theorem E_bald {a : Nat} {j : Int32} {q : Nat × (Nat → Int32)} (hk : okP M = true) (hd : decode (mB M) pc = .ok (.baload, 1)) (h : X.2.2.1 a = some q) (h2 : inr_ j q.1 = true) : Ev X M pc ls (.int j :: .ref a :: st) w n c sl Q ↔ Ev X M (pc + 1) ls (.int (q.2 j.toNatClampNeg) :: st) w n c sl Q := by
  refine Ev_nx (q := (pc + 1, ls, .int (q.2 j.toNatClampNeg) :: st, w, n, c, sl)) hd ?_
  rw [okP_mk hk]
  show g1 1 1 (match X.2.2.1 a with | some q => if inr_ j q.1 = true then _ else none | none => none) = _
  rw [g1_same, h]
  dsimp only
  rw [if_pos h2]
  rfl
theorem E_alenS {a : Nat} {q : Nat × (Nat → Int32)} (hk : okP M = true) (hn : mK M = 1) (hd : decode (mB M) pc = .ok (.arraylength, 1)) (h : X.2.2.1 a = some q) : Ev X M pc ls (.ref a :: st) w n c sl Q ↔ Ev X M (pc + 1) ls (.int (Int32.ofNat q.1) :: st) w n c sl Q := by
  refine Ev_nx (q := (pc + 1, ls, .int (Int32.ofNat q.1) :: st, w, n, c, sl)) hd ?_
  rw [okP_mk hk]
  show g1 1 1 (match mK M with | 2 => _ | 1 => _ | _ => none) = _
  rw [g1_same, hn]
  show (match X.2.2.1 a with | some q => _ | none => none) = _
  rw [h]
  rfl
theorem E_gst0 {idx : Nat} (hk : okP M = true) (hd : decode (mB M) pc = .ok (.getstatic idx, 3)) (hf : sgf (mN M) idx = some 0) : Ev X M pc ls st w n c sl Q ↔ Ev X M (pc + 3) ls (.int 1 :: st) w n c sl Q := by
  refine Ev_nx (q := (pc + 3, ls, .int 1 :: st, w, n, c, sl)) hd ?_
  rw [okP_mk hk]
  show g1 3 3 (match sgf (mN M) idx with | some 0 => _ | some _ => _ | none => none) = _
  rw [g1_same, hf]
  rfl
theorem E_gst1 {idx : Nat} (hk : okP M = true) (hd : decode (mB M) pc = .ok (.getstatic idx, 3)) (hf : sgf (mN M) idx = some 1) : Ev X M pc ls st w n c sl Q ↔ Ev X M (pc + 3) ls (va_rf X.2.2.2.1 :: st) w n c sl Q := by
  refine Ev_nx (q := (pc + 3, ls, va_rf X.2.2.2.1 :: st, w, n, c, sl)) hd ?_
  rw [okP_mk hk]
  show g1 3 3 (match sgf (mN M) idx with | some 0 => _ | some _ => _ | none => none) = _
  rw [g1_same, hf]
  rfl
theorem cat_rf (o : Option Nat) : (va_rf o).category = 1 := by cases o <;> rfl
theorem popv_rf {x y : Int32} {o : Option Nat} {st : Stk} : popv 3 (va_rf o :: .int y :: .int x :: st) [] = some ([.int x, .int y, va_rf o], st) := by
  unfold popv
  rw [if_pos (cat_rf o)]
  rfl
theorem E_ddiv {p q : UInt64} (hk : okP M = true) (hd : decode (mB M) pc = .ok (.ddiv, 1)) (h : n64 (FP.ddiv p q) = true) : Ev X M pc ls (.double q :: .double p :: st) w n c sl Q ↔ Ev X M (pc + 1) ls (.double (FP.ddiv p q) :: st) w n c sl Q := by
  refine E_p hk hd rfl ?_
  show g1 1 1 (gc (n64 (FP.ddiv p q)) _) = _
  rw [g1_same, h]
  rfl
theorem E_fdiv {p q : UInt32} (hk : okP M = true) (hd : decode (mB M) pc = .ok (.fdiv, 1)) (h : n32 (FP.fdiv p q) = true) : Ev X M pc ls (.float q :: .float p :: st) w n c sl Q ↔ Ev X M (pc + 1) ls (.float (FP.fdiv p q) :: st) w n c sl Q := by
  refine E_p hk hd rfl ?_
  show g1 1 1 (gc (n32 (FP.fdiv p q)) _) = _
  rw [g1_same, h]
  rfl
theorem E_dreturn {p : UInt64} (hk : okP M = true) (hd : decode (mB M) pc = .ok (.dreturn, 1)) (hr : mR M = some .double) : Ev X M pc ls [.double p] w n c sl Q ↔ Q (.inl (some (.double p))) w n := by
  refine Ev_out (o := (.inl (some (.double p)), w, n)) hd ?_
  rw [okP_mk hk]
  show g1 1 1 (gc (decide (mR M = some .double)) _) = _
  rw [g1_same, hr]
  rfl
theorem E_freturn {p : UInt32} (hk : okP M = true) (hd : decode (mB M) pc = .ok (.freturn, 1)) (hr : mR M = some .float) : Ev X M pc ls [.float p] w n c sl Q ↔ Q (.inl (some (.float p))) w n := by
  refine Ev_out (o := (.inl (some (.float p)), w, n)) hd ?_
  rw [okP_mk hk]
  show g1 1 1 (gc (decide (mR M = some .float)) _) = _
  rw [g1_same, hr]
  rfl
/-- the store of a reference: the array's kind is the object's class's -/
def saq (w : Wld) (a : Nat) (j : Int32) (b : Nat) : Option Wld := match hasc w b 1, sa w a 4 j (.ref b) with
  | true, some w2 => some w2
  | _, _ => match hasc w b 2, sa w a 5 j (.ref b) with
    | true, some w2 => some w2
    | _, _ => none
theorem E_aast {a b : Nat} {j : Int32} (hk : okP M = true) (hd : decode (mB M) pc = .ok (.aastore, 1)) : Ev X M pc ls (.ref b :: .int j :: .ref a :: st) w n c sl Q ↔ ∃ w2, saq w a j b = some w2 ∧ Ev X M (pc + 1) ls st w2 n c sl Q := by
  refine E_rd (r := saq w a j b) (q := fun w2 => (pc + 1, ls, st, w2, n, c, sl)) hd ?_
  rw [okP_mk hk]
  show g1 1 1 (match hasc w b 1, sa w a 4 j (.ref b) with
      | true, some w2 => nxt (pc + 1) ls st w2 n c sl
      | _, _ => match hasc w b 2, sa w a 5 j (.ref b) with
        | true, some w2 => nxt (pc + 1) ls st w2 n c sl
        | _, _ => none) = _
  rw [g1_same]
  unfold saq
  cases hasc w b 1 <;> cases sa w a 4 j (.ref b) <;> cases hasc w b 2 <;> cases sa w a 5 j (.ref b) <;> rfl
end ROWS4
