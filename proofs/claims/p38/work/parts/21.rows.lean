section ROWS3
variable {X : Cxt} {M pc : Nat} {ls : Lcs} {st : Stk} {w : Wld} {n : Option Nat} {c sl : Nat} {Q : (Option Value ⊕ String) → Wld → Option Nat → Prop}
theorem ent_eq {M k : Nat} {vs : List Value} (h : mL M - vs.length = k) : entl M vs = vs.map some ++ List.replicate k none := by
  unfold entl
  rw [h]
def only (cls : String) (ci : Nat) : Bool := (List.range 7).all (fun j => ((KL.getD j ("", TX0, 0)).1 == cls) == Nat.beq j ci) && !("" == cls) && decide (ci < 7)
theorem only_ok {cls : String} {ci : Nat} (ho : only cls ci = true) : (∀ j : Nat, j < 7 → ((KL.getD j ("", TX0, 0)).1 = cls ↔ j = ci)) ∧ ¬ "" = cls ∧ ci < 7 := by
  unfold only at ho
  simp only [Bool.and_eq_true, List.all_eq_true, Bool.not_eq_true', beq_eq_false_iff_ne, decide_eq_true_eq] at ho
  refine ⟨fun j hj => ?_, ho.1.2, ho.2⟩
  have h1 := ho.1.1 j (List.mem_range.mpr hj)
  rw [beq_iff_eq] at h1
  constructor
  · intro h
    have h2 : ((KL.getD j ("", TX0, 0)).1 == cls) = true := beq_iff_eq.mpr h
    rw [h1] at h2
    exact Nat.eq_of_beq_eq_true h2
  · intro h
    have h2 : Nat.beq j ci = true := by rw [h]; exact Nat.beq_refl ci
    rw [h2] at h1
    exact beq_iff_eq.mp h1
theorem rc_gen {M2 ci b : Nat} (hn : Nat.beq (mK M2) 1 = false) (ho : only (rco (mY M2).cls) ci = true) : rcv X w M2 b = hasc w b ci := rcv_eq hn (only_ok ho).1 (only_ok ho).2.1 (only_ok ho).2.2
theorem rc_Refusal {M2 b : Nat} (hn : Nat.beq (mK M2) 1 = false) (ho : only (rco (mY M2).cls) 0 = true) : rcv X w M2 b = hasc w b 0 := rc_gen hn ho
theorem rc_Seat {M2 b : Nat} (hn : Nat.beq (mK M2) 1 = false) (ho : only (rco (mY M2).cls) 1 = true) : rcv X w M2 b = hasc w b 1 := rc_gen hn ho
theorem rc_Table {M2 b : Nat} (hn : Nat.beq (mK M2) 1 = false) (ho : only (rco (mY M2).cls) 2 = true) : rcv X w M2 b = hasc w b 2 := rc_gen hn ho
theorem rc_Text {M2 b : Nat} (hn : Nat.beq (mK M2) 1 = false) (ho : only (rco (mY M2).cls) 3 = true) : rcv X w M2 b = hasc w b 3 := rc_gen hn ho
theorem rc_SoupTable {M2 b : Nat} (hn : Nat.beq (mK M2) 1 = false) (ho : only (rco (mY M2).cls) 4 = true) : rcv X w M2 b = hasc w b 4 := rc_gen hn ho
/-- a receiver of the JDK's in the world -/
theorem rcJ {M2 ci b : Nat} (ho : only (rco (mY M2).cls) ci = true) (h : hasc w b ci = true) : rcv X w M2 b = true := rcv_j (only_ok ho).1 (only_ok ho).2.1 (only_ok ho).2.2 h
theorem rcS {M2 b : Nat} (hn : mK M2 = 1) (ho : rco (mY M2).cls = "java/lang/String") (h : (X.2.1 b).isSome = true) : rcv X w M2 b = true := by
  unfold rcv
  rw [hn]
  show ((X.2.1 b).isSome && decide (rco (mY M2).cls = "java/lang/String") || rcw w M2 b) = true
  rw [h, ho]
  rfl
end ROWS3
section ROWS4
variable {X : Cxt} {M pc : Nat} {ls : Lcs} {st : Stk} {w : Wld} {n : Option Nat} {c sl : Nat} {Q : (Option Value ⊕ String) → Wld → Option Nat → Prop}
theorem E_getS0 {idx a v : Nat} (hk : okP M = true) (hn : mK M = 1) (hd : decode (mB M) pc = .ok (.getfield idx, 3)) (hf : sff (mN M) idx = some 0) (h : X.2.1 a = some v) : Ev X M pc ls (.ref a :: st) w n c sl Q ↔ Ev X M (pc + 3) ls (.ref v :: st) w n c sl Q := by
  refine Ev_nx (q := (pc + 3, ls, .ref v :: st, w, n, c, sl)) hd ?_
  rw [okP_mk hk]
  show g1 3 3 _ = _
  rw [g1_same]
  show (match mK M with | 1 => _ | _ => _) = _
  rw [hn]
  show (match X.2.1 a with | some v => (match sff (mN M) idx with | some 0 => _ | some _ => _ | none => none) | none => _) = _
  rw [h, hf]
  rfl
theorem E_getS1 {idx a v : Nat} (hk : okP M = true) (hn : mK M = 1) (hd : decode (mB M) pc = .ok (.getfield idx, 3)) (hf : sff (mN M) idx = some 1) (h : X.2.1 a = some v) : Ev X M pc ls (.ref a :: st) w n c sl Q ↔ Ev X M (pc + 3) ls (.int 0 :: st) w n c sl Q := by
  refine Ev_nx (q := (pc + 3, ls, .int 0 :: st, w, n, c, sl)) hd ?_
  rw [okP_mk hk]
  show g1 3 3 _ = _
  rw [g1_same]
  show (match mK M with | 1 => _ | _ => _) = _
  rw [hn]
  show (match X.2.1 a with | some v => (match sff (mN M) idx with | some 0 => _ | some _ => _ | none => none) | none => _) = _
  rw [h, hf]
  rfl
theorem E_ldcwS {idx j : Nat} (hk : okP M = true) (hd : decode (mB M) pc = .ok (.ldc_w idx, 3)) (h0 : icst (mN M) idx = none) (hl : lit (mN M) idx = some j) : Ev X M pc ls st w n c sl Q ↔ Ev X M (pc + 3) ls (.ref (X.1 j) :: st) w n c sl Q := by
  refine Ev_nx (q := (pc + 3, ls, .ref (X.1 j) :: st, w, n, c, sl)) hd ?_
  rw [okP_mk hk]
  show g1 3 3 (match icst (mN M) idx with | some v => _ | none => match lit (mN M) idx with | some j => _ | none => none) = _
  rw [g1_same, h0, hl]
  rfl
theorem E_bald {a : Nat} {j : Int32} {q : Nat × (Nat → Int32)} (hk : okP M = true) (hd : decode (mB M) pc = .ok (.baload, 1)) (h : X.2.2.1 a = some q) (h2 : inr_ j q.1 = true) : Ev X M pc ls (.int j :: .ref a :: st) w n c sl Q ↔ Ev X M (pc + 1) ls (.int (q.2 j.toNatClampNeg) :: st) w n c sl Q := by
  refine Ev_nx (q := (pc + 1, ls, .int (q.2 j.toNatClampNeg) :: st, w, n, c, sl)) hd ?_
  rw [okP_mk hk]
  show g1 1 1 (match X.2.2.1 a with | some q => if inr_ j q.1 = true then _ else none | none => _) = _
  rw [g1_same, h]
  dsimp only
  rw [if_pos h2]
  rfl
theorem E_alenS {a : Nat} {q : Nat × (Nat → Int32)} (hk : okP M = true) (hn : mK M = 1) (hd : decode (mB M) pc = .ok (.arraylength, 1)) (h : X.2.2.1 a = some q) : Ev X M pc ls (.ref a :: st) w n c sl Q ↔ Ev X M (pc + 1) ls (.int (Int32.ofNat q.1) :: st) w n c sl Q := by
  refine Ev_nx (q := (pc + 1, ls, .int (Int32.ofNat q.1) :: st, w, n, c, sl)) hd ?_
  rw [okP_mk hk]
  show g1 1 1 (match mK M with | 2 => _ | 1 => _ | _ => none) = _
  rw [g1_same, hn]
  show (match X.2.2.1 a with | some q => _ | none => _) = _
  rw [h]
  rfl
theorem E_gst0 {idx : Nat} (hk : okP M = true) (hd : decode (mB M) pc = .ok (.getstatic idx, 3)) (hf : sgf (mN M) idx = some 0) : Ev X M pc ls st w n c sl Q ↔ Ev X M (pc + 3) ls (.int 1 :: st) w n c sl Q := by
  refine Ev_nx (q := (pc + 3, ls, .int 1 :: st, w, n, c, sl)) hd ?_
  rw [okP_mk hk]
  show g1 3 3 (match sgf (mN M) idx with | some 0 => _ | some 1 => _ | some _ => _ | none => none) = _
  rw [g1_same, hf]
  rfl
theorem E_gst1 {idx : Nat} (hk : okP M = true) (hd : decode (mB M) pc = .ok (.getstatic idx, 3)) (hf : sgf (mN M) idx = some 1) : Ev X M pc ls st w n c sl Q ↔ Ev X M (pc + 3) ls (va_rf X.2.2.2.1 :: st) w n c sl Q := by
  refine Ev_nx (q := (pc + 3, ls, va_rf X.2.2.2.1 :: st, w, n, c, sl)) hd ?_
  rw [okP_mk hk]
  show g1 3 3 (match sgf (mN M) idx with | some 0 => _ | some 1 => _ | some _ => _ | none => none) = _
  rw [g1_same, hf]
  rfl
theorem cat_rf (o : Option Nat) : (va_rf o).category = 1 := by cases o <;> rfl
theorem popv_rf {x y : Int32} {o : Option Nat} {st : Stk} : popv 3 (va_rf o :: .int y :: .int x :: st) [] = some ([.int x, .int y, va_rf o], st) := by
  unfold popv
  rw [if_pos (cat_rf o)]
  rfl
theorem E_ddiv {p q : UInt64} (hk : okP M = true) (hd : decode (mB M) pc = .ok (.ddiv, 1)) (h : n64 (FP.ddiv p q) = true) : Ev X M pc ls (.double q :: .double p :: st) w n c sl Q ↔ Ev X M (pc + 1) ls (.double (FP.ddiv p q) :: st) w n c sl Q := by
  refine E_p hk hd rfl ?_
  show g1 1 1 (gc (n64 (FP.ddiv p q)) _) = _
  rw [g1_same, h]
  rfl
theorem E_fdiv {p q : UInt32} (hk : okP M = true) (hd : decode (mB M) pc = .ok (.fdiv, 1)) (h : n32 (FP.fdiv p q) = true) : Ev X M pc ls (.float q :: .float p :: st) w n c sl Q ↔ Ev X M (pc + 1) ls (.float (FP.fdiv p q) :: st) w n c sl Q := by
  refine E_p hk hd rfl ?_
  show g1 1 1 (gc (n32 (FP.fdiv p q)) _) = _
  rw [g1_same, h]
  rfl
theorem E_dreturn {p : UInt64} (hk : okP M = true) (hd : decode (mB M) pc = .ok (.dreturn, 1)) (hr : mR M = some .double) : Ev X M pc ls [.double p] w n c sl Q ↔ Q (.inl (some (.double p))) w n := by
  refine Ev_out (o := (.inl (some (.double p)), w, n)) hd ?_
  rw [okP_mk hk]
  show g1 1 1 (gc (decide (mR M = some .double)) _) = _
  rw [g1_same, hr]
  rfl
theorem E_freturn {p : UInt32} (hk : okP M = true) (hd : decode (mB M) pc = .ok (.freturn, 1)) (hr : mR M = some .float) : Ev X M pc ls [.float p] w n c sl Q ↔ Q (.inl (some (.float p))) w n := by
  refine Ev_out (o := (.inl (some (.float p)), w, n)) hd ?_
  rw [okP_mk hk]
  show g1 1 1 (gc (decide (mR M = some .float)) _) = _
  rw [g1_same, hr]
  rfl
/-- the store of a reference: the array's kind is the object's class's -/
def saq (w : Wld) (a : Nat) (j : Int32) (b : Nat) : Option Wld := match hasc w b 1, sa w a 4 j (.ref b) with
  | true, some w2 => some w2
  | _, _ => match hasc w b 2, sa w a 5 j (.ref b) with
    | true, some w2 => some w2
    | _, _ => none
theorem E_aast {a b : Nat} {j : Int32} (hk : okP M = true) (hd : decode (mB M) pc = .ok (.aastore, 1)) : Ev X M pc ls (.ref b :: .int j :: .ref a :: st) w n c sl Q ↔ ∃ w2, saq w a j b = some w2 ∧ Ev X M (pc + 1) ls st w2 n c sl Q := by
  refine E_rd (r := saq w a j b) (q := fun w2 => (pc + 1, ls, st, w2, n, c, sl)) hd ?_
  rw [okP_mk hk]
  show g1 1 1 (match hasc w b 1, sa w a 4 j (.ref b) with
      | true, some w2 => nxt (pc + 1) ls st w2 n c sl
      | _, _ => match hasc w b 2, sa w a 5 j (.ref b) with
        | true, some w2 => nxt (pc + 1) ls st w2 n c sl
        | _, _ => none) = _
  rw [g1_same]
  unfold saq
  cases hasc w b 1 <;> cases sa w a 4 j (.ref b) <;> cases hasc w b 2 <;> cases sa w a 5 j (.ref b) <;> rfl
theorem Kj_v {M2 : Nat} {v : Value} : Kj X M M2 pc ls st c sl Q (.inl (some v)) w n = Ev X M pc ls (v :: st) w n c sl Q := rfl
theorem Kj_n {M2 : Nat} : Kj X M M2 pc ls st c sl Q (.inl none) w n = Ev X M pc ls st w n c sl Q := rfl
theorem E_csK {idx M2 k : Nat} {vs : List Value} {st2 : Stk} (hj : jdk M2 = false) (hk : okP M = true) (hd : decode (mB M) pc = .ok (.invokestatic idx, 3)) (hc : call (mN M) idx = some (1, M2, k)) (hf : fits2 M M2 = true) (hm : mH M = []) (hp : popv k st2 [] = some (vs, st)) (hr : st.length ≤ 8) (hg : vs.length ≤ mL M2) {en : Lcs} (hen : entl M2 vs = en) :
    Ev X M pc ls st2 w n c sl Q ↔ Ev X M2 0 en [] w n 0 0 (Kr X M (pc + 3) ls st c sl Q) := by
  have h := E_cs (X := X) (ls := ls) (w := w) (n := n) (c := c) (sl := sl) (Q := Q) hk hd hc hf hm hp hr hg hen
  rw [Kj_Kr hj] at h
  exact h
theorem E_cvK {idx kd M2 k b : Nat} {vs : List Value} {st2 : Stk} (hj : jdk M2 = false) (hk : okP M = true) (hd : decode (mB M) pc = .ok (.invokevirtual idx, 3)) (hc : call (mN M) idx = some (kd, M2, k)) (hkd : vkd kd = true) (hf : fits2 M M2 = true) (hm : mH M = []) (hp : popv k st2 [] = some (vs, .ref b :: st)) (hb : rcv X w M2 b = true) (hr : st.length ≤ 4) (hg : vs.length + 1 ≤ mL M2) {en : Lcs} (hen : entl M2 (.ref b :: vs) = en) :
    Ev X M pc ls st2 w n c sl Q ↔ Ev X M2 0 en [] w n 0 0 (Kr X M (pc + 3) ls st c sl Q) := by
  have h := E_cv (X := X) (ls := ls) (w := w) (n := n) (c := c) (sl := sl) (Q := Q) hk hd hc hkd hf hm hp hb hr hg hen
  rw [Kj_Kr hj] at h
  exact h
end ROWS4
/-! ===== rows for any method: hp says what is remembered there ===== -/
section ROWG
variable {X : Cxt} {M pc : Nat} {ls ls1 : Lcs} {st : Stk} {w : Wld} {n : Option Nat} {c sl : Nat} {Q : (Option Value ⊕ String) → Wld → Option Nat → Prop} {c2 : Bool}
theorem G_p {i : Instr} {len pc2 : Nat} {ls2 : Lcs} {st2 : Stk} (hp : e_mk M pc ls = ls1) (hm : m2 M = c2) (hd : decode (mB M) pc = .ok (i, len)) (hi : isP i = true) (h : pst c2 i len pc ls1 st = some (pc2, ls2, st2)) : Ev X M pc ls st w n c sl Q ↔ Ev X M pc2 ls2 st2 w n c sl Q := by
  refine Ev_nx (q := (pc2, ls2, st2, w, n, c, sl)) hd ?_
  rw [hp, isP_x hi]
  unfold xpst
  rw [hm, h]
  rfl
theorem G_b {i : Instr} {len : Nat} {P : Prop} [Decidable P] {t1 t2 : Nat} {ls2 : Lcs} {st2 : Stk} (hp : e_mk M pc ls = ls1) (hm : m2 M = c2) (hd : decode (mB M) pc = .ok (i, len)) (hi : isP i = true) (h : pst c2 i len pc ls1 st = some (if P then t1 else t2, ls2, st2)) : Ev X M pc ls st w n c sl Q ↔ if P then Ev X M t1 ls2 st2 w n c sl Q else Ev X M t2 ls2 st2 w n c sl Q := by
  rw [G_p hp hm hd hi h]
  split <;> rfl
theorem psg_if {cd : ClassFile.Cond} {off : Int} {t : Nat} {x : Int32} {r : Stk} (ht : tgt pc off = some t) : pst c2 (.ifCond cd off) 3 pc ls (.int x :: r) = some (if cmp0 cd x = true then t else pc + 3, ls, r) := by
  show g1 3 3 (qi (.int x :: r) fun x r => gt pc off fun t => some (if cmp0 cd x = true then t else pc + 3, ls, r)) = _
  rw [g1_same]
  show gt pc off _ = _
  unfold gt
  rw [ht]
theorem psg_icmp {cd : ClassFile.Cond} {off : Int} {t : Nat} {x y : Int32} {r : Stk} (ht : tgt pc off = some t) : pst c2 (.if_icmp cd off) 3 pc ls (.int y :: .int x :: r) = some (if cmp2 cd x y = true then t else pc + 3, ls, r) := by
  show g1 3 3 (qi (.int y :: .int x :: r) fun y r => qi r fun x r => gt pc off fun t => some (if cmp2 cd x y = true then t else pc + 3, ls, r)) = _
  rw [g1_same]
  show gt pc off _ = _
  unfold gt
  rw [ht]
theorem G_ifeq {off : Int} {t : Nat} {x : Int32} (hp : e_mk M pc ls = ls1) (hm : m2 M = c2) (hd : decode (mB M) pc = .ok (.ifCond .eq off, 3)) (ht : tgt pc off = some t) : Ev X M pc ls (.int x :: st) w n c sl Q ↔ if x = 0 then Ev X M t ls1 st w n c sl Q else Ev X M (pc + 3) ls1 st w n c sl Q :=
  G_b hp hm hd rfl (by rw [psg_if ht]; simp only [cmp0, decide_eq_true_eq])
theorem G_ifne {off : Int} {t : Nat} {x : Int32} (hp : e_mk M pc ls = ls1) (hm : m2 M = c2) (hd : decode (mB M) pc = .ok (.ifCond .ne off, 3)) (ht : tgt pc off = some t) : Ev X M pc ls (.int x :: st) w n c sl Q ↔ if x = 0 then Ev X M (pc + 3) ls1 st w n c sl Q else Ev X M t ls1 st w n c sl Q :=
  G_b hp hm hd rfl (by rw [psg_if ht, ite_not' (R := x = 0) (by simp only [cmp0, decide_eq_true_eq])])
theorem G_iflt {off : Int} {t : Nat} {x : Int32} (hp : e_mk M pc ls = ls1) (hm : m2 M = c2) (hd : decode (mB M) pc = .ok (.ifCond .lt off, 3)) (ht : tgt pc off = some t) : Ev X M pc ls (.int x :: st) w n c sl Q ↔ if x < 0 then Ev X M t ls1 st w n c sl Q else Ev X M (pc + 3) ls1 st w n c sl Q :=
  G_b hp hm hd rfl (by rw [psg_if ht]; simp only [cmp0, decide_eq_true_eq])
theorem G_ifge {off : Int} {t : Nat} {x : Int32} (hp : e_mk M pc ls = ls1) (hm : m2 M = c2) (hd : decode (mB M) pc = .ok (.ifCond .ge off, 3)) (ht : tgt pc off = some t) : Ev X M pc ls (.int x :: st) w n c sl Q ↔ if x < 0 then Ev X M (pc + 3) ls1 st w n c sl Q else Ev X M t ls1 st w n c sl Q :=
  G_b hp hm hd rfl (by rw [psg_if ht, ite_not' (R := x < 0) (by simp only [cmp0, decide_eq_true_eq]; exact Int32.not_lt.symm)])
theorem G_ifgt {off : Int} {t : Nat} {x : Int32} (hp : e_mk M pc ls = ls1) (hm : m2 M = c2) (hd : decode (mB M) pc = .ok (.ifCond .gt off, 3)) (ht : tgt pc off = some t) : Ev X M pc ls (.int x :: st) w n c sl Q ↔ if 0 < x then Ev X M t ls1 st w n c sl Q else Ev X M (pc + 3) ls1 st w n c sl Q :=
  G_b hp hm hd rfl (by rw [psg_if ht]; simp only [cmp0, decide_eq_true_eq])
theorem G_ifle {off : Int} {t : Nat} {x : Int32} (hp : e_mk M pc ls = ls1) (hm : m2 M = c2) (hd : decode (mB M) pc = .ok (.ifCond .le off, 3)) (ht : tgt pc off = some t) : Ev X M pc ls (.int x :: st) w n c sl Q ↔ if 0 < x then Ev X M (pc + 3) ls1 st w n c sl Q else Ev X M t ls1 st w n c sl Q :=
  G_b hp hm hd rfl (by rw [psg_if ht, ite_not' (R := 0 < x) (by simp only [cmp0, decide_eq_true_eq]; exact Int32.not_lt.symm)])
theorem G_iceq {off : Int} {t : Nat} {x y : Int32} (hp : e_mk M pc ls = ls1) (hm : m2 M = c2) (hd : decode (mB M) pc = .ok (.if_icmp .eq off, 3)) (ht : tgt pc off = some t) : Ev X M pc ls (.int y :: .int x :: st) w n c sl Q ↔ if x = y then Ev X M t ls1 st w n c sl Q else Ev X M (pc + 3) ls1 st w n c sl Q :=
  G_b hp hm hd rfl (by rw [psg_icmp ht]; simp only [cmp2, decide_eq_true_eq])
theorem G_icne {off : Int} {t : Nat} {x y : Int32} (hp : e_mk M pc ls = ls1) (hm : m2 M = c2) (hd : decode (mB M) pc = .ok (.if_icmp .ne off, 3)) (ht : tgt pc off = some t) : Ev X M pc ls (.int y :: .int x :: st) w n c sl Q ↔ if x = y then Ev X M (pc + 3) ls1 st w n c sl Q else Ev X M t ls1 st w n c sl Q :=
  G_b hp hm hd rfl (by rw [psg_icmp ht, ite_not' (R := x = y) (by simp only [cmp2, decide_eq_true_eq])])
theorem G_iclt {off : Int} {t : Nat} {x y : Int32} (hp : e_mk M pc ls = ls1) (hm : m2 M = c2) (hd : decode (mB M) pc = .ok (.if_icmp .lt off, 3)) (ht : tgt pc off = some t) : Ev X M pc ls (.int y :: .int x :: st) w n c sl Q ↔ if x < y then Ev X M t ls1 st w n c sl Q else Ev X M (pc + 3) ls1 st w n c sl Q :=
  G_b hp hm hd rfl (by rw [psg_icmp ht]; simp only [cmp2, decide_eq_true_eq])
theorem G_icge {off : Int} {t : Nat} {x y : Int32} (hp : e_mk M pc ls = ls1) (hm : m2 M = c2) (hd : decode (mB M) pc = .ok (.if_icmp .ge off, 3)) (ht : tgt pc off = some t) : Ev X M pc ls (.int y :: .int x :: st) w n c sl Q ↔ if x < y then Ev X M (pc + 3) ls1 st w n c sl Q else Ev X M t ls1 st w n c sl Q :=
  G_b hp hm hd rfl (by rw [psg_icmp ht, ite_not' (R := x < y) (by simp only [cmp2, decide_eq_true_eq]; exact Int32.not_lt.symm)])
theorem G_icgt {off : Int} {t : Nat} {x y : Int32} (hp : e_mk M pc ls = ls1) (hm : m2 M = c2) (hd : decode (mB M) pc = .ok (.if_icmp .gt off, 3)) (ht : tgt pc off = some t) : Ev X M pc ls (.int y :: .int x :: st) w n c sl Q ↔ if y < x then Ev X M t ls1 st w n c sl Q else Ev X M (pc + 3) ls1 st w n c sl Q :=
  G_b hp hm hd rfl (by rw [psg_icmp ht]; simp only [cmp2, decide_eq_true_eq])
theorem G_icle {off : Int} {t : Nat} {x y : Int32} (hp : e_mk M pc ls = ls1) (hm : m2 M = c2) (hd : decode (mB M) pc = .ok (.if_icmp .le off, 3)) (ht : tgt pc off = some t) : Ev X M pc ls (.int y :: .int x :: st) w n c sl Q ↔ if y < x then Ev X M (pc + 3) ls1 st w n c sl Q else Ev X M t ls1 st w n c sl Q :=
  G_b hp hm hd rfl (by rw [psg_icmp ht, ite_not' (R := y < x) (by simp only [cmp2, decide_eq_true_eq]; exact Int32.not_lt.symm)])
theorem G_irem {x y : Int32} (hp : e_mk M pc ls = ls1) (hm : m2 M = c2) (hd : decode (mB M) pc = .ok (.irem, 1)) (hy : y ≠ 0) : Ev X M pc ls (.int y :: .int x :: st) w n c sl Q ↔ Ev X M (pc + 1) ls1 (.int (x - x / y * y) :: st) w n c sl Q := by
  refine G_p hp hm hd rfl ?_
  show g1 1 1 (gc (!decide (y = 0)) _) = _
  rw [g1_same, decide_eq_false hy]
  rfl
theorem G_getf {idx ci k a : Nat} (hp : e_mk M pc ls = ls1) (hn : Nat.beq (mK M) 1 = false ∨ X.2.1 a = none) (hd : decode (mB M) pc = .ok (.getfield idx, 3)) (hf : fld (mN M) idx = some (ci, k)) : Ev X M pc ls (.ref a :: st) w n c sl Q ↔ ∃ v, gf w a ci k = some v ∧ Ev X M (pc + 3) ls1 (v :: st) w n c sl Q := by
  refine E_rd (r := gf w a ci k) (q := fun v => (pc + 3, ls1, v :: st, w, n, c, sl)) hd ?_
  rw [hp]
  show g1 3 3 _ = _
  rw [g1_same]
  show (match mK M with | 1 => _ | _ => _) = _
  split
  · rename_i h1
    rcases hn with hn | hn
    · rw [h1] at hn
      cases hn
    · rw [hn]
      dsimp only
      rw [hf]
      dsimp only; cases gf w a ci k <;> rfl
  · rw [hf]
    dsimp only; cases gf w a ci k <;> rfl
theorem G_putf {idx ci k a : Nat} {v : Value} (hp : e_mk M pc ls = ls1) (hv : v.category = 1) (hd : decode (mB M) pc = .ok (.putfield idx, 3)) (hf : fld (mN M) idx = some (ci, k)) (hpk : pok M ci k = true) : Ev X M pc ls (v :: .ref a :: st) w n c sl Q ↔ ∃ w2, pf w a ci k v = some w2 ∧ Ev X M (pc + 3) ls1 st w2 n c sl Q := by
  refine E_rd (r := pf w a ci k v) (q := fun w2 => (pc + 3, ls1, st, w2, n, c, sl)) hd ?_
  rw [hp]
  show g1 3 3 _ = _
  rw [g1_same]
  show (if v.category = 1 then _ else _) = _
  rw [if_pos hv]
  show (match fld (mN M) idx with | some q => _ | none => none) = _
  rw [hf]
  dsimp only
  rw [hpk]
  cases pf w a ci k v <;> rfl
theorem G_siald {j : Int32} (hp : e_mk M pc ls = ls1) (hm : mK M = 2) (hd : decode (mB M) pc = .ok (.iaload, 1)) (h : inr_ j X.2.2.2.2.2.1 = true) : Ev X M pc ls (.int j :: .ref X.2.2.2.2.1 :: st) w n c sl Q ↔ Ev X M (pc + 1) ls1 (.int (X.2.2.2.2.2.2 j.toNatClampNeg) :: st) w n c sl Q := by
  refine Ev_nx (q := (pc + 1, ls1, .int (X.2.2.2.2.2.2 j.toNatClampNeg) :: st, w, n, c, sl)) hd ?_
  rw [hp]
  show g1 1 1 _ = _
  rw [g1_same]
  show (match mK M with | 2 => _ | _ => _) = _
  split
  · rw [if_pos ⟨rfl, h⟩]; rfl
  · rename_i h1
    exact absurd hm h1
theorem G_salen (hp : e_mk M pc ls = ls1) (hm : mK M = 2) (hd : decode (mB M) pc = .ok (.arraylength, 1)) : Ev X M pc ls (.ref X.2.2.2.2.1 :: st) w n c sl Q ↔ Ev X M (pc + 1) ls1 (.int (Int32.ofNat X.2.2.2.2.2.1) :: st) w n c sl Q := by
  refine Ev_nx (q := (pc + 1, ls1, .int (Int32.ofNat X.2.2.2.2.2.1) :: st, w, n, c, sl)) hd ?_
  rw [hp]
  show g1 1 1 _ = _
  rw [g1_same]
  show (match mK M with | 2 => _ | 1 => _ | _ => _) = _
  split
  · rw [if_pos rfl]; rfl
  · rename_i h1
    rw [h1] at hm
    cases hm
  · rename_i h1 h2
    first
      | exact absurd hm h1
      | exact absurd hm h2
theorem G_alenC {a : Nat} {q : Nat × (Nat → Int32)} (hp : e_mk M pc ls = ls1) (hm : mK M = 1) (hd : decode (mB M) pc = .ok (.arraylength, 1)) (h : X.2.2.1 a = some q) : Ev X M pc ls (.ref a :: st) w n c sl Q ↔ Ev X M (pc + 1) ls1 (.int (Int32.ofNat q.1) :: st) w n c sl Q := by
  refine Ev_nx (q := (pc + 1, ls1, .int (Int32.ofNat q.1) :: st, w, n, c, sl)) hd ?_
  rw [hp]
  show g1 1 1 (match mK M with | 2 => _ | 1 => _ | _ => none) = _
  rw [g1_same, hm]
  show (match X.2.2.1 a with | some q => _ | none => _) = _
  rw [h]
  rfl
theorem G_alenW {a m : Nat} {f : Nat → Value} (hp : e_mk M pc ls = ls1) (hm : mK M = 1) (hd : decode (mB M) pc = .ok (.arraylength, 1)) (h : X.2.2.1 a = none) (hw : w a = some (.inl (3, m, f))) : Ev X M pc ls (.ref a :: st) w n c sl Q ↔ Ev X M (pc + 1) ls1 (.int (Int32.ofNat m) :: st) w n c sl Q := by
  refine Ev_nx (q := (pc + 1, ls1, .int (Int32.ofNat m) :: st, w, n, c, sl)) hd ?_
  rw [hp]
  show g1 1 1 (match mK M with | 2 => _ | 1 => _ | _ => none) = _
  rw [g1_same, hm]
  show (match X.2.2.1 a with | some q => _ | none => (match w a with | some (.inl (3, m, _)) => _ | _ => none)) = _
  rw [h, hw]
  rfl
theorem G_baldC {a : Nat} {j : Int32} {q : Nat × (Nat → Int32)} (hp : e_mk M pc ls = ls1) (hd : decode (mB M) pc = .ok (.baload, 1)) (h : X.2.2.1 a = some q) (h2 : inr_ j q.1 = true) : Ev X M pc ls (.int j :: .ref a :: st) w n c sl Q ↔ Ev X M (pc + 1) ls1 (.int (q.2 j.toNatClampNeg) :: st) w n c sl Q := by
  refine Ev_nx (q := (pc + 1, ls1, .int (q.2 j.toNatClampNeg) :: st, w, n, c, sl)) hd ?_
  rw [hp]
  show g1 1 1 (match X.2.2.1 a with | some q => if inr_ j q.1 = true then _ else none | none => _) = _
  rw [g1_same, h]
  dsimp only
  rw [if_pos h2]
  rfl
theorem G_baldW {a : Nat} {j : Int32} (hp : e_mk M pc ls = ls1) (hd : decode (mB M) pc = .ok (.baload, 1)) (h : X.2.2.1 a = none) : Ev X M pc ls (.int j :: .ref a :: st) w n c sl Q ↔ ∃ v, ga w a 3 j = some v ∧ Ev X M (pc + 1) ls1 (v :: st) w n c sl Q := by
  refine E_rd (r := ga w a 3 j) (q := fun v => (pc + 1, ls1, v :: st, w, n, c, sl)) hd ?_
  rw [hp]
  show g1 1 1 (match X.2.2.1 a with | some q => _ | none => (match ga w a 3 j with | some v => _ | none => none)) = _
  rw [g1_same, h]
  cases ga w a 3 j <;> rfl
theorem G_bast {a : Nat} {j x : Int32} (hp : e_mk M pc ls = ls1) (hd : decode (mB M) pc = .ok (.bastore, 1)) : Ev X M pc ls (.int x :: .int j :: .ref a :: st) w n c sl Q ↔ ∃ w2, sa w a 3 j (narrow .byte (.int x)) = some w2 ∧ Ev X M (pc + 1) ls1 st w2 n c sl Q := by
  refine E_rd (r := sa w a 3 j (narrow .byte (.int x))) (q := fun w2 => (pc + 1, ls1, st, w2, n, c, sl)) hd ?_
  rw [hp]
  show g1 1 1 (match sa w a 3 j (narrow .byte (.int x)) with | some w2 => nxt (pc + 1) ls1 st w2 n c sl | none => none) = _
  cases sa w a 3 j (narrow .byte (.int x)) <;> rfl
theorem G_last {a : Nat} {j : Int32} {v : Int64} (hp : e_mk M pc ls = ls1) (hd : decode (mB M) pc = .ok (.lastore, 1)) : Ev X M pc ls (.long v :: .int j :: .ref a :: st) w n c sl Q ↔ ∃ w2, sa w a 2 j (.long v) = some w2 ∧ Ev X M (pc + 1) ls1 st w2 n c sl Q := by
  refine E_rd (r := sa w a 2 j (.long v)) (q := fun w2 => (pc + 1, ls1, st, w2, n, c, sl)) hd ?_
  rw [hp]
  show g1 1 1 (match sa w a 2 j (.long v) with | some w2 => nxt (pc + 1) ls1 st w2 n c sl | none => none) = _
  cases sa w a 2 j (.long v) <;> rfl
theorem G_lald {a : Nat} {j : Int32} (hp : e_mk M pc ls = ls1) (hd : decode (mB M) pc = .ok (.laload, 1)) : Ev X M pc ls (.int j :: .ref a :: st) w n c sl Q ↔ ∃ v, ga w a 2 j = some v ∧ Ev X M (pc + 1) ls1 (v :: st) w n c sl Q := by
  refine E_rd (r := ga w a 2 j) (q := fun v => (pc + 1, ls1, v :: st, w, n, c, sl)) hd ?_
  rw [hp]
  show g1 1 1 (match ga w a 2 j with | some v => nxt (pc + 1) ls1 (v :: st) w n c sl | none => none) = _
  cases ga w a 2 j <;> rfl
theorem G_iast {a : Nat} {j x : Int32} (hp : e_mk M pc ls = ls1) (hd : decode (mB M) pc = .ok (.iastore, 1)) : Ev X M pc ls (.int x :: .int j :: .ref a :: st) w n c sl Q ↔ ∃ w2, sa w a 0 j (.int x) = some w2 ∧ Ev X M (pc + 1) ls1 st w2 n c sl Q := by
  refine E_rd (r := sa w a 0 j (.int x)) (q := fun w2 => (pc + 1, ls1, st, w2, n, c, sl)) hd ?_
  rw [hp]
  show g1 1 1 (match sa w a 0 j (.int x) with | some w2 => nxt (pc + 1) ls1 st w2 n c sl | none => none) = _
  cases sa w a 0 j (.int x) <;> rfl
theorem G_aast {a b : Nat} {j : Int32} (hp : e_mk M pc ls = ls1) (hd : decode (mB M) pc = .ok (.aastore, 1)) : Ev X M pc ls (.ref b :: .int j :: .ref a :: st) w n c sl Q ↔ ∃ w2, saq w a j b = some w2 ∧ Ev X M (pc + 1) ls1 st w2 n c sl Q := by
  refine E_rd (r := saq w a j b) (q := fun w2 => (pc + 1, ls1, st, w2, n, c, sl)) hd ?_
  rw [hp]
  show g1 1 1 (match hasc w b 1, sa w a 4 j (.ref b) with
      | true, some w2 => nxt (pc + 1) ls1 st w2 n c sl
      | _, _ => match hasc w b 2, sa w a 5 j (.ref b) with
        | true, some w2 => nxt (pc + 1) ls1 st w2 n c sl
        | _, _ => none) = _
  rw [g1_same]
  unfold saq
  cases hasc w b 1 <;> cases sa w a 4 j (.ref b) <;> cases hasc w b 2 <;> cases sa w a 5 j (.ref b) <;> rfl
theorem G_ldc {idx j : Nat} (hp : e_mk M pc ls = ls1) (hd : decode (mB M) pc = .ok (.ldc idx, 2)) (hl : lit (mN M) idx = some j) : Ev X M pc ls st w n c sl Q ↔ Ev X M (pc + 2) ls1 (.ref (X.1 j) :: st) w n c sl Q := by
  refine Ev_nx (q := (pc + 2, ls1, .ref (X.1 j) :: st, w, n, c, sl)) hd ?_
  rw [hp]
  show g1 2 2 _ = _
  rw [g1_same, hl]
  rfl
theorem G_ldcF {idx : Nat} {v : UInt32} (hp : e_mk M pc ls = ls1) (hd : decode (mB M) pc = .ok (.ldc idx, 2)) (h0 : lit (mN M) idx = none) (hl : fcst (mN M) idx = some v) : Ev X M pc ls st w n c sl Q ↔ Ev X M (pc + 2) ls1 (.float v :: st) w n c sl Q := by
  refine Ev_nx (q := (pc + 2, ls1, .float v :: st, w, n, c, sl)) hd ?_
  rw [hp]
  show g1 2 2 (match lit (mN M) idx with | some j => _ | none => (match fcst (mN M) idx with | some v => _ | none => none)) = _
  rw [g1_same, h0, hl]
  rfl
theorem G_ldcwS {idx j : Nat} (hp : e_mk M pc ls = ls1) (hd : decode (mB M) pc = .ok (.ldc_w idx, 3)) (h0 : icst (mN M) idx = none) (hl : lit (mN M) idx = some j) : Ev X M pc ls st w n c sl Q ↔ Ev X M (pc + 3) ls1 (.ref (X.1 j) :: st) w n c sl Q := by
  refine Ev_nx (q := (pc + 3, ls1, .ref (X.1 j) :: st, w, n, c, sl)) hd ?_
  rw [hp]
  show g1 3 3 (match icst (mN M) idx with | some v => _ | none => match lit (mN M) idx with | some j => _ | none => none) = _
  rw [g1_same, h0, hl]
  rfl
theorem G_ldc2L {idx : Nat} {v : Int64} (hp : e_mk M pc ls = ls1) (hd : decode (mB M) pc = .ok (.ldc2_w idx, 3)) (hl : lcst (mN M) idx = some v) : Ev X M pc ls st w n c sl Q ↔ Ev X M (pc + 3) ls1 (.long v :: st) w n c sl Q := by
  refine Ev_nx (q := (pc + 3, ls1, .long v :: st, w, n, c, sl)) hd ?_
  rw [hp]
  show g1 3 3 (match lcst (mN M) idx with | some v => _ | none => _) = _
  rw [g1_same, hl]
  rfl
theorem G_ldc2D {idx : Nat} {v : UInt64} (hp : e_mk M pc ls = ls1) (hd : decode (mB M) pc = .ok (.ldc2_w idx, 3)) (h0 : lcst (mN M) idx = none) (hl : dcst (mN M) idx = some v) : Ev X M pc ls st w n c sl Q ↔ Ev X M (pc + 3) ls1 (.double v :: st) w n c sl Q := by
  refine Ev_nx (q := (pc + 3, ls1, .double v :: st, w, n, c, sl)) hd ?_
  rw [hp]
  show g1 3 3 (match lcst (mN M) idx with | some v => _ | none => (match dcst (mN M) idx with | some v => _ | none => none)) = _
  rw [g1_same, h0, hl]
  rfl
theorem G_gst0 {idx : Nat} (hp : e_mk M pc ls = ls1) (hd : decode (mB M) pc = .ok (.getstatic idx, 3)) (hf : sgf (mN M) idx = some 0) : Ev X M pc ls st w n c sl Q ↔ Ev X M (pc + 3) ls1 (.int 1 :: st) w n c sl Q := by
  refine Ev_nx (q := (pc + 3, ls1, .int 1 :: st, w, n, c, sl)) hd ?_
  rw [hp]
  show g1 3 3 (match sgf (mN M) idx with | some 0 => _ | some 1 => _ | some _ => _ | none => none) = _
  rw [g1_same, hf]
  rfl
theorem G_gst2 {idx : Nat} (hp : e_mk M pc ls = ls1) (hd : decode (mB M) pc = .ok (.getstatic idx, 3)) (hf : sgf (mN M) idx = some 2) : Ev X M pc ls st w n c sl Q ↔ Ev X M (pc + 3) ls1 (.ref (X.1 100) :: st) w n c sl Q := by
  refine Ev_nx (q := (pc + 3, ls1, .ref (X.1 100) :: st, w, n, c, sl)) hd ?_
  rw [hp]
  show g1 3 3 (match sgf (mN M) idx with | some 0 => _ | some 1 => _ | some _ => _ | none => none) = _
  rw [g1_same, hf]
  rfl
theorem G_mn {idx u v : Nat} {x y : Int32} (hp : e_mk M pc ls = ls1) (hd : decode (mB M) pc = .ok (.invokestatic idx, 3)) (hc : call (mN M) idx = some (7, u, v)) (hr : 1 ≤ mF M ∧ 2 * (st.length + 2) + 13 ≤ mO M) : Ev X M pc ls (.int y :: .int x :: st) w n c sl Q ↔ Ev X M (pc + 3) ls1 (.int (imn x y) :: st) w n c sl Q := by
  refine Ev_nx (q := (pc + 3, ls1, .int (imn x y) :: st, w, n, c, sl)) hd ?_
  rw [hp]
  show g1 3 3 _ = _
  rw [g1_same, hc]
  show (if 1 ≤ mF M ∧ 2 * (st.length + 2) + 13 ≤ mO M then _ else none) = _
  rw [if_pos hr]
  rfl
theorem G_d2l {idx u v : Nat} {x : UInt64} (hp : e_mk M pc ls = ls1) (hd : decode (mB M) pc = .ok (.invokestatic idx, 3)) (hc : call (mN M) idx = some (8, u, v)) (hr : 4 ≤ mF M ∧ st.length + 1 ≤ 3 ∧ 80 ≤ mO M) (hx : Op.cmpValue (FP.dcmp x x) .l = 0) : Ev X M pc ls (.double x :: st) w n c sl Q ↔ Ev X M (pc + 3) ls1 (.long x.toInt64 :: st) w n c sl Q := by
  refine Ev_nx (q := (pc + 3, ls1, .long x.toInt64 :: st, w, n, c, sl)) hd ?_
  rw [hp]
  show g1 3 3 _ = _
  rw [g1_same, hc]
  show (if 4 ≤ mF M ∧ st.length + 1 ≤ 3 ∧ 80 ≤ mO M then gc (decide (Op.cmpValue (FP.dcmp x x) .l = 0)) (nxt (pc + 3) ls1 (.long x.toInt64 :: st) w n c sl) else none) = _
  rw [if_pos hr, decide_eq_true hx]
  rfl
theorem G_f2i {idx u v : Nat} {x : UInt32} (hp : e_mk M pc ls = ls1) (hd : decode (mB M) pc = .ok (.invokestatic idx, 3)) (hc : call (mN M) idx = some (9, u, v)) (hr : 4 ≤ mF M ∧ st.length + 1 ≤ 3 ∧ 80 ≤ mO M) (hx : Op.cmpValue (FP.fcmp x x) .l = 0) : Ev X M pc ls (.float x :: st) w n c sl Q ↔ Ev X M (pc + 3) ls1 (.int x.toInt32 :: st) w n c sl Q := by
  refine Ev_nx (q := (pc + 3, ls1, .int x.toInt32 :: st, w, n, c, sl)) hd ?_
  rw [hp]
  show g1 3 3 _ = _
  rw [g1_same, hc]
  show (if 4 ≤ mF M ∧ st.length + 1 ≤ 3 ∧ 80 ≤ mO M then gc (decide (Op.cmpValue (FP.fcmp x x) .l = 0)) (nxt (pc + 3) ls1 (.int x.toInt32 :: st) w n c sl) else none) = _
  rw [if_pos hr, decide_eq_true hx]
  rfl
theorem G_acopy {idx u v a b N0 N : Nat} {f g : Nat → Value} {m dp sp : Int32} (hp : e_mk M pc ls = ls1) (hd : decode (mB M) pc = .ok (.invokestatic idx, 3)) (hc : call (mN M) idx = some (10, u, v)) (hr : 4 ≤ mF M ∧ st.length + 5 ≤ 6 ∧ 80 ≤ mO M) (h1 : byt X w b = some (N0, f)) (h2 : w a = some (.inl (3, N, g))) (h3 : b ≠ a ∧ ¬ sp < 0 ∧ ¬ dp < 0 ∧ ¬ m < 0 ∧ sp.toNatClampNeg + m.toNatClampNeg ≤ N0 ∧ dp.toNatClampNeg + m.toNatClampNeg ≤ N ∧ (List.range m.toNatClampNeg).all (fun i => okv .byte (f (sp.toNatClampNeg + i))) = true) : Ev X M pc ls (.int m :: .int dp :: .ref a :: .int sp :: .ref b :: st) w n c sl Q ↔ Ev X M (pc + 3) ls1 st (wset w a (.inl (3, N, cpy f g sp.toNatClampNeg dp.toNatClampNeg m.toNatClampNeg))) n c sl Q := by
  refine Ev_nx (q := (pc + 3, ls1, st, wset w a (.inl (3, N, cpy f g sp.toNatClampNeg dp.toNatClampNeg m.toNatClampNeg)), n, c, sl)) hd ?_
  rw [hp]
  show g1 3 3 _ = _
  rw [g1_same, hc]
  show (if 4 ≤ mF M ∧ st.length + 5 ≤ 6 ∧ 80 ≤ mO M then (match byt X w b, w a with | some q, some (.inl (3, N, g)) => _ | _, _ => none) else none) = _
  rw [if_pos hr, h1, h2]
  show (if _ then _ else none) = _
  rw [if_pos h3]
  rfl
theorem G_new {idx ci q : Nat} (hp : e_mk M pc ls = ls1) (hd : decode (mB M) pc = .ok (.new idx, 3)) (ht : thr M pc = none) (hc : newc (mN M) idx = some ci) : Ev X M pc ls st w (some q) c sl Q ↔ Ev X M (pc + 3) ls1 (.ref q :: st) (wset w q (.inr (ci, dflt ci))) (some (q + 1)) c sl Q := by
  refine Ev_nx (q := (pc + 3, ls1, .ref q :: st, wset w q (.inr (ci, dflt ci)), some (q + 1), c, sl)) hd ?_
  rw [hp]
  show g1 3 3 _ = _
  rw [g1_same, ht]
  dsimp only
  rw [hc]
  rfl
theorem G_newarr {ty : ArrayType} {t : Nat × Value} {q m : Nat} {x : Int32} (hp : e_mk M pc ls = ls1) (hd : decode (mB M) pc = .ok (.newarray ty, 2)) (ht : atg ty = some t) (hx : ¬ x < 0 ∧ x.toNatClampNeg = m ∧ m ≤ 60) : Ev X M pc ls (.int x :: st) w (some q) c sl Q ↔ Ev X M (pc + 2) ls1 (.ref q :: st) (wset w q (.inl (t.1, m, fun _ => t.2))) (some (q + 1)) c sl Q := by
  obtain ⟨x0, xm, x1⟩ := hx
  refine Ev_nx (q := (pc + 2, ls1, .ref q :: st, wset w q (.inl (t.1, m, fun _ => t.2)), some (q + 1), c, sl)) hd ?_
  rw [hp]
  show g1 2 2 (match atg ty, some q with | some t, some q => _ | _, _ => _) = _
  rw [g1_same, ht]
  dsimp only
  rw [xm, if_pos ⟨x0, x1⟩]
  rfl
theorem G_anewarr {idx ci q m : Nat} {x : Int32} (hp : e_mk M pc ls = ls1) (hd : decode (mB M) pc = .ok (.anewarray idx, 3)) (hc : newc (mN M) idx = some ci) (hci : ci = 1 ∨ ci = 2) (hx : ¬ x < 0 ∧ x.toNatClampNeg = m ∧ m ≤ 60) : Ev X M pc ls (.int x :: st) w (some q) c sl Q ↔ Ev X M (pc + 3) ls1 (.ref q :: st) (wset w q (.inl (ci + 3, m, anw ci q m))) (some (q + 1)) c sl Q := by
  obtain ⟨x0, xm, x1⟩ := hx
  refine Ev_nx (q := (pc + 3, ls1, .ref q :: st, wset w q (.inl (ci + 3, m, anw ci q m)), some (q + 1), c, sl)) hd ?_
  rw [hp]
  show g1 3 3 (match newc (mN M) idx, some q with | some ci, some q => _ | _, _ => _) = _
  rw [g1_same, hc]
  dsimp only
  rw [xm, if_pos ⟨hci, x0, x1⟩]
  rfl
/-- the constructor of Object -/
theorem G_obj {idx a : Nat} {u v : Nat} (hp : e_mk M pc ls = ls1) (hd : decode (mB M) pc = .ok (.invokespecial idx, 3)) (hc : call (mN M) idx = some (5, u, v)) (hr : 1 ≤ mF M ∧ 2 * st.length + 12 ≤ mO M) : Ev X M pc ls (.ref a :: st) w n c sl Q ↔ Ev X M (pc + 3) ls1 st w n c sl Q := by
  refine Ev_nx (q := (pc + 3, ls1, st, w, n, c, sl)) hd ?_
  rw [hp]
  show g1 3 3 _ = _
  rw [g1_same, hc]
  show (if 1 ≤ mF M ∧ 2 * st.length + 12 ≤ mO M then nxt (pc + 3) ls1 st w n c sl else none) = _
  rw [if_pos hr]
  rfl
theorem G_reti {x : Int32} {ty : Option FieldType} (hp : e_mk M pc ls = ls1) (hd : decode (mB M) pc = .ok (.ireturn, 1)) (hr : mR M = ty) (ho : okr ty x = true) : Ev X M pc ls [.int x] w n c sl Q ↔ Q (.inl (some (.int x))) w n := by
  refine Ev_out (o := (.inl (some (.int x)), w, n)) hd ?_
  rw [hp]
  show g1 1 1 (gc (okr (mR M) x) _) = _
  rw [g1_same, hr, ho]
  rfl
theorem G_retl {x : Int64} (hp : e_mk M pc ls = ls1) (hd : decode (mB M) pc = .ok (.lreturn, 1)) (hr : mR M = some .long) : Ev X M pc ls [.long x] w n c sl Q ↔ Q (.inl (some (.long x))) w n := by
  refine Ev_out (o := (.inl (some (.long x)), w, n)) hd ?_
  rw [hp]
  show g1 1 1 (gc (decide (mR M = some .long)) _) = _
  rw [g1_same, hr]
  rfl
theorem G_retd {x : UInt64} (hp : e_mk M pc ls = ls1) (hd : decode (mB M) pc = .ok (.dreturn, 1)) (hr : mR M = some .double) : Ev X M pc ls [.double x] w n c sl Q ↔ Q (.inl (some (.double x))) w n := by
  refine Ev_out (o := (.inl (some (.double x)), w, n)) hd ?_
  rw [hp]
  show g1 1 1 (gc (decide (mR M = some .double)) _) = _
  rw [g1_same, hr]
  rfl
theorem G_retf {x : UInt32} (hp : e_mk M pc ls = ls1) (hd : decode (mB M) pc = .ok (.freturn, 1)) (hr : mR M = some .float) : Ev X M pc ls [.float x] w n c sl Q ↔ Q (.inl (some (.float x))) w n := by
  refine Ev_out (o := (.inl (some (.float x)), w, n)) hd ?_
  rw [hp]
  show g1 1 1 (gc (decide (mR M = some .float)) _) = _
  rw [g1_same, hr]
  rfl
theorem G_reta {a : Nat} (hp : e_mk M pc ls = ls1) (hd : decode (mB M) pc = .ok (.areturn, 1)) (hr : isob (mR M) = true) : Ev X M pc ls [.ref a] w n c sl Q ↔ Q (.inl (some (.ref a))) w n := by
  refine Ev_out (o := (.inl (some (.ref a)), w, n)) hd ?_
  rw [hp]
  show g1 1 1 (gc (isob (mR M)) _) = _
  rw [g1_same, hr]
  rfl
theorem G_retv (hp : e_mk M pc ls = ls1) (hd : decode (mB M) pc = .ok (.return_, 1)) (hr : mR M = none) : Ev X M pc ls [] w n c sl Q ↔ Q (.inl none) w n := by
  refine Ev_out (o := (.inl none, w, n)) hd ?_
  rw [hp]
  show g1 1 1 (gc (decide (mR M = none)) _) = _
  rw [g1_same, hr]
  rfl
/-- what a call gives to go on with: where nothing is caught -/
theorem xs_cs {idx M2 k : Nat} {vs : List Value} {st2 : Stk} (hc : call (mN M) idx = some (1, M2, k)) (hf : fits2 M M2 = true) (hp : popv k st2 [] = some (vs, st)) (hr : st.length ≤ 8) : xst X M pc (.invokestatic idx) 3 ls st2 w n c sl = some (.inr (.inr (M2, vs, st))) := by
  show g1 3 3 _ = _
  rw [g1_same, hc]
  show (match popv k st2 [] with | some (vs, r) => xcl M M2 vs r | none => none) = _
  rw [hp]
  show xcl M M2 vs st = _
  unfold xcl
  rw [if_pos ⟨hf, hr⟩]
theorem xs_cv {idx kd M2 k b : Nat} {vs : List Value} {st2 : Stk} (hc : call (mN M) idx = some (kd, M2, k)) (hkd : vkd kd = true) (hf : fits2 M M2 = true) (hp : popv k st2 [] = some (vs, .ref b :: st)) (hb : rcv X w M2 b = true) (hr : kd = 0 ∧ st.length ≤ 8 ∨ st.length ≤ 4) : xst X M pc (.invokevirtual idx) 3 ls st2 w n c sl = some (.inr (.inr (M2, .ref b :: vs, st))) := by
  show g1 3 3 _ = _
  rw [g1_same, hc]
  show gc (vkd kd) (match popv k st2 [] with | some (vs, r) => qr r fun b r => gc (rcv X w M2 b) (match kd with | 0 => xcl M M2 (.ref b :: vs) r | _ => xc4 M M2 (.ref b :: vs) r) | none => none) = _
  rw [hp, hkd]
  show gc (rcv X w M2 b) (match kd with | 0 => xcl M M2 (.ref b :: vs) st | _ => xc4 M M2 (.ref b :: vs) st) = _
  rw [hb]
  have e2 : xcl M M2 (.ref b :: vs) st = some (.inr (.inr (M2, .ref b :: vs, st))) := by
    unfold xcl
    rw [if_pos ⟨hf, by omega⟩]
  show (match kd with | 0 => xcl M M2 (.ref b :: vs) st | _ => xc4 M M2 (.ref b :: vs) st) = _
  rcases hr with ⟨rfl, hr⟩ | hr
  · exact e2
  · unfold xc4
    rw [if_pos hr, e2]
    split <;> rfl
theorem G_cs {idx M2 k : Nat} {vs : List Value} {st2 : Stk} (hp : e_mk M pc ls = ls1) (hj : jdk M2 = false) (hd : decode (mB M) pc = .ok (.invokestatic idx, 3)) (hc : call (mN M) idx = some (1, M2, k)) (hf : fits2 M M2 = true) (hm : mH M = []) (hpp : popv k st2 [] = some (vs, st)) (hr : st.length ≤ 8) (hg : vs.length ≤ mL M2) {en : Lcs} (hen : entl M2 vs = en) :
    Ev X M pc ls st2 w n c sl Q ↔ Ev X M2 0 en [] w n 0 0 (Kr X M (pc + 3) ls1 st c sl Q) := by
  subst hen
  have h := Ev_call (X := X) (ls := ls) (w := w) (n := n) (Q := Q) hd (M2 := M2) (vs := vs) (r := st) (st := st2) (c := c) (sl := sl) (by rw [hp]; exact xs_cs hc hf hpp hr) hg hm
  rw [hp, Kj_Kr hj] at h
  exact h
theorem G_cv {idx kd M2 k b : Nat} {vs : List Value} {st2 : Stk} (hp : e_mk M pc ls = ls1) (hj : jdk M2 = false) (hd : decode (mB M) pc = .ok (.invokevirtual idx, 3)) (hc : call (mN M) idx = some (kd, M2, k)) (hkd : vkd kd = true) (hf : fits2 M M2 = true) (hm : mH M = []) (hpp : popv k st2 [] = some (vs, .ref b :: st)) (hb : rcv X w M2 b = true) (hr : kd = 0 ∧ st.length ≤ 8 ∨ st.length ≤ 4) (hg : vs.length + 1 ≤ mL M2) {en : Lcs} (hen : entl M2 (.ref b :: vs) = en) :
    Ev X M pc ls st2 w n c sl Q ↔ Ev X M2 0 en [] w n 0 0 (Kr X M (pc + 3) ls1 st c sl Q) := by
  subst hen
  have h := Ev_call (X := X) (ls := ls) (w := w) (n := n) (Q := Q) hd (M2 := M2) (vs := .ref b :: vs) (r := st) (st := st2) (c := c) (sl := sl) (by rw [hp]; exact xs_cv hc hkd hf hpp hb hr) hg hm
  rw [hp, Kj_Kr hj] at h
  exact h
theorem G_csJ {idx M2 k : Nat} {vs : List Value} {st2 : Stk} (hp : e_mk M pc ls = ls1) (hd : decode (mB M) pc = .ok (.invokestatic idx, 3)) (hc : call (mN M) idx = some (1, M2, k)) (hf : fits2 M M2 = true) (hm : mH M = []) (hpp : popv k st2 [] = some (vs, st)) (hr : st.length ≤ 8) (hg : vs.length ≤ mL M2) {en : Lcs} (hen : entl M2 vs = en) :
    Ev X M pc ls st2 w n c sl Q ↔ Ev X M2 0 en [] w n 0 0 (Kj X M M2 (pc + 3) ls1 st c sl Q) := by
  subst hen
  have h := Ev_call (X := X) (ls := ls) (w := w) (n := n) (Q := Q) hd (M2 := M2) (vs := vs) (r := st) (st := st2) (c := c) (sl := sl) (by rw [hp]; exact xs_cs hc hf hpp hr) hg hm
  rw [hp] at h
  exact h
theorem G_cvJ {idx kd M2 k b : Nat} {vs : List Value} {st2 : Stk} (hp : e_mk M pc ls = ls1) (hd : decode (mB M) pc = .ok (.invokevirtual idx, 3)) (hc : call (mN M) idx = some (kd, M2, k)) (hkd : vkd kd = true) (hf : fits2 M M2 = true) (hm : mH M = []) (hpp : popv k st2 [] = some (vs, .ref b :: st)) (hb : rcv X w M2 b = true) (hr : kd = 0 ∧ st.length ≤ 8 ∨ st.length ≤ 4) (hg : vs.length + 1 ≤ mL M2) {en : Lcs} (hen : entl M2 (.ref b :: vs) = en) :
    Ev X M pc ls st2 w n c sl Q ↔ Ev X M2 0 en [] w n 0 0 (Kj X M M2 (pc + 3) ls1 st c sl Q) := by
  subst hen
  have h := Ev_call (X := X) (ls := ls) (w := w) (n := n) (Q := Q) hd (M2 := M2) (vs := .ref b :: vs) (r := st) (st := st2) (c := c) (sl := sl) (by rw [hp]; exact xs_cv hc hkd hf hpp hb hr) hg hm
  rw [hp] at h
  exact h
theorem G_cpJ {idx kd M2 k b : Nat} {vs : List Value} {st2 : Stk} (hp : e_mk M pc ls = ls1) (hd : decode (mB M) pc = .ok (.invokespecial idx, 3)) (hc : call (mN M) idx = some (kd, M2, k)) (hkd : kd = 2 ∨ kd = 3 ∨ (kd = 14 ∧ rcv X w M2 b = true)) (hf : fits2 M M2 = true) (hm : mH M = []) (hpp : popv k st2 [] = some (vs, .ref b :: st)) (hr : st.length ≤ 4) (hg : vs.length + 1 ≤ mL M2) {en : Lcs} (hen : entl M2 (.ref b :: vs) = en) :
    Ev X M pc ls st2 w n c sl Q ↔ Ev X M2 0 en [] w n 0 0 (Kj X M M2 (pc + 3) ls1 st c sl Q) := by
  subst hen
  have h := Ev_call (X := X) (ls := ls) (w := w) (n := n) (Q := Q) hd (M2 := M2) (vs := .ref b :: vs) (r := st) (st := st2) (c := c) (sl := sl) ?_ hg hm
  · rw [hp] at h
    exact h
  · rw [hp]
    show g1 3 3 _ = _
    have e2 : xc4 M M2 (.ref b :: vs) st = some (.inr (.inr (M2, .ref b :: vs, st))) := by
      unfold xc4 xcl
      rw [if_pos hr, if_pos ⟨hf, by omega⟩]
    rw [g1_same, hc]
    rcases hkd with rfl | rfl | ⟨rfl, hb⟩
    · show (match popv k st2 [] with | some (vs, r) => qr r fun b r => xc4 M M2 (.ref b :: vs) r | none => none) = _
      rw [hpp]
      exact e2
    · show (match popv k st2 [] with | some (vs, r) => qr r fun b r => xc4 M M2 (.ref b :: vs) r | none => none) = _
      rw [hpp]
      exact e2
    · show (match popv k st2 [] with | some (vs, r) => qr r fun b r => gc (rcv X w M2 b) (xc4 M M2 (.ref b :: vs) r) | none => none) = _
      rw [hpp]
      show gc (rcv X w M2 b) (xc4 M M2 (.ref b :: vs) st) = _
      rw [hb]
      exact e2
theorem G_cp {idx kd M2 k b : Nat} {vs : List Value} {st2 : Stk} (hp : e_mk M pc ls = ls1) (hj : jdk M2 = false) (hd : decode (mB M) pc = .ok (.invokespecial idx, 3)) (hc : call (mN M) idx = some (kd, M2, k)) (hkd : kd = 2 ∨ kd = 3 ∨ (kd = 14 ∧ rcv X w M2 b = true)) (hf : fits2 M M2 = true) (hm : mH M = []) (hpp : popv k st2 [] = some (vs, .ref b :: st)) (hr : st.length ≤ 4) (hg : vs.length + 1 ≤ mL M2) {en : Lcs} (hen : entl M2 (.ref b :: vs) = en) :
    Ev X M pc ls st2 w n c sl Q ↔ Ev X M2 0 en [] w n 0 0 (Kr X M (pc + 3) ls1 st c sl Q) := by
  have h := G_cpJ (X := X) (w := w) (n := n) (c := c) (sl := sl) (Q := Q) hp hd hc hkd hf hm hpp hr hg hen
  rw [Kj_Kr hj] at h
  exact h
/-- what goes on behind a call whose throws are caught -/
def Kh (X : Cxt) (M pc0 pc : Nat) (ls : Lcs) (st : Stk) (c sl : Nat) (Q : (Option Value ⊕ String) → Wld → Option Nat → Prop) : (Option Value ⊕ String) → Wld → Option Nat → Prop := fun o w n => match o with
  | .inl v => Ev X M pc ls (v.toList ++ st) w n c sl Q
  | .inr e => ∃ k, hdl M pc0 e = some k ∧ Ev X M k.2 (ls.set k.1 none) [] w n c sl Q
theorem Kh_v {pc0 : Nat} {v : Value} : Kh X M pc0 pc ls st c sl Q (.inl (some v)) w n = Ev X M pc ls (v :: st) w n c sl Q := rfl
theorem Kh_e {pc0 : Nat} {e : String} {k : Nat × Nat} (h : hdl M pc0 e = some k) : Kh X M pc0 pc ls st c sl Q (.inr e) w n ↔ Ev X M k.2 (ls.set k.1 none) [] w n c sl Q := by
  show (∃ k, hdl M pc0 e = some k ∧ Ev X M k.2 (ls.set k.1 none) [] w n c sl Q) ↔ _
  constructor
  · rintro ⟨k2, h1, h2⟩
    rw [h] at h1
    cases h1
    exact h2
  · intro h2
    exact ⟨k, h, h2⟩
theorem Ev_callh {i : Instr} {len : Nat} (hd : decode (mB M) pc = .ok (i, len)) {M2 : Nat} {vs : List Value} {r : Stk} (h : xst X M pc i len (e_mk M pc ls) st w n c sl = some (.inr (.inr (M2, vs, r)))) (hj : jdk M2 = false) (hg : vs.length ≤ mL M2) (hm : (mH M).isEmpty = false) :
    Ev X M pc ls st w n c sl Q ↔ Ev X M2 0 (entl M2 vs) [] w n 0 0 (Kh X M pc (pc + 3) (e_mk M pc ls) r c sl Q) := by
  have hne : ∃ a b, mH M = a :: b := by
    cases hx : mH M with
    | nil => rw [hx] at hm; cases hm
    | cons a b => exact ⟨a, b, rfl⟩
  obtain ⟨ha, hb, hab⟩ := hne
  constructor
  · rintro ⟨f, o, h1, h2⟩
    cases f with
    | zero => cases h1
    | succ f =>
      rw [ex, hd] at h1
      dsimp only at h1
      rw [h] at h1
      dsimp only at h1
      split at h1
      · cases h1
      · rename_i o2 ho2
        rw [if_pos hg] at h1
        refine ⟨f, o2, ho2, ?_⟩
        obtain ⟨u, w2, n2⟩ := o2
        cases u with
        | inl v => exact ⟨f, o, h1, h2⟩
        | inr e =>
          dsimp only at h1
          rw [hj] at h1
          dsimp only at h1
          rw [hab] at h1
          dsimp only at h1
          cases hx : hdl M pc e with
          | none => rw [hx] at h1; cases h1
          | some k =>
            rw [hx] at h1
            exact ⟨k, hx, f, o, h1, h2⟩
  · rintro ⟨f, ⟨u, w2, n2⟩, ho2, h2⟩
    cases u with
    | inl v =>
      obtain ⟨g, o, h3, h4⟩ := h2
      refine ⟨max f g + 1, o, ?_, h4⟩
      rw [ex, hd]
      dsimp only
      rw [h]
      dsimp only
      rw [ex_up X ho2 (Nat.le_max_left f g)]
      dsimp only
      rw [if_pos hg]
      exact ex_up X h3 (Nat.le_max_right f g)
    | inr e =>
      obtain ⟨k, hx, g, o, h3, h4⟩ := h2
      refine ⟨max f g + 1, o, ?_, h4⟩
      rw [ex, hd]
      dsimp only
      rw [h]
      dsimp only
      rw [ex_up X ho2 (Nat.le_max_left f g)]
      dsimp only
      rw [if_pos hg, hj]
      dsimp only
      rw [hab]
      dsimp only
      rw [hx]
      exact ex_up X h3 (Nat.le_max_right f g)
theorem G_cvh {idx M2 k b : Nat} {vs : List Value} {st2 : Stk} (hp : e_mk M pc ls = ls1) (hj : jdk M2 = false) (hd : decode (mB M) pc = .ok (.invokevirtual idx, 3)) (hc : call (mN M) idx = some (0, M2, k)) (hf : fits2 M M2 = true) (hm : (mH M).isEmpty = false) (hpp : popv k st2 [] = some (vs, .ref b :: st)) (hb : rcv X w M2 b = true) (hr : st.length ≤ 8) (hg : vs.length + 1 ≤ mL M2) {en : Lcs} (hen : entl M2 (.ref b :: vs) = en) :
    Ev X M pc ls st2 w n c sl Q ↔ Ev X M2 0 en [] w n 0 0 (Kh X M pc (pc + 3) ls1 st c sl Q) := by
  subst hen
  have h := Ev_callh (X := X) (ls := ls) (w := w) (n := n) (Q := Q) hd (M2 := M2) (vs := .ref b :: vs) (r := st) (st := st2) (c := c) (sl := sl) (by rw [hp]; exact xs_cv hc rfl hf hpp hb (Or.inl ⟨rfl, hr⟩)) hj hg hm
  rw [hp] at h
  exact h
end ROWG
