/-! ===== rows' lemmas: handlers, new objects, the law ===== -/
section ROWS3
variable {X : Cxt} {M pc : Nat} {ls : Lcs} {st : Stk} {w : Wld} {n : Option Nat} {c sl : Nat} {Q : (Option Value ⊕ String) → Wld → Option Nat → Prop}
/-- what goes on behind a call whose throws are caught -/
def Kh (X : Cxt) (M pc0 pc : Nat) (ls : Lcs) (st : Stk) (c sl : Nat) (Q : (Option Value ⊕ String) → Wld → Option Nat → Prop) : (Option Value ⊕ String) → Wld → Option Nat → Prop := fun o w n => match o with
  | .inl v => Ev X M pc ls (v.toList ++ st) w n c sl Q
  | .inr e => ∃ k, hdl M pc0 e = some k ∧ Ev X M k.2 (ls.set k.1 none) [] w n c sl Q
theorem Kh_v {pc0 : Nat} {v : Value} : Kh X M pc0 pc ls st c sl Q (.inl (some v)) w n = Ev X M pc ls (v :: st) w n c sl Q := rfl
theorem Kh_e {pc0 : Nat} {e : String} {k : Nat × Nat} (h : hdl M pc0 e = some k) : Kh X M pc0 pc ls st c sl Q (.inr e) w n ↔ Ev X M k.2 (ls.set k.1 none) [] w n c sl Q := by
  show (∃ k, hdl M pc0 e = some k ∧ Ev X M k.2 (ls.set k.1 none) [] w n c sl Q) ↔ _
  constructor
  · rintro ⟨k2, h1, h2⟩
    rw [h] at h1
    cases h1
    exact h2
  · intro h2
    exact ⟨k, h, h2⟩
theorem Ev_callh {i : Instr} {len : Nat} (hd : decode (mB M) pc = .ok (i, len)) {M2 : Nat} {vs : List Value} {r : Stk} (h : xst X M pc i len (e_mk M pc ls) st w n c sl = some (.inr (.inr (M2, vs, r)))) (hg : c + mC M2 ≤ mC M ∧ sl + mS M2 ≤ mS M ∧ vs.length ≤ mL M2) (hm : (mH M).isEmpty = false) :
    Ev X M pc ls st w n c sl Q ↔ Ev X M2 0 (entl M2 vs) [] w n 0 0 (Kh X M pc (pc + 3) (e_mk M pc ls) r (c + mC M2) (sl + mS M2) Q) := by
  have hne : ∃ a b, mH M = a :: b := by
    cases hx : mH M with
    | nil => rw [hx] at hm; cases hm
    | cons a b => exact ⟨a, b, rfl⟩
  obtain ⟨ha, hb, hab⟩ := hne
  constructor
  · rintro ⟨f, o, h1, h2⟩
    cases f with
    | zero => cases h1
    | succ f =>
      rw [ex, hd] at h1
      dsimp only at h1
      rw [h] at h1
      dsimp only at h1
      split at h1
      · cases h1
      · rename_i o2 ho2
        rw [if_pos hg] at h1
        refine ⟨f, o2, ho2, ?_⟩
        obtain ⟨u, w2, n2⟩ := o2
        cases u with
        | inl v => exact ⟨f, o, h1, h2⟩
        | inr e =>
          dsimp only at h1
          rw [hab] at h1
          dsimp only at h1
          cases hx : hdl M pc e with
          | none => rw [hx] at h1; cases h1
          | some k =>
            rw [hx] at h1
            exact ⟨k, hx, f, o, h1, h2⟩
  · rintro ⟨f, ⟨u, w2, n2⟩, ho2, h2⟩
    cases u with
    | inl v =>
      obtain ⟨g, o, h3, h4⟩ := h2
      refine ⟨max f g + 1, o, ?_, h4⟩
      rw [ex, hd]
      dsimp only
      rw [h]
      dsimp only
      rw [ex_up X ho2 (Nat.le_max_left f g)]
      dsimp only
      rw [if_pos hg]
      exact ex_up X h3 (Nat.le_max_right f g)
    | inr e =>
      obtain ⟨k, hx, g, o, h3, h4⟩ := h2
      refine ⟨max f g + 1, o, ?_, h4⟩
      rw [ex, hd]
      dsimp only
      rw [h]
      dsimp only
      rw [ex_up X ho2 (Nat.le_max_left f g)]
      dsimp only
      rw [if_pos hg, hab]
      dsimp only
      rw [hx]
      exact ex_up X h3 (Nat.le_max_right f g)
theorem E_cvh {idx M2 k b : Nat} {vs : List Value} {st2 : Stk} (hk : okP M = true) (hd : decode (mB M) pc = .ok (.invokevirtual idx, 3)) (hc : call (mN M) idx = some (0, M2, k)) (hf : fits2 M M2 = true) (hm : (mH M).isEmpty = false) (hp : popv k st2 [] = some (vs, .ref b :: st)) (hb : rcv X w M2 b = true) (hr : st.length ≤ 4) (hg : c + mC M2 ≤ mC M ∧ sl + mS M2 ≤ mS M ∧ vs.length + 1 ≤ mL M2) {en : Lcs} (hen : entl M2 (.ref b :: vs) = en) {c2 s2 : Nat} (ec : c + mC M2 = c2) (es : sl + mS M2 = s2) :
    Ev X M pc ls st2 w n c sl Q ↔ Ev X M2 0 en [] w n 0 0 (Kh X M pc (pc + 3) ls st c2 s2 Q) := by
  subst hen; subst ec; subst es
  have h := Ev_callh (X := X) (ls := ls) (w := w) (n := n) (Q := Q) hd (M2 := M2) (vs := .ref b :: vs) (r := st) (st := st2) (c := c) (sl := sl) ?_ hg hm
  · rw [okP_mk hk] at h
    exact h
  · rw [okP_mk hk]
    show g1 3 3 _ = _
    rw [g1_same, hc]
    show (match popv k st2 [] with | some (vs, r) => qr r fun b r => gc (rcv X w M2 b) (xcl M M2 (.ref b :: vs) r) | none => none) = _
    rw [hp]
    show gc (rcv X w M2 b) (xcl M M2 (.ref b :: vs) st) = _
    rw [hb]
    show xcl M M2 (.ref b :: vs) st = _
    unfold xcl
    rw [if_pos ⟨hf, hr⟩]
theorem E_last {a : Nat} {j : Int32} {v : Int64} (hk : okP M = true) (hd : decode (mB M) pc = .ok (.lastore, 1)) : Ev X M pc ls (.long v :: .int j :: .ref a :: st) w n c sl Q ↔ ∃ w2, sa w a 2 j (.long v) = some w2 ∧ Ev X M (pc + 1) ls st w2 n c sl Q := by
  refine E_rd (r := sa w a 2 j (.long v)) (q := fun w2 => (pc + 1, ls, st, w2, n, c, sl)) hd ?_
  rw [okP_mk hk]
  show g1 1 1 (match sa w a 2 j (.long v) with | some w2 => nxt (pc + 1) ls st w2 n c sl | none => none) = _
  cases sa w a 2 j (.long v) <;> rfl
theorem E_dast {a : Nat} {j : Int32} {v : UInt64} (hk : okP M = true) (hd : decode (mB M) pc = .ok (.dastore, 1)) : Ev X M pc ls (.double v :: .int j :: .ref a :: st) w n c sl Q ↔ ∃ w2, sa w a 3 j (.double v) = some w2 ∧ Ev X M (pc + 1) ls st w2 n c sl Q := by
  refine E_rd (r := sa w a 3 j (.double v)) (q := fun w2 => (pc + 1, ls, st, w2, n, c, sl)) hd ?_
  rw [okP_mk hk]
  show g1 1 1 (match sa w a 3 j (.double v) with | some w2 => nxt (pc + 1) ls st w2 n c sl | none => none) = _
  cases sa w a 3 j (.double v) <;> rfl
theorem E_f2d {v : UInt32} (hk : okP M = true) (hd : decode (mB M) pc = .ok (.f2d, 1)) (h : n64 (FP.f2d v) = true) : Ev X M pc ls (.float v :: st) w n c sl Q ↔ Ev X M (pc + 1) ls (.double (FP.f2d v) :: st) w n c sl Q := by
  refine E_p hk hd rfl ?_
  show g1 1 1 (gc (n64 (FP.f2d v)) (some (pc + 1, ls, .double (FP.f2d v) :: st))) = _
  rw [g1_same, h]
  rfl
/-- a new object, made where no exception is -/
theorem E_new {idx ci q : Nat} {a b b2 : Nat} (hd : decode (mB M) pc = .ok (.new idx, 3)) (hp : e_mk M pc ls = ls) (ht : thr M pc = none) (hc : newc (mN M) idx = some ci) (e1 : mC M = a) (e2 : mS M = b) (e3 : kn ci = b2) (h1 : c + 1 ≤ a) (h2 : sl + b2 ≤ b) : Ev X M pc ls st w (some q) c sl Q ↔ Ev X M (pc + 3) ls (.ref q :: st) (wset w q (.inr (ci, dflt ci))) (some (q + 1)) (c + 1) (sl + b2) Q := by
  subst e1; subst e2; subst e3
  refine Ev_nx (q := (pc + 3, ls, .ref q :: st, wset w q (.inr (ci, dflt ci)), some (q + 1), c + 1, sl + kn ci)) hd ?_
  rw [hp]
  show g1 3 3 _ = _
  rw [g1_same, ht]
  dsimp only
  rw [hc]
  dsimp only
  rw [if_pos ⟨h1, h2⟩]
  rfl
theorem E_newarr {ty : ArrayType} {t : Nat × Value} {q m : Nat} {x : Int32} {a b : Nat} (hd : decode (mB M) pc = .ok (.newarray ty, 2)) (hp : e_mk M pc ls = ls) (ht : atg ty = some t) (hx : ¬ x < 0 ∧ x.toNatClampNeg = m ∧ m ≤ 1000) (e1 : mC M = a) (e2 : mS M = b) (h1 : c + 1 ≤ a) (h2 : sl + m ≤ b) : Ev X M pc ls (.int x :: st) w (some q) c sl Q ↔ Ev X M (pc + 2) ls (.ref q :: st) (wset w q (.inl (t.1, m, fun _ => t.2))) (some (q + 1)) (c + 1) (sl + m) Q := by
  subst e1; subst e2
  obtain ⟨x0, xm, x1⟩ := hx
  refine Ev_nx (q := (pc + 2, ls, .ref q :: st, wset w q (.inl (t.1, m, fun _ => t.2)), some (q + 1), c + 1, sl + m)) hd ?_
  rw [hp]
  show g1 2 2 (match atg ty, some q with | some t, some q => _ | _, _ => _) = _
  rw [g1_same, ht]
  dsimp only
  rw [xm, if_pos ⟨x0, x1, h1, h2⟩]
  rfl
theorem E_anewarr {idx ci q m : Nat} {x : Int32} {a b : Nat} (hd : decode (mB M) pc = .ok (.anewarray idx, 3)) (hp : e_mk M pc ls = ls) (hc : newc (mN M) idx = some ci) (hci : ci = 1 ∨ ci = 2) (hx : ¬ x < 0 ∧ x.toNatClampNeg = m ∧ m ≤ 1000) (e1 : mC M = a) (e2 : mS M = b) (h1 : c + 1 ≤ a) (h2 : sl + m ≤ b) : Ev X M pc ls (.int x :: st) w (some q) c sl Q ↔ Ev X M (pc + 3) ls (.ref q :: st) (wset w q (.inl (ci + 3, m, anw ci q m))) (some (q + 1)) (c + 1) (sl + m) Q := by
  subst e1; subst e2
  obtain ⟨x0, xm, x1⟩ := hx
  refine Ev_nx (q := (pc + 3, ls, .ref q :: st, wset w q (.inl (ci + 3, m, anw ci q m)), some (q + 1), c + 1, sl + m)) hd ?_
  rw [hp]
  show g1 3 3 (match newc (mN M) idx, some q with | some ci, some q => _ | _, _ => _) = _
  rw [g1_same, hc]
  dsimp only
  rw [xm, if_pos ⟨hci, x0, x1, h1, h2⟩]
  rfl
/-- the constructor of Object -/
theorem E_obj {idx a : Nat} {u v : Nat} (hd : decode (mB M) pc = .ok (.invokespecial idx, 3)) (hp : e_mk M pc ls = ls) (hc : call (mN M) idx = some (5, u, v)) (hr : 1 ≤ mF M ∧ 2 * st.length + 12 ≤ mO M) : Ev X M pc ls (.ref a :: st) w n c sl Q ↔ Ev X M (pc + 3) ls st w n c sl Q := by
  refine Ev_nx (q := (pc + 3, ls, st, w, n, c, sl)) hd ?_
  rw [hp]
  show g1 3 3 _ = _
  rw [g1_same, hc]
  show (if 1 ≤ mF M ∧ 2 * st.length + 12 ≤ mO M then nxt (pc + 3) ls st w n c sl else none) = _
  rw [if_pos hr]
  rfl
/-- a call, what it needs by its numbers -/
theorem V_cs {idx M2 k : Nat} {vs : List Value} {st2 : Stk} {a a2 b b2 : Nat} (hd : decode (mB M) pc = .ok (.invokestatic idx, 3)) (hpm : e_mk M pc ls = ls) (hc : call (mN M) idx = some (1, M2, k)) (hf : fits2 M M2 = true) (hm : mH M = []) (hp : popv k st2 [] = some (vs, st)) (hr : st.length ≤ 4) (hl : vs.length ≤ mL M2) (e1 : mC M2 = a) (e2 : mC M = a2) (e3 : mS M2 = b) (e4 : mS M = b2) (h1 : c + a ≤ a2) (h2 : sl + b ≤ b2) {en : Lcs} (hen : entl M2 vs = en) :
    Ev X M pc ls st2 w n c sl Q ↔ Ev X M2 0 en [] w n 0 0 (Kr X M (pc + 3) ls st (c + a) (sl + b) Q) := by
  subst hen; subst e1; subst e2; subst e3; subst e4
  have h := Ev_call (X := X) (ls := ls) (w := w) (n := n) (Q := Q) hd (M2 := M2) (vs := vs) (r := st) (st := st2) (c := c) (sl := sl) ?_ ⟨h1, h2, hl⟩ hm
  · rw [hpm] at h
    exact h
  · rw [hpm]
    show g1 3 3 _ = _
    rw [g1_same, hc]
    show (match popv k st2 [] with | some (vs, r) => xcl M M2 vs r | none => none) = _
    rw [hp]
    show xcl M M2 vs st = _
    unfold xcl
    rw [if_pos ⟨hf, hr⟩]
theorem V_cv {idx M2 k y : Nat} {vs : List Value} {st2 : Stk} {a a2 b b2 : Nat} (hd : decode (mB M) pc = .ok (.invokevirtual idx, 3)) (hpm : e_mk M pc ls = ls) (hc : call (mN M) idx = some (0, M2, k)) (hf : fits2 M M2 = true) (hm : mH M = []) (hp : popv k st2 [] = some (vs, .ref y :: st)) (hb : rcv X w M2 y = true) (hr : st.length ≤ 4) (hl : vs.length + 1 ≤ mL M2) (e1 : mC M2 = a) (e2 : mC M = a2) (e3 : mS M2 = b) (e4 : mS M = b2) (h1 : c + a ≤ a2) (h2 : sl + b ≤ b2) {en : Lcs} (hen : entl M2 (.ref y :: vs) = en) :
    Ev X M pc ls st2 w n c sl Q ↔ Ev X M2 0 en [] w n 0 0 (Kr X M (pc + 3) ls st (c + a) (sl + b) Q) := by
  subst hen; subst e1; subst e2; subst e3; subst e4
  have h := Ev_call (X := X) (ls := ls) (w := w) (n := n) (Q := Q) hd (M2 := M2) (vs := .ref y :: vs) (r := st) (st := st2) (c := c) (sl := sl) ?_ ⟨h1, h2, hl⟩ hm
  · rw [hpm] at h
    exact h
  · rw [hpm]
    show g1 3 3 _ = _
    rw [g1_same, hc]
    show (match popv k st2 [] with | some (vs, r) => qr r fun b r => gc (rcv X w M2 b) (xcl M M2 (.ref b :: vs) r) | none => none) = _
    rw [hp]
    show gc (rcv X w M2 y) (xcl M M2 (.ref y :: vs) st) = _
    rw [hb]
    show xcl M M2 (.ref y :: vs) st = _
    unfold xcl
    rw [if_pos ⟨hf, hr⟩]
theorem V_ci {idx M2 k y kd : Nat} {vs : List Value} {st2 : Stk} {a a2 b b2 : Nat} (hd : decode (mB M) pc = .ok (.invokespecial idx, 3)) (hpm : e_mk M pc ls = ls) (hkd : kd = 2 ∨ kd = 3) (hc : call (mN M) idx = some (kd, M2, k)) (hf : fits2 M M2 = true) (hm : mH M = []) (hp : popv k st2 [] = some (vs, .ref y :: st)) (hr : st.length ≤ 4) (hl : vs.length + 1 ≤ mL M2) (e1 : mC M2 = a) (e2 : mC M = a2) (e3 : mS M2 = b) (e4 : mS M = b2) (h1 : c + a ≤ a2) (h2 : sl + b ≤ b2) {en : Lcs} (hen : entl M2 (.ref y :: vs) = en) :
    Ev X M pc ls st2 w n c sl Q ↔ Ev X M2 0 en [] w n 0 0 (Kr X M (pc + 3) ls st (c + a) (sl + b) Q) := by
  subst hen; subst e1; subst e2; subst e3; subst e4
  have h := Ev_call (X := X) (ls := ls) (w := w) (n := n) (Q := Q) hd (M2 := M2) (vs := .ref y :: vs) (r := st) (st := st2) (c := c) (sl := sl) ?_ ⟨h1, h2, hl⟩ hm
  · rw [hpm] at h
    exact h
  · rw [hpm]
    show g1 3 3 _ = _
    rw [g1_same, hc]
    rcases hkd with rfl | rfl
    · show (match popv k st2 [] with | some (vs, r) => qr r fun b r => xcl M M2 (.ref b :: vs) r | none => none) = _
      rw [hp]
      show xcl M M2 (.ref y :: vs) st = _
      unfold xcl
      rw [if_pos ⟨hf, hr⟩]
    · show (match popv k st2 [] with | some (vs, r) => qr r fun b r => xcl M M2 (.ref b :: vs) r | none => none) = _
      rw [hp]
      show xcl M M2 (.ref y :: vs) st = _
      unfold xcl
      rw [if_pos ⟨hf, hr⟩]
end ROWS3
/-! the law's own rows -/
section ROWL
variable {X : Cxt} {pc : Nat} {ls : Lcs} {st : Stk} {w : Wld} {n : Option Nat} {c sl : Nat} {Q : (Option Value ⊕ String) → Wld → Option Nat → Prop}
theorem law_m2 : m2 223 = true := by decide +kernel
theorem law_mk (h : Nat.beq pc 28 = false) : e_mk 223 pc ls = ls := by
  unfold e_mk
  rw [if_neg]
  rintro ⟨-, e⟩
  rw [e] at h
  cases h
theorem L_p {i : Instr} {len pc2 : Nat} {ls2 : Lcs} {st2 : Stk} (hk : Nat.beq pc 28 = false) (hd : decode (mB 223) pc = .ok (i, len)) (hi : isP i = true) (hp : pst true i len pc ls st = some (pc2, ls2, st2)) : Ev X 223 pc ls st w n c sl Q ↔ Ev X 223 pc2 ls2 st2 w n c sl Q := by
  refine Ev_nx (q := (pc2, ls2, st2, w, n, c, sl)) hd ?_
  rw [law_mk hk, isP_x hi]
  unfold xpst
  rw [law_m2, hp]
  rfl
theorem L_b {i : Instr} {len : Nat} {P : Prop} [Decidable P] {t1 t2 : Nat} {ls2 : Lcs} {st2 : Stk} (hk : Nat.beq pc 28 = false) (hd : decode (mB 223) pc = .ok (i, len)) (hi : isP i = true) (hp : pst true i len pc ls st = some (if P then t1 else t2, ls2, st2)) : Ev X 223 pc ls st w n c sl Q ↔ if P then Ev X 223 t1 ls2 st2 w n c sl Q else Ev X 223 t2 ls2 st2 w n c sl Q := by
  rw [L_p hk hd hi hp]
  split <;> rfl
theorem psl_if {cd : ClassFile.Cond} {off : Int} {t : Nat} {x : Int32} {r : Stk} (ht : tgt pc off = some t) : pst true (.ifCond cd off) 3 pc ls (.int x :: r) = some (if cmp0 cd x = true then t else pc + 3, ls, r) := by
  show g1 3 3 (qi (.int x :: r) fun x r => gt pc off fun t => some (if cmp0 cd x = true then t else pc + 3, ls, r)) = _
  rw [g1_same]
  show gt pc off _ = _
  unfold gt
  rw [ht]
theorem psl_icmp {cd : ClassFile.Cond} {off : Int} {t : Nat} {x y : Int32} {r : Stk} (ht : tgt pc off = some t) : pst true (.if_icmp cd off) 3 pc ls (.int y :: .int x :: r) = some (if cmp2 cd x y = true then t else pc + 3, ls, r) := by
  show g1 3 3 (qi (.int y :: .int x :: r) fun y r => qi r fun x r => gt pc off fun t => some (if cmp2 cd x y = true then t else pc + 3, ls, r)) = _
  rw [g1_same]
  show gt pc off _ = _
  unfold gt
  rw [ht]
theorem L_ifeq {off : Int} {t : Nat} {x : Int32} (hk : Nat.beq pc 28 = false) (hd : decode (mB 223) pc = .ok (.ifCond .eq off, 3)) (ht : tgt pc off = some t) : Ev X 223 pc ls (.int x :: st) w n c sl Q ↔ if x = 0 then Ev X 223 (t) ls st w n c sl Q else Ev X 223 (pc + 3) ls st w n c sl Q :=
  L_b hk hd rfl (by rw [psl_if ht]; simp only [cmp0, decide_eq_true_eq])
theorem L_ifne {off : Int} {t : Nat} {x : Int32} (hk : Nat.beq pc 28 = false) (hd : decode (mB 223) pc = .ok (.ifCond .ne off, 3)) (ht : tgt pc off = some t) : Ev X 223 pc ls (.int x :: st) w n c sl Q ↔ if x = 0 then Ev X 223 (pc + 3) ls st w n c sl Q else Ev X 223 (t) ls st w n c sl Q :=
  L_b hk hd rfl (by rw [psl_if ht, ite_not' (R := x = 0) (by simp only [cmp0, decide_eq_true_eq])])
theorem L_iflt {off : Int} {t : Nat} {x : Int32} (hk : Nat.beq pc 28 = false) (hd : decode (mB 223) pc = .ok (.ifCond .lt off, 3)) (ht : tgt pc off = some t) : Ev X 223 pc ls (.int x :: st) w n c sl Q ↔ if x < 0 then Ev X 223 (t) ls st w n c sl Q else Ev X 223 (pc + 3) ls st w n c sl Q :=
  L_b hk hd rfl (by rw [psl_if ht]; simp only [cmp0, decide_eq_true_eq])
theorem L_ifge {off : Int} {t : Nat} {x : Int32} (hk : Nat.beq pc 28 = false) (hd : decode (mB 223) pc = .ok (.ifCond .ge off, 3)) (ht : tgt pc off = some t) : Ev X 223 pc ls (.int x :: st) w n c sl Q ↔ if x < 0 then Ev X 223 (pc + 3) ls st w n c sl Q else Ev X 223 (t) ls st w n c sl Q :=
  L_b hk hd rfl (by rw [psl_if ht, ite_not' (R := x < 0) (by simp only [cmp0, decide_eq_true_eq]; exact Int32.not_lt.symm)])
theorem L_ifgt {off : Int} {t : Nat} {x : Int32} (hk : Nat.beq pc 28 = false) (hd : decode (mB 223) pc = .ok (.ifCond .gt off, 3)) (ht : tgt pc off = some t) : Ev X 223 pc ls (.int x :: st) w n c sl Q ↔ if 0 < x then Ev X 223 (t) ls st w n c sl Q else Ev X 223 (pc + 3) ls st w n c sl Q :=
  L_b hk hd rfl (by rw [psl_if ht]; simp only [cmp0, decide_eq_true_eq])
theorem L_ifle {off : Int} {t : Nat} {x : Int32} (hk : Nat.beq pc 28 = false) (hd : decode (mB 223) pc = .ok (.ifCond .le off, 3)) (ht : tgt pc off = some t) : Ev X 223 pc ls (.int x :: st) w n c sl Q ↔ if 0 < x then Ev X 223 (pc + 3) ls st w n c sl Q else Ev X 223 (t) ls st w n c sl Q :=
  L_b hk hd rfl (by rw [psl_if ht, ite_not' (R := 0 < x) (by simp only [cmp0, decide_eq_true_eq]; exact Int32.not_lt.symm)])
theorem L_iceq {off : Int} {t : Nat} {x y : Int32} (hk : Nat.beq pc 28 = false) (hd : decode (mB 223) pc = .ok (.if_icmp .eq off, 3)) (ht : tgt pc off = some t) : Ev X 223 pc ls (.int y :: .int x :: st) w n c sl Q ↔ if x = y then Ev X 223 (t) ls st w n c sl Q else Ev X 223 (pc + 3) ls st w n c sl Q :=
  L_b hk hd rfl (by rw [psl_icmp ht]; simp only [cmp2, decide_eq_true_eq])
theorem L_icne {off : Int} {t : Nat} {x y : Int32} (hk : Nat.beq pc 28 = false) (hd : decode (mB 223) pc = .ok (.if_icmp .ne off, 3)) (ht : tgt pc off = some t) : Ev X 223 pc ls (.int y :: .int x :: st) w n c sl Q ↔ if x = y then Ev X 223 (pc + 3) ls st w n c sl Q else Ev X 223 (t) ls st w n c sl Q :=
  L_b hk hd rfl (by rw [psl_icmp ht, ite_not' (R := x = y) (by simp only [cmp2, decide_eq_true_eq])])
theorem L_iclt {off : Int} {t : Nat} {x y : Int32} (hk : Nat.beq pc 28 = false) (hd : decode (mB 223) pc = .ok (.if_icmp .lt off, 3)) (ht : tgt pc off = some t) : Ev X 223 pc ls (.int y :: .int x :: st) w n c sl Q ↔ if x < y then Ev X 223 (t) ls st w n c sl Q else Ev X 223 (pc + 3) ls st w n c sl Q :=
  L_b hk hd rfl (by rw [psl_icmp ht]; simp only [cmp2, decide_eq_true_eq])
theorem L_icge {off : Int} {t : Nat} {x y : Int32} (hk : Nat.beq pc 28 = false) (hd : decode (mB 223) pc = .ok (.if_icmp .ge off, 3)) (ht : tgt pc off = some t) : Ev X 223 pc ls (.int y :: .int x :: st) w n c sl Q ↔ if x < y then Ev X 223 (pc + 3) ls st w n c sl Q else Ev X 223 (t) ls st w n c sl Q :=
  L_b hk hd rfl (by rw [psl_icmp ht, ite_not' (R := x < y) (by simp only [cmp2, decide_eq_true_eq]; exact Int32.not_lt.symm)])
theorem L_icgt {off : Int} {t : Nat} {x y : Int32} (hk : Nat.beq pc 28 = false) (hd : decode (mB 223) pc = .ok (.if_icmp .gt off, 3)) (ht : tgt pc off = some t) : Ev X 223 pc ls (.int y :: .int x :: st) w n c sl Q ↔ if y < x then Ev X 223 (t) ls st w n c sl Q else Ev X 223 (pc + 3) ls st w n c sl Q :=
  L_b hk hd rfl (by rw [psl_icmp ht]; simp only [cmp2, decide_eq_true_eq])
theorem L_icle {off : Int} {t : Nat} {x y : Int32} (hk : Nat.beq pc 28 = false) (hd : decode (mB 223) pc = .ok (.if_icmp .le off, 3)) (ht : tgt pc off = some t) : Ev X 223 pc ls (.int y :: .int x :: st) w n c sl Q ↔ if y < x then Ev X 223 (pc + 3) ls st w n c sl Q else Ev X 223 (t) ls st w n c sl Q :=
  L_b hk hd rfl (by rw [psl_icmp ht, ite_not' (R := y < x) (by simp only [cmp2, decide_eq_true_eq]; exact Int32.not_lt.symm)])
theorem G_iald {M : Nat} {j : Int32} (he : e_mk M pc ls = ls) (hm : mK M = 2) (hd : decode (mB M) pc = .ok (.iaload, 1)) (h : inr_ j X.2.2.2.2.2.1 = true) : Ev X M pc ls (.int j :: .ref X.2.2.2.2.1 :: st) w n c sl Q ↔ Ev X M (pc + 1) ls (.int (X.2.2.2.2.2.2 j.toNatClampNeg) :: st) w n c sl Q := by
  refine Ev_nx (q := (pc + 1, ls, .int (X.2.2.2.2.2.2 j.toNatClampNeg) :: st, w, n, c, sl)) hd ?_
  rw [he]
  show g1 1 1 _ = _
  rw [g1_same]
  show (match mK M with | 2 => _ | _ => _) = _
  split
  · rw [if_pos ⟨rfl, h⟩]; rfl
  · rename_i h1
    exact absurd hm h1
theorem G_alen {M : Nat} (he : e_mk M pc ls = ls) (hm : mK M = 2) (hd : decode (mB M) pc = .ok (.arraylength, 1)) : Ev X M pc ls (.ref X.2.2.2.2.1 :: st) w n c sl Q ↔ Ev X M (pc + 1) ls (.int (Int32.ofNat X.2.2.2.2.2.1) :: st) w n c sl Q := by
  refine Ev_nx (q := (pc + 1, ls, .int (Int32.ofNat X.2.2.2.2.2.1) :: st, w, n, c, sl)) hd ?_
  rw [he]
  show g1 1 1 _ = _
  rw [g1_same]
  show (match mK M with | 2 => _ | 1 => _ | _ => _) = _
  split
  · rw [if_pos rfl]; rfl
  · rename_i h1
    rw [h1] at hm
    cases hm
  · rename_i h1 h2
    first
      | exact absurd hm h1
      | exact absurd hm h2
theorem L_iald {j : Int32} (hk : Nat.beq pc 28 = false) (hd : decode (mB 223) pc = .ok (.iaload, 1)) (h : inr_ j X.2.2.2.2.2.1 = true) : Ev X 223 pc ls (.int j :: .ref X.2.2.2.2.1 :: st) w n c sl Q ↔ Ev X 223 (pc + 1) ls (.int (X.2.2.2.2.2.2 j.toNatClampNeg) :: st) w n c sl Q := G_iald (law_mk hk) (by decide +kernel) hd h
theorem L_alen (hk : Nat.beq pc 28 = false) (hd : decode (mB 223) pc = .ok (.arraylength, 1)) : Ev X 223 pc ls (.ref X.2.2.2.2.1 :: st) w n c sl Q ↔ Ev X 223 (pc + 1) ls (.int (Int32.ofNat X.2.2.2.2.2.1) :: st) w n c sl Q := G_alen (law_mk hk) (by decide +kernel) hd
theorem L_lald {a : Nat} {j : Int32} (hk : Nat.beq pc 28 = false) (hd : decode (mB 223) pc = .ok (.laload, 1)) : Ev X 223 pc ls (.int j :: .ref a :: st) w n c sl Q ↔ ∃ v, ga w a 2 j = some v ∧ Ev X 223 (pc + 1) ls (v :: st) w n c sl Q := by
  refine E_rd (r := ga w a 2 j) (q := fun v => (pc + 1, ls, v :: st, w, n, c, sl)) hd ?_
  rw [law_mk hk]
  show g1 1 1 (match ga w a 2 j with | some v => nxt (pc + 1) ls (v :: st) w n c sl | none => none) = _
  cases ga w a 2 j <;> rfl
theorem L_dald {a : Nat} {j : Int32} (hk : Nat.beq pc 28 = false) (hd : decode (mB 223) pc = .ok (.daload, 1)) : Ev X 223 pc ls (.int j :: .ref a :: st) w n c sl Q ↔ ∃ v, ga w a 3 j = some v ∧ Ev X 223 (pc + 1) ls (v :: st) w n c sl Q := by
  refine E_rd (r := ga w a 3 j) (q := fun v => (pc + 1, ls, v :: st, w, n, c, sl)) hd ?_
  rw [law_mk hk]
  show g1 1 1 (match ga w a 3 j with | some v => nxt (pc + 1) ls (v :: st) w n c sl | none => none) = _
  cases ga w a 3 j <;> rfl
theorem L_f2d {v : UInt32} (hk : Nat.beq pc 28 = false) (hd : decode (mB 223) pc = .ok (.f2d, 1)) (h : n64 (FP.f2d v) = true) : Ev X 223 pc ls (.float v :: st) w n c sl Q ↔ Ev X 223 (pc + 1) ls (.double (FP.f2d v) :: st) w n c sl Q := by
  refine L_p hk hd rfl ?_
  show g1 1 1 (gc (n64 (FP.f2d v)) (some (pc + 1, ls, .double (FP.f2d v) :: st))) = _
  rw [g1_same, h]
  rfl
theorem L_ret {x : Int32} (hk : Nat.beq pc 28 = false) (hd : decode (mB 223) pc = .ok (.ireturn, 1)) (h : okr (some .boolean) x = true) : Ev X 223 pc ls [.int x] w n c sl Q ↔ Q (.inl (some (.int x))) w n := by
  refine Ev_out (o := (.inl (some (.int x)), w, n)) hd ?_
  rw [law_mk hk]
  have e : mR 223 = some .boolean := by decide +kernel
  show g1 1 1 (gc (okr (mR 223) x) _) = _
  rw [g1_same, e, h]
  rfl
/-- at the head the turn's numbers are forgotten -/
theorem L_head {l6 l7 l8 : Option Value} {a0 a1 a2 a3 a4 : Option Value} {x : Int32} (hd : decode (mB 223) 28 = .ok (.iload 5, 2)) : Ev X 223 28 [a0, a1, a2, a3, a4, some (.int x), l6, l7, l8] st w n c sl Q ↔ Ev X 223 30 [a0, a1, a2, a3, a4, some (.int x), none, none, none] (.int x :: st) w n c sl Q := by
  refine Ev_nx (q := (30, [a0, a1, a2, a3, a4, some (.int x), none, none, none], .int x :: st, w, n, c, sl)) hd ?_
  have e : e_mk 223 28 [a0, a1, a2, a3, a4, some (.int x), l6, l7, l8] = [a0, a1, a2, a3, a4, some (.int x), none, none, none] := rfl
  rw [e, isP_x rfl]
  unfold xpst
  rw [law_m2]
  rfl
end ROWL
