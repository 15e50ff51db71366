/-! ===== ROWS of the abstract machine: what a run from here needs, an instruction each ===== -/
section ROWS
variable {X : Cxt} {M pc : Nat} {ls : Lcs} {st : Stk} {w : Wld} {n : Option Nat} {c sl : Nat} {Q : (Option Value ⊕ String) → Wld → Option Nat → Prop}
def isP : Instr → Bool
  | .getfield _ | .putfield _ | .iaload | .caload | .laload | .aaload | .iastore | .castore | .lastore | .bastore | .aastore | .arraylength | .baload | .getstatic _ | .ldc _ | .ldc_w _ | .ldc2_w _ | .new _ | .newarray _ | .anewarray _ | .ireturn | .freturn | .dreturn | .lreturn | .areturn | .return_ | .invokestatic _ | .invokevirtual _ | .invokespecial _ => false
  | _ => true
theorem isP_x {i : Instr} (h : isP i = true) {len : Nat} : xst X M pc i len ls st w n c sl = xpst M pc i len ls st w n c sl := by
  cases i <;> first | rfl | cases h
theorem ex_det {f g : Nat} {o1 o2 : Otc} (h1 : ex X f M pc ls st w n c sl = some o1) (h2 : ex X g M pc ls st w n c sl = some o2) : o1 = o2 := by
  have a := ex_up X h1 (Nat.le_max_left f g)
  have b := ex_up X h2 (Nat.le_max_right f g)
  exact Option.some.inj (a.symm.trans b)
/-- a method whose locals hold no long, no double, and of which nothing is forgotten -/
def okP (M : Nat) : Bool := !m2 M && MKT.all (fun q => !Nat.beq q.1 M)
theorem okP_m {M : Nat} (h : okP M = true) : m2 M = false := by
  unfold okP at h
  simp only [Bool.and_eq_true, Bool.not_eq_true'] at h
  exact h.1
theorem okP_mk {M pc : Nat} {ls : Lcs} (h : okP M = true) : e_mk M pc ls = ls := by
  unfold okP at h
  have h2 := (Bool.and_eq_true_iff.mp h).2
  unfold e_mk
  split
  · rename_i q hq
    have h3 := List.all_eq_true.mp h2 q (List.mem_of_find?_eq_some hq)
    have h4 := List.find?_some hq
    rw [(Bool.and_eq_true_iff.mp h4).1] at h3
    cases h3
  · rfl
theorem Ev_nx {i : Instr} {len : Nat} (hd : decode (mB M) pc = .ok (i, len)) {q : Nxt} (h : xst X M pc i len (e_mk M pc ls) st w n c sl = some (.inl q)) : Ev X M pc ls st w n c sl Q ↔ Ev X M q.1 q.2.1 q.2.2.1 q.2.2.2.1 q.2.2.2.2.1 q.2.2.2.2.2.1 q.2.2.2.2.2.2 Q := by
  constructor
  · rintro ⟨f, o, h1, h2⟩
    cases f with
    | zero => cases h1
    | succ f =>
      rw [ex, hd] at h1
      dsimp only at h1
      rw [h] at h1
      exact ⟨f, o, h1, h2⟩
  · rintro ⟨f, o, h1, h2⟩
    refine ⟨f + 1, o, ?_, h2⟩
    rw [ex, hd]
    dsimp only
    rw [h]
    exact h1
theorem Ev_no {i : Instr} {len : Nat} (hd : decode (mB M) pc = .ok (i, len)) (h : xst X M pc i len (e_mk M pc ls) st w n c sl = none) : ¬ Ev X M pc ls st w n c sl Q := by
  rintro ⟨f, o, h1, h2⟩
  cases f with
  | zero => cases h1
  | succ f =>
    rw [ex, hd] at h1
    dsimp only at h1
    rw [h] at h1
    cases h1
theorem Ev_out {i : Instr} {len : Nat} (hd : decode (mB M) pc = .ok (i, len)) {o : Otc} (h : xst X M pc i len (e_mk M pc ls) st w n c sl = some (.inr (.inl o))) : Ev X M pc ls st w n c sl Q ↔ Q o.1 o.2.1 o.2.2 := by
  constructor
  · rintro ⟨f, o2, h1, h2⟩
    cases f with
    | zero => cases h1
    | succ f =>
      rw [ex, hd] at h1
      dsimp only at h1
      rw [h] at h1
      cases h1
      exact h2
  · intro h2
    refine ⟨1, o, ?_, h2⟩
    rw [ex, hd]
    dsimp only
    rw [h]
theorem E_p {i : Instr} {len : Nat} {pc2 : Nat} {ls2 : Lcs} {st2 : Stk} (hk : okP M = true) (hd : decode (mB M) pc = .ok (i, len)) (hi : isP i = true) (hp : pst false i len pc ls st = some (pc2, ls2, st2)) : Ev X M pc ls st w n c sl Q ↔ Ev X M pc2 ls2 st2 w n c sl Q := by
  refine Ev_nx (q := (pc2, ls2, st2, w, n, c, sl)) hd ?_
  rw [okP_mk hk, isP_x hi]
  unfold xpst
  rw [okP_m hk, hp]
  rfl
/-- a row's pure part with a branch: the place alone depends -/
theorem E_b {i : Instr} {len : Nat} {P : Prop} [Decidable P] {t1 t2 : Nat} {ls2 : Lcs} {st2 : Stk} (hk : okP M = true) (hd : decode (mB M) pc = .ok (i, len)) (hi : isP i = true) (hp : pst false i len pc ls st = some (if P then t1 else t2, ls2, st2)) : Ev X M pc ls st w n c sl Q ↔ if P then Ev X M t1 ls2 st2 w n c sl Q else Ev X M t2 ls2 st2 w n c sl Q := by
  rw [E_p hk hd hi hp]
  split <;> rfl
theorem pst_if {cd : ClassFile.Cond} {off : Int} {t : Nat} {x : Int32} {r : Stk} (ht : tgt pc off = some t) : pst false (.ifCond cd off) 3 pc ls (.int x :: r) = some (if cmp0 cd x = true then t else pc + 3, ls, r) := by
  show g1 3 3 (qi (.int x :: r) fun x r => gt pc off fun t => some (if cmp0 cd x = true then t else pc + 3, ls, r)) = _
  rw [g1_same]
  show gt pc off _ = _
  unfold gt
  rw [ht]
theorem pst_icmp {cd : ClassFile.Cond} {off : Int} {t : Nat} {x y : Int32} {r : Stk} (ht : tgt pc off = some t) : pst false (.if_icmp cd off) 3 pc ls (.int y :: .int x :: r) = some (if cmp2 cd x y = true then t else pc + 3, ls, r) := by
  show g1 3 3 (qi (.int y :: .int x :: r) fun y r => qi r fun x r => gt pc off fun t => some (if cmp2 cd x y = true then t else pc + 3, ls, r)) = _
  rw [g1_same]
  show gt pc off _ = _
  unfold gt
  rw [ht]
theorem ite_not' {α : Sort _} {P R : Prop} [Decidable P] [Decidable R] (h : P ↔ ¬ R) (a b : α) : (if P then a else b) = if R then b else a := by
  by_cases hr : R
  · rw [if_neg (fun p => (h.mp p) hr), if_pos hr]
  · rw [if_pos (h.mpr hr), if_neg hr]
theorem E_ifeq {off : Int} {t : Nat} {x : Int32} (hk : okP M = true) (hd : decode (mB M) pc = .ok (.ifCond .eq off, 3)) (ht : tgt pc off = some t) : Ev X M pc ls (.int x :: st) w n c sl Q ↔ if x = 0 then Ev X M t ls st w n c sl Q else Ev X M (pc + 3) ls st w n c sl Q :=
  E_b hk hd rfl (by rw [pst_if ht]; simp only [cmp0, decide_eq_true_eq])
theorem E_ifne {off : Int} {t : Nat} {x : Int32} (hk : okP M = true) (hd : decode (mB M) pc = .ok (.ifCond .ne off, 3)) (ht : tgt pc off = some t) : Ev X M pc ls (.int x :: st) w n c sl Q ↔ if x = 0 then Ev X M (pc + 3) ls st w n c sl Q else Ev X M t ls st w n c sl Q :=
  E_b hk hd rfl (by rw [pst_if ht, ite_not' (R := x = 0) (by simp only [cmp0, decide_eq_true_eq])])
theorem E_iflt {off : Int} {t : Nat} {x : Int32} (hk : okP M = true) (hd : decode (mB M) pc = .ok (.ifCond .lt off, 3)) (ht : tgt pc off = some t) : Ev X M pc ls (.int x :: st) w n c sl Q ↔ if x < 0 then Ev X M t ls st w n c sl Q else Ev X M (pc + 3) ls st w n c sl Q :=
  E_b hk hd rfl (by rw [pst_if ht]; simp only [cmp0, decide_eq_true_eq])
theorem E_ifge {off : Int} {t : Nat} {x : Int32} (hk : okP M = true) (hd : decode (mB M) pc = .ok (.ifCond .ge off, 3)) (ht : tgt pc off = some t) : Ev X M pc ls (.int x :: st) w n c sl Q ↔ if x < 0 then Ev X M (pc + 3) ls st w n c sl Q else Ev X M t ls st w n c sl Q :=
  E_b hk hd rfl (by rw [pst_if ht, ite_not' (R := x < 0) (by simp only [cmp0, decide_eq_true_eq]; exact Int32.not_lt.symm)])
theorem E_ifgt {off : Int} {t : Nat} {x : Int32} (hk : okP M = true) (hd : decode (mB M) pc = .ok (.ifCond .gt off, 3)) (ht : tgt pc off = some t) : Ev X M pc ls (.int x :: st) w n c sl Q ↔ if 0 < x then Ev X M t ls st w n c sl Q else Ev X M (pc + 3) ls st w n c sl Q :=
  E_b hk hd rfl (by rw [pst_if ht]; simp only [cmp0, decide_eq_true_eq])
theorem E_ifle {off : Int} {t : Nat} {x : Int32} (hk : okP M = true) (hd : decode (mB M) pc = .ok (.ifCond .le off, 3)) (ht : tgt pc off = some t) : Ev X M pc ls (.int x :: st) w n c sl Q ↔ if 0 < x then Ev X M (pc + 3) ls st w n c sl Q else Ev X M t ls st w n c sl Q :=
  E_b hk hd rfl (by rw [pst_if ht, ite_not' (R := 0 < x) (by simp only [cmp0, decide_eq_true_eq]; exact Int32.not_lt.symm)])
theorem E_iceq {off : Int} {t : Nat} {x y : Int32} (hk : okP M = true) (hd : decode (mB M) pc = .ok (.if_icmp .eq off, 3)) (ht : tgt pc off = some t) : Ev X M pc ls (.int y :: .int x :: st) w n c sl Q ↔ if x = y then Ev X M t ls st w n c sl Q else Ev X M (pc + 3) ls st w n c sl Q :=
  E_b hk hd rfl (by rw [pst_icmp ht]; simp only [cmp2, decide_eq_true_eq])
theorem E_icne {off : Int} {t : Nat} {x y : Int32} (hk : okP M = true) (hd : decode (mB M) pc = .ok (.if_icmp .ne off, 3)) (ht : tgt pc off = some t) : Ev X M pc ls (.int y :: .int x :: st) w n c sl Q ↔ if x = y then Ev X M (pc + 3) ls st w n c sl Q else Ev X M t ls st w n c sl Q :=
  E_b hk hd rfl (by rw [pst_icmp ht, ite_not' (R := x = y) (by simp only [cmp2, decide_eq_true_eq])])
theorem E_iclt {off : Int} {t : Nat} {x y : Int32} (hk : okP M = true) (hd : decode (mB M) pc = .ok (.if_icmp .lt off, 3)) (ht : tgt pc off = some t) : Ev X M pc ls (.int y :: .int x :: st) w n c sl Q ↔ if x < y then Ev X M t ls st w n c sl Q else Ev X M (pc + 3) ls st w n c sl Q :=
  E_b hk hd rfl (by rw [pst_icmp ht]; simp only [cmp2, decide_eq_true_eq])
theorem E_icge {off : Int} {t : Nat} {x y : Int32} (hk : okP M = true) (hd : decode (mB M) pc = .ok (.if_icmp .ge off, 3)) (ht : tgt pc off = some t) : Ev X M pc ls (.int y :: .int x :: st) w n c sl Q ↔ if x < y then Ev X M (pc + 3) ls st w n c sl Q else Ev X M t ls st w n c sl Q :=
  E_b hk hd rfl (by rw [pst_icmp ht, ite_not' (R := x < y) (by simp only [cmp2, decide_eq_true_eq]; exact Int32.not_lt.symm)])
theorem E_icgt {off : Int} {t : Nat} {x y : Int32} (hk : okP M = true) (hd : decode (mB M) pc = .ok (.if_icmp .gt off, 3)) (ht : tgt pc off = some t) : Ev X M pc ls (.int y :: .int x :: st) w n c sl Q ↔ if y < x then Ev X M t ls st w n c sl Q else Ev X M (pc + 3) ls st w n c sl Q :=
  E_b hk hd rfl (by rw [pst_icmp ht]; simp only [cmp2, decide_eq_true_eq])
theorem E_icle {off : Int} {t : Nat} {x y : Int32} (hk : okP M = true) (hd : decode (mB M) pc = .ok (.if_icmp .le off, 3)) (ht : tgt pc off = some t) : Ev X M pc ls (.int y :: .int x :: st) w n c sl Q ↔ if y < x then Ev X M (pc + 3) ls st w n c sl Q else Ev X M t ls st w n c sl Q :=
  E_b hk hd rfl (by rw [pst_icmp ht, ite_not' (R := y < x) (by simp only [cmp2, decide_eq_true_eq]; exact Int32.not_lt.symm)])
/-- a step that reads: none, or it goes on with what was read -/
theorem E_rd {i : Instr} {len : Nat} {α : Type} {r : Option α} {q : α → Nxt} (hd : decode (mB M) pc = .ok (i, len)) (hx : xst X M pc i len (e_mk M pc ls) st w n c sl = r.bind fun v => some (.inl (q v))) : Ev X M pc ls st w n c sl Q ↔ ∃ v, r = some v ∧ Ev X M (q v).1 (q v).2.1 (q v).2.2.1 (q v).2.2.2.1 (q v).2.2.2.2.1 (q v).2.2.2.2.2.1 (q v).2.2.2.2.2.2 Q := by
  cases r with
  | none =>
    constructor
    · intro h; exact absurd h (Ev_no hd hx)
    · rintro ⟨v, h, -⟩; cases h
  | some v =>
    rw [Ev_nx hd hx]
    constructor
    · intro h; exact ⟨v, rfl, h⟩
    · rintro ⟨v2, h, h2⟩; cases h; exact h2
theorem match_bind {α β : Type} (r : Option α) (f : α → Option β) : (match r with | some v => f v | none => none) = r.bind f := by cases r <;> rfl
theorem E_getf {idx ci k a : Nat} (hk : okP M = true) (hn : Nat.beq (mK M) 1 = false) (hd : decode (mB M) pc = .ok (.getfield idx, 3)) (hf : fld (mN M) idx = some (ci, k)) : Ev X M pc ls (.ref a :: st) w n c sl Q ↔ ∃ v, gf w a ci k = some v ∧ Ev X M (pc + 3) ls (v :: st) w n c sl Q := by
  refine E_rd (r := gf w a ci k) (q := fun v => (pc + 3, ls, v :: st, w, n, c, sl)) hd ?_
  rw [okP_mk hk]
  show g1 3 3 _ = _
  rw [g1_same]
  show (match mK M with | 1 => _ | _ => _) = _
  split
  · rename_i h1
    rw [h1] at hn
    cases hn
  · rw [hf]
    dsimp only; cases gf w a ci k <;> rfl
theorem E_putf {idx ci k a : Nat} {v : Value} (hk : okP M = true) (hv : v.category = 1) (hd : decode (mB M) pc = .ok (.putfield idx, 3)) (hf : fld (mN M) idx = some (ci, k)) (hp : pok M ci k = true) : Ev X M pc ls (v :: .ref a :: st) w n c sl Q ↔ ∃ w2, pf w a ci k v = some w2 ∧ Ev X M (pc + 3) ls st w2 n c sl Q := by
  refine E_rd (r := pf w a ci k v) (q := fun w2 => (pc + 3, ls, st, w2, n, c, sl)) hd ?_
  rw [okP_mk hk]
  show g1 3 3 _ = _
  rw [g1_same]
  show (if v.category = 1 then _ else _) = _
  rw [if_pos hv]
  show (match fld (mN M) idx with | some q => _ | none => none) = _
  rw [hf]
  dsimp only
  rw [hp]
  cases pf w a ci k v <;> rfl
theorem E_iald {a : Nat} {j : Int32} (hk : okP M = true) (hn : Nat.beq (mK M) 2 = false) (hd : decode (mB M) pc = .ok (.iaload, 1)) : Ev X M pc ls (.int j :: .ref a :: st) w n c sl Q ↔ ∃ v, ga w a 0 j = some v ∧ Ev X M (pc + 1) ls (v :: st) w n c sl Q := by
  refine E_rd (r := ga w a 0 j) (q := fun v => (pc + 1, ls, v :: st, w, n, c, sl)) hd ?_
  rw [okP_mk hk]
  show g1 1 1 _ = _
  rw [g1_same]
  show (match mK M with | 2 => _ | _ => _) = _
  split
  · rename_i h1
    rw [h1] at hn
    cases hn
  · cases ga w a 0 j <;> rfl
theorem E_cald {a : Nat} {j : Int32} (hk : okP M = true) (hd : decode (mB M) pc = .ok (.caload, 1)) : Ev X M pc ls (.int j :: .ref a :: st) w n c sl Q ↔ ∃ v, ga w a 1 j = some v ∧ Ev X M (pc + 1) ls (v :: st) w n c sl Q := by
  refine E_rd (r := ga w a 1 j) (q := fun v => (pc + 1, ls, v :: st, w, n, c, sl)) hd ?_
  rw [okP_mk hk]
  show g1 1 1 (match ga w a 1 j with | some v => nxt (pc + 1) ls (v :: st) w n c sl | none => none) = _
  cases ga w a 1 j <;> rfl
theorem E_aald {a : Nat} {j : Int32} (hk : okP M = true) (hd : decode (mB M) pc = .ok (.aaload, 1)) : Ev X M pc ls (.int j :: .ref a :: st) w n c sl Q ↔ ∃ v, ((ga w a 4 j).or (ga w a 5 j)) = some v ∧ Ev X M (pc + 1) ls (v :: st) w n c sl Q := by
  refine E_rd (r := (ga w a 4 j).or (ga w a 5 j)) (q := fun v => (pc + 1, ls, v :: st, w, n, c, sl)) hd ?_
  rw [okP_mk hk]
  show (match ga w a 4 j with | some v => _ | none => (match ga w a 5 j with | some v => _ | none => none)) = _
  cases ga w a 4 j with
  | some v => rfl
  | none => cases ga w a 5 j <;> rfl
theorem E_iast {a : Nat} {j x : Int32} (hk : okP M = true) (hd : decode (mB M) pc = .ok (.iastore, 1)) : Ev X M pc ls (.int x :: .int j :: .ref a :: st) w n c sl Q ↔ ∃ w2, sa w a 0 j (.int x) = some w2 ∧ Ev X M (pc + 1) ls st w2 n c sl Q := by
  refine E_rd (r := sa w a 0 j (.int x)) (q := fun w2 => (pc + 1, ls, st, w2, n, c, sl)) hd ?_
  rw [okP_mk hk]
  show g1 1 1 (match sa w a 0 j (.int x) with | some w2 => nxt (pc + 1) ls st w2 n c sl | none => none) = _
  cases sa w a 0 j (.int x) <;> rfl
theorem E_cast {a : Nat} {j x : Int32} (hk : okP M = true) (hd : decode (mB M) pc = .ok (.castore, 1)) : Ev X M pc ls (.int x :: .int j :: .ref a :: st) w n c sl Q ↔ ∃ w2, sa w a 1 j (narrow .char (.int x)) = some w2 ∧ Ev X M (pc + 1) ls st w2 n c sl Q := by
  refine E_rd (r := sa w a 1 j (narrow .char (.int x))) (q := fun w2 => (pc + 1, ls, st, w2, n, c, sl)) hd ?_
  rw [okP_mk hk]
  show g1 1 1 (match sa w a 1 j (narrow .char (.int x)) with | some w2 => nxt (pc + 1) ls st w2 n c sl | none => none) = _
  cases sa w a 1 j (narrow .char (.int x)) <;> rfl
theorem E_ldc {idx j : Nat} (hk : okP M = true) (hd : decode (mB M) pc = .ok (.ldc idx, 2)) (hl : lit (mN M) idx = some j) : Ev X M pc ls st w n c sl Q ↔ Ev X M (pc + 2) ls (.ref (X.1 j) :: st) w n c sl Q := by
  refine Ev_nx (q := (pc + 2, ls, .ref (X.1 j) :: st, w, n, c, sl)) hd ?_
  rw [okP_mk hk]
  show g1 2 2 _ = _
  rw [g1_same, hl]
  rfl
theorem E_reti {x : Int32} (hk : okP M = true) (hd : decode (mB M) pc = .ok (.ireturn, 1)) (hr : mR M = some .int) : Ev X M pc ls [.int x] w n c sl Q ↔ Q (.inl (some (.int x))) w n := by
  refine Ev_out (o := (.inl (some (.int x)), w, n)) hd ?_
  rw [okP_mk hk]
  show g1 1 1 (gc (okr (mR M) x) _) = _
  rw [g1_same, hr]
  rfl
theorem E_retz {x : Int32} {ty : FieldType} (hk : okP M = true) (hd : decode (mB M) pc = .ok (.ireturn, 1)) (hr : mR M = some ty) (ho : okr (some ty) x = true) : Ev X M pc ls [.int x] w n c sl Q ↔ Q (.inl (some (.int x))) w n := by
  refine Ev_out (o := (.inl (some (.int x)), w, n)) hd ?_
  rw [okP_mk hk]
  show g1 1 1 (gc (okr (mR M) x) _) = _
  rw [g1_same, hr, ho]
  rfl
theorem E_reta {a : Nat} (hk : okP M = true) (hd : decode (mB M) pc = .ok (.areturn, 1)) (hr : isob (mR M) = true) : Ev X M pc ls [.ref a] w n c sl Q ↔ Q (.inl (some (.ref a))) w n := by
  refine Ev_out (o := (.inl (some (.ref a)), w, n)) hd ?_
  rw [okP_mk hk]
  show g1 1 1 (gc (isob (mR M)) _) = _
  rw [g1_same, hr]
  rfl
theorem E_retv (hk : okP M = true) (hd : decode (mB M) pc = .ok (.return_, 1)) (hr : mR M = none) : Ev X M pc ls [] w n c sl Q ↔ Q (.inl none) w n := by
  refine Ev_out (o := (.inl none, w, n)) hd ?_
  rw [okP_mk hk]
  show g1 1 1 (gc (decide (mR M = none)) _) = _
  rw [g1_same, hr]
  rfl
theorem E_thr {idx : Nat} {E : String} (hk : okP M = true) (hd : decode (mB M) pc = .ok (.new idx, 3)) (ht : thr M pc = some E) (hr : st.length ≤ 4) : Ev X M pc ls st w n c sl Q ↔ Q (.inr E) w (n.map (· + 1)) := by
  refine Ev_out (o := (.inr E, w, n.map (· + 1))) hd ?_
  rw [okP_mk hk]
  show g1 3 3 (match thr M pc with | some e => _ | none => _) = _
  rw [g1_same, ht]
  dsimp only
  rw [if_pos hr]
/-- what goes on behind a call -/
def Kr (X : Cxt) (M pc : Nat) (ls : Lcs) (st : Stk) (c sl : Nat) (Q : (Option Value ⊕ String) → Wld → Option Nat → Prop) : (Option Value ⊕ String) → Wld → Option Nat → Prop := fun o w n => match o with
  | .inl v => Ev X M pc ls (v.toList ++ st) w n c sl Q
  | .inr e => Q (.inr e) w n
theorem Kr_v {v : Value} : Kr X M pc ls st c sl Q (.inl (some v)) w n = Ev X M pc ls (v :: st) w n c sl Q := rfl
theorem Kr_n : Kr X M pc ls st c sl Q (.inl none) w n = Ev X M pc ls st w n c sl Q := rfl
theorem Kr_e {e : String} : Kr X M pc ls st c sl Q (.inr e) w n = Q (.inr e) w n := rfl
/-- what goes on behind a call of the method M2 -/
def Kj (X : Cxt) (M M2 pc : Nat) (ls : Lcs) (st : Stk) (c sl : Nat) (Q : (Option Value ⊕ String) → Wld → Option Nat → Prop) : (Option Value ⊕ String) → Wld → Option Nat → Prop := fun o w n => match o with
  | .inl v => Ev X M pc ls (v.toList ++ st) w n c sl Q
  | .inr e => match jdk M2 with
    | true => False
    | false => Q (.inr e) w n
theorem Kj_Kr {M2 : Nat} (h : jdk M2 = false) : Kj X M M2 pc ls st c sl Q = Kr X M pc ls st c sl Q := by
  funext o w n
  unfold Kj Kr
  cases o with
  | inl v => rfl
  | inr e => rw [h]
theorem Ev_call {i : Instr} {len : Nat} (hd : decode (mB M) pc = .ok (i, len)) {M2 : Nat} {vs : List Value} {r : Stk} (h : xst X M pc i len (e_mk M pc ls) st w n c sl = some (.inr (.inr (M2, vs, r)))) (hg : vs.length ≤ mL M2) (hm : mH M = []) :
    Ev X M pc ls st w n c sl Q ↔ Ev X M2 0 (entl M2 vs) [] w n 0 0 (Kj X M M2 (pc + 3) (e_mk M pc ls) r c sl Q) := by
  constructor
  · rintro ⟨f, o, h1, h2⟩
    cases f with
    | zero => cases h1
    | succ f =>
      rw [ex, hd] at h1
      dsimp only at h1
      rw [h] at h1
      dsimp only at h1
      split at h1
      · cases h1
      · rename_i o2 ho2
        rw [if_pos hg] at h1
        refine ⟨f, o2, ho2, ?_⟩
        obtain ⟨u, w2, n2⟩ := o2
        cases u with
        | inl v => exact ⟨f, o, h1, h2⟩
        | inr e =>
          dsimp only at h1
          show (match jdk M2 with | true => False | false => Q (.inr e) w2 n2)
          split at h1
          · cases h1
          · rename_i hj
            rw [hj]
            rw [hm] at h1
            cases h1
            exact h2
  · rintro ⟨f, ⟨u, w2, n2⟩, ho2, h2⟩
    cases u with
    | inl v =>
      obtain ⟨g, o, h3, h4⟩ := h2
      refine ⟨max f g + 1, o, ?_, h4⟩
      rw [ex, hd]
      dsimp only
      rw [h]
      dsimp only
      rw [ex_up X ho2 (Nat.le_max_left f g)]
      dsimp only
      rw [if_pos hg]
      exact ex_up X h3 (Nat.le_max_right f g)
    | inr e =>
      have h3 : (match jdk M2 with | true => False | false => Q (.inr e) w2 n2) := h2
      split at h3
      · exact h3.elim
      · rename_i hj
        refine ⟨f + 1, (.inr e, w2, n2), ?_, h3⟩
        rw [ex, hd]
        dsimp only
        rw [h]
        dsimp only
        rw [ho2]
        dsimp only
        rw [if_pos hg, hj]
        dsimp only
        rw [hm]
theorem E_cs {idx M2 k : Nat} {vs : List Value} {st2 : Stk} (hk : okP M = true) (hd : decode (mB M) pc = .ok (.invokestatic idx, 3)) (hc : call (mN M) idx = some (1, M2, k)) (hf : fits2 M M2 = true) (hm : mH M = []) (hp : popv k st2 [] = some (vs, st)) (hr : st.length ≤ 8) (hg : vs.length ≤ mL M2) {en : Lcs} (hen : entl M2 vs = en) :
    Ev X M pc ls st2 w n c sl Q ↔ Ev X M2 0 en [] w n 0 0 (Kj X M M2 (pc + 3) ls st c sl Q) := by
  subst hen
  have h := Ev_call (X := X) (ls := ls) (w := w) (n := n) (Q := Q) hd (M2 := M2) (vs := vs) (r := st) (st := st2) (c := c) (sl := sl) ?_ hg hm
  · rw [okP_mk hk] at h
    exact h
  · rw [okP_mk hk]
    show g1 3 3 _ = _
    rw [g1_same, hc]
    show (match popv k st2 [] with | some (vs, r) => xcl M M2 vs r | none => none) = _
    rw [hp]
    show xcl M M2 vs st = _
    unfold xcl
    rw [if_pos ⟨hf, hr⟩]
theorem E_cv {idx kd M2 k b : Nat} {vs : List Value} {st2 : Stk} (hk : okP M = true) (hd : decode (mB M) pc = .ok (.invokevirtual idx, 3)) (hc : call (mN M) idx = some (kd, M2, k)) (hkd : vkd kd = true) (hf : fits2 M M2 = true) (hm : mH M = []) (hp : popv k st2 [] = some (vs, .ref b :: st)) (hb : rcv X w M2 b = true) (hr : st.length ≤ 4) (hg : vs.length + 1 ≤ mL M2) {en : Lcs} (hen : entl M2 (.ref b :: vs) = en) :
    Ev X M pc ls st2 w n c sl Q ↔ Ev X M2 0 en [] w n 0 0 (Kj X M M2 (pc + 3) ls st c sl Q) := by
  subst hen
  have h := Ev_call (X := X) (ls := ls) (w := w) (n := n) (Q := Q) hd (M2 := M2) (vs := .ref b :: vs) (r := st) (st := st2) (c := c) (sl := sl) ?_ hg hm
  · rw [okP_mk hk] at h
    exact h
  · rw [okP_mk hk]
    show g1 3 3 _ = _
    rw [g1_same, hc]
    show gc (vkd kd) (match popv k st2 [] with | some (vs, r) => qr r fun b r => gc (rcv X w M2 b) (match kd with | 0 => xcl M M2 (.ref b :: vs) r | _ => xc4 M M2 (.ref b :: vs) r) | none => none) = _
    rw [hp, hkd]
    show gc (rcv X w M2 b) (match kd with | 0 => xcl M M2 (.ref b :: vs) st | _ => xc4 M M2 (.ref b :: vs) st) = _
    rw [hb]
    have e2 : xcl M M2 (.ref b :: vs) st = some (.inr (.inr (M2, .ref b :: vs, st))) := by
      unfold xcl
      rw [if_pos ⟨hf, by omega⟩]
    show (match kd with | 0 => xcl M M2 (.ref b :: vs) st | _ => xc4 M M2 (.ref b :: vs) st) = _
    unfold xc4
    rw [if_pos hr, e2]
    split <;> rfl
/-- a call of a superclass's method, or of a constructor -/
theorem E_cp {idx kd M2 k b : Nat} {vs : List Value} {st2 : Stk} (hk : okP M = true) (hd : decode (mB M) pc = .ok (.invokespecial idx, 3)) (hc : call (mN M) idx = some (kd, M2, k)) (hkd : kd = 2 ∨ kd = 3 ∨ (kd = 14 ∧ rcv X w M2 b = true)) (hf : fits2 M M2 = true) (hm : mH M = []) (hp : popv k st2 [] = some (vs, .ref b :: st)) (hr : st.length ≤ 4) (hg : vs.length + 1 ≤ mL M2) {en : Lcs} (hen : entl M2 (.ref b :: vs) = en) :
    Ev X M pc ls st2 w n c sl Q ↔ Ev X M2 0 en [] w n 0 0 (Kj X M M2 (pc + 3) ls st c sl Q) := by
  subst hen
  have h := Ev_call (X := X) (ls := ls) (w := w) (n := n) (Q := Q) hd (M2 := M2) (vs := .ref b :: vs) (r := st) (st := st2) (c := c) (sl := sl) ?_ hg hm
  · rw [okP_mk hk] at h
    exact h
  · rw [okP_mk hk]
    show g1 3 3 _ = _
    have e2 : xc4 M M2 (.ref b :: vs) st = some (.inr (.inr (M2, .ref b :: vs, st))) := by
      unfold xc4 xcl
      rw [if_pos hr, if_pos ⟨hf, by omega⟩]
    rw [g1_same, hc]
    rcases hkd with rfl | rfl | ⟨rfl, hb⟩
    · show (match popv k st2 [] with | some (vs, r) => qr r fun b r => xc4 M M2 (.ref b :: vs) r | none => none) = _
      rw [hp]
      exact e2
    · show (match popv k st2 [] with | some (vs, r) => qr r fun b r => xc4 M M2 (.ref b :: vs) r | none => none) = _
      rw [hp]
      exact e2
    · show (match popv k st2 [] with | some (vs, r) => qr r fun b r => gc (rcv X w M2 b) (xc4 M M2 (.ref b :: vs) r) | none => none) = _
      rw [hp]
      show gc (rcv X w M2 b) (xc4 M M2 (.ref b :: vs) st) = _
      rw [hb]
      exact e2
/-- a receiver's class -/
theorem rcw_eq {M2 ci b : Nat} (hc : ∀ j : Nat, j < 7 → ((KL.getD j ("", TX0, 0)).1 = rco (mY M2).cls ↔ j = ci)) (he : ¬ "" = rco (mY M2).cls) (hci : ci < 7) : rcw w M2 b = hasc w b ci := by
  unfold rcw hasc
  split
  · rename_i cj fs hw
    by_cases hj : cj < 7
    · exact decide_eq_decide.mpr (hc cj hj)
    · have e1 : (KL.getD cj ("", TX0, 0)).1 = "" := by
        rw [List.getD_eq_getElem?_getD, List.getElem?_eq_none (by show 7 ≤ cj; omega)]
        rfl
      rw [e1]
      exact decide_eq_decide.mpr ⟨fun h => absurd h he, fun h => absurd (h ▸ hci) hj⟩
  · rfl
theorem rcv_eq {M2 ci b : Nat} (hn : Nat.beq (mK M2) 1 = false) (hc : ∀ j : Nat, j < 7 → ((KL.getD j ("", TX0, 0)).1 = rco (mY M2).cls ↔ j = ci)) (he : ¬ "" = rco (mY M2).cls) (hci : ci < 7) : rcv X w M2 b = hasc w b ci := by
  unfold rcv
  split
  · rename_i h1
    rw [h1] at hn
    cases hn
  · exact rcw_eq hc he hci
/-- a receiver of the JDK's that lies in the world -/
theorem rcv_j {M2 ci b : Nat} (hc : ∀ j : Nat, j < 7 → ((KL.getD j ("", TX0, 0)).1 = rco (mY M2).cls ↔ j = ci)) (he : ¬ "" = rco (mY M2).cls) (hci : ci < 7) (h : hasc w b ci = true) : rcv X w M2 b = true := by
  have e := rcw_eq (w := w) (b := b) hc he hci
  unfold rcv
  split
  · rw [e, h, Bool.or_true]
  · rw [e, h]
/-- a run ends in one way -/
theorem Ev_iff {o : Option Value ⊕ String} {w2 : Wld} {n2 : Option Nat} (h : Ev X M pc ls st w n c sl (fun o' w' n' => o' = o ∧ w' = w2 ∧ n' = n2)) : Ev X M pc ls st w n c sl Q ↔ Q o w2 n2 := by
  obtain ⟨f, o1, h1, rfl, rfl, rfl⟩ := h
  constructor
  · rintro ⟨g, o2, h3, h4⟩
    rw [ex_det h1 h3]
    exact h4
  · intro h4
    exact ⟨f, o1, h1, h4⟩
end ROWS
section ROWS2
variable {X : Cxt} {M pc : Nat} {ls : Lcs} {st : Stk} {w : Wld} {n : Option Nat} {c sl : Nat} {Q : (Option Value ⊕ String) → Wld → Option Nat → Prop}
theorem E_iconst {k : Int} {v : Int32} (hk : okP M = true) (hd : decode (mB M) pc = .ok (.iconst k, 1)) (hv : Int32.ofInt k = v) : Ev X M pc ls st w n c sl Q ↔ Ev X M (pc + 1) ls (.int v :: st) w n c sl Q := by
  subst hv
  exact E_p hk hd rfl rfl
theorem E_bipush {k : Int} {v : Int32} (hk : okP M = true) (hd : decode (mB M) pc = .ok (.bipush k, 2)) (hv : (Int8.ofInt k).toInt32 = v) : Ev X M pc ls st w n c sl Q ↔ Ev X M (pc + 2) ls (.int v :: st) w n c sl Q := by
  subst hv
  exact E_p hk hd rfl rfl
theorem E_sipush {k : Int} {v : Int32} (hk : okP M = true) (hd : decode (mB M) pc = .ok (.sipush k, 3)) (hv : (Int16.ofInt k).toInt32 = v) : Ev X M pc ls st w n c sl Q ↔ Ev X M (pc + 3) ls (.int v :: st) w n c sl Q := by
  subst hv
  exact E_p hk hd rfl rfl
theorem E_iinc {i : Nat} {k : Int} {x v : Int32} {ls2 : Lcs} (hk : okP M = true) (hd : decode (mB M) pc = .ok (.iinc i k, 3)) (hl : ls[i]? = some (some (.int x))) (hi : i < ls.length) (hv : Int32.ofInt k = v) (h2 : ls.set i (some (.int (x + v))) = ls2) : Ev X M pc ls st w n c sl Q ↔ Ev X M (pc + 3) ls2 st w n c sl Q := by
  subst hv; subst h2
  refine E_p hk hd rfl ?_
  show g1 3 3 (li ls i fun x => gst ls i (some (pc + 3, e_st false ls i (.int (x + Int32.ofInt k)), st))) = _
  rw [g1_same]
  unfold li
  rw [hl]
  show gst ls i _ = _
  unfold gst
  rw [if_pos hi]
  rfl
theorem E_goto {off : Int} {t : Nat} (hk : okP M = true) (hd : decode (mB M) pc = .ok (.goto off, 3)) (ht : tgt pc off = some t) : Ev X M pc ls st w n c sl Q ↔ Ev X M t ls st w n c sl Q := by
  refine E_p hk hd rfl ?_
  show g1 3 3 (gt pc off fun t => some (t, ls, st)) = _
  rw [g1_same]
  unfold gt
  rw [ht]
theorem E_ldcw {idx : Nat} {v : Int32} (hk : okP M = true) (hd : decode (mB M) pc = .ok (.ldc_w idx, 3)) (hl : icst (mN M) idx = some v) : Ev X M pc ls st w n c sl Q ↔ Ev X M (pc + 3) ls (.int v :: st) w n c sl Q := by
  refine Ev_nx (q := (pc + 3, ls, .int v :: st, w, n, c, sl)) hd ?_
  rw [okP_mk hk]
  show g1 3 3 _ = _
  rw [g1_same, hl]
  rfl
theorem E_mx {idx u v : Nat} {x y : Int32} (hk : okP M = true) (hd : decode (mB M) pc = .ok (.invokestatic idx, 3)) (hc : call (mN M) idx = some (6, u, v)) (hr : 1 ≤ mF M ∧ 2 * (st.length + 2) + 13 ≤ mO M) : Ev X M pc ls (.int y :: .int x :: st) w n c sl Q ↔ Ev X M (pc + 3) ls (.int (imx x y) :: st) w n c sl Q := by
  refine Ev_nx (q := (pc + 3, ls, .int (imx x y) :: st, w, n, c, sl)) hd ?_
  rw [okP_mk hk]
  show g1 3 3 _ = _
  rw [g1_same, hc]
  show (if 1 ≤ mF M ∧ 2 * (st.length + 2) + 13 ≤ mO M then _ else none) = _
  rw [if_pos hr]
  rfl
theorem E_mn {idx u v : Nat} {x y : Int32} (hk : okP M = true) (hd : decode (mB M) pc = .ok (.invokestatic idx, 3)) (hc : call (mN M) idx = some (7, u, v)) (hr : 1 ≤ mF M ∧ 2 * (st.length + 2) + 13 ≤ mO M) : Ev X M pc ls (.int y :: .int x :: st) w n c sl Q ↔ Ev X M (pc + 3) ls (.int (imn x y) :: st) w n c sl Q := by
  refine Ev_nx (q := (pc + 3, ls, .int (imn x y) :: st, w, n, c, sl)) hd ?_
  rw [okP_mk hk]
  show g1 3 3 _ = _
  rw [g1_same, hc]
  show (if 1 ≤ mF M ∧ 2 * (st.length + 2) + 13 ≤ mO M then _ else none) = _
  rw [if_pos hr]
  rfl
end ROWS2
