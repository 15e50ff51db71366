/-! ===== THE ABSTRACT MACHINE: worlds, locals, the instructions that touch no heap ===== -/
/-- a cell: an array (its kind's number, its length, what it holds) or an object (its class's number, its fields) -/
abbrev Cel : Type := (Nat × Nat × (Nat → Value)) ⊕ (Nat × List Value)
abbrev Wld : Type := Nat → Option Cel
abbrev Lcs : Type := List (Option Value)
abbrev Stk : Type := List Value
abbrev Otc : Type := (Option Value ⊕ String) × Wld × Option Nat
def wset (w : Wld) (a : Nat) (e : Cel) : Wld := fun b => if b = a then some e else w b
def g1 {α : Type} (len k : Nat) (r : Option α) : Option α := if len = k then r else none
theorem g1_inv {α : Type} {len k : Nat} {r : Option α} {y : α} (h : g1 len k r = some y) : len = k ∧ r = some y := by
  unfold g1 at h
  split at h
  · exact ⟨by assumption, h⟩
  · cases h
theorem g1_same {α : Type} {k : Nat} {r : Option α} : g1 k k r = r := if_pos rfl
def qi {α : Type} (st : Stk) (k : Int32 → Stk → Option α) : Option α := match st with
  | .int x :: r => k x r
  | _ => none
def ql {α : Type} (st : Stk) (k : Int64 → Stk → Option α) : Option α := match st with
  | .long x :: r => k x r
  | _ => none
def qf {α : Type} (st : Stk) (k : UInt32 → Stk → Option α) : Option α := match st with
  | .float x :: r => k x r
  | _ => none
def qd {α : Type} (st : Stk) (k : UInt64 → Stk → Option α) : Option α := match st with
  | .double x :: r => k x r
  | _ => none
def qr {α : Type} (st : Stk) (k : Nat → Stk → Option α) : Option α := match st with
  | .ref x :: r => k x r
  | _ => none
def q1 {α : Type} (st : Stk) (k : Value → Stk → Option α) : Option α := match st with
  | v :: r => if v.category = 1 then k v r else none
  | _ => none
theorem qi_inv {α : Type} {st : Stk} {k : Int32 → Stk → Option α} {y : α} (h : qi st k = some y) : ∃ x r, st = .int x :: r ∧ k x r = some y := by
  unfold qi at h
  split at h
  · exact ⟨_, _, rfl, h⟩
  · cases h
theorem ql_inv {α : Type} {st : Stk} {k : Int64 → Stk → Option α} {y : α} (h : ql st k = some y) : ∃ x r, st = .long x :: r ∧ k x r = some y := by
  unfold ql at h
  split at h
  · exact ⟨_, _, rfl, h⟩
  · cases h
theorem qf_inv {α : Type} {st : Stk} {k : UInt32 → Stk → Option α} {y : α} (h : qf st k = some y) : ∃ x r, st = .float x :: r ∧ k x r = some y := by
  unfold qf at h
  split at h
  · exact ⟨_, _, rfl, h⟩
  · cases h
theorem qd_inv {α : Type} {st : Stk} {k : UInt64 → Stk → Option α} {y : α} (h : qd st k = some y) : ∃ x r, st = .double x :: r ∧ k x r = some y := by
  unfold qd at h
  split at h
  · exact ⟨_, _, rfl, h⟩
  · cases h
theorem qr_inv {α : Type} {st : Stk} {k : Nat → Stk → Option α} {y : α} (h : qr st k = some y) : ∃ x r, st = .ref x :: r ∧ k x r = some y := by
  unfold qr at h
  split at h
  · exact ⟨_, _, rfl, h⟩
  · cases h
theorem q1_inv {α : Type} {st : Stk} {k : Value → Stk → Option α} {y : α} (h : q1 st k = some y) : ∃ x r, st = x :: r ∧ x.category = 1 ∧ k x r = some y := by
  unfold q1 at h
  split at h
  · split at h
    · exact ⟨_, _, rfl, by assumption, h⟩
    · cases h
  · cases h
def li {α : Type} (ls : Lcs) (i : Nat) (k : Int32 → Option α) : Option α := match ls[i]? with
  | some (some (.int x)) => k x
  | _ => none
def lL {α : Type} (ls : Lcs) (i : Nat) (k : Int64 → Option α) : Option α := match ls[i]? with
  | some (some (.long x)) => k x
  | _ => none
def lf {α : Type} (ls : Lcs) (i : Nat) (k : UInt32 → Option α) : Option α := match ls[i]? with
  | some (some (.float x)) => k x
  | _ => none
def ld {α : Type} (ls : Lcs) (i : Nat) (k : UInt64 → Option α) : Option α := match ls[i]? with
  | some (some (.double x)) => k x
  | _ => none
def lr {α : Type} (ls : Lcs) (i : Nat) (k : Nat → Option α) : Option α := match ls[i]? with
  | some (some (.ref x)) => k x
  | _ => none
theorem li_inv {α : Type} {ls : Lcs} {i : Nat} {k : Int32 → Option α} {y : α} (h : li ls i k = some y) : ∃ x, ls[i]? = some (some (.int x)) ∧ k x = some y := by
  unfold li at h
  split at h
  · exact ⟨_, by assumption, h⟩
  · cases h
theorem lL_inv {α : Type} {ls : Lcs} {i : Nat} {k : Int64 → Option α} {y : α} (h : lL ls i k = some y) : ∃ x, ls[i]? = some (some (.long x)) ∧ k x = some y := by
  unfold lL at h
  split at h
  · exact ⟨_, by assumption, h⟩
  · cases h
theorem lf_inv {α : Type} {ls : Lcs} {i : Nat} {k : UInt32 → Option α} {y : α} (h : lf ls i k = some y) : ∃ x, ls[i]? = some (some (.float x)) ∧ k x = some y := by
  unfold lf at h
  split at h
  · exact ⟨_, by assumption, h⟩
  · cases h
theorem ld_inv {α : Type} {ls : Lcs} {i : Nat} {k : UInt64 → Option α} {y : α} (h : ld ls i k = some y) : ∃ x, ls[i]? = some (some (.double x)) ∧ k x = some y := by
  unfold ld at h
  split at h
  · exact ⟨_, by assumption, h⟩
  · cases h
theorem lr_inv {α : Type} {ls : Lcs} {i : Nat} {k : Nat → Option α} {y : α} (h : lr ls i k = some y) : ∃ x, ls[i]? = some (some (.ref x)) ∧ k x = some y := by
  unfold lr at h
  split at h
  · exact ⟨_, by assumption, h⟩
  · cases h
/-- a store at i ends a long or a double that stood one place before it -/
def k2s (ls : Lcs) (i : Nat) : Lcs := match i with
  | 0 => ls
  | j + 1 => match ls[j]? with
    | some (some v) => if v.category = 2 then ls.set j none else ls
    | _ => ls
def e_st (c2 : Bool) (ls : Lcs) (i : Nat) (v : Value) : Lcs := (match c2 with
  | true => k2s ls i
  | false => ls).set i (some v)
def e_st2 (ls : Lcs) (i : Nat) (v : Value) : Lcs := ((k2s ls i).set (i + 1) none).set i (some v)
def gst {α : Type} (ls : Lcs) (i : Nat) (r : Option α) : Option α := if i < ls.length then r else none
theorem gst_inv {α : Type} {ls : Lcs} {i : Nat} {r : Option α} {y : α} (h : gst ls i r = some y) : i < ls.length ∧ r = some y := by
  unfold gst at h
  split at h
  · exact ⟨by assumption, h⟩
  · cases h
def tgt (pc : Nat) (off : Int) : Option Nat := match off with
  | .ofNat k => some (pc + k)
  | .negSucc k => if k + 1 ≤ pc then some (pc - (k + 1)) else none
theorem tgt_inv {pc t : Nat} {off : Int} (h : tgt pc off = some t) : (pc : Int) + off = (t : Int) := by
  unfold tgt at h
  split at h
  · cases h
    simp
  · split at h
    · cases h
      omega
    · cases h
def gt {α : Type} (pc : Nat) (off : Int) (k : Nat → Option α) : Option α := match tgt pc off with
  | some t => k t
  | none => none
theorem gt_inv {α : Type} {pc : Nat} {off : Int} {k : Nat → Option α} {y : α} (h : gt pc off k = some y) : ∃ t : Nat, (pc : Int) + off = (t : Int) ∧ k t = some y := by
  unfold gt at h
  split at h
  · exact ⟨_, tgt_inv (by assumption), h⟩
  · cases h
def gc {α : Type} (b : Bool) (r : Option α) : Option α := match b with
  | true => r
  | false => none
theorem gc_inv {α : Type} {b : Bool} {r : Option α} {y : α} (h : gc b r = some y) : b = true ∧ r = some y := by
  cases b
  · cases h
  · exact ⟨rfl, h⟩
def n64 (r : UInt64) : Bool := decide (r &&& 0x7fffffffffffffff ≤ 0x7ff0000000000000)
def n32 (r : UInt32) : Bool := decide (r &&& 0x7fffffff ≤ 0x7f800000)
theorem n64_ok {r : UInt64} (h : n64 r = true) : vf_n64 r := of_decide_eq_true (p := r &&& 0x7fffffffffffffff ≤ 0x7ff0000000000000) h
theorem n32_ok {r : UInt32} (h : n32 r = true) : vf_n32 r := of_decide_eq_true (p := r &&& 0x7fffffff ≤ 0x7f800000) h
def cmp0 (cd : ClassFile.Cond) (x : Int32) : Bool := match cd with
  | .eq => decide (x = 0)
  | .ne => decide (¬ x = 0)
  | .lt => decide (x < 0)
  | .ge => decide (0 ≤ x)
  | .gt => decide (0 < x)
  | .le => decide (x ≤ 0)
def cmp2 (cd : ClassFile.Cond) (x y : Int32) : Bool := match cd with
  | .eq => decide (x = y)
  | .ne => decide (¬ x = y)
  | .lt => decide (x < y)
  | .ge => decide (y ≤ x)
  | .gt => decide (y < x)
  | .le => decide (x ≤ y)
def cmp0P (cd : ClassFile.Cond) (x : Int32) : Prop := match cd with
  | .eq => x = 0
  | .ne => ¬ x = 0
  | .lt => x < 0
  | .ge => 0 ≤ x
  | .gt => 0 < x
  | .le => x ≤ 0
def cmp2P (cd : ClassFile.Cond) (x y : Int32) : Prop := match cd with
  | .eq => x = y
  | .ne => ¬ x = y
  | .lt => x < y
  | .ge => y ≤ x
  | .gt => y < x
  | .le => x ≤ y
theorem cmp0_iff {cd : ClassFile.Cond} {x : Int32} : cmp0 cd x = true ↔ cmp0P cd x := by cases cd <;> simp only [cmp0, cmp0P, decide_eq_true_eq]
theorem cmp0_t {cd : ClassFile.Cond} {x : Int32} (h : cmp0P cd x) : cmp0 cd x = true := cmp0_iff.mpr h
theorem cmp0_f {cd : ClassFile.Cond} {x : Int32} (h : ¬ cmp0P cd x) : ¬ cmp0 cd x = true := fun z => h (cmp0_iff.mp z)
theorem cmp2_iff {cd : ClassFile.Cond} {x y : Int32} : cmp2 cd x y = true ↔ cmp2P cd x y := by cases cd <;> simp only [cmp2, cmp2P, decide_eq_true_eq]
theorem cmp2_t {cd : ClassFile.Cond} {x y : Int32} (h : cmp2P cd x y) : cmp2 cd x y = true := cmp2_iff.mpr h
theorem cmp2_f {cd : ClassFile.Cond} {x y : Int32} (h : ¬ cmp2P cd x y) : ¬ cmp2 cd x y = true := fun z => h (cmp2_iff.mp z)
/-- one instruction that touches no heap: where it goes, the locals, the stack -/
def pst (c2 : Bool) (i : Instr) (len pc : Nat) (ls : Lcs) (st : Stk) : Option (Nat × Lcs × Stk) := match i with
  | .iconst n => g1 len 1 (some (pc + 1, ls, .int (Int32.ofInt n) :: st))
  | .bipush n => g1 len 2 (some (pc + 2, ls, .int (Int8.ofInt n).toInt32 :: st))
  | .sipush n => g1 len 3 (some (pc + 3, ls, .int (Int16.ofInt n).toInt32 :: st))
  | .lconst n => g1 len 1 (some (pc + 1, ls, .long (Int64.ofNat (n : Nat)) :: st))
  | .iload_n i => g1 len 1 (li ls (i : Nat) fun x => some (pc + 1, ls, .int x :: st))
  | .iload i => g1 len 2 (li ls i fun x => some (pc + 2, ls, .int x :: st))
  | .aload_n i => g1 len 1 (lr ls (i : Nat) fun x => some (pc + 1, ls, .ref x :: st))
  | .aload i => g1 len 2 (lr ls i fun x => some (pc + 2, ls, .ref x :: st))
  | .fload i => g1 len 2 (lf ls i fun x => some (pc + 2, ls, .float x :: st))
  | .dload i => g1 len 2 (ld ls i fun x => some (pc + 2, ls, .double x :: st))
  | .istore_n i => g1 len 1 (qi st fun x r => gst ls (i : Nat) (some (pc + 1, e_st c2 ls (i : Nat) (.int x), r)))
  | .istore i => g1 len 2 (qi st fun x r => gst ls i (some (pc + 2, e_st c2 ls i (.int x), r)))
  | .astore_n i => g1 len 1 (qr st fun x r => gst ls (i : Nat) (some (pc + 1, e_st c2 ls (i : Nat) (.ref x), r)))
  | .astore i => g1 len 2 (qr st fun x r => gst ls i (some (pc + 2, e_st c2 ls i (.ref x), r)))
  | .fstore i => g1 len 2 (qf st fun x r => gst ls i (some (pc + 2, e_st c2 ls i (.float x), r)))
  | .lload_n i => g1 len 1 (lL ls (i : Nat) fun x => some (pc + 1, ls, .long x :: st))
  | .lload i => g1 len 2 (lL ls i fun x => some (pc + 2, ls, .long x :: st))
  | .lstore_n i => g1 len 1 (gc c2 (ql st fun x r => gst ls ((i : Nat) + 1) (some (pc + 1, e_st2 ls (i : Nat) (.long x), r))))
  | .lstore i => g1 len 2 (gc c2 (ql st fun x r => gst ls (i + 1) (some (pc + 2, e_st2 ls i (.long x), r))))
  | .dstore i => g1 len 2 (gc c2 (qd st fun x r => gst ls (i + 1) (some (pc + 2, e_st2 ls i (.double x), r))))
  | .iinc i n => g1 len 3 (li ls i fun x => gst ls i (some (pc + 3, e_st c2 ls i (.int (x + Int32.ofInt n)), st)))
  | .iadd => g1 len 1 (qi st fun y r => qi r fun x r => some (pc + 1, ls, .int (x + y) :: r))
  | .isub => g1 len 1 (qi st fun y r => qi r fun x r => some (pc + 1, ls, .int (x - y) :: r))
  | .imul => g1 len 1 (qi st fun y r => qi r fun x r => some (pc + 1, ls, .int (x * y) :: r))
  | .iand => g1 len 1 (qi st fun y r => qi r fun x r => some (pc + 1, ls, .int (x &&& y) :: r))
  | .ior => g1 len 1 (qi st fun y r => qi r fun x r => some (pc + 1, ls, .int (x ||| y) :: r))
  | .ixor => g1 len 1 (qi st fun y r => qi r fun x r => some (pc + 1, ls, .int (x ^^^ y) :: r))
  | .ishl => g1 len 1 (qi st fun y r => qi r fun x r => some (pc + 1, ls, .int (x <<< (y &&& 31)) :: r))
  | .ishr => g1 len 1 (qi st fun y r => qi r fun x r => some (pc + 1, ls, .int (x >>> (y &&& 31)) :: r))
  | .irem => g1 len 1 (qi st fun y r => qi r fun x r => gc (!decide (y = 0)) (some (pc + 1, ls, .int (x - x / y * y) :: r)))
  | .ineg => g1 len 1 (qi st fun x r => some (pc + 1, ls, .int (-x) :: r))
  | .ladd => g1 len 1 (ql st fun y r => ql r fun x r => some (pc + 1, ls, .long (x + y) :: r))
  | .lmul => g1 len 1 (ql st fun y r => ql r fun x r => some (pc + 1, ls, .long (x * y) :: r))
  | .aconst_null => g1 len 1 (some (pc + 1, ls, .null :: st))
  | .ifnonnull off => g1 len 3 (qr st fun _ r => gt pc off fun t => some (t, ls, r))
  | .iushr => g1 len 1 (qi st fun y r => qi r fun x r => some (pc + 1, ls, .int (x.toUInt32 >>> (y.toUInt32 &&& Int32.toUInt32 31)).toInt32 :: r))
  | .i2l => g1 len 1 (qi st fun x r => some (pc + 1, ls, .long x.toInt64 :: r))
  | .i2b => g1 len 1 (qi st fun x r => some (pc + 1, ls, .int x.toInt8.toInt32 :: r))
  | .i2c => g1 len 1 (qi st fun x r => some (pc + 1, ls, .int (x.toUInt32 % 65536).toInt32 :: r))
  | .i2f => g1 len 1 (qi st fun x r => some (pc + 1, ls, .float (FP.i2f x) :: r))
  | .i2d => g1 len 1 (qi st fun x r => some (pc + 1, ls, .double (FP.i2d x) :: r))
  | .f2d => g1 len 1 (qf st fun x r => gc (n64 (FP.f2d x)) (some (pc + 1, ls, .double (FP.f2d x) :: r)))
  | .ddiv => g1 len 1 (qd st fun y r => qd r fun x r => gc (n64 (FP.ddiv x y)) (some (pc + 1, ls, .double (FP.ddiv x y) :: r)))
  | .fdiv => g1 len 1 (qf st fun y r => qf r fun x r => gc (n32 (FP.fdiv x y)) (some (pc + 1, ls, .float (FP.fdiv x y) :: r)))
  | .lcmp => g1 len 1 (ql st fun y r => ql r fun x r => some (pc + 1, ls, .int (lg_cmp x y) :: r))
  | .fcmp op => g1 len 1 (qf st fun y r => qf r fun x r => some (pc + 1, ls, .int (Op.cmpValue (FP.fcmp x y) op) :: r))
  | .dcmp op => g1 len 1 (qd st fun y r => qd r fun x r => some (pc + 1, ls, .int (Op.cmpValue (FP.dcmp x y) op) :: r))
  | .dup => g1 len 1 (q1 st fun x r => some (pc + 1, ls, x :: x :: r))
  | .pop => g1 len 1 (q1 st fun x r => some (pc + 1, ls, r))
  | .dup_x1 => g1 len 1 (q1 st fun x r => q1 r fun y r => some (pc + 1, ls, x :: y :: x :: r))
  | .dup_x2 => g1 len 1 (q1 st fun x r => q1 r fun y r => q1 r fun z r => some (pc + 1, ls, x :: y :: z :: x :: r))
  | .dup2 => g1 len 1 (q1 st fun x r => q1 r fun y r => some (pc + 1, ls, x :: y :: x :: y :: r))
  | .goto off => g1 len 3 (gt pc off fun t => some (t, ls, st))
  | .ifCond cd off => g1 len 3 (qi st fun x r => gt pc off fun t => some (if cmp0 cd x = true then t else pc + 3, ls, r))
  | .if_icmp cd off => g1 len 3 (qi st fun y r => qi r fun x r => gt pc off fun t => some (if cmp2 cd x y = true then t else pc + 3, ls, r))
  | .tableswitch dflt lo hi offs => (qi st fun x r => if x.toInt < lo ∨ hi < x.toInt then gt pc dflt (fun t => some (t, ls, r)) else match offs[(x.toInt - lo).toNat]? with | some off => gt pc off (fun t => some (t, ls, r)) | none => none)
  | .lookupswitch dflt ps => (qi st fun x r => gc ((ps.toList.zip (ps.toList.drop 1)).all (fun (a, next) => a.1 < next.1)) (gt pc (Op.lookupswitch.offset ps.toList dflt x.toInt) fun t => some (t, ls, r)))
  | _ => none
/-- the facts that a list of known locals tells -/
def prs (ls : Lcs) : List (Nat × Value) := (List.range ls.length).filterMap fun j => match ls[j]? with
  | some (some v) => some (j, v)
  | _ => none
theorem mem_prs {ls : Lcs} {j : Nat} {v : Value} : (j, v) ∈ prs ls ↔ ls[j]? = some (some v) := by
  unfold prs
  rw [List.mem_filterMap]
  constructor
  · rintro ⟨i, -, h⟩
    split at h
    · rename_i v2 hv
      cases h
      exact hv
    · cases h
  · intro h
    refine ⟨j, List.mem_range.mpr (List.getElem?_eq_some_iff.mp h).1, ?_⟩
    rw [h]
def LH (c2 : Bool) (nL : Nat) (lsR : Array Slot) (ls : Lcs) : Prop := ls.length = nL ∧ lv_has lsR nL (prs ls) ∧ (c2 = false → ∀ (i : Nat) (v : Value), ls[i]? = some (some v) → v.category = 1)
theorem LH.at {c2 : Bool} {nL : Nat} {lsR : Array Slot} {ls : Lcs} (h : LH c2 nL lsR ls) {i : Nat} {v : Value} (e : ls[i]? = some (some v)) : lsR[i]? = some (.val v) := h.2.1.2.2 (i, v) (mem_prs.mpr e)
theorem LH.idx {c2 : Bool} {nL : Nat} {lsR : Array Slot} {ls : Lcs} (_ : LH c2 nL lsR ls) {i : Nat} {v : Value} (e : ls[i]? = some (some v)) : ∃ k : Nat, (prs ls)[k]? = some (i, v) := List.getElem?_of_mem (mem_prs.mpr e)
theorem k2s_len (ls : Lcs) (i : Nat) : (k2s ls i).length = ls.length := by
  unfold k2s
  split
  · rfl
  · split
    · split
      · simp
      · rfl
    · rfl
/-- what is known behind k2s was known before, and isn't a long or a double one place before i -/
theorem k2s_at {ls : Lcs} {i j : Nat} {v : Value} (h : (k2s ls i)[j]? = some (some v)) : ls[j]? = some (some v) ∧ (j + 1 = i → v.category ≠ 2) := by
  unfold k2s at h
  split at h
  · exact ⟨h, fun q => by omega⟩
  · rename_i i
    split at h
    · rename_i u hu
      split at h
      · rw [List.getElem?_set] at h
        split at h
        · split at h <;> cases h
        · rename_i hne
          exact ⟨h, fun q => absurd (by omega) hne⟩
      · rename_i hc
        refine ⟨h, fun q => ?_⟩
        have e : j = i := by omega
        subst e
        rw [hu] at h
        cases h
        exact hc
    · rename_i hno
      refine ⟨h, fun q => ?_⟩
      have e : j = i := by omega
      subst e
      exact absurd h (hno v)
theorem LH.st1 {c2 : Bool} {nL : Nat} {lsR ls2 : Array Slot} {ls : Lcs} {i : Nat} {v : Value} (h : LH c2 nL lsR ls) (hi : i < ls.length) (hc : v.category = 1) (h2 : lv_has ls2 nL ((i, v) :: (prs ls).filter (fun q => !(q.1 == i) && !(q.1 + 1 == i && q.2.category == 2)))) : LH c2 nL ls2 (e_st c2 ls i v) := by
  have hlen : (match c2 with | true => k2s ls i | false => ls).length = ls.length := by cases c2 <;> simp [k2s_len]
  have key : ∀ (j : Nat) (u : Value), (e_st c2 ls i v)[j]? = some (some u) → (j = i ∧ u = v) ∨ (j ≠ i ∧ ls[j]? = some (some u) ∧ ¬ (j + 1 = i ∧ u.category = 2)) := by
    intro j u hj
    unfold e_st at hj
    rw [List.getElem?_set] at hj
    by_cases e : i = j
    · rw [if_pos e, if_pos (by rw [hlen]; exact hi)] at hj
      cases hj
      exact Or.inl ⟨e.symm, rfl⟩
    · rw [if_neg e] at hj
      refine Or.inr ⟨fun q => e q.symm, ?_⟩
      cases c2 with
      | true =>
        obtain ⟨a, b⟩ := k2s_at hj
        exact ⟨a, fun q => b q.1 q.2⟩
      | false => exact ⟨hj, fun q => by rw [h.2.2 rfl j u hj] at q; exact absurd q.2 (by decide)⟩
  refine ⟨by unfold e_st; rw [List.length_set, hlen]; exact h.1, ⟨h2.1, h2.2.1, fun q hq => ?_⟩, fun hf j u hj => ?_⟩
  · obtain ⟨j, u⟩ := q
    refine h2.2.2 (j, u) ?_
    rcases key j u (mem_prs.mp hq) with ⟨e1, e2⟩ | ⟨e1, e2, e3⟩
    · rw [e1, e2]; exact List.mem_cons_self
    · refine List.mem_cons_of_mem _ (List.mem_filter.mpr ⟨mem_prs.mpr e2, ?_⟩)
      simp only [Bool.and_eq_true, Bool.not_eq_true', beq_eq_false_iff_ne, ne_eq, Bool.and_eq_false_imp, beq_iff_eq]
      exact ⟨e1, fun a b => e3 ⟨a, b⟩⟩
  · rcases key j u hj with ⟨e1, e2⟩ | ⟨e1, e2, e3⟩
    · rw [e2]; exact hc
    · exact h.2.2 hf j u e2
theorem LH.st2 {c2 : Bool} {nL : Nat} {lsR ls2 : Array Slot} {ls : Lcs} {i : Nat} {v : Value} (h : LH c2 nL lsR ls) (hc2 : c2 = true) (hi : i + 1 < ls.length) (_ : v.category = 2) (h2 : lv_has ls2 nL ((i, v) :: (prs ls).filter (fun q => !(q.1 == i) && (!(q.1 == i + 1) && !(q.1 + 1 == i && q.2.category == 2))))) : LH c2 nL ls2 (e_st2 ls i v) := by
  subst hc2
  refine ⟨by unfold e_st2; rw [List.length_set, List.length_set, k2s_len]; exact h.1, ⟨h2.1, h2.2.1, fun q hq => ?_⟩, fun hf => by cases hf⟩
  obtain ⟨j, u⟩ := q
  refine h2.2.2 (j, u) ?_
  have hj := mem_prs.mp hq
  unfold e_st2 at hj
  rw [List.getElem?_set] at hj
  split at hj
  · rename_i e
    split at hj
    · cases hj
      rw [e]; exact List.mem_cons_self
    · cases hj
  · rename_i e
    rw [List.getElem?_set] at hj
    split at hj
    · split at hj <;> cases hj
    · rename_i e2
      obtain ⟨a, b⟩ := k2s_at hj
      refine List.mem_cons_of_mem _ (List.mem_filter.mpr ⟨mem_prs.mpr a, ?_⟩)
      simp only [Bool.and_eq_true, Bool.not_eq_true', beq_eq_false_iff_ne, ne_eq, Bool.and_eq_false_imp, beq_iff_eq]
      exact ⟨fun q => e q.symm, fun q => e2 q.symm, fun q => b q⟩
section PST
variable {p : Program} {l : Launch} {e : Env} {R : Room} {s : State} {m : MethodId} {args : Array Value} {below : List Frame} {meth : Method} {c : Code} {H : Heap} {locs : List Loc} {cells slots : Nat} {Q : State → Prop}
set_option maxHeartbeats 4000000 in
set_option maxRecDepth 100000 in
theorem pst_ok {cc : ByteArray} (hx : p.tables.exec = Jvm.exec) (hb : c.code = cc) {c2 : Bool} {i : Instr} {len pc nL : Nat} {ls : Lcs} {st : Stk} {pc2 : Nat} {ls2 : Lcs} {st2 : Stk} {lsR : Array Slot} (hd : decode cc pc = .ok (i, len)) (hL : LH c2 nL lsR ls) (h : pst c2 i len pc ls st = some (pc2, ls2, st2))
    (k : ∀ lsR2 : Array Slot, LH c2 nL lsR2 ls2 → W p l e R s m args below meth c H locs cells slots Q (F0 m pc2 lsR2 st2)) : W p l e R s m args below meth c H locs cells slots Q (F0 m pc lsR st) := by
  cases i
  case iconst n =>
    have h : g1 len 1 (some (pc + 1, ls, .int (Int32.ofInt n) :: st)) = some (pc2, ls2, st2) := h
    obtain ⟨rfl, h⟩ := g1_inv h
    cases h; exact lv_iconst hx hb hd rfl (k _ hL)
  case bipush n =>
    have h : g1 len 2 (some (pc + 2, ls, .int (Int8.ofInt n).toInt32 :: st)) = some (pc2, ls2, st2) := h
    obtain ⟨rfl, h⟩ := g1_inv h
    cases h; exact lv_bipush hx hb hd rfl (k _ hL)
  case sipush n =>
    have h : g1 len 3 (some (pc + 3, ls, .int (Int16.ofInt n).toInt32 :: st)) = some (pc2, ls2, st2) := h
    obtain ⟨rfl, h⟩ := g1_inv h
    cases h; exact lv_sipush hx hb hd rfl (k _ hL)
  case lconst n =>
    have h : g1 len 1 (some (pc + 1, ls, .long (Int64.ofNat (n : Nat)) :: st)) = some (pc2, ls2, st2) := h
    obtain ⟨rfl, h⟩ := g1_inv h
    cases h; exact lv_lconst hx hb hd rfl (k _ hL)
  case iload_n i =>
    have h : g1 len 1 (li ls (i : Nat) fun x => some (pc + 1, ls, .int x :: st)) = some (pc2, ls2, st2) := h
    obtain ⟨rfl, h⟩ := g1_inv h
    obtain ⟨x, e1, h⟩ := li_inv h; cases h; exact lv_iload_n hx hb hd rfl (hL.at e1) (k _ hL)
  case iload i =>
    have h : g1 len 2 (li ls i fun x => some (pc + 2, ls, .int x :: st)) = some (pc2, ls2, st2) := h
    obtain ⟨rfl, h⟩ := g1_inv h
    obtain ⟨x, e1, h⟩ := li_inv h; cases h; exact lv_iload hx hb hd (hL.at e1) (k _ hL)
  case aload_n i =>
    have h : g1 len 1 (lr ls (i : Nat) fun x => some (pc + 1, ls, .ref x :: st)) = some (pc2, ls2, st2) := h
    obtain ⟨rfl, h⟩ := g1_inv h
    obtain ⟨x, e1, h⟩ := lr_inv h; cases h; exact lv_aload_n hx hb hd rfl (hL.at e1) (k _ hL)
  case aload i =>
    have h : g1 len 2 (lr ls i fun x => some (pc + 2, ls, .ref x :: st)) = some (pc2, ls2, st2) := h
    obtain ⟨rfl, h⟩ := g1_inv h
    obtain ⟨x, e1, h⟩ := lr_inv h; cases h; exact lv_aload hx hb hd (hL.at e1) (k _ hL)
  case fload i =>
    have h : g1 len 2 (lf ls i fun x => some (pc + 2, ls, .float x :: st)) = some (pc2, ls2, st2) := h
    obtain ⟨rfl, h⟩ := g1_inv h
    obtain ⟨x, e1, h⟩ := lf_inv h; cases h; exact lv_fload hx hb hd (hL.at e1) (k _ hL)
  case dload i =>
    have h : g1 len 2 (ld ls i fun x => some (pc + 2, ls, .double x :: st)) = some (pc2, ls2, st2) := h
    obtain ⟨rfl, h⟩ := g1_inv h
    obtain ⟨x, e1, h⟩ := ld_inv h; cases h; exact lv_dload hx hb hd (hL.at e1) (k _ hL)
  case istore_n i =>
    have h : g1 len 1 (qi st fun x r => gst ls (i : Nat) (some (pc + 1, e_st c2 ls (i : Nat) (.int x), r))) = some (pc2, ls2, st2) := h
    obtain ⟨rfl, h⟩ := g1_inv h
    obtain ⟨x, r, rfl, h⟩ := qi_inv h; obtain ⟨e1, h⟩ := gst_inv h; cases h; exact lv_istore_n hx hb hd rfl hL.2.1 (hL.1 ▸ e1) rfl fun ls2 h2 => k _ (hL.st1 e1 rfl h2)
  case istore i =>
    have h : g1 len 2 (qi st fun x r => gst ls i (some (pc + 2, e_st c2 ls i (.int x), r))) = some (pc2, ls2, st2) := h
    obtain ⟨rfl, h⟩ := g1_inv h
    obtain ⟨x, r, rfl, h⟩ := qi_inv h; obtain ⟨e1, h⟩ := gst_inv h; cases h; exact lv_istore hx hb hd hL.2.1 (hL.1 ▸ e1) rfl fun ls2 h2 => k _ (hL.st1 e1 rfl h2)
  case astore_n i =>
    have h : g1 len 1 (qr st fun x r => gst ls (i : Nat) (some (pc + 1, e_st c2 ls (i : Nat) (.ref x), r))) = some (pc2, ls2, st2) := h
    obtain ⟨rfl, h⟩ := g1_inv h
    obtain ⟨x, r, rfl, h⟩ := qr_inv h; obtain ⟨e1, h⟩ := gst_inv h; cases h; exact lv_astore_n hx hb hd rfl hL.2.1 (hL.1 ▸ e1) rfl fun ls2 h2 => k _ (hL.st1 e1 rfl h2)
  case astore i =>
    have h : g1 len 2 (qr st fun x r => gst ls i (some (pc + 2, e_st c2 ls i (.ref x), r))) = some (pc2, ls2, st2) := h
    obtain ⟨rfl, h⟩ := g1_inv h
    obtain ⟨x, r, rfl, h⟩ := qr_inv h; obtain ⟨e1, h⟩ := gst_inv h; cases h; exact lv_astore hx hb hd hL.2.1 (hL.1 ▸ e1) rfl fun ls2 h2 => k _ (hL.st1 e1 rfl h2)
  case fstore i =>
    have h : g1 len 2 (qf st fun x r => gst ls i (some (pc + 2, e_st c2 ls i (.float x), r))) = some (pc2, ls2, st2) := h
    obtain ⟨rfl, h⟩ := g1_inv h
    obtain ⟨x, r, rfl, h⟩ := qf_inv h; obtain ⟨e1, h⟩ := gst_inv h; cases h; exact lv_fstore hx hb hd hL.2.1 (hL.1 ▸ e1) rfl fun ls2 h2 => k _ (hL.st1 e1 rfl h2)
  case lload_n i =>
    have h : g1 len 1 (lL ls (i : Nat) fun x => some (pc + 1, ls, .long x :: st)) = some (pc2, ls2, st2) := h
    obtain ⟨rfl, h⟩ := g1_inv h
    obtain ⟨x, e1, h⟩ := lL_inv h; cases h; exact lv_lload_n hx hb hd rfl (hL.at e1) (k _ hL)
  case lload i =>
    have h : g1 len 2 (lL ls i fun x => some (pc + 2, ls, .long x :: st)) = some (pc2, ls2, st2) := h
    obtain ⟨rfl, h⟩ := g1_inv h
    obtain ⟨x, e1, h⟩ := lL_inv h; cases h; exact lv_lload hx hb hd (hL.at e1) (k _ hL)
  case lstore_n i =>
    have h : g1 len 1 (gc c2 (ql st fun x r => gst ls ((i : Nat) + 1) (some (pc + 1, e_st2 ls (i : Nat) (.long x), r)))) = some (pc2, ls2, st2) := h
    obtain ⟨rfl, h⟩ := g1_inv h
    obtain ⟨hc2, h⟩ := gc_inv h; obtain ⟨x, r, rfl, h⟩ := ql_inv h; obtain ⟨e1, h⟩ := gst_inv h; cases h; exact lv_lstore_n hx hb hd rfl hL.2.1 (hL.1 ▸ e1) rfl fun ls2 h2 => k _ (hL.st2 hc2 e1 rfl h2)
  case lstore i =>
    have h : g1 len 2 (gc c2 (ql st fun x r => gst ls (i + 1) (some (pc + 2, e_st2 ls i (.long x), r)))) = some (pc2, ls2, st2) := h
    obtain ⟨rfl, h⟩ := g1_inv h
    obtain ⟨hc2, h⟩ := gc_inv h; obtain ⟨x, r, rfl, h⟩ := ql_inv h; obtain ⟨e1, h⟩ := gst_inv h; cases h; exact lv_lstore hx hb hd hL.2.1 (hL.1 ▸ e1) rfl fun ls2 h2 => k _ (hL.st2 hc2 e1 rfl h2)
  case dstore i =>
    have h : g1 len 2 (gc c2 (qd st fun x r => gst ls (i + 1) (some (pc + 2, e_st2 ls i (.double x), r)))) = some (pc2, ls2, st2) := h
    obtain ⟨rfl, h⟩ := g1_inv h
    obtain ⟨hc2, h⟩ := gc_inv h; obtain ⟨x, r, rfl, h⟩ := qd_inv h; obtain ⟨e1, h⟩ := gst_inv h; cases h; exact lv_dstore hx hb hd hL.2.1 (hL.1 ▸ e1) rfl fun ls2 h2 => k _ (hL.st2 hc2 e1 rfl h2)
  case iinc i n =>
    have h : g1 len 3 (li ls i fun x => gst ls i (some (pc + 3, e_st c2 ls i (.int (x + Int32.ofInt n)), st))) = some (pc2, ls2, st2) := h
    obtain ⟨rfl, h⟩ := g1_inv h
    obtain ⟨x, e1, h⟩ := li_inv h; obtain ⟨e2, h⟩ := gst_inv h; cases h; obtain ⟨kk, hk⟩ := hL.idx e1; exact lv_iinc hx hb hd hL.2.1 hk rfl (hL.1 ▸ e2) rfl fun ls2 h2 => k _ (hL.st1 e2 rfl h2)
  case iadd =>
    have h : g1 len 1 (qi st fun y r => qi r fun x r => some (pc + 1, ls, .int (x + y) :: r)) = some (pc2, ls2, st2) := h
    obtain ⟨rfl, h⟩ := g1_inv h
    obtain ⟨y, r, rfl, h⟩ := qi_inv h; obtain ⟨x, r, rfl, h⟩ := qi_inv h; cases h; exact lv_iadd hx hb hd (k _ hL)
  case isub =>
    have h : g1 len 1 (qi st fun y r => qi r fun x r => some (pc + 1, ls, .int (x - y) :: r)) = some (pc2, ls2, st2) := h
    obtain ⟨rfl, h⟩ := g1_inv h
    obtain ⟨y, r, rfl, h⟩ := qi_inv h; obtain ⟨x, r, rfl, h⟩ := qi_inv h; cases h; exact lv_isub hx hb hd (k _ hL)
  case imul =>
    have h : g1 len 1 (qi st fun y r => qi r fun x r => some (pc + 1, ls, .int (x * y) :: r)) = some (pc2, ls2, st2) := h
    obtain ⟨rfl, h⟩ := g1_inv h
    obtain ⟨y, r, rfl, h⟩ := qi_inv h; obtain ⟨x, r, rfl, h⟩ := qi_inv h; cases h; exact lv_imul hx hb hd (k _ hL)
  case iand =>
    have h : g1 len 1 (qi st fun y r => qi r fun x r => some (pc + 1, ls, .int (x &&& y) :: r)) = some (pc2, ls2, st2) := h
    obtain ⟨rfl, h⟩ := g1_inv h
    obtain ⟨y, r, rfl, h⟩ := qi_inv h; obtain ⟨x, r, rfl, h⟩ := qi_inv h; cases h; exact lv_iand hx hb hd (k _ hL)
  case ior =>
    have h : g1 len 1 (qi st fun y r => qi r fun x r => some (pc + 1, ls, .int (x ||| y) :: r)) = some (pc2, ls2, st2) := h
    obtain ⟨rfl, h⟩ := g1_inv h
    obtain ⟨y, r, rfl, h⟩ := qi_inv h; obtain ⟨x, r, rfl, h⟩ := qi_inv h; cases h; exact lv_ior hx hb hd (k _ hL)
  case ixor =>
    have h : g1 len 1 (qi st fun y r => qi r fun x r => some (pc + 1, ls, .int (x ^^^ y) :: r)) = some (pc2, ls2, st2) := h
    obtain ⟨rfl, h⟩ := g1_inv h
    obtain ⟨y, r, rfl, h⟩ := qi_inv h; obtain ⟨x, r, rfl, h⟩ := qi_inv h; cases h; exact lv_ixor hx hb hd (k _ hL)
  case ishl =>
    have h : g1 len 1 (qi st fun y r => qi r fun x r => some (pc + 1, ls, .int (x <<< (y &&& 31)) :: r)) = some (pc2, ls2, st2) := h
    obtain ⟨rfl, h⟩ := g1_inv h
    obtain ⟨y, r, rfl, h⟩ := qi_inv h; obtain ⟨x, r, rfl, h⟩ := qi_inv h; cases h; exact lv_ishl hx hb hd (k _ hL)
  case ishr =>
    have h : g1 len 1 (qi st fun y r => qi r fun x r => some (pc + 1, ls, .int (x >>> (y &&& 31)) :: r)) = some (pc2, ls2, st2) := h
    obtain ⟨rfl, h⟩ := g1_inv h
    obtain ⟨y, r, rfl, h⟩ := qi_inv h; obtain ⟨x, r, rfl, h⟩ := qi_inv h; cases h; exact lv_ishr hx hb hd (k _ hL)
  case irem =>
    have h : g1 len 1 (qi st fun y r => qi r fun x r => gc (!decide (y = 0)) (some (pc + 1, ls, .int (x - x / y * y) :: r))) = some (pc2, ls2, st2) := h
    obtain ⟨rfl, h⟩ := g1_inv h
    obtain ⟨y, r, rfl, h⟩ := qi_inv h; obtain ⟨x, r, rfl, h⟩ := qi_inv h; obtain ⟨e1, h⟩ := gc_inv h; cases h; exact lv_irem hx hb hd (by simpa using e1) (k _ hL)
  case ineg =>
    have h : g1 len 1 (qi st fun x r => some (pc + 1, ls, .int (-x) :: r)) = some (pc2, ls2, st2) := h
    obtain ⟨rfl, h⟩ := g1_inv h
    obtain ⟨x, r, rfl, h⟩ := qi_inv h; cases h; exact lv_ineg hx hb hd (k _ hL)
  case ladd =>
    have h : g1 len 1 (ql st fun y r => ql r fun x r => some (pc + 1, ls, .long (x + y) :: r)) = some (pc2, ls2, st2) := h
    obtain ⟨rfl, h⟩ := g1_inv h
    obtain ⟨y, r, rfl, h⟩ := ql_inv h; obtain ⟨x, r, rfl, h⟩ := ql_inv h; cases h; exact lv_ladd hx hb hd (k _ hL)
  case lmul =>
    have h : g1 len 1 (ql st fun y r => ql r fun x r => some (pc + 1, ls, .long (x * y) :: r)) = some (pc2, ls2, st2) := h
    obtain ⟨rfl, h⟩ := g1_inv h
    obtain ⟨y, r, rfl, h⟩ := ql_inv h; obtain ⟨x, r, rfl, h⟩ := ql_inv h; cases h; exact lv_lmul hx hb hd (k _ hL)
  case aconst_null =>
    have h : g1 len 1 (some (pc + 1, ls, .null :: st)) = some (pc2, ls2, st2) := h
    obtain ⟨rfl, h⟩ := g1_inv h
    cases h; exact lv_null hx hb hd (k _ hL)
  case ifnonnull off =>
    have h : g1 len 3 (qr st fun _ r => gt pc off fun t => some (t, ls, r)) = some (pc2, ls2, st2) := h
    obtain ⟨rfl, h⟩ := g1_inv h
    obtain ⟨x, r, rfl, h⟩ := qr_inv h; obtain ⟨t, e1, h⟩ := gt_inv h; cases h; exact lv_ifnonnull hx hb hd e1 (k _ hL)
  case iushr =>
    have h : g1 len 1 (qi st fun y r => qi r fun x r => some (pc + 1, ls, .int (x.toUInt32 >>> (y.toUInt32 &&& Int32.toUInt32 31)).toInt32 :: r)) = some (pc2, ls2, st2) := h
    obtain ⟨rfl, h⟩ := g1_inv h
    obtain ⟨y, r, rfl, h⟩ := qi_inv h; obtain ⟨x, r, rfl, h⟩ := qi_inv h; cases h; exact lv_iushr hx hb hd rfl (k _ hL)
  case i2l =>
    have h : g1 len 1 (qi st fun x r => some (pc + 1, ls, .long x.toInt64 :: r)) = some (pc2, ls2, st2) := h
    obtain ⟨rfl, h⟩ := g1_inv h
    obtain ⟨x, r, rfl, h⟩ := qi_inv h; cases h; exact lv_i2l hx hb hd rfl (k _ hL)
  case i2b =>
    have h : g1 len 1 (qi st fun x r => some (pc + 1, ls, .int x.toInt8.toInt32 :: r)) = some (pc2, ls2, st2) := h
    obtain ⟨rfl, h⟩ := g1_inv h
    obtain ⟨x, r, rfl, h⟩ := qi_inv h; cases h; exact lv_i2b hx hb hd rfl (k _ hL)
  case i2c =>
    have h : g1 len 1 (qi st fun x r => some (pc + 1, ls, .int (x.toUInt32 % 65536).toInt32 :: r)) = some (pc2, ls2, st2) := h
    obtain ⟨rfl, h⟩ := g1_inv h
    obtain ⟨x, r, rfl, h⟩ := qi_inv h; cases h; exact lv_i2c hx hb hd rfl (k _ hL)
  case i2f =>
    have h : g1 len 1 (qi st fun x r => some (pc + 1, ls, .float (FP.i2f x) :: r)) = some (pc2, ls2, st2) := h
    obtain ⟨rfl, h⟩ := g1_inv h
    obtain ⟨x, r, rfl, h⟩ := qi_inv h; cases h; exact lv_i2f hx hb hd (k _ hL)
  case i2d =>
    have h : g1 len 1 (qi st fun x r => some (pc + 1, ls, .double (FP.i2d x) :: r)) = some (pc2, ls2, st2) := h
    obtain ⟨rfl, h⟩ := g1_inv h
    obtain ⟨x, r, rfl, h⟩ := qi_inv h; cases h; exact lv_i2d hx hb hd (k _ hL)
  case f2d =>
    have h : g1 len 1 (qf st fun x r => gc (n64 (FP.f2d x)) (some (pc + 1, ls, .double (FP.f2d x) :: r))) = some (pc2, ls2, st2) := h
    obtain ⟨rfl, h⟩ := g1_inv h
    obtain ⟨x, r, rfl, h⟩ := qf_inv h; obtain ⟨e1, h⟩ := gc_inv h; cases h; exact lv_f2d hx hb hd (n64_ok e1) (k _ hL)
  case ddiv =>
    have h : g1 len 1 (qd st fun y r => qd r fun x r => gc (n64 (FP.ddiv x y)) (some (pc + 1, ls, .double (FP.ddiv x y) :: r))) = some (pc2, ls2, st2) := h
    obtain ⟨rfl, h⟩ := g1_inv h
    obtain ⟨y, r, rfl, h⟩ := qd_inv h; obtain ⟨x, r, rfl, h⟩ := qd_inv h; obtain ⟨e1, h⟩ := gc_inv h; cases h; exact lv_ddiv hx hb hd (n64_ok e1) (k _ hL)
  case fdiv =>
    have h : g1 len 1 (qf st fun y r => qf r fun x r => gc (n32 (FP.fdiv x y)) (some (pc + 1, ls, .float (FP.fdiv x y) :: r))) = some (pc2, ls2, st2) := h
    obtain ⟨rfl, h⟩ := g1_inv h
    obtain ⟨y, r, rfl, h⟩ := qf_inv h; obtain ⟨x, r, rfl, h⟩ := qf_inv h; obtain ⟨e1, h⟩ := gc_inv h; cases h; exact lv_fdiv hx hb hd (n32_ok e1) (k _ hL)
  case lcmp =>
    have h : g1 len 1 (ql st fun y r => ql r fun x r => some (pc + 1, ls, .int (lg_cmp x y) :: r)) = some (pc2, ls2, st2) := h
    obtain ⟨rfl, h⟩ := g1_inv h
    obtain ⟨y, r, rfl, h⟩ := ql_inv h; obtain ⟨x, r, rfl, h⟩ := ql_inv h; cases h; exact W.lcmp hx hb hd (k _ hL)
  case fcmp op =>
    have h : g1 len 1 (qf st fun y r => qf r fun x r => some (pc + 1, ls, .int (Op.cmpValue (FP.fcmp x y) op) :: r)) = some (pc2, ls2, st2) := h
    obtain ⟨rfl, h⟩ := g1_inv h
    obtain ⟨y, r, rfl, h⟩ := qf_inv h; obtain ⟨x, r, rfl, h⟩ := qf_inv h; cases h; exact lv_fcmp hx hb hd (k _ hL)
  case dcmp op =>
    have h : g1 len 1 (qd st fun y r => qd r fun x r => some (pc + 1, ls, .int (Op.cmpValue (FP.dcmp x y) op) :: r)) = some (pc2, ls2, st2) := h
    obtain ⟨rfl, h⟩ := g1_inv h
    obtain ⟨y, r, rfl, h⟩ := qd_inv h; obtain ⟨x, r, rfl, h⟩ := qd_inv h; cases h; exact lv_dcmp hx hb hd (k _ hL)
  case dup =>
    have h : g1 len 1 (q1 st fun x r => some (pc + 1, ls, x :: x :: r)) = some (pc2, ls2, st2) := h
    obtain ⟨rfl, h⟩ := g1_inv h
    obtain ⟨x, r, rfl, e1, h⟩ := q1_inv h; cases h; exact lv_dup hx hb hd e1 (k _ hL)
  case pop =>
    have h : g1 len 1 (q1 st fun x r => some (pc + 1, ls, r)) = some (pc2, ls2, st2) := h
    obtain ⟨rfl, h⟩ := g1_inv h
    obtain ⟨x, r, rfl, e1, h⟩ := q1_inv h; cases h; exact lv_pop hx hb hd e1 (k _ hL)
  case dup_x1 =>
    have h : g1 len 1 (q1 st fun x r => q1 r fun y r => some (pc + 1, ls, x :: y :: x :: r)) = some (pc2, ls2, st2) := h
    obtain ⟨rfl, h⟩ := g1_inv h
    obtain ⟨x, r, rfl, e1, h⟩ := q1_inv h; obtain ⟨y, r, rfl, e2, h⟩ := q1_inv h; cases h; exact lv_dup_x1 hx hb hd e1 e2 (k _ hL)
  case dup_x2 =>
    have h : g1 len 1 (q1 st fun x r => q1 r fun y r => q1 r fun z r => some (pc + 1, ls, x :: y :: z :: x :: r)) = some (pc2, ls2, st2) := h
    obtain ⟨rfl, h⟩ := g1_inv h
    obtain ⟨x, r, rfl, e1, h⟩ := q1_inv h; obtain ⟨y, r, rfl, e2, h⟩ := q1_inv h; obtain ⟨z, r, rfl, e3, h⟩ := q1_inv h; cases h; exact lv_dup_x2 hx hb hd e1 e2 e3 (k _ hL)
  case dup2 =>
    have h : g1 len 1 (q1 st fun x r => q1 r fun y r => some (pc + 1, ls, x :: y :: x :: y :: r)) = some (pc2, ls2, st2) := h
    obtain ⟨rfl, h⟩ := g1_inv h
    obtain ⟨x, r, rfl, e1, h⟩ := q1_inv h; obtain ⟨y, r, rfl, e2, h⟩ := q1_inv h; cases h; exact lv_dup2_11 hx hb hd e1 e2 (k _ hL)
  case goto off =>
    have h : g1 len 3 (gt pc off fun t => some (t, ls, st)) = some (pc2, ls2, st2) := h
    obtain ⟨rfl, h⟩ := g1_inv h
    obtain ⟨t, e1, h⟩ := gt_inv h; cases h; exact lv_goto hx hb hd e1 (k _ hL)
  case ifCond cd off =>
    have h : g1 len 3 (qi st fun x r => gt pc off fun t => some (if cmp0 cd x = true then t else pc + 3, ls, r)) = some (pc2, ls2, st2) := h
    obtain ⟨rfl, h⟩ := g1_inv h
    obtain ⟨x, r, rfl, h⟩ := qi_inv h; obtain ⟨t, e1, h⟩ := gt_inv h; cases h; cases cd
    · refine lv_if_eq hx hb hd e1 (fun q => ?_) (fun q => ?_)
      · refine W.eq ?_ (k _ hL); rw [if_pos (cmp0_t (cd := .eq) (by first | exact q | exact Int32.not_lt.mp q | exact Int32.not_le.mp q))]
      · refine W.eq ?_ (k _ hL); rw [if_neg (cmp0_f (cd := .eq) (by first | exact q | exact (fun z => z q) | (intro z; exact q (by first | exact z | exact Int32.not_lt.mpr z | exact Int32.not_le.mpr z))))]
    · refine lv_if_ne hx hb hd e1 (fun q => ?_) (fun q => ?_)
      · refine W.eq ?_ (k _ hL); rw [if_pos (cmp0_t (cd := .ne) (by first | exact q | exact Int32.not_lt.mp q | exact Int32.not_le.mp q))]
      · refine W.eq ?_ (k _ hL); rw [if_neg (cmp0_f (cd := .ne) (by first | exact q | exact (fun z => z q) | (intro z; exact q (by first | exact z | exact Int32.not_lt.mpr z | exact Int32.not_le.mpr z))))]
    · refine lv_if_lt hx hb hd e1 (fun q => ?_) (fun q => ?_)
      · refine W.eq ?_ (k _ hL); rw [if_pos (cmp0_t (cd := .lt) (by first | exact q | exact Int32.not_lt.mp q | exact Int32.not_le.mp q))]
      · refine W.eq ?_ (k _ hL); rw [if_neg (cmp0_f (cd := .lt) (by first | exact q | exact (fun z => z q) | (intro z; exact q (by first | exact z | exact Int32.not_lt.mpr z | exact Int32.not_le.mpr z))))]
    · refine lv_if_ge hx hb hd e1 (fun q => ?_) (fun q => ?_)
      · refine W.eq ?_ (k _ hL); rw [if_pos (cmp0_t (cd := .ge) (by first | exact q | exact Int32.not_lt.mp q | exact Int32.not_le.mp q))]
      · refine W.eq ?_ (k _ hL); rw [if_neg (cmp0_f (cd := .ge) (by first | exact q | exact (fun z => z q) | (intro z; exact q (by first | exact z | exact Int32.not_lt.mpr z | exact Int32.not_le.mpr z))))]
    · refine lv_if_gt hx hb hd e1 (fun q => ?_) (fun q => ?_)
      · refine W.eq ?_ (k _ hL); rw [if_pos (cmp0_t (cd := .gt) (by first | exact q | exact Int32.not_lt.mp q | exact Int32.not_le.mp q))]
      · refine W.eq ?_ (k _ hL); rw [if_neg (cmp0_f (cd := .gt) (by first | exact q | exact (fun z => z q) | (intro z; exact q (by first | exact z | exact Int32.not_lt.mpr z | exact Int32.not_le.mpr z))))]
    · refine lv_if_le hx hb hd e1 (fun q => ?_) (fun q => ?_)
      · refine W.eq ?_ (k _ hL); rw [if_pos (cmp0_t (cd := .le) (by first | exact q | exact Int32.not_lt.mp q | exact Int32.not_le.mp q))]
      · refine W.eq ?_ (k _ hL); rw [if_neg (cmp0_f (cd := .le) (by first | exact q | exact (fun z => z q) | (intro z; exact q (by first | exact z | exact Int32.not_lt.mpr z | exact Int32.not_le.mpr z))))]
  case if_icmp cd off =>
    have h : g1 len 3 (qi st fun y r => qi r fun x r => gt pc off fun t => some (if cmp2 cd x y = true then t else pc + 3, ls, r)) = some (pc2, ls2, st2) := h
    obtain ⟨rfl, h⟩ := g1_inv h
    obtain ⟨y, r, rfl, h⟩ := qi_inv h; obtain ⟨x, r, rfl, h⟩ := qi_inv h; obtain ⟨t, e1, h⟩ := gt_inv h; cases h; cases cd
    · refine lv_icmp_eq hx hb hd e1 (fun q => ?_) (fun q => ?_)
      · refine W.eq ?_ (k _ hL); rw [if_pos (cmp2_t (cd := .eq) (by first | exact q | exact Int32.not_lt.mp q | exact Int32.not_le.mp q))]
      · refine W.eq ?_ (k _ hL); rw [if_neg (cmp2_f (cd := .eq) (by first | exact q | exact (fun z => z q) | (intro z; exact q (by first | exact z | exact Int32.not_lt.mpr z | exact Int32.not_le.mpr z))))]
    · refine lv_icmp_ne hx hb hd e1 (fun q => ?_) (fun q => ?_)
      · refine W.eq ?_ (k _ hL); rw [if_pos (cmp2_t (cd := .ne) (by first | exact q | exact Int32.not_lt.mp q | exact Int32.not_le.mp q))]
      · refine W.eq ?_ (k _ hL); rw [if_neg (cmp2_f (cd := .ne) (by first | exact q | exact (fun z => z q) | (intro z; exact q (by first | exact z | exact Int32.not_lt.mpr z | exact Int32.not_le.mpr z))))]
    · refine lv_icmp_lt hx hb hd e1 (fun q => ?_) (fun q => ?_)
      · refine W.eq ?_ (k _ hL); rw [if_pos (cmp2_t (cd := .lt) (by first | exact q | exact Int32.not_lt.mp q | exact Int32.not_le.mp q))]
      · refine W.eq ?_ (k _ hL); rw [if_neg (cmp2_f (cd := .lt) (by first | exact q | exact (fun z => z q) | (intro z; exact q (by first | exact z | exact Int32.not_lt.mpr z | exact Int32.not_le.mpr z))))]
    · refine lv_icmp_ge hx hb hd e1 (fun q => ?_) (fun q => ?_)
      · refine W.eq ?_ (k _ hL); rw [if_pos (cmp2_t (cd := .ge) (by first | exact q | exact Int32.not_lt.mp q | exact Int32.not_le.mp q))]
      · refine W.eq ?_ (k _ hL); rw [if_neg (cmp2_f (cd := .ge) (by first | exact q | exact (fun z => z q) | (intro z; exact q (by first | exact z | exact Int32.not_lt.mpr z | exact Int32.not_le.mpr z))))]
    · refine lv_icmp_gt hx hb hd e1 (fun q => ?_) (fun q => ?_)
      · refine W.eq ?_ (k _ hL); rw [if_pos (cmp2_t (cd := .gt) (by first | exact q | exact Int32.not_lt.mp q | exact Int32.not_le.mp q))]
      · refine W.eq ?_ (k _ hL); rw [if_neg (cmp2_f (cd := .gt) (by first | exact q | exact (fun z => z q) | (intro z; exact q (by first | exact z | exact Int32.not_lt.mpr z | exact Int32.not_le.mpr z))))]
    · refine lv_icmp_le hx hb hd e1 (fun q => ?_) (fun q => ?_)
      · refine W.eq ?_ (k _ hL); rw [if_pos (cmp2_t (cd := .le) (by first | exact q | exact Int32.not_lt.mp q | exact Int32.not_le.mp q))]
      · refine W.eq ?_ (k _ hL); rw [if_neg (cmp2_f (cd := .le) (by first | exact q | exact (fun z => z q) | (intro z; exact q (by first | exact z | exact Int32.not_lt.mpr z | exact Int32.not_le.mpr z))))]
  case tableswitch dflt lo hi offs =>
    have h : (qi st fun x r => if x.toInt < lo ∨ hi < x.toInt then gt pc dflt (fun t => some (t, ls, r)) else match offs[(x.toInt - lo).toNat]? with | some off => gt pc off (fun t => some (t, ls, r)) | none => none) = some (pc2, ls2, st2) := h
    obtain ⟨x, r, rfl, h9⟩ := qi_inv h
    split at h9
    · obtain ⟨t, e1, h9⟩ := gt_inv h9; cases h9; exact lv_tableOut hx hb hd (by assumption) e1 (k _ hL)
    · rename_i hn
      split at h9
      · obtain ⟨t, e1, h9⟩ := gt_inv h9; cases h9; exact lv_tableIn hx hb hd (fun q => hn (Or.inl q)) (fun q => hn (Or.inr q)) (by assumption) e1 (k _ hL)
      · cases h9
  case lookupswitch dflt ps =>
    have h : (qi st fun x r => gc ((ps.toList.zip (ps.toList.drop 1)).all (fun (a, next) => a.1 < next.1)) (gt pc (Op.lookupswitch.offset ps.toList dflt x.toInt) fun t => some (t, ls, r))) = some (pc2, ls2, st2) := h
    obtain ⟨x, r, rfl, h⟩ := qi_inv h; obtain ⟨e0, h⟩ := gc_inv h; obtain ⟨t, e1, h⟩ := gt_inv h; cases h; exact lv_lookup hx hb hd e0 rfl e1 (k _ hL)
  all_goals exact absurd (show (none : Option (Nat × Lcs × Stk)) = some (pc2, ls2, st2) from h) (by simp)
end PST
