/-! ===== SOUNDNESS, what holds of the machine around the worlds; the tables' words ===== -/
/-- words that a callee's start holds though they are none of the good ones -/
def ngw : Cond → Bool
  | .declares _ => true
  | .castable _ _ => true
  | .methodLinkNest _ _ _ _ => true
  | _ => false
theorem ngw_on {w : Cond} (h : ngw w = true) : w.onTables = true := by
  cases w <;> first | rfl | cases h
theorem ngw_warm {w : Cond} (h : ngw w = true) {s U : State} (hW : s.WarmedH U.vm) (hZ : va_Nw w s) : va_Nw w U := by
  cases w <;> first | exact va_Nw.warmD hW hZ | exact va_Nw.warmC hW hZ | exact va_Nw.warmM hW hZ | cases h
def KA (b0 : Nat) : Nat → Prop := fun q => b0 ≤ q
def NMX : List String := ["java/lang/RuntimeException", "java/lang/Exception"]
def KEnv (X : Cxt) (b0 : Nat) (D : va_G) (dA : Nat → ClassId) (U : State) (H : Heap) : Prop :=
  (va_K D KL [] U ∧ AKs dA U ∧ va_AO "SoupTable$Seat" U ∧ va_AO "SoupTable$Table" U) ∧
  ((∀ q ∈ LT, vk_R (cname q.1) q.2.1 (LTX.getD q.2.2.1 "") (X.1 q.2.2.1) U) ∧ (∀ q ∈ TT, ∃ (tx : String) (sa : Nat), vk_R (cname (mN q.1)) q.2.2.2.2.2.1 tx sa U)) ∧
  (∀ a v : Nat, X.2.1 a = some v → va_O "java/lang/String" a (KA b0) U H ∧ va_OF "java/lang/String" "coder" "B" (.int 0) a (KA b0) U H ∧ va_OF "java/lang/String" "value" "[B" (.ref v) a (KA b0) U H) ∧
  (∀ (a : Nat) (q : Nat × (Nat → Int32)), X.2.2.1 a = some q → va_T .byte a q.1 (fun j => .int (q.2 j)) (KA b0) U H) ∧
  (va_Z "java/lang/String" "COMPACT_STRINGS" "Z" (.int 1) (KA b0) U H ∧ va_Z "jdk/internal/util/Preconditions" "SIOOBE_FORMATTER" "Ljava/util/function/BiFunction;" (va_rf X.2.2.2.1) (KA b0) U H ∧ va_Z "java/lang/Integer" "DigitOnes" "[B" (.ref (X.1 100)) (KA b0) U H) ∧
  (vx_Zq Bundle.tN "UNASSIGNED_STACK" Bundle.steD (KA b0) U H ∧ vx_Zq Bundle.tN "SUPPRESSED_SENTINEL" Bundle.listD (KA b0) U H) ∧
  ((∀ w ∈ lw_tbl, ngw w = true → va_Nw w U) ∧ ∀ q ∈ NCP, va_Nc (EXN.getD q.1 "") (EXN.getD q.2 "") U) ∧
  (va_X X.2.2.2.2.1 X.2.2.2.2.2.1 X.2.2.2.2.2.2 U H ∧ X.2.2.2.2.1 < b0 ∧ b0 ≤ H.size)
theorem KEnv.go {X : Cxt} {b0 : Nat} {D : va_G} {dA : Nat → ClassId} {u U : State} {H H1 : Heap} (h : KEnv X b0 D dA u H) (hal : u.vm.Alike U.vm) (hk : ∀ (own : String) (k : Nat) (tx : String) (a : Nat), vk_R own k tx a u → vk_R own k tx a U) (hn : ∀ w : Cond, ngw w = true → va_Nw w u → va_Nw w U)
    (hz : H.size ≤ H1.size) (hq : ∀ a : Nat, a < H.size → ¬ KA b0 a → H1[a]? = H[a]?) : KEnv X b0 D dA U H1 := by
  obtain ⟨⟨a1, a2, a3, a4⟩, ⟨b1, b2⟩, c1, d1, ⟨e1, e2, e3⟩, ⟨f1, f2⟩, ⟨g1, g2⟩, i1, i2, i3⟩ := h
  refine ⟨⟨va_K.moved hal a1, fun t ty ht => ⟨arrOfT_moved hal (a2 t ty ht).1, (a2 t ty ht).2.moved hal⟩, va_AO.moved hal a3, va_AO.moved hal a4⟩, ⟨fun q hq2 => hk _ _ _ _ (b1 q hq2), fun q hq2 => ?_⟩, fun a v hv => ?_, fun a q hv => ?_, ⟨(e1.moved hal).kept hq, (e2.moved hal).kept hq, (e3.moved hal).kept hq⟩, ⟨(f1.moved hal).kept hq, (f2.moved hal).kept hq⟩, ⟨fun w hw hg => hn w hg (g1 w hw hg), fun q hq2 => (g2 q hq2).moved hal⟩, (va_X.moved hal i1).kept (hq _ (Nat.lt_of_lt_of_le i2 i3) (Nat.not_le.mpr i2)), i2, Nat.le_trans i3 hz⟩
  · obtain ⟨tx, sa, h9⟩ := b2 q hq2
    exact ⟨tx, sa, hk _ _ _ _ h9⟩
  · obtain ⟨x, y, z⟩ := c1 a v hv
    exact ⟨(x.moved hal).kept hq, (y.moved hal).kept hq, (z.moved hal).kept hq⟩
  · exact ((d1 a q hv).moved hal).kept hq
theorem KEnv.warm {X : Cxt} {b0 : Nat} {D : va_G} {dA : Nat → ClassId} {s U : State} {H H1 : Heap} (h : KEnv X b0 D dA s H) (hW : s.WarmedH U.vm) (hz : H.size ≤ H1.size) (hq : ∀ a : Nat, a < H.size → ¬ KA b0 a → H1[a]? = H[a]?) : KEnv X b0 D dA U H1 :=
  h.go hW.alike (fun _ _ _ _ h9 => h9.warm hW) (fun _ hg h9 => ngw_warm hg hW h9) hz hq
theorem KEnv.same {X : Cxt} {b0 : Nat} {D : va_G} {dA : Nat → ClassId} {u U : State} {H : Heap} (h : KEnv X b0 D dA u H) (hv : U.vm = u.vm) : KEnv X b0 D dA U H :=
  h.go (by rw [hv]; exact Vm.Alike.refl _) (fun _ _ _ _ h9 => h9.same hv) (fun _ hg h9 => h9.same (ngw_on hg) hv.symm) (Nat.le_refl _) (fun _ _ _ => rfl)
/-- private methods of StringBuilder's superclass: a StringBuilder runs them -/
def SBP : List MethodName := (CT.filter fun q => Nat.beq q.2.2.1.1 11).map (fun q => mY q.2.2.1.2.1) |>.filter (fun y => decide (Cond.privateMethod y ∈ lw_tbl))
def SBS : List Cond := SBP.map fun y => .selects "java/lang/StringBuilder" y y
def ALLG : List Cond := (lw_tbl ++ SBS).filter goodWord
theorem allg {w : Cond} (h : w ∈ lw_tbl) (hg : goodWord w = true) : w ∈ ALLG := List.mem_filter.mpr ⟨List.mem_append_left _ h, hg⟩
def wis (i : Nat) (w : Cond) : Bool := decide (lw_tbl[i]? = some w) && goodWord w
theorem wis_mem {i : Nat} {w : Cond} (h : wis i w = true) : w ∈ ALLG := by
  have h2 := Bool.and_eq_true_iff.mp h
  exact allg (List.mem_of_getElem? (of_decide_eq_true h2.1)) h2.2
def hdw (M : Nat) : Cond := match mH M with
  | [] => .code (mY M) (mB M) (mL M) (mR M)
  | h => .codeWith (mY M) (mB M) (mL M) (mR M) h
def wsM (M : Nat) : List Cond := hdw M :: ALLG
/-- words at rising places of a list: one walk along it -/
def chk : Nat → List Cond → List (Nat × Cond) → Bool
  | _, _, [] => true
  | _, [], _ :: _ => false
  | i, c :: cs, (p, w) :: t => match Nat.beq i p with
    | true => decide (c = w) && (goodWord w && chk (i + 1) cs t)
    | false => chk (i + 1) cs ((p, w) :: t)
theorem chk_mem : ∀ (l : List Cond) (i : Nat) (t : List (Nat × Cond)), chk i l t = true → ∀ q ∈ t, q.2 ∈ l ∧ goodWord q.2 = true := by
  intro l
  induction l with
  | nil =>
    intro i t h q hq
    cases t with
    | nil => cases hq
    | cons a t => cases h
  | cons c cs ih =>
    intro i t h q hq
    cases t with
    | nil => cases hq
    | cons a t =>
      obtain ⟨p, w⟩ := a
      unfold chk at h
      split at h
      · simp only [Bool.and_eq_true, decide_eq_true_eq] at h
        obtain ⟨h1, h2, h3⟩ := h
        rcases List.mem_cons.mp hq with rfl | hq
        · exact ⟨by rw [h1]; exact List.mem_cons_self, h2⟩
        · obtain ⟨x, y⟩ := ih _ _ h3 q hq
          exact ⟨List.mem_cons_of_mem _ x, y⟩
      · obtain ⟨x, y⟩ := ih _ _ h q hq
        exact ⟨List.mem_cons_of_mem _ x, y⟩
theorem chk_all {t : List (Nat × Cond)} (h : chk 0 lw_tbl t = true) {q : Nat × Cond} (hq : q ∈ t) : q.2 ∈ ALLG := allg (chk_mem _ _ _ h q hq).1 (chk_mem _ _ _ h q hq).2
def stw (M : Nat) : Cond := match mT M with
  | true => .static (mY M)
  | false => .instanceMethod (mY M)
theorem MSL_ok : chk 0 lw_tbl (MSL.map fun q => (q.1, stw q.2)) = true := by decide +kernel
theorem MEL_ok : chk 0 lw_tbl (MEL.map fun q => (q.1, .selects (mY q.2).cls (mY q.2) (mY q.2))) = true := by decide +kernel
theorem MIL_ok : chk 0 lw_tbl (MIL.map fun q => (q.1, .initialized (cname q.2))) = true := by decide +kernel
def isI (M : Nat) : Bool := (mY M).name == "<init>"
def okM (M : Nat) : Bool := plainName (mY M).cls && (cname (mN M) == (mY M).cls) && decide ((mY M).cls ≠ "java/lang/invoke/MethodHandle" ∧ (mY M).cls ≠ "java/lang/invoke/VarHandle") && decide ((parseMethodDescriptor (mY M).desc).map (fun d => d.parameters.length) = some (MAL.getD M 0)) && MCL.any (·.2 == M) && MSL.any (·.2 == M) && MIL.any (·.2 == mN M)
theorem MT_ok : (List.range 172).all okM = true := by decide +kernel
def ctw (q : Nat × Nat × (Nat × Nat × Nat) × Nat) : Cond := match q.2.2.1.1 with
  | 5 => .methodLink (cname q.1) q.2.1 Lib.objectInit
  | 6 => .methodLink (cname q.1) q.2.1 Lib.Math.max.name
  | 7 => .methodLink (cname q.1) q.2.1 Lib.Math.min.name
  | 8 => .methodLink (cname q.1) q.2.1 ⟨"java/lang/Double", "doubleToLongBits", "(D)J"⟩
  | 9 => .methodLink (cname q.1) q.2.1 ⟨"java/lang/Float", "floatToIntBits", "(F)I"⟩
  | 10 => .methodLink (cname q.1) q.2.1 arraycopyName
  | 12 => .methodLink (cname q.1) q.2.1 ⟨"java/lang/AbstractStringBuilder", (mY q.2.2.1.2.1).name, (mY q.2.2.1.2.1).desc⟩
  | _ => .methodLink (cname q.1) q.2.1 (mY q.2.2.1.2.1)
theorem CTA_ok : chk 0 lw_tbl (CTA.map fun q => (q.2.2.2, ctw q)) = true := by decide +kernel
theorem CTN_ok : CTN.all (fun q => decide (q.2.2.1.1 = 3) && decide (Cond.methodLinkNest (cname q.1) q.2.1 (mY q.2.2.1.2.1) "SoupTable" ∈ lw_tbl)) = true := by decide +kernel
def inG (w : Cond) : Bool := decide (w ∈ lw_tbl) && goodWord w
theorem inG_ok {w : Cond} (h : inG w = true) : w ∈ ALLG := allg (of_decide_eq_true (Bool.and_eq_true_iff.mp h).1) (Bool.and_eq_true_iff.mp h).2
/-- kinds: 0 virtual, 1 static, 2 and 3 constructors, 5 Object's, 6 and 7 max and min -/
def okC (q : Nat × Nat × (Nat × Nat × Nat) × Nat) : Bool := match q.2.2.1 with
  | (0, M, k) => decide (M < 172) && !mT M && !isI M && (mH M).isEmpty && (MAL.getD M 0 == k) && MEL.any (·.2 == M) && decide (rco (mY M).cls = (mY M).cls)
  | (11, M, k) => decide (M < 172) && !mT M && !isI M && (mH M).isEmpty && (MAL.getD M 0 == k) && decide ((mY M).cls = "java/lang/AbstractStringBuilder") && inG (.sameMethod (mY M).cls (mY M).cls (mY M).name (mY M).desc) && decide (Cond.selects "java/lang/StringBuilder" (mY M) (mY M) ∈ ALLG) && jdk M
  | (12, M, k) => decide (M < 172) && !mT M && !isI M && (mH M).isEmpty && (MAL.getD M 0 == k) && decide (mY M = ⟨"java/lang/StringBuilder", "length", "()I"⟩) && jdk M
  | (14, M, k) => decide (M < 172) && !mT M && !isI M && (mH M).isEmpty && (MAL.getD M 0 == k) && decide ((mY M).cls = "java/lang/AbstractStringBuilder") && inG (.sameMethod (mY M).cls (mY M).cls (mY M).name (mY M).desc) && decide (cname q.1 = "java/lang/StringBuilder") && jdk M
  | (1, M, k) => decide (M < 172) && mT M && (MAL.getD M 0 == k)
  | (2, M, k) => decide (M < 172) && !mT M && isI M && (mH M).isEmpty && decide (mR M = none) && (MAL.getD M 0 == k)
  | (3, M, k) => decide (M < 172) && !mT M && isI M && (mH M).isEmpty && decide (mR M = none) && (MAL.getD M 0 == k)
  | _ => true
theorem CT_ok : CT.all okC = true := by decide +kernel
theorem CTA_no3 : CTA.all (fun q => decide (q.2.2.1.1 ≠ 3)) = true := by decide +kernel
theorem POI_ok : wis POI.1 (.instanceMethod Lib.objectInit) = true ∧ wis POI.2 (.code Lib.objectInit ⟨#[0xb1]⟩ 1 none) = true := ⟨by decide +kernel, by decide +kernel⟩
theorem MXP_ok : wis MXP.1 (.static Lib.Math.max.name) = true ∧ wis MXP.2.1 (.code Lib.Math.max.name Lib.Math.max.code 2 (some .int)) = true ∧ wis MXP.2.2.1 (.static Lib.Math.min.name) = true ∧ wis MXP.2.2.2.1 (.code Lib.Math.min.name Lib.Math.min.code 2 (some .int)) = true ∧ wis MXP.2.2.2.2 (.initialized "java/lang/Math") = true := ⟨by decide +kernel, by decide +kernel, by decide +kernel, by decide +kernel, by decide +kernel⟩
def ftw (q : Nat × Nat × Nat × Nat × Nat) : Cond := match KL[q.2.2.1]? with
  | some c => .fieldLink (cname q.1) q.2.1 (c.2.1 q.2.2.2.1).1 (c.2.1 q.2.2.2.1).2.1 (c.2.1 q.2.2.2.1).2.2.1
  | none => .tt
theorem FTW_ok : chk 0 lw_tbl (FT.map fun q => (q.2.2.2.2, ftw q)) = true := by decide +kernel
def okF (q : Nat × Nat × Nat × Nat × Nat) : Bool := match KL[q.2.2.1]? with
  | some c => decide (q.2.2.2.1 < c.2.2)
  | none => false
theorem FT_ok : FT.all okF = true := by decide +kernel
theorem KL_in : ∀ q ∈ KL, ∀ w ∈ u_ws q.1 q.2.1 q.2.2, w ∈ ALLG := by
  have h : KL.all (fun q => (u_ws q.1 q.2.1 q.2.2).all fun w => decide (w ∈ lw_tbl) && goodWord w) = true := by decide +kernel
  intro q hq w hw
  have h1 := List.all_eq_true.mp (List.all_eq_true.mp h q hq) w hw
  have h2 := Bool.and_eq_true_iff.mp h1
  exact allg (of_decide_eq_true h2.1) h2.2
def okN (q : Nat × Nat × Nat × Nat) : Bool := match KL[q.2.2.1]? with
  | some c => wis q.2.2.2 (.classLink (cname q.1) q.2.1 c.1)
  | none => false
theorem NT_ok : NT.all okN = true := by decide +kernel
theorem KL_new : ∀ q ∈ KL, Cond.instantiable q.1 q.2.2 ∈ ALLG ∧ Cond.initialized q.1 ∈ ALLG := by
  have h : KL.all (fun q => decide (Cond.instantiable q.1 q.2.2 ∈ lw_tbl) && goodWord (Cond.instantiable q.1 q.2.2) && decide (Cond.initialized q.1 ∈ lw_tbl) && goodWord (Cond.initialized q.1)) = true := by decide +kernel
  intro q hq
  have h1 := List.all_eq_true.mp h q hq
  simp only [Bool.and_eq_true, decide_eq_true_eq] at h1
  exact ⟨allg h1.1.1.1 h1.1.1.2, allg h1.1.2 h1.2⟩
theorem AC_ok : ∀ ty : FieldType, ty ∈ ([.int, .char, .long, .byte] : List FieldType) → Cond.arrayClass ty ∈ ALLG := by
  have h : ([.int, .char, .long, .byte] : List FieldType).all (fun ty => decide (Cond.arrayClass ty ∈ lw_tbl)) = true := by decide +kernel
  intro ty hty
  exact allg (of_decide_eq_true (List.all_eq_true.mp h ty hty)) rfl
theorem IT_ok : IT.all (fun q => wis q.2.2.2 (.constant (cname q.1) q.2.1 q.2.2.1)) = true := by decide +kernel
theorem SG_ok : SGT.all (fun q => (decide (q.2.2.1 = 0) && wis q.2.2.2 (.fieldLink (cname q.1) q.2.1 "java/lang/String" "COMPACT_STRINGS" "Z")) || (decide (q.2.2.1 = 1) && wis q.2.2.2 (.fieldLink (cname q.1) q.2.1 "jdk/internal/util/Preconditions" "SIOOBE_FORMATTER" "Ljava/util/function/BiFunction;")) || (decide (q.2.2.1 = 2) && wis q.2.2.2 (.fieldLink (cname q.1) q.2.1 "java/lang/Integer" "DigitOnes" "[B"))) = true := by decide +kernel
theorem FC_ok : FCT.all (fun q => wis q.2.2.2 (.constantFloat (cname q.1) q.2.1 q.2.2.1)) = true := by decide +kernel
theorem LC_ok : LCT.all (fun q => wis q.2.2.2 (.constantLong (cname q.1) q.2.1 q.2.2.1)) = true := by decide +kernel
theorem DC_ok : DCT.all (fun q => wis q.2.2.2 (.constantDouble (cname q.1) q.2.1 q.2.2.1)) = true := by decide +kernel
/-- the words of the JDK's own calls that no method of the table makes -/
def DLW : List Cond := [.static ⟨"java/lang/Double", "doubleToLongBits", "(D)J"⟩, .static ⟨"java/lang/Double", "isNaN", "(D)Z"⟩, .initialized "java/lang/Double", .native ⟨"java/lang/Double", "doubleToRawLongBits", "(D)J"⟩, .static ⟨"java/lang/Double", "doubleToRawLongBits", "(D)J"⟩,
  .static ⟨"java/lang/Float", "floatToIntBits", "(F)I"⟩, .static ⟨"java/lang/Float", "isNaN", "(F)Z"⟩, .initialized "java/lang/Float", .native ⟨"java/lang/Float", "floatToRawIntBits", "(F)I"⟩, .static ⟨"java/lang/Float", "floatToRawIntBits", "(F)I"⟩,
  .native arraycopyName, .static arraycopyName, .initialized "java/lang/System",
  .superclass "java/lang/StringBuilder" "java/lang/AbstractStringBuilder", .sameMethod "java/lang/AbstractStringBuilder" "java/lang/AbstractStringBuilder" "length" "()I", .instanceMethod ⟨"java/lang/AbstractStringBuilder", "length", "()I"⟩, .selects "java/lang/StringBuilder" ⟨"java/lang/AbstractStringBuilder", "length", "()I"⟩ ⟨"java/lang/StringBuilder", "length", "()I"⟩]
theorem DLW_ok : DLW.all inG = true := by decide +kernel
theorem dlw {w : Cond} (h : w ∈ DLW) : w ∈ ALLG := inG_ok (List.all_eq_true.mp DLW_ok w h)
theorem SF_ok : SFT.all (fun q => (decide (q.2.2.1 = 0) && wis q.2.2.2 (.fieldLink (cname q.1) q.2.1 "java/lang/String" "value" "[B")) || (decide (q.2.2.1 = 1) && wis q.2.2.2 (.fieldLink (cname q.1) q.2.1 "java/lang/String" "coder" "B"))) = true := by decide +kernel
/-- the words of a throw of X, its own link apart -/
def thw (X : String) : List Cond := vx_atS "" 0 X NMX
def okX (X : String) : Bool := Bundle.fit X && (thw X).all (fun w => decide (w = .methodLink "" 0 (Bundle.initS X)) || (decide (w ∈ lw_tbl) && (goodWord w || ngw w)))
theorem okX_0 : okX (EXN.getD 0 "") = true := by decide +kernel
theorem okX_1 : okX (EXN.getD 1 "") = true := by decide +kernel
theorem okX_2 : okX (EXN.getD 2 "") = true := by decide +kernel
theorem okX_3 : okX (EXN.getD 3 "") = true := by decide +kernel
theorem okX_4 : okX (EXN.getD 4 "") = true := by decide +kernel
theorem NMX_ok : ∀ n ∈ NMX, Bundle.fit n = true := by decide +kernel
