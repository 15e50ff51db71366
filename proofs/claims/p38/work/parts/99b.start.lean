/-! ===== the start: what the Statement gives of it ===== -/
def GV : List Cond := flatC (Jvm.Cond.and given_1 narrow_1)
def STK : List (String × Nat) := [("SoupTable$Text", 33), ("SoupTable", 306), ("SoupTable$Text", 59), ("SoupTable$Text", 61), ("SoupTable$Text", 63), ("SoupTable$Text", 65), ("SoupTable$Text", 67), ("SoupTable$Text", 69), ("SoupTableLaw", 261), ("SoupTableLaw", 266), ("SoupTableLaw", 268), ("SoupTableLaw", 278), ("SoupTableLaw", 225), ("SoupTableLaw", 233), ("SoupTableLaw", 239), ("SoupTableLaw", 241), ("SoupTableLaw", 243)]
/-- what is given of a String constant -/
def strW (own : String) (k : Nat) (bs : List Int32) : List Cond :=
  [.exactly (.string own k) "java/lang/String", .eq (.field (.string own k) "java/lang/String" "coder" "B") (.int 0), .arrayOf (.field (.string own k) "java/lang/String" "value" "[B") .byte, .eq (.length (.field (.string own k) "java/lang/String" "value" "[B")) (.int (Int32.ofNat bs.length))] ++
  (List.range bs.length).map (fun j => .eq (.elem (.field (.string own k) "java/lang/String" "value" "[B") (.int (Int32.ofNat j))) (.int (bs.getD j 0)))
def stk_W (j : Nat) : List Cond := strW (STK.getD j ("", 0)).1 (STK.getD j ("", 0)).2 (LBY.getD j [])
theorem STK_0 : (GV.drop 417).take 12 = stk_W 0 := by decide +kernel
theorem STK_1 : (GV.drop 632).take 9 = stk_W 1 := by decide +kernel
theorem STK_2 : (GV.drop 429).take 7 = stk_W 2 := by decide +kernel
theorem STK_3 : (GV.drop 436).take 4 = stk_W 3 := by decide +kernel
theorem STK_4 : (GV.drop 440).take 6 = stk_W 4 := by decide +kernel
theorem STK_5 : (GV.drop 446).take 7 = stk_W 5 := by decide +kernel
theorem STK_6 : (GV.drop 453).take 5 = stk_W 6 := by decide +kernel
theorem STK_7 : (GV.drop 458).take 5 = stk_W 7 := by decide +kernel
theorem STK_8 : (GV.drop 907).take 5 = stk_W 8 := by decide +kernel
theorem STK_9 : (GV.drop 912).take 12 = stk_W 9 := by decide +kernel
theorem STK_10 : (GV.drop 924).take 9 = stk_W 10 := by decide +kernel
theorem STK_11 : (GV.drop 933).take 35 = stk_W 11 := by decide +kernel
theorem STK_12 : (GV.drop 870).take 5 = stk_W 12 := by decide +kernel
theorem STK_13 : (GV.drop 875).take 6 = stk_W 13 := by decide +kernel
theorem STK_14 : (GV.drop 888).take 5 = stk_W 14 := by decide +kernel
theorem STK_15 : (GV.drop 893).take 9 = stk_W 15 := by decide +kernel
theorem STK_16 : (GV.drop 902).take 5 = stk_W 16 := by decide +kernel
theorem gv_part {a n : Nat} {l : List Cond} (h : (GV.drop a).take n = l) : ∀ w ∈ l, w ∈ GV := fun w hw => List.mem_of_mem_drop (List.mem_of_mem_take (by rw [h]; exact hw))
theorem STK_ok : ∀ j, j < 17 → ∀ w ∈ stk_W j, w ∈ GV := by
  intro j h
  rcases (show j = 0 ∨ j = 1 ∨ j = 2 ∨ j = 3 ∨ j = 4 ∨ j = 5 ∨ j = 6 ∨ j = 7 ∨ j = 8 ∨ j = 9 ∨ j = 10 ∨ j = 11 ∨ j = 12 ∨ j = 13 ∨ j = 14 ∨ j = 15 ∨ j = 16 by omega) with rfl | rfl | rfl | rfl | rfl | rfl | rfl | rfl | rfl | rfl | rfl | rfl | rfl | rfl | rfl | rfl | rfl
  · exact gv_part STK_0
  · exact gv_part STK_1
  · exact gv_part STK_2
  · exact gv_part STK_3
  · exact gv_part STK_4
  · exact gv_part STK_5
  · exact gv_part STK_6
  · exact gv_part STK_7
  · exact gv_part STK_8
  · exact gv_part STK_9
  · exact gv_part STK_10
  · exact gv_part STK_11
  · exact gv_part STK_12
  · exact gv_part STK_13
  · exact gv_part STK_14
  · exact gv_part STK_15
  · exact gv_part STK_16
theorem LBY_len : ∀ j, j < 17 → (LBY.getD j []).length < 2 ^ 31 := by decide +kernel
theorem LBY_inj : ∀ i, i < 17 → ∀ j, j < 17 → (LBY.getD i []).length = (LBY.getD j []).length → (∀ k, k < (LBY.getD i []).length → (LBY.getD i []).getD k 0 = (LBY.getD j []).getD k 0) → i = j := by decide +kernel
def stx (own : String) (k : Nat) : Option String := lw_tbl.findSome? (fun w => match w with
  | .stringRef o k2 t => if o = own ∧ k2 = k then some t else none
  | _ => none)
theorem stx_in {own t : String} {k : Nat} (h : stx own k = some t) : Cond.stringRef own k t ∈ lw_tbl := by
  unfold stx at h
  obtain ⟨w, hw, h2⟩ := List.exists_of_findSome?_eq_some h
  split at h2
  · rename_i o k2 t2
    split at h2
    · rename_i c
      obtain ⟨rfl, rfl⟩ := c
      cases h2
      exact hw
    · cases h2
  · cases h2
theorem TTS_ok : TT.all (fun q => (stx (cname (mN q.1)) q.2.2.2.2.2.1).isSome && decide (Cond.exactly (.string (cname (mN q.1)) q.2.2.2.2.2.1) "java/lang/String" ∈ GV)) = true := by decide +kernel
theorem LTS_ok : LT.all (fun q => decide (Cond.stringRef (cname q.1) q.2.1 (LTX.getD q.2.2.1 "") ∈ lw_tbl) && decide (q.2.2.1 < 17 ∧ STK.getD q.2.2.1 ("", 0) = (cname q.1, q.2.1))) = true := by decide +kernel
/-- the digits' table of Integer -/
def DGT : Term := .static "java/lang/Integer" "DigitOnes" "[B"
theorem DG_ok : Cond.arrayOf DGT .byte ∈ GV ∧ Cond.eq (.length DGT) (.int 100) ∈ GV ∧ (List.range 100).all (fun j => decide (Cond.eq (.elem DGT (.int (Int32.ofNat j))) (.int (dgt j)) ∈ GV)) = true ∧ Cond.laysStatic "java/lang/Integer" "DigitOnes" "[B" ∈ lw_tbl ∧ Cond.initialized "java/lang/Integer" ∈ lw_tbl := ⟨by decide +kernel, by decide +kernel, by decide +kernel, by decide +kernel, by decide +kernel⟩
theorem SBP_ok : SBP.all (fun y => decide (y.cls = "java/lang/AbstractStringBuilder") && (decide (Cond.privateMethod y ∈ lw_tbl) && decide (Cond.instanceMethod y ∈ lw_tbl))) = true := by decide +kernel
def SBL : MethodName := ⟨"java/lang/AbstractStringBuilder", "isLatin1", "()Z"⟩
theorem SBL_ok : Cond.selects "java/lang/StringBuilder" SBL SBL ∈ lw_tbl := by decide +kernel
/-- a StringBuilder runs its superclass's own methods -/
theorem sbs_before {s : State} {args : Array Value} (hts : ∀ w ∈ lw_tbl, w.before args s = true) : ∀ w ∈ SBS, w.before args s = true := by
  intro w hw
  obtain ⟨y, hy, rfl⟩ := List.mem_map.mp hw
  have h := List.all_eq_true.mp SBP_ok y hy
  simp only [Bool.and_eq_true, decide_eq_true_eq] at h
  obtain ⟨h0, h1, h2⟩ := h
  obtain ⟨c, r, m, q1, q2, q3, q4, kP, hkP, hkPi⟩ := Cond.selects_spec (hts _ SBL_ok)
  obtain ⟨mk, methM, hnamed, hmethM, -, -⟩ := Cond.instanceMethod_spec (hts _ h2)
  have hfound : s.methodFound? y.cls y.name y.desc = some mk := State.methodFound?_of_named hnamed (by rw [h0]; exact ⟨by decide +kernel, by decide +kernel⟩)
  have e1 := findClass_of_methodNamed hnamed
  have e2 := findClass_of_methodNamed q3
  rw [h0] at e1
  have hcls : mk.cls = m.cls := Option.some.inj (e1.symm.trans e2)
  have hsel : selectMethod {} s.vm c mk = .method mk := selectMethod_private hmethM (Cond.privateMethod_at (hts _ h1) mk methM hnamed hmethM)
  simp only [Cond.before, Cond.holds, Cond.value, q1, hfound, hnamed, hsel, hcls, hkP]
  simp
  exact hkPi
theorem allg_before {s : State} {args : Array Value} (hts : ∀ w ∈ lw_tbl, w.before args s = true) : ∀ w ∈ ALLG, w.before args s = true := fun w hw => (List.mem_append.mp (List.mem_filter.mp hw).1).elim (hts w) (sbs_before hts w)
theorem NCP_ok : NCP.all (fun q => decide (Cond.not (.castable (EXN.getD q.1 "") (EXN.getD q.2 "")) ∈ GV)) = true := by decide +kernel
theorem AO_ok : Cond.arrayOver (.object "SoupTable$Seat") ∈ lw_tbl ∧ Cond.arrayOver (.object "SoupTable$Table") ∈ lw_tbl := ⟨by decide +kernel, by decide +kernel⟩
theorem SS_ok : (Cond.laysStatic "java/lang/String" "COMPACT_STRINGS" "Z" ∈ lw_tbl ∧ Cond.initialized "java/lang/String" ∈ lw_tbl) ∧ (Cond.laysStatic "jdk/internal/util/Preconditions" "SIOOBE_FORMATTER" "Ljava/util/function/BiFunction;" ∈ lw_tbl ∧ Cond.initialized "jdk/internal/util/Preconditions" ∈ lw_tbl) ∧
    (Cond.laysStatic Bundle.tN "UNASSIGNED_STACK" Bundle.steD ∈ lw_tbl ∧ Cond.laysStatic Bundle.tN "SUPPRESSED_SENTINEL" Bundle.listD ∈ lw_tbl ∧ Cond.initialized Bundle.tN ∈ lw_tbl) := ⟨⟨by decide +kernel, by decide +kernel⟩, ⟨by decide +kernel, by decide +kernel⟩, by decide +kernel, by decide +kernel, by decide +kernel⟩
theorem SV_ok : Cond.eq (.static "java/lang/String" "COMPACT_STRINGS" "Z") (.int 1) ∈ GV ∧ Cond.isRef (.static "jdk/internal/util/Preconditions" "SIOOBE_FORMATTER" "Ljava/util/function/BiFunction;") ∈ GV ∧ Cond.isRef (.static Bundle.tN "UNASSIGNED_STACK" Bundle.steD) ∈ GV ∧ Cond.isRef (.static Bundle.tN "SUPPRESSED_SENTINEL" Bundle.listD) ∈ GV := ⟨by decide +kernel, by decide +kernel, by decide +kernel, by decide +kernel⟩
theorem of_uniq {o n d : String} {v1 v2 : Value} {t : Nat} {A : Nat → Prop} {U : State} {H : Heap} (h1 : va_OF o n d v1 t A U H) (h2 : va_OF o n d v2 t A U H) : v1 = v2 := by
  obtain ⟨cf, k, i, f, cell, a1, -, a3, -, a5, -⟩ := h1
  obtain ⟨cf2, k2, i2, f2, cell2, b1, -, b3, -, b5, -⟩ := h2
  cases Option.some.inj (a1.symm.trans b1)
  cases Option.some.inj (a3.symm.trans b3)
  exact Option.some.inj (a5.symm.trans b5)
theorem t_uniq {v N1 N2 : Nat} {f1 f2 : Nat → Value} {A : Nat → Prop} {U : State} {H : Heap} (h1 : va_T .byte v N1 f1 A U H) (h2 : va_T .byte v N2 f2 A U H) (l1 : N1 < 2 ^ 31) (l2 : N2 < 2 ^ 31) : N1 = N2 ∧ ∀ j, j < N1 → f1 j = f2 j := by
  obtain ⟨c1, a1, -, -, -, a5, a6, -⟩ := h1
  obtain ⟨c2, b1, -, -, -, b5, b6, -⟩ := h2
  cases Option.some.inj (a1.symm.trans b1)
  have e : nI N1 = nI N2 := a5.symm.trans b5
  have e2 : N1 = N2 := (nI_eq l1 l2).mp e
  exact ⟨e2, fun j hj => Option.some.inj ((a6 j hj).symm.trans (b6 j (e2 ▸ hj)))⟩
theorem fnd17 {g : Nat → Nat} (inj : ∀ i j, i < 17 → j < 17 → g i = g j → i = j) {j : Nat} (hj : j < 17) : (List.range 17).find? (fun i => g i == g j) = some j := by
  cases h : (List.range 17).find? (fun i => g i == g j) with
  | none => exact absurd (beq_self_eq_true (g j)) (List.find?_eq_none.mp h j (List.mem_range.mpr hj))
  | some x =>
    have h1 := List.mem_range.mp (List.mem_of_find?_eq_some h)
    have z := List.find?_some h
    have h2 : g x = g j := eq_of_beq z
    rw [inj x j h1 hj h2]
theorem str_of {args : Array Value} {s : State} {own : String} {k : Nat} {bs : List Int32} {A : Nat → Prop} (h : ∀ w ∈ strW own k bs, w.before args s = true) (hl : bs.length < 2 ^ 31) (hA : ∀ a : Nat, a < s.heap.size → ¬ A a) :
    ∃ q : Nat × Nat, (Term.string own k).eval args s none [] s = some (.ref q.1) ∧ va_O "java/lang/String" q.1 A s s.heap ∧ va_OF "java/lang/String" "coder" "B" (.int 0) q.1 A s s.heap ∧ va_OF "java/lang/String" "value" "[B" (.ref q.2) q.1 A s s.heap ∧ va_T .byte q.2 bs.length (fun j => .int (bs.getD j 0)) A s s.heap := by
  have z : ∀ i, i < 1 → i = 0 := fun i hi => by omega
  obtain ⟨adK, adV, hS, ht⟩ := vk_Sof (args := args) (s := s) (N := 1) (tm := fun _ => .string own k) (len := [bs.length]) (byt := [bs]) (A := A) (fun i hi => by cases z i hi; exact hl)
    (fun i hi => h _ (List.mem_append_left _ List.mem_cons_self))
    (fun i hi => h _ (List.mem_append_left _ (List.mem_cons_of_mem _ List.mem_cons_self)))
    (fun i hi => h _ (List.mem_append_left _ (List.mem_cons_of_mem _ (List.mem_cons_of_mem _ List.mem_cons_self))))
    (fun i hi => by cases z i hi; exact h _ (List.mem_append_left _ (List.mem_cons_of_mem _ (List.mem_cons_of_mem _ (List.mem_cons_of_mem _ List.mem_cons_self)))))
    (fun i hi j hj => by cases z i hi; exact h _ (List.mem_append_right _ (List.mem_map.mpr ⟨j, List.mem_range.mpr hj, rfl⟩)))
    (fun i j hi hj hne => absurd ((z i hi).trans (z j hj).symm) hne) hA
  obtain ⟨h1, h2, h3, h4⟩ := hS.1 0 (by decide)
  exact ⟨(adK 0, adV 0), ht 0 (by decide), h1, h2, h3, h4⟩
theorem arr_of {args : Array Value} {s : State} (hts : ∀ w ∈ lw_tbl, w.before args s = true) (t : Nat) : ∃ c : ClassId, ∀ ty : FieldType, ATY[t]? = some ty → ArrOfT s c ty ∧ va_RA s c ty := by
  have prim : ∀ ty : FieldType, ty ∈ ([.int, .char, .long, .byte] : List FieldType) → ∃ c : ClassId, ArrOfT s c ty ∧ va_RA s c ty := by
    intro ty hty
    obtain ⟨c, k, comp, h1, h2, h3⟩ := Cond.arrayClass_spec (allg_before hts _ (AC_ok ty hty))
    refine ⟨c, fun n z => ⟨fun k h => (by cases h), k, h2, comp, h3⟩, ?_⟩
    simp only [List.mem_cons, List.not_mem_nil, or_false] at hty
    rcases hty with rfl | rfl | rfl | rfl <;> exact h1
  have obj : ∀ C : String, Cond.arrayOver (.object C) ∈ lw_tbl → ∃ c : ClassId, ArrOfT s c (.object C) ∧ va_RA s c (.object C) := by
    intro C hC
    obtain ⟨comp, c, k, h1, h2, h3, h4, h5⟩ := Cond.arrayOver_spec (hts _ hC)
    exact ⟨c, fun n z => ⟨fun k h => (by cases h), k, h3, comp, h4⟩, k, comp, h3, h4, h1, h5⟩
  have fin : ∀ ty : FieldType, ATY[t]? = some ty → (∃ c : ClassId, ArrOfT s c ty ∧ va_RA s c ty) → ∃ c : ClassId, ∀ ty : FieldType, ATY[t]? = some ty → ArrOfT s c ty ∧ va_RA s c ty := by
    intro ty e ⟨c, h⟩
    refine ⟨c, fun ty2 e2 => ?_⟩
    cases Option.some.inj (e.symm.trans e2)
    exact h
  match t with
  | 0 => exact fin .int rfl (prim _ (by decide))
  | 1 => exact fin .char rfl (prim _ (by decide))
  | 2 => exact fin .long rfl (prim _ (by decide))
  | 3 => exact fin .byte rfl (prim _ (by decide))
  | 4 => exact fin (.object "SoupTable$Seat") rfl (obj _ AO_ok.1)
  | 5 => exact fin (.object "SoupTable$Table") rfl (obj _ AO_ok.2)
  | t + 6 =>
    obtain ⟨c, -⟩ := prim .int (by decide)
    exact ⟨c, fun ty h => by simp [ATY] at h⟩
theorem cls_of {args : Array Value} {s : State} (hts : ∀ w ∈ lw_tbl, w.before args s = true) (k : Nat) : ∃ p : ClassId × (Nat → Nat), ∀ q : vw_C, KL[k]? = some q → u_Kn s q.1 q.2.1 q.2.2 p.1 p.2 := by
  have one : ∀ q : vw_C, q ∈ KL → ∃ p : ClassId × (Nat → Nat), u_Kn s q.1 q.2.1 q.2.2 p.1 p.2 := by
    intro q hq
    obtain ⟨cC, iS, h⟩ := u_known (C := q.1) (T := q.2.1) (N := q.2.2) (n := q.2.2) (allg_before hts) (fun w hw => KL_in q hq w hw) (allg_before hts _ (KL_new q hq).1)
    exact ⟨(cC, iS), h⟩
  cases hq : KL[k]? with
  | none =>
    obtain ⟨p, -⟩ := one (RX0, TX0, 3) (by simp [KL])
    exact ⟨p, fun q h => by cases h⟩
  | some q0 =>
    obtain ⟨p, h⟩ := one q0 (List.mem_of_getElem? hq)
    exact ⟨p, fun q e => by cases e; exact h⟩
theorem start_env {s : State} {b L : Nat} {xs : Nat → Int32} (hts : ∀ w ∈ lw_tbl, w.before #[Value.ref b] s = true) (hX : va_X b L xs s s.heap) (hb : b < s.heap.size) (hg : (Jvm.Cond.and given_1 narrow_1).before #[Value.ref b] s = true) :
    ∃ (X : Cxt) (D : va_G) (dA : Nat → ClassId), KEnv X s.heap.size D dA s s.heap ∧ LitY X ∧ DigX X ∧ Nok X s.heap.size ∧ X.2.2.2.2 = (b, L, xs) := by
  have hgv : ∀ w ∈ GV, w.before #[Value.ref b] s = true := flat_of_before _ hg
  have hA : ∀ a : Nat, a < s.heap.size → ¬ KA s.heap.size a := fun a h z => Nat.not_le.mpr h z
  obtain ⟨D0, hD0⟩ := Classical.axiomOfChoice (cls_of hts)
  obtain ⟨dA, hdA⟩ := Classical.axiomOfChoice (arr_of hts)
  have hst : ∀ j : Nat, ∃ q : Nat × Nat, j < 17 → (Term.string (STK.getD j ("", 0)).1 (STK.getD j ("", 0)).2).eval #[Value.ref b] s none [] s = some (.ref q.1) ∧ va_O "java/lang/String" q.1 (KA s.heap.size) s s.heap ∧ va_OF "java/lang/String" "coder" "B" (.int 0) q.1 (KA s.heap.size) s s.heap ∧ va_OF "java/lang/String" "value" "[B" (.ref q.2) q.1 (KA s.heap.size) s s.heap ∧ va_T .byte q.2 (LBY.getD j []).length (fun i => .int ((LBY.getD j []).getD i 0)) (KA s.heap.size) s s.heap := by
    intro j
    by_cases hj : j < 17
    · obtain ⟨q, h⟩ := str_of (args := #[Value.ref b]) (s := s) (own := (STK.getD j ("", 0)).1) (k := (STK.getD j ("", 0)).2) (bs := LBY.getD j []) (A := KA s.heap.size) (fun w hw => hgv w (STK_ok j hj w hw)) (LBY_len j hj) hA
      exact ⟨q, fun _ => h⟩
    · exact ⟨(0, 0), fun h => absurd h hj⟩
  obtain ⟨ad, had⟩ := Classical.axiomOfChoice hst
  have inj2 : ∀ i j, i < 17 → j < 17 → (ad i).2 = (ad j).2 → i = j := by
    intro i j hi hj e
    have h1 := (had i hi).2.2.2.2
    have h2 := (had j hj).2.2.2.2
    rw [← e] at h2
    obtain ⟨e1, e2⟩ := t_uniq h1 h2 (LBY_len i hi) (LBY_len j hj)
    exact LBY_inj i hi j hj e1 (fun k hk => by
      have z : Value.int ((LBY.getD i []).getD k 0) = Value.int ((LBY.getD j []).getD k 0) := e2 k hk
      exact Value.int.inj z)
  have inj1 : ∀ i j, i < 17 → j < 17 → (ad i).1 = (ad j).1 → i = j := by
    intro i j hi hj e
    have h1 := (had i hi).2.2.2.1
    have h2 := (had j hj).2.2.2.1
    rw [← e] at h2
    have e2 := of_uniq h1 h2
    exact inj2 i j hi hj (Value.ref.inj e2)
  obtain ⟨dg, hd1, hd2⟩ := va_Tof (args := #[Value.ref b]) (s := s) (tm := DGT) (ty := .byte) (N := 100) (f := fun j => .int (dgt j)) (A := KA s.heap.size) (by decide) (hgv _ DG_ok.1) (va_eqt (hgv _ DG_ok.2.1)) (fun j hj => va_eqt (hgv _ (of_decide_eq_true (List.all_eq_true.mp DG_ok.2.2.1 j (List.mem_range.mpr hj))))) hA
  have hdn : ∀ j, j < 17 → (ad j).2 ≠ dg := fun j hj e => by
    have h1 := (had j hj).2.2.2.2
    rw [e] at h1
    have e1 := (t_uniq h1 hd2 (LBY_len j hj) (by decide)).1
    have e2 : ∀ j, j < 17 → (LBY.getD j []).length ≠ 100 := by decide
    exact e2 j hj e1
  have hZ : ∃ r : Option Nat, va_Z "jdk/internal/util/Preconditions" "SIOOBE_FORMATTER" "Ljava/util/function/BiFunction;" (va_rf r) (KA s.heap.size) s s.heap := by
    rcases va_Zqof (hts _ SS_ok.2.1.1) (hts _ SS_ok.2.1.2) (hgv _ SV_ok.2.1) hA with h | ⟨t, h⟩
    · exact ⟨none, h⟩
    · exact ⟨some t, h⟩
  obtain ⟨r, hr⟩ := hZ
  refine ⟨(fun j => if j = 100 then dg else (ad j).1, fun a => ((List.range 17).find? (fun j => (ad j).1 == a)).map (fun j => (ad j).2), fun v => if v = dg then some (100, dgt) else ((List.range 17).find? (fun j => (ad j).2 == v)).map (fun j => ((LBY.getD j []).length, fun i => (LBY.getD j []).getD i 0)), r, (b, L, xs)), (fun k => (D0 k).1, fun k => (D0 k).2), dA, ⟨⟨⟨hD0, fun k q h => by simp at h⟩, hdA, va_AO.of (hts _ AO_ok.1), va_AO.of (hts _ AO_ok.2)⟩, ⟨fun q hq => ?_, fun q hq => ?_⟩, fun a v h => ?_, fun v q h => ?_, ⟨va_Zof (hts _ SS_ok.1.1) (hts _ SS_ok.1.2) (va_eqt (hgv _ SV_ok.1)) hA, hr, va_Zof (hts _ DG_ok.2.2.2.1) (hts _ DG_ok.2.2.2.2) hd1 hA⟩, ⟨vx_Zqof (hts _ SS_ok.2.2.1) (hts _ SS_ok.2.2.2.2) (hgv _ SV_ok.2.2.1) hA, vx_Zqof (hts _ SS_ok.2.2.2.1) (hts _ SS_ok.2.2.2.2) (hgv _ SV_ok.2.2.2) hA⟩, ⟨fun w hw hn => va_Nw.of (ngw_on hn) (hts w hw), fun q hq => va_Nc.of (hgv _ (of_decide_eq_true (List.all_eq_true.mp NCP_ok q hq)))⟩, hX, hb, Nat.le_refl _⟩, fun j hj => ⟨(ad j).2, ?_, ?_⟩, if_pos rfl, fun a ha => ⟨?_, ?_⟩, rfl⟩
  · have h := List.all_eq_true.mp LTS_ok q hq
    obtain ⟨h1, h2⟩ := Bool.and_eq_true_iff.mp h
    refine vk_R.of (hts _ (of_decide_eq_true h1)) ?_
    obtain ⟨h4, h5⟩ := of_decide_eq_true h2
    have h6 := (had _ h4).1
    rw [h5] at h6
    dsimp only
    rw [if_neg (by omega)]
    exact h6
  · have h := List.all_eq_true.mp TTS_ok q hq
    obtain ⟨h1, h2⟩ := Bool.and_eq_true_iff.mp h
    obtain ⟨tx, hx⟩ := Option.isSome_iff_exists.mp h1
    obtain ⟨a, c, cA, kA, q1, -⟩ := Cond.exactly_spec (args := #[Value.ref b]) (first := s) (o := none) (s := s) (idx := []) (hgv _ (of_decide_eq_true h2))
    exact ⟨tx, a, vk_R.of (hts _ (stx_in hx)) q1⟩
  · obtain ⟨j, h1, rfl⟩ := Option.map_eq_some_iff.mp h
    have z := List.find?_some h1
    have h2 : (ad j).1 = a := eq_of_beq z
    subst h2
    have h3 := had j (List.mem_range.mp (List.mem_of_find?_eq_some h1))
    exact ⟨h3.2.1, h3.2.2.1, h3.2.2.2.1⟩
  · dsimp only at h
    split at h
    · rename_i e
      cases h
      rw [e]
      exact hd2
    · obtain ⟨j, h1, rfl⟩ := Option.map_eq_some_iff.mp h
      have z := List.find?_some h1
      have h2 : (ad j).2 = v := eq_of_beq z
      subst h2
      exact (had j (List.mem_range.mp (List.mem_of_find?_eq_some h1))).2.2.2.2
  · show ((List.range 17).find? (fun i => (ad i).1 == (if j = 100 then dg else (ad j).1))).map _ = _
    rw [if_neg (by omega), fnd17 (g := fun i => (ad i).1) inj1 hj]
    rfl
  · show (if (ad j).2 = dg then some (100, dgt) else ((List.range 17).find? (fun i => (ad i).2 == (ad j).2)).map _) = _
    rw [if_neg (hdn j hj), fnd17 (g := fun i => (ad i).2) inj2 hj]
    rfl
  · show ((List.range 17).find? (fun i => (ad i).1 == a)).map _ = none
    rw [List.find?_eq_none.mpr (fun i hi z => ?_)]
    · rfl
    · have e : (ad i).1 = a := eq_of_beq z
      obtain ⟨cf, k, i2, f, cell, -, -, a1, -⟩ := (had i (List.mem_range.mp hi)).2.2.2.1
      rw [e] at a1
      exact absurd (Array.getElem?_eq_some_iff.mp a1).1 (by omega)
  · show (if a = dg then some (100, dgt) else ((List.range 17).find? (fun i => (ad i).2 == a)).map _) = none
    have h9 : dg < s.heap.size := by
      obtain ⟨c1, a1, -⟩ := hd2
      exact (Array.getElem?_eq_some_iff.mp a1).1
    rw [if_neg (by omega), List.find?_eq_none.mpr (fun i hi z => ?_)]
    · rfl
    · have e : (ad i).2 = a := eq_of_beq z
      obtain ⟨c1, a1, -⟩ := (had i (List.mem_range.mp hi)).2.2.2.2
      rw [e] at a1
      exact absurd (Array.getElem?_eq_some_iff.mp a1).1 (by omega)
