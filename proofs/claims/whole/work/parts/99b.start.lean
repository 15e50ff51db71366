/-! ===== the start: what the Statement gives of it ===== -/
def GV : List Cond := flatC (Jvm.Cond.and given_1 narrow_1)
def STK : List (String × Nat) := [("SoupTable$Text", 33), ("SoupTable", 306), ("SoupTable$Text", 59), ("SoupTable$Text", 61), ("SoupTable$Text", 63), ("SoupTable$Text", 65), ("SoupTable$Text", 67), ("SoupTable$Text", 69)]
/-- what is given of a String constant -/
def strW (own : String) (k : Nat) (bs : List Int32) : List Cond :=
  [.exactly (.string own k) "java/lang/String", .eq (.field (.string own k) "java/lang/String" "coder" "B") (.int 0), .arrayOf (.field (.string own k) "java/lang/String" "value" "[B") .byte, .eq (.length (.field (.string own k) "java/lang/String" "value" "[B")) (.int (Int32.ofNat bs.length))] ++
  (List.range bs.length).map (fun j => .eq (.elem (.field (.string own k) "java/lang/String" "value" "[B") (.int (Int32.ofNat j))) (.int (bs.getD j 0)))
theorem STK_ok : (List.range 8).all (fun j => (strW (STK.getD j ("", 0)).1 (STK.getD j ("", 0)).2 (LBY.getD j [])).all fun w => decide (w ∈ GV)) = true := by decide +kernel
theorem LBY_len : ∀ j, j < 8 → (LBY.getD j []).length < 2 ^ 31 := by decide +kernel
theorem LBY_inj : ∀ i, i < 8 → ∀ j, j < 8 → (LBY.getD i []).length = (LBY.getD j []).length → (∀ k, k < (LBY.getD i []).length → (LBY.getD i []).getD k 0 = (LBY.getD j []).getD k 0) → i = j := by decide +kernel
def stx (own : String) (k : Nat) : Option String := lw_tbl.findSome? (fun w => match w with
  | .stringRef o k2 t => if o = own ∧ k2 = k then some t else none
  | _ => none)
theorem stx_in {own t : String} {k : Nat} (h : stx own k = some t) : Cond.stringRef own k t ∈ lw_tbl := by
  unfold stx at h
  obtain ⟨w, hw, h2⟩ := List.exists_of_findSome?_eq_some h
  split at h2
  · rename_i o k2 t2
    split at h2
    · rename_i c
      obtain ⟨rfl, rfl⟩ := c
      cases h2
      exact hw
    · cases h2
  · cases h2
theorem TTS_ok : TT.all (fun q => (stx (cname (mN q.1)) q.2.2.2.2.2.1).isSome && decide (Cond.exactly (.string (cname (mN q.1)) q.2.2.2.2.2.1) "java/lang/String" ∈ GV)) = true := by decide +kernel
theorem LTS_ok : LT.all (fun q => decide (Cond.stringRef (cname q.1) q.2.1 (LTX.getD q.2.2.1 "") ∈ lw_tbl) && (decide (q.2.2.1 < 8 ∧ STK.getD q.2.2.1 ("", 0) = (cname q.1, q.2.1)) || decide (q.2.2.1 = 1 ∧ cname q.1 = "SoupTableModel" ∧ q.2.1 = 228))) = true := by decide +kernel
theorem SAME_ok : Cond.eq (.string "SoupTable" 306) (.string "SoupTableModel" 228) ∈ GV := by decide +kernel
theorem NCP_ok : NCP.all (fun q => decide (Cond.not (.castable (EXN.getD q.1 "") (EXN.getD q.2 "")) ∈ GV)) = true := by decide +kernel
theorem AO_ok : Cond.arrayOver (.object "SoupTable$Seat") ∈ lw_tbl ∧ Cond.arrayOver (.object "SoupTable$Table") ∈ lw_tbl := ⟨by decide +kernel, by decide +kernel⟩
theorem SS_ok : (Cond.laysStatic "java/lang/String" "COMPACT_STRINGS" "Z" ∈ lw_tbl ∧ Cond.initialized "java/lang/String" ∈ lw_tbl) ∧ (Cond.laysStatic "jdk/internal/util/Preconditions" "SIOOBE_FORMATTER" "Ljava/util/function/BiFunction;" ∈ lw_tbl ∧ Cond.initialized "jdk/internal/util/Preconditions" ∈ lw_tbl) ∧
    (Cond.laysStatic Bundle.tN "UNASSIGNED_STACK" Bundle.steD ∈ lw_tbl ∧ Cond.laysStatic Bundle.tN "SUPPRESSED_SENTINEL" Bundle.listD ∈ lw_tbl ∧ Cond.initialized Bundle.tN ∈ lw_tbl) := ⟨⟨by decide +kernel, by decide +kernel⟩, ⟨by decide +kernel, by decide +kernel⟩, by decide +kernel, by decide +kernel, by decide +kernel⟩
theorem SV_ok : Cond.eq (.static "java/lang/String" "COMPACT_STRINGS" "Z") (.int 1) ∈ GV ∧ Cond.isRef (.static "jdk/internal/util/Preconditions" "SIOOBE_FORMATTER" "Ljava/util/function/BiFunction;") ∈ GV ∧ Cond.isRef (.static Bundle.tN "UNASSIGNED_STACK" Bundle.steD) ∈ GV ∧ Cond.isRef (.static Bundle.tN "SUPPRESSED_SENTINEL" Bundle.listD) ∈ GV := ⟨by decide +kernel, by decide +kernel, by decide +kernel, by decide +kernel⟩
theorem of_uniq {o n d : String} {v1 v2 : Value} {t : Nat} {A : Nat → Prop} {U : State} {H : Heap} (h1 : va_OF o n d v1 t A U H) (h2 : va_OF o n d v2 t A U H) : v1 = v2 := by
  obtain ⟨cf, k, i, f, cell, a1, -, a3, -, a5, -⟩ := h1
  obtain ⟨cf2, k2, i2, f2, cell2, b1, -, b3, -, b5, -⟩ := h2
  cases Option.some.inj (a1.symm.trans b1)
  cases Option.some.inj (a3.symm.trans b3)
  exact Option.some.inj (a5.symm.trans b5)
theorem t_uniq {v N1 N2 : Nat} {f1 f2 : Nat → Value} {A : Nat → Prop} {U : State} {H : Heap} (h1 : va_T .byte v N1 f1 A U H) (h2 : va_T .byte v N2 f2 A U H) (l1 : N1 < 2 ^ 31) (l2 : N2 < 2 ^ 31) : N1 = N2 ∧ ∀ j, j < N1 → f1 j = f2 j := by
  obtain ⟨c1, a1, -, -, -, a5, a6, -⟩ := h1
  obtain ⟨c2, b1, -, -, -, b5, b6, -⟩ := h2
  cases Option.some.inj (a1.symm.trans b1)
  have e : nI N1 = nI N2 := a5.symm.trans b5
  have e2 : N1 = N2 := (nI_eq l1 l2).mp e
  exact ⟨e2, fun j hj => Option.some.inj ((a6 j hj).symm.trans (b6 j (e2 ▸ hj)))⟩
theorem fnd8 {g : Nat → Nat} (inj : ∀ i j, i < 8 → j < 8 → g i = g j → i = j) {j : Nat} (hj : j < 8) : (List.range 8).find? (fun i => g i == g j) = some j := by
  cases h : (List.range 8).find? (fun i => g i == g j) with
  | none => exact absurd (beq_self_eq_true (g j)) (List.find?_eq_none.mp h j (List.mem_range.mpr hj))
  | some x =>
    have h1 := List.mem_range.mp (List.mem_of_find?_eq_some h)
    have z := List.find?_some h
    have h2 : g x = g j := eq_of_beq z
    rw [inj x j h1 hj h2]
theorem str_of {args : Array Value} {s : State} {own : String} {k : Nat} {bs : List Int32} {A : Nat → Prop} (h : ∀ w ∈ strW own k bs, w.before args s = true) (hl : bs.length < 2 ^ 31) (hA : ∀ a : Nat, a < s.heap.size → ¬ A a) :
    ∃ q : Nat × Nat, (Term.string own k).eval args s none [] s = some (.ref q.1) ∧ va_O "java/lang/String" q.1 A s s.heap ∧ va_OF "java/lang/String" "coder" "B" (.int 0) q.1 A s s.heap ∧ va_OF "java/lang/String" "value" "[B" (.ref q.2) q.1 A s s.heap ∧ va_T .byte q.2 bs.length (fun j => .int (bs.getD j 0)) A s s.heap := by
  have z : ∀ i, i < 1 → i = 0 := fun i hi => by omega
  obtain ⟨adK, adV, hS, ht⟩ := vk_Sof (args := args) (s := s) (N := 1) (tm := fun _ => .string own k) (len := [bs.length]) (byt := [bs]) (A := A) (fun i hi => by cases z i hi; exact hl)
    (fun i hi => h _ (List.mem_append_left _ List.mem_cons_self))
    (fun i hi => h _ (List.mem_append_left _ (List.mem_cons_of_mem _ List.mem_cons_self)))
    (fun i hi => h _ (List.mem_append_left _ (List.mem_cons_of_mem _ (List.mem_cons_of_mem _ List.mem_cons_self))))
    (fun i hi => by cases z i hi; exact h _ (List.mem_append_left _ (List.mem_cons_of_mem _ (List.mem_cons_of_mem _ (List.mem_cons_of_mem _ List.mem_cons_self)))))
    (fun i hi j hj => by cases z i hi; exact h _ (List.mem_append_right _ (List.mem_map.mpr ⟨j, List.mem_range.mpr hj, rfl⟩)))
    (fun i j hi hj hne => absurd ((z i hi).trans (z j hj).symm) hne) hA
  obtain ⟨h1, h2, h3, h4⟩ := hS.1 0 (by decide)
  exact ⟨(adK 0, adV 0), ht 0 (by decide), h1, h2, h3, h4⟩
theorem arr_of {args : Array Value} {s : State} (hts : ∀ w ∈ lw_tbl, w.before args s = true) (t : Nat) : ∃ c : ClassId, ∀ ty : FieldType, ATY[t]? = some ty → ArrOfT s c ty ∧ va_RA s c ty := by
  have prim : ∀ ty : FieldType, ty ∈ ([.int, .char, .long, .double] : List FieldType) → ∃ c : ClassId, ArrOfT s c ty ∧ va_RA s c ty := by
    intro ty hty
    obtain ⟨c, k, comp, h1, h2, h3⟩ := Cond.arrayClass_spec (hts _ (List.mem_filter.mp (AC_ok ty hty)).1)
    refine ⟨c, fun n z => ⟨fun k h => (by cases h), k, h2, comp, h3⟩, ?_⟩
    simp only [List.mem_cons, List.not_mem_nil, or_false] at hty
    rcases hty with rfl | rfl | rfl | rfl <;> exact h1
  have obj : ∀ C : String, Cond.arrayOver (.object C) ∈ lw_tbl → ∃ c : ClassId, ArrOfT s c (.object C) ∧ va_RA s c (.object C) := by
    intro C hC
    obtain ⟨comp, c, k, h1, h2, h3, h4, h5⟩ := Cond.arrayOver_spec (hts _ hC)
    exact ⟨c, fun n z => ⟨fun k h => (by cases h), k, h3, comp, h4⟩, k, comp, h3, h4, h1, h5⟩
  have fin : ∀ ty : FieldType, ATY[t]? = some ty → (∃ c : ClassId, ArrOfT s c ty ∧ va_RA s c ty) → ∃ c : ClassId, ∀ ty : FieldType, ATY[t]? = some ty → ArrOfT s c ty ∧ va_RA s c ty := by
    intro ty e ⟨c, h⟩
    refine ⟨c, fun ty2 e2 => ?_⟩
    cases Option.some.inj (e.symm.trans e2)
    exact h
  match t with
  | 0 => exact fin .int rfl (prim _ (by decide))
  | 1 => exact fin .char rfl (prim _ (by decide))
  | 2 => exact fin .long rfl (prim _ (by decide))
  | 3 => exact fin .double rfl (prim _ (by decide))
  | 4 => exact fin (.object "SoupTable$Seat") rfl (obj _ AO_ok.1)
  | 5 => exact fin (.object "SoupTable$Table") rfl (obj _ AO_ok.2)
  | t + 6 =>
    obtain ⟨c, -⟩ := prim .int (by decide)
    exact ⟨c, fun ty h => by simp [ATY] at h⟩
theorem cls_of {args : Array Value} {s : State} (hts : ∀ w ∈ lw_tbl, w.before args s = true) (k : Nat) : ∃ p : ClassId × (Nat → Nat), ∀ q : vw_C, KL[k]? = some q → u_Kn s q.1 q.2.1 q.2.2 p.1 p.2 := by
  have one : ∀ q : vw_C, q ∈ KL → ∃ p : ClassId × (Nat → Nat), u_Kn s q.1 q.2.1 q.2.2 p.1 p.2 := by
    intro q hq
    obtain ⟨cC, iS, h⟩ := u_known (C := q.1) (T := q.2.1) (N := q.2.2) (n := q.2.2) hts (fun w hw => (List.mem_filter.mp (KL_in q hq w hw)).1) (hts _ (List.mem_filter.mp (KL_new q hq).1).1)
    exact ⟨(cC, iS), h⟩
  cases hq : KL[k]? with
  | none =>
    obtain ⟨p, -⟩ := one (RX0, TX0, 3) (by simp [KL])
    exact ⟨p, fun q h => by cases h⟩
  | some q0 =>
    obtain ⟨p, h⟩ := one q0 (List.mem_of_getElem? hq)
    exact ⟨p, fun q e => by cases e; exact h⟩
theorem start_env {s : State} {b L : Nat} {xs : Nat → Int32} (hts : ∀ w ∈ lw_tbl, w.before #[Value.ref b] s = true) (hX : va_X b L xs s s.heap) (hb : b < s.heap.size) (hg : (Jvm.Cond.and given_1 narrow_1).before #[Value.ref b] s = true) :
    ∃ (X : Cxt) (D : va_G) (dA : Nat → ClassId), KEnv X s.heap.size D dA s s.heap ∧ LitX X ∧ X.2.2.2.2 = (b, L, xs) := by
  have hgv : ∀ w ∈ GV, w.before #[Value.ref b] s = true := flat_of_before _ hg
  have hA : ∀ a : Nat, a < s.heap.size → ¬ KA s.heap.size a := fun a h z => Nat.not_le.mpr h z
  obtain ⟨D0, hD0⟩ := Classical.axiomOfChoice (cls_of hts)
  obtain ⟨dA, hdA⟩ := Classical.axiomOfChoice (arr_of hts)
  have hst : ∀ j : Nat, ∃ q : Nat × Nat, j < 8 → (Term.string (STK.getD j ("", 0)).1 (STK.getD j ("", 0)).2).eval #[Value.ref b] s none [] s = some (.ref q.1) ∧ va_O "java/lang/String" q.1 (KA s.heap.size) s s.heap ∧ va_OF "java/lang/String" "coder" "B" (.int 0) q.1 (KA s.heap.size) s s.heap ∧ va_OF "java/lang/String" "value" "[B" (.ref q.2) q.1 (KA s.heap.size) s s.heap ∧ va_T .byte q.2 (LBY.getD j []).length (fun i => .int ((LBY.getD j []).getD i 0)) (KA s.heap.size) s s.heap := by
    intro j
    by_cases hj : j < 8
    · obtain ⟨q, h⟩ := str_of (args := #[Value.ref b]) (s := s) (own := (STK.getD j ("", 0)).1) (k := (STK.getD j ("", 0)).2) (bs := LBY.getD j []) (A := KA s.heap.size) (fun w hw => hgv w (of_decide_eq_true (List.all_eq_true.mp (List.all_eq_true.mp STK_ok j (List.mem_range.mpr hj)) w hw))) (LBY_len j hj) hA
      exact ⟨q, fun _ => h⟩
    · exact ⟨(0, 0), fun h => absurd h hj⟩
  obtain ⟨ad, had⟩ := Classical.axiomOfChoice hst
  have inj2 : ∀ i j, i < 8 → j < 8 → (ad i).2 = (ad j).2 → i = j := by
    intro i j hi hj e
    have h1 := (had i hi).2.2.2.2
    have h2 := (had j hj).2.2.2.2
    rw [← e] at h2
    obtain ⟨e1, e2⟩ := t_uniq h1 h2 (LBY_len i hi) (LBY_len j hj)
    exact LBY_inj i hi j hj e1 (fun k hk => by
      have z : Value.int ((LBY.getD i []).getD k 0) = Value.int ((LBY.getD j []).getD k 0) := e2 k hk
      exact Value.int.inj z)
  have inj1 : ∀ i j, i < 8 → j < 8 → (ad i).1 = (ad j).1 → i = j := by
    intro i j hi hj e
    have h1 := (had i hi).2.2.2.1
    have h2 := (had j hj).2.2.2.1
    rw [← e] at h2
    have e2 := of_uniq h1 h2
    exact inj2 i j hi hj (Value.ref.inj e2)
  have hZ : ∃ r : Option Nat, va_Z "jdk/internal/util/Preconditions" "SIOOBE_FORMATTER" "Ljava/util/function/BiFunction;" (va_rf r) (KA s.heap.size) s s.heap := by
    rcases va_Zqof (hts _ SS_ok.2.1.1) (hts _ SS_ok.2.1.2) (hgv _ SV_ok.2.1) hA with h | ⟨t, h⟩
    · exact ⟨none, h⟩
    · exact ⟨some t, h⟩
  obtain ⟨r, hr⟩ := hZ
  refine ⟨(fun j => (ad j).1, fun a => ((List.range 8).find? (fun j => (ad j).1 == a)).map (fun j => (ad j).2), fun v => ((List.range 8).find? (fun j => (ad j).2 == v)).map (fun j => ((LBY.getD j []).length, fun i => (LBY.getD j []).getD i 0)), r, (b, L, xs)), (fun k => (D0 k).1, fun k => (D0 k).2), dA, ⟨⟨⟨hD0, fun k q h => by simp at h⟩, hdA, va_AO.of (hts _ AO_ok.1), va_AO.of (hts _ AO_ok.2)⟩, ⟨fun q hq => ?_, fun q hq => ?_⟩, fun a v h => ?_, fun v q h => ?_, ⟨va_Zof (hts _ SS_ok.1.1) (hts _ SS_ok.1.2) (va_eqt (hgv _ SV_ok.1)) hA, hr⟩, ⟨vx_Zqof (hts _ SS_ok.2.2.1) (hts _ SS_ok.2.2.2.2) (hgv _ SV_ok.2.2.1) hA, vx_Zqof (hts _ SS_ok.2.2.2.1) (hts _ SS_ok.2.2.2.2) (hgv _ SV_ok.2.2.2) hA⟩, ⟨fun w hw hn => va_Nw.of (ngw_on hn) (hts w hw), fun q hq => va_Nc.of (hgv _ (of_decide_eq_true (List.all_eq_true.mp NCP_ok q hq)))⟩, hX, hb, Nat.le_refl _⟩, fun j hj => ⟨(ad j).2, ?_, ?_⟩, rfl⟩
  · have h := List.all_eq_true.mp LTS_ok q hq
    obtain ⟨h1, h2⟩ := Bool.and_eq_true_iff.mp h
    refine vk_R.of (hts _ (of_decide_eq_true h1)) ?_
    rcases Bool.or_eq_true_iff.mp h2 with h3 | h3
    · obtain ⟨h4, h5⟩ := of_decide_eq_true h3
      have h6 := (had _ h4).1
      rw [h5] at h6
      exact h6
    · obtain ⟨h4, h5, h6⟩ := of_decide_eq_true h3
      rw [h4, h5, h6]
      exact va_eqR (hgv _ SAME_ok) (had 1 (by decide)).1
  · have h := List.all_eq_true.mp TTS_ok q hq
    obtain ⟨h1, h2⟩ := Bool.and_eq_true_iff.mp h
    obtain ⟨tx, hx⟩ := Option.isSome_iff_exists.mp h1
    obtain ⟨a, c, cA, kA, q1, -⟩ := Cond.exactly_spec (args := #[Value.ref b]) (first := s) (o := none) (s := s) (idx := []) (hgv _ (of_decide_eq_true h2))
    exact ⟨tx, a, vk_R.of (hts _ (stx_in hx)) q1⟩
  · obtain ⟨j, h1, rfl⟩ := Option.map_eq_some_iff.mp h
    have z := List.find?_some h1
    have h2 : (ad j).1 = a := eq_of_beq z
    subst h2
    have h3 := had j (List.mem_range.mp (List.mem_of_find?_eq_some h1))
    exact ⟨h3.2.1, h3.2.2.1, h3.2.2.2.1⟩
  · obtain ⟨j, h1, rfl⟩ := Option.map_eq_some_iff.mp h
    have z := List.find?_some h1
    have h2 : (ad j).2 = v := eq_of_beq z
    subst h2
    exact (had j (List.mem_range.mp (List.mem_of_find?_eq_some h1))).2.2.2.2
  · show ((List.range 8).find? (fun i => (ad i).1 == (ad j).1)).map _ = _
    rw [fnd8 (g := fun i => (ad i).1) inj1 hj]
    rfl
  · show ((List.range 8).find? (fun i => (ad i).2 == (ad j).2)).map _ = _
    rw [fnd8 (g := fun i => (ad i).2) inj2 hj]
    rfl
