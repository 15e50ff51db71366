/-! ===== SOUNDNESS of one instruction ===== -/
def rmM (M : Nat) : Room := { frames := mF M, cells := mC M, slots := mS M, locals := mO M }
def Bd (l : Launch) (X : Cxt) (b0 : Nat) (D : va_G) (dA : Nat → ClassId) (M : Nat) (p : Program) (s : State) (m : MethodId) (args : Array Value) (meth : Method) (cd : Code) : Prop :=
  (p.tables.exec = Jvm.exec ∧ cd.code = mB M ∧ meth.sig.returnType = mR M ∧ cd.maxLocals = mL M) ∧
  (s.vm.findClass (cname (mN M)) = some m.cls ∧ (∀ w ∈ ALLG, w.before args s = true) ∧ meth.locks = false ∧ meth.name = (mY M).name) ∧
  cd.exceptionTable.toList = tableOf (mH M) ∧ KEnv X b0 D dA s s.heap ∧ l.stackTraces = false
theorem find_inv {α : Type} {l : List α} {p : α → Bool} {a : α} (h : l.find? p = some a) : a ∈ l ∧ p a = true := ⟨List.mem_of_find?_eq_some h, List.find?_some h⟩
theorem fld_ok {k idx : Nat} {q : Nat × Nat} (h : fld k idx = some q) : ∃ c : vw_C, KL[q.1]? = some c ∧ q.2 < c.2.2 ∧ Cond.fieldLink (cname k) idx (c.2.1 q.2).1 (c.2.1 q.2).2.1 (c.2.1 q.2).2.2.1 ∈ ALLG := by
  unfold fld ftf at h
  obtain ⟨r, hr, rfl⟩ := Option.map_eq_some_iff.mp h
  obtain ⟨hm, hp⟩ := find_inv hr
  simp only [Bool.and_eq_true, beq_iff_eq] at hp
  have h1 := List.all_eq_true.mp FT_ok r hm
  have h2 := chk_all FTW_ok (List.mem_map.mpr ⟨r, hm, rfl⟩)
  unfold okF at h1
  split at h1
  · rename_i c hc
    refine ⟨c, hc, of_decide_eq_true h1, ?_⟩
    (try dsimp only at h2)
    unfold ftw at h2
    rw [hc, hp.1, hp.2] at h2
    exact h2
  · cases h1
theorem newc_ok {k idx ci : Nat} (h : newc k idx = some ci) : ∃ c : vw_C, KL[ci]? = some c ∧ Cond.classLink (cname k) idx c.1 ∈ ALLG := by
  unfold newc ntf at h
  obtain ⟨r, hr, rfl⟩ := Option.map_eq_some_iff.mp h
  obtain ⟨hm, hp⟩ := find_inv hr
  simp only [Bool.and_eq_true, beq_iff_eq] at hp
  have h1 := List.all_eq_true.mp NT_ok r hm
  unfold okN at h1
  split at h1
  · rename_i c hc
    have h2 := wis_mem h1
    rw [hp.1, hp.2] at h2
    exact ⟨c, hc, h2⟩
  · cases h1
theorem lit_ok {k idx j : Nat} (h : lit k idx = some j) : ∃ r ∈ LT, r.1 = k ∧ r.2.1 = idx ∧ r.2.2.1 = j := by
  unfold lit ltf at h
  obtain ⟨r, hr, rfl⟩ := Option.map_eq_some_iff.mp h
  obtain ⟨hm, hp⟩ := find_inv hr
  simp only [Bool.and_eq_true, beq_iff_eq] at hp
  exact ⟨r, hm, hp.1, hp.2, rfl⟩
theorem icst_ok {k idx : Nat} {v : Int32} (h : icst k idx = some v) : Cond.constant (cname k) idx v ∈ ALLG := by
  unfold icst itf at h
  obtain ⟨r, hr, rfl⟩ := Option.map_eq_some_iff.mp h
  obtain ⟨hm, hp⟩ := find_inv hr
  simp only [Bool.and_eq_true, beq_iff_eq] at hp
  have h1 := wis_mem (List.all_eq_true.mp IT_ok r hm)
  rw [hp.1, hp.2] at h1
  exact h1
theorem sgf_ok {k idx j : Nat} (h : sgf k idx = some j) : (j = 0 ∧ Cond.fieldLink (cname k) idx "java/lang/String" "COMPACT_STRINGS" "Z" ∈ ALLG) ∨ (j = 1 ∧ Cond.fieldLink (cname k) idx "jdk/internal/util/Preconditions" "SIOOBE_FORMATTER" "Ljava/util/function/BiFunction;" ∈ ALLG) := by
  unfold sgf at h
  obtain ⟨r, hr, rfl⟩ := Option.map_eq_some_iff.mp h
  obtain ⟨hm, hp⟩ := find_inv hr
  simp only [Bool.and_eq_true, beq_iff_eq] at hp
  have h1 := List.all_eq_true.mp SG_ok r hm
  rcases Bool.or_eq_true_iff.mp h1 with h2 | h2
  · have h3 := Bool.and_eq_true_iff.mp h2
    have h4 := wis_mem h3.2
    rw [hp.1, hp.2] at h4
    exact Or.inl ⟨of_decide_eq_true h3.1, h4⟩
  · have h3 := Bool.and_eq_true_iff.mp h2
    have h4 := wis_mem h3.2
    rw [hp.1, hp.2] at h4
    exact Or.inr ⟨of_decide_eq_true h3.1, h4⟩
theorem sff_ok {k idx j : Nat} (h : sff k idx = some j) : (j = 0 ∧ Cond.fieldLink (cname k) idx "java/lang/String" "value" "[B" ∈ ALLG) ∨ (j = 1 ∧ Cond.fieldLink (cname k) idx "java/lang/String" "coder" "B" ∈ ALLG) := by
  unfold sff at h
  obtain ⟨r, hr, rfl⟩ := Option.map_eq_some_iff.mp h
  obtain ⟨hm, hp⟩ := find_inv hr
  simp only [Bool.and_eq_true, beq_iff_eq] at hp
  have h1 := List.all_eq_true.mp SF_ok r hm
  rcases Bool.or_eq_true_iff.mp h1 with h2 | h2
  · have h3 := Bool.and_eq_true_iff.mp h2
    have h4 := wis_mem h3.2
    rw [hp.1, hp.2] at h4
    exact Or.inl ⟨of_decide_eq_true h3.1, h4⟩
  · have h3 := Bool.and_eq_true_iff.mp h2
    have h4 := wis_mem h3.2
    rw [hp.1, hp.2] at h4
    exact Or.inr ⟨of_decide_eq_true h3.1, h4⟩
theorem KL_len {ci : Nat} {c : vw_C} (h : KL[ci]? = some c) : ci < 6 := (List.getElem?_eq_some_iff.mp h).1
theorem KTY_ok {ci : Nat} {c : vw_C} (h : KL[ci]? = some c) : ∀ k, k < c.2.2 → parseFieldDescriptor (c.2.1 k).2.2.1 = some ((KTY.getD ci tyX0) k) := by
  have hl := KL_len h
  match ci, hl, h with
  | 0, _, h => cases h; exact tyX0_ok
  | 1, _, h => cases h; exact tyX1_ok
  | 2, _, h => cases h; exact tyX2_ok
  | 3, _, h => cases h; exact tyX3_ok
  | 4, _, h => cases h; exact tyX5_ok
  | 5, _, h => cases h; exact tyX6_ok
theorem KNM_ok {ci : Nat} {c : vw_C} (h : KL[ci]? = some c) : ∀ a, a < c.2.2 → ∀ b, b < c.2.2 → a ≠ b → (c.2.1 a).2.1 ≠ (c.2.1 b).2.1 := by
  have hl := KL_len h
  match ci, hl, h with
  | 0, _, h => cases h; exact nmX0
  | 1, _, h => cases h; exact nmX1
  | 2, _, h => cases h; exact nmX2
  | 3, _, h => cases h; exact nmX3
  | 4, _, h => cases h; exact nmX5
  | 5, _, h => cases h; exact nmX6
theorem dflt_ok {ci : Nat} {c : vw_C} (h : KL[ci]? = some c) (j : Nat) (hj : j < c.2.2) : defaultValue ((KTY.getD ci tyX0) j) = vp_V (dflt ci) j := by
  have e : kn ci = c.2.2 := by
    unfold kn
    rw [List.getD_eq_getElem?_getD, h]
    rfl
  unfold vp_V dflt
  rw [e, List.getD_eq_getElem?_getD (i := j), List.getElem?_map, List.getElem?_range hj]
  rfl
theorem call_ok {k idx : Nat} {q : Nat × Nat × Nat} (h : call k idx = some q) : ∃ r ∈ CT, r.1 = k ∧ r.2.1 = idx ∧ r.2.2.1 = q := by
  unfold call ctf at h
  obtain ⟨r, hr, rfl⟩ := Option.map_eq_some_iff.mp h
  obtain ⟨hm, hp⟩ := find_inv hr
  simp only [Bool.and_eq_true, beq_iff_eq] at hp
  exact ⟨r, hm, hp.1, hp.2, rfl⟩
/-- the word of a call that is no constructor's of a nest mate -/
theorem call_w {k idx kd M2 na : Nat} (h : call k idx = some (kd, M2, na)) (h3 : kd ≠ 3) : ctw (k, idx, (kd, M2, na), 0) ∈ ALLG := by
  obtain ⟨r, hm, e1, e2, e3⟩ := call_ok h
  obtain ⟨r1, r2, r3, r4⟩ := r
  dsimp only at e1 e2 e3
  subst e1; subst e2; subst e3
  rcases List.mem_append.mp hm with h9 | h9
  · have h1 := List.all_eq_true.mp CTN_ok _ h9
    have h2 := Bool.and_eq_true_iff.mp h1
    exact absurd (of_decide_eq_true h2.1) h3
  · have h2 := chk_all CTA_ok (List.mem_map.mpr ⟨_, h9, rfl⟩)
    exact h2
theorem mx_ok {k idx u v : Nat} (h : call k idx = some (6, u, v)) : Cond.methodLink (cname k) idx Lib.Math.max.name ∈ ALLG ∧ (Cond.static Lib.Math.max.name ∈ ALLG ∧ Cond.initialized "java/lang/Math" ∈ ALLG ∧ Cond.code Lib.Math.max.name Lib.Math.max.code 2 (some .int) ∈ ALLG) ∧ True :=
  ⟨call_w h (by decide), ⟨wis_mem MXP_ok.1, wis_mem MXP_ok.2.2.2.2, wis_mem MXP_ok.2.1⟩, trivial⟩
theorem mn_ok {k idx u v : Nat} (h : call k idx = some (7, u, v)) : Cond.methodLink (cname k) idx Lib.Math.min.name ∈ ALLG ∧ (Cond.static Lib.Math.min.name ∈ ALLG ∧ Cond.initialized "java/lang/Math" ∈ ALLG ∧ Cond.code Lib.Math.min.name Lib.Math.min.code 2 (some .int) ∈ ALLG) ∧ True :=
  ⟨call_w h (by decide), ⟨wis_mem MXP_ok.2.2.1, wis_mem MXP_ok.2.2.2.2, wis_mem MXP_ok.2.2.2.1⟩, trivial⟩
theorem oi_ok {k idx u v : Nat} (h : call k idx = some (5, u, v)) : Cond.methodLink (cname k) idx Lib.objectInit ∈ ALLG := call_w h (by decide)
theorem xcl_no {M M2 : Nat} {vs : List Value} {r : Stk} {q : Nxt} : ¬ xcl M M2 vs r = some (.inl q) := by
  unfold xcl
  split
  · intro h; cases h
  · intro h; cases h
theorem cat_sum (r : List Value) : (r.map fun v => v.category).sum ≤ 2 * r.length := by
  induction r with
  | nil => exact Nat.le_refl _
  | cons v r ih =>
    have : v.category ≤ 2 := by rcases lv_cat v with h | h <;> omega
    simp only [List.map_cons, List.sum_cons, List.length_cons]
    omega
theorem cat_room {r : List Value} {k R : Nat} (h : 2 * r.length + k ≤ R) : (r.map fun v => v.category).sum + k ≤ R := by
  have := cat_sum r
  omega
theorem arrV_anw {cI : ClassId} {ci q N : Nat} : arrV cI N (anw ci q N) = arrV cI N (fun _ => .null) := by
  have h : (Array.ofFn (n := N) fun j => anw ci q N j.val) = Array.ofFn (n := N) fun _ => (.null : Value) := by
    congr 1
    funext j
    exact if_pos j.isLt
  unfold arrV
  rw [h]
section STEP
variable {p : Program} {l : Launch} {e : Env} {s : State} {m : MethodId} {args : Array Value} {below : List Frame} {meth : Method} {cd : Code} {H : Heap} {locs : List Loc} {Q : State → Prop}
variable {X : Cxt} {b0 : Nat} {D : va_G} {dA : Nat → ClassId} {M : Nat} {pc len : Nat} {ls : Lcs} {st : Stk} {w : Wld} {n : Option Nat} {c sl : Nat} {lsR : Array Slot}
/-- what goes on behind an instruction -/
def Kont (p : Program) (l : Launch) (e : Env) (s : State) (m : MethodId) (args : Array Value) (below : List Frame) (meth : Method) (cd : Code) (Q : State → Prop) (b0 : Nat) (D : va_G) (dA : Nat → ClassId) (M : Nat) (q : Nxt) : Prop :=
  ∀ (H1 : Heap) (locs1 : List Loc) (lsR1 : Array Slot), LH (m2 M) (mL M) lsR1 q.2.1 → WOK b0 D dA q.2.2.2.1 q.2.2.2.2.1 H1 → va_S (KA b0) s.heap H1 locs1 → q.2.2.2.2.2.1 ≤ mC M → q.2.2.2.2.2.2 ≤ mS M → W p l e (rmM M) s m args below meth cd H1 locs1 q.2.2.2.2.2.1 q.2.2.2.2.2.2 Q (F0 m q.1 lsR1 q.2.2.1)
theorem m_ldcSW {R : Room} {cc : ByteArray} {cells slots : Nat} {rest : List Value} (hexec : p.tables.exec = Jvm.exec) (hb : cd.code = cc) {own tx : String} {index q : Nat} (hown : s.vm.findClass own = some m.cls) (hZ : vk_R own index tx q s) (hdg : decode cc pc = .ok (.ldc_w index, 3))
    (k : W p l e R s m args below meth cd H locs cells slots Q (F0 m (pc + 3) lsR (.ref q :: rest))) : W p l e R s m args below meth cd H locs cells slots Q (F0 m pc lsR rest) := by
  intro T hT X9
  obtain ⟨t, a1, b1⟩ := k T hT X9
  exact ⟨t, X9.ldcStringW hexec hown (text := tx) (a := q) hZ.1 hZ.2 (g := F0 m pc lsR rest) rfl (by rw [hb]; exact hdg) t a1, b1⟩
theorem xpst_ok {i : Instr} (B : Bd l X b0 D dA M p s m args meth cd) (hd : decode (mB M) pc = .ok (i, len)) (hL : LH (m2 M) (mL M) lsR ls) (hW : WOK b0 D dA w n H) (hS : va_S (KA b0) s.heap H locs) (hc : c ≤ mC M) (hs : sl ≤ mS M) {q : Nxt} (h : xpst M pc i len ls st w n c sl = some (.inl q))
    (kk : Kont p l e s m args below meth cd Q b0 D dA M q) : W p l e (rmM M) s m args below meth cd H locs c sl Q (F0 m pc lsR st) := by
  unfold xpst at h
  split at h
  · rename_i r hr
    cases h
    exact pst_ok B.1.1 B.1.2.1 hd hL hr (fun lsR2 h2 => kk _ _ lsR2 h2 hW hS hc hs)
  · cases h
set_option maxHeartbeats 4000000 in
set_option maxRecDepth 100000 in
theorem xst_ok {i : Instr} (B : Bd l X b0 D dA M p s m args meth cd) (hd : decode (mB M) pc = .ok (i, len)) (hL : LH (m2 M) (mL M) lsR ls) (hW : WOK b0 D dA w n H) (hS : va_S (KA b0) s.heap H locs) (hc : c ≤ mC M) (hs : sl ≤ mS M) {q : Nxt} (h : xst X M pc i len ls st w n c sl = some (.inl q))
    (kk : Kont p l e s m args below meth cd Q b0 D dA M q) : W p l e (rmM M) s m args below meth cd H locs c sl Q (F0 m pc lsR st) := by
  have B' := B
  obtain ⟨⟨hx, hb, -, hml⟩, ⟨hown, hts, hlk, hnm⟩, htb, hE, hst⟩ := B
  have hE' := hE
  obtain ⟨⟨hK, hA, hO1, hO2⟩, ⟨hl1, -⟩, hs1, hs2, ⟨hz1, hz2⟩, -, -, hX, hXb, hXs⟩ := hE
  have hsz : lsR.size = mL M := hL.2.1.1
  cases i
  case getfield idx =>
    obtain ⟨rfl, h1⟩ := g1_inv h
    obtain ⟨a, r, rfl, h2⟩ := qr_inv h1
    split at h2
    · split at h2
      · rename_i v hv hf
        cases h2
        rcases sff_ok hf with ⟨-, hw9⟩ | ⟨h9, -⟩
        · exact vk_getf hx hb (hs1 a v hv).2.2 hS hown (hts _ hw9) (fun _ h => h) hd (kk _ _ _ hL hW hS hc hs)
        · cases h9
      · rename_i v j hne hv hf
        cases h2
        rcases sff_ok hf with ⟨h9, -⟩ | ⟨-, hw9⟩
        · exact absurd h9 hne
        · exact vk_getf hx hb (hs1 a v hv).2.1 hS hown (hts _ hw9) (fun _ h => h) hd (kk _ _ _ hL hW hS hc hs)
      · cases h2
    · split at h2
      · rename_i q9 hq9
        split at h2
        · rename_i v hv
          cases h2
          obtain ⟨cc9, k1, k2, k3⟩ := fld_ok hq9
          exact m_getf hx hb hts hown hK hW k1 (KL_in _ (List.mem_of_getElem? k1)) k2 (hts _ k3) hv hd (kk _ _ _ hL hW hS hc hs)
        · cases h2
      · cases h2
  case putfield idx =>
    obtain ⟨rfl, h1⟩ := g1_inv h
    obtain ⟨v, r, rfl, hcat, h2⟩ := q1_inv h1
    obtain ⟨a, r, rfl, h3⟩ := qr_inv h2
    split at h3
    · rename_i q9 hq9
      split at h3
      · rename_i w2 hw2
        obtain ⟨h4, h5⟩ := gc_inv h3
        cases h5
        obtain ⟨cc9, k1, k2, k3⟩ := fld_ok hq9
        have hfin : (cc9.2.1 q9.2).2.2.2 = false ∨ (meth.name = "<init>" ∧ (cc9.2.1 q9.2).1 = cname (mN M)) := by
          unfold pok at h4
          rw [k1] at h4
          simp only [Bool.or_eq_true, Bool.not_eq_true', Bool.and_eq_true, beq_iff_eq] at h4
          rcases h4 with h4 | h4
          · exact Or.inl h4
          · exact Or.inr ⟨hnm.trans h4.1, h4.2.symm⟩
        exact m_putf (ty0 := KTY.getD q9.1 tyX0) hx hb hts hown hK hW hS k1 (KL_in _ (List.mem_of_getElem? k1)) k2 (KTY_ok k1) (KNM_ok k1) (hts _ k3) hfin hw2 rfl hd (fun H1 locs1 hW1 hS1 => kk H1 locs1 _ hL hW1 hS1 hc hs)
      · cases h3
    · cases h3
  case iaload =>
    obtain ⟨rfl, h1⟩ := g1_inv h
    obtain ⟨j, r, rfl, h2⟩ := qi_inv h1
    obtain ⟨a, r, rfl, h3⟩ := qr_inv h2
    split at h3
    · split at h3
      · rename_i hh
        cases h3
        obtain ⟨rfl, hin⟩ := hh
        exact va_sld hx hb hX (Nat.lt_of_lt_of_le hXb hXs) (Nat.not_le.mpr hXb) hS (inr_ok hin) hd (kk _ _ _ hL hW hS hc hs)
      · cases h3
    · split at h3
      · rename_i v hv
        cases h3
        exact m_iald hx hb hA hW hv hd (kk _ _ _ hL hW hS hc hs)
      · cases h3
  case caload =>
    obtain ⟨rfl, h1⟩ := g1_inv h
    obtain ⟨j, r, rfl, h2⟩ := qi_inv h1
    obtain ⟨a, r, rfl, h3⟩ := qr_inv h2
    split at h3
    · rename_i v hv
      cases h3
      exact m_cald hx hb hA hW hv hd (kk _ _ _ hL hW hS hc hs)
    · cases h3
  case laload =>
    obtain ⟨rfl, h1⟩ := g1_inv h
    obtain ⟨j, r, rfl, h2⟩ := qi_inv h1
    obtain ⟨a, r, rfl, h3⟩ := qr_inv h2
    split at h3
    · rename_i v hv
      cases h3
      exact m_lald hx hb hA hW hv hd (kk _ _ _ hL hW hS hc hs)
    · cases h3
  case daload =>
    obtain ⟨rfl, h1⟩ := g1_inv h
    obtain ⟨j, r, rfl, h2⟩ := qi_inv h1
    obtain ⟨a, r, rfl, h3⟩ := qr_inv h2
    split at h3
    · rename_i v hv
      cases h3
      exact m_dald hx hb hA hW hv hd (kk _ _ _ hL hW hS hc hs)
    · cases h3
  case aaload =>
    obtain ⟨rfl, h1⟩ := g1_inv h
    obtain ⟨j, r, rfl, h2⟩ := qi_inv h1
    obtain ⟨a, r, rfl, h3⟩ := qr_inv h2
    split at h3
    · rename_i v hv
      cases h3
      exact m_aald (t := 4) hx hb hA hW rfl hv hd (kk _ _ _ hL hW hS hc hs)
    · split at h3
      · rename_i v hv
        cases h3
        exact m_aald (t := 5) hx hb hA hW rfl hv hd (kk _ _ _ hL hW hS hc hs)
      · cases h3
  case iastore =>
    obtain ⟨rfl, h1⟩ := g1_inv h
    obtain ⟨v, r, rfl, h2⟩ := qi_inv h1
    obtain ⟨j, r, rfl, h3⟩ := qi_inv h2
    obtain ⟨a, r, rfl, h4⟩ := qr_inv h3
    split at h4
    · rename_i w2 hw2
      cases h4
      exact m_iast hx hb hA hW hS hw2 hd (fun H1 locs1 hW1 hS1 => kk H1 locs1 _ hL hW1 hS1 hc hs)
    · cases h4
  case castore =>
    obtain ⟨rfl, h1⟩ := g1_inv h
    obtain ⟨v, r, rfl, h2⟩ := qi_inv h1
    obtain ⟨j, r, rfl, h3⟩ := qi_inv h2
    obtain ⟨a, r, rfl, h4⟩ := qr_inv h3
    split at h4
    · rename_i w2 hw2
      cases h4
      exact m_cast hx hb hA hW hS hw2 hd (fun H1 locs1 hW1 hS1 => kk H1 locs1 _ hL hW1 hS1 hc hs)
    · cases h4
  case lastore =>
    obtain ⟨rfl, h1⟩ := g1_inv h
    obtain ⟨v, r, rfl, h2⟩ := ql_inv h1
    obtain ⟨j, r, rfl, h3⟩ := qi_inv h2
    obtain ⟨a, r, rfl, h4⟩ := qr_inv h3
    split at h4
    · rename_i w2 hw2
      cases h4
      exact m_last hx hb hA hW hS hw2 hd (fun H1 locs1 hW1 hS1 => kk H1 locs1 _ hL hW1 hS1 hc hs)
    · cases h4
  case dastore =>
    obtain ⟨rfl, h1⟩ := g1_inv h
    obtain ⟨v, r, rfl, h2⟩ := qd_inv h1
    obtain ⟨j, r, rfl, h3⟩ := qi_inv h2
    obtain ⟨a, r, rfl, h4⟩ := qr_inv h3
    split at h4
    · rename_i w2 hw2
      cases h4
      exact m_dast hx hb hA hW hS hw2 hd (fun H1 locs1 hW1 hS1 => kk H1 locs1 _ hL hW1 hS1 hc hs)
    · cases h4
  case aastore =>
    obtain ⟨rfl, h1⟩ := g1_inv h
    obtain ⟨v, r, rfl, h2⟩ := qr_inv h1
    obtain ⟨j, r, rfl, h3⟩ := qi_inv h2
    obtain ⟨a, r, rfl, h4⟩ := qr_inv h3
    split at h4
    · rename_i w2 hv hw2
      cases h4
      exact m_aast (t := 4) (ci := 1) hx hb hA hK hW hS rfl rfl rfl hv hw2 hd (fun H1 locs1 hW1 hS1 => kk H1 locs1 _ hL hW1 hS1 hc hs)
    · split at h4
      · rename_i w2 hv hw2
        cases h4
        exact m_aast (t := 5) (ci := 2) hx hb hA hK hW hS rfl rfl rfl hv hw2 hd (fun H1 locs1 hW1 hS1 => kk H1 locs1 _ hL hW1 hS1 hc hs)
      · cases h4
  case arraylength =>
    obtain ⟨rfl, h1⟩ := g1_inv h
    obtain ⟨a, r, rfl, h3⟩ := qr_inv h1
    split at h3
    · split at h3
      · rename_i hh
        cases h3
        subst hh
        exact va_slen hx hb hX (Nat.lt_of_lt_of_le hXb hXs) (Nat.not_le.mpr hXb) hS hd (kk _ _ _ hL hW hS hc hs)
      · cases h3
    · split at h3
      · rename_i q9 hq9
        cases h3
        exact va_tlen hx hb (hs2 a q9 hq9) hS rfl hd (kk _ _ _ hL hW hS hc hs)
      · cases h3
    · cases h3
  case baload =>
    obtain ⟨rfl, h1⟩ := g1_inv h
    obtain ⟨j, r, rfl, h2⟩ := qi_inv h1
    obtain ⟨a, r, rfl, h3⟩ := qr_inv h2
    split at h3
    · rename_i q9 hq9
      split at h3
      · rename_i hin
        cases h3
        exact va_tb hx hb (hs2 a q9 hq9) hS (inr_ok hin) rfl hd (kk _ _ _ hL hW hS hc hs)
      · cases h3
    · cases h3
  case getstatic idx =>
    obtain ⟨rfl, h1⟩ := g1_inv h
    split at h1
    · rename_i hq
      cases h1
      rcases sgf_ok hq with ⟨-, k3⟩ | ⟨k3, -⟩
      · exact va_gets hx hb hz1 hS hown (hts _ k3) (fun _ h => h) hd (kk _ _ _ hL hW hS hc hs)
      · cases k3
    · rename_i j hne hq
      cases h1
      rcases sgf_ok hq with ⟨k3, -⟩ | ⟨-, k3⟩
      · exact absurd k3 hne
      · exact va_gets hx hb hz2 hS hown (hts _ k3) (fun _ h => h) hd (kk _ _ _ hL hW hS hc hs)
    · cases h1
  case ldc idx =>
    obtain ⟨rfl, h1⟩ := g1_inv h
    split at h1
    · rename_i j hj
      cases h1
      obtain ⟨r9, hm9, e1, e2, e3⟩ := lit_ok hj
      have h9 := hl1 r9 hm9
      rw [e1, e2, e3] at h9
      exact va_ldcS hx hb hown h9 hd (kk _ _ _ hL hW hS hc hs)
    · cases h1
  case ldc_w idx =>
    obtain ⟨rfl, h1⟩ := g1_inv h
    split at h1
    · rename_i v hv
      cases h1
      exact lv_ldcw hx hb hown (hts _ (icst_ok hv)) hd (kk _ _ _ hL hW hS hc hs)
    · split at h1
      · rename_i j hj
        cases h1
        obtain ⟨r9, hm9, e1, e2, e3⟩ := lit_ok hj
        have h9 := hl1 r9 hm9
        rw [e1, e2, e3] at h9
        exact m_ldcSW hx hb hown h9 hd (kk _ _ _ hL hW hS hc hs)
      · cases h1
  case new idx =>
    obtain ⟨rfl, h1⟩ := g1_inv h
    split at h1
    · split at h1 <;> cases h1
    · split at h1
      · rename_i ci q9 hci
        split at h1
        · rename_i hroom
          cases h1
          obtain ⟨cc9, k1, k2⟩ := newc_ok hci
          have hKn := hK.1 ci _ k1
          have hkn : kn ci = cc9.2.2 := by
            unfold kn
            rw [List.getD_eq_getElem?_getD, k1]
            rfl
          obtain ⟨g1, g2⟩ := KL_new _ (List.mem_of_getElem? k1)
          rw [hkn] at hroom
          have hk9 := kk
          unfold Kont at hk9
          dsimp only at hk9
          rw [hkn] at hk9
          refine W.newcK hx hb hown (hts _ k2) (hts _ g1) (hts _ g2) rfl hd hroom.1 hroom.2 hKn.2.1 (hW.2.2 _ rfl) fun H1 kC hkC e1 z1 o1 => ?_
          refine hk9 H1 locs lsR hL (hW.push ⟨cc9, k1, (u_born (KTY.getD ci tyX0) hts (KL_in _ (List.mem_of_getElem? k1)) hKn hkC e1 (KTY_ok k1)).to (dflt_ok k1)⟩ z1 o1) (hS.push (hW.2.2 _ rfl) z1 o1) hroom.1 hroom.2
        · cases h1
      · cases h1
  case newarray ty =>
    obtain ⟨rfl, h1⟩ := g1_inv h
    obtain ⟨x, r, rfl, h2⟩ := qi_inv h1
    split at h2
    · rename_i t9 q9 ht9
      split at h2
      · rename_i hroom
        cases h2
        obtain ⟨r1, r2, r3, r4⟩ := hroom
        have go : ∀ (ft : FieldType) (tg : Nat) (dv : Value), newarray.typeOf ty = ft → ATY[tg]? = some ft → ft ∈ ([.int, .char, .long, .double] : List FieldType) → defaultValue ft = dv → t9 = (tg, dv) → componentBytes ft ≤ 8 → (∀ cA : ClassId, va_RA s cA ft → s.vm.findClass ("[" ++ ft.toString) = some cA) → W p l e (rmM M) s m args below meth cd H locs c sl Q (F0 m pc lsR (.int x :: r)) := by
          intro ft tg dv e1 e2 e3 e4 e5 e6 e7
          subst e5
          subst e4
          refine va_newaK hx hb (by rw [e1]; exact hts _ (AC_ok ft e3)) rfl hd rfl r1 rfl (by rw [e1]; exact Nat.le_trans (Nat.mul_le_mul r2 e6) (by decide)) r3 r4 (hW.2.2 _ rfl) fun H1 cA f1 z1 o1 hAr hNm => ?_
          rw [e1] at f1 hNm
          have hcA : cA = dA tg := Option.some.inj (hNm.symm.trans (e7 _ (hA tg ft e2).2))
          subst hcA
          exact kk H1 locs lsR hL (hW.push f1 z1 o1) (hS.push (hW.2.2 _ rfl) z1 o1) r3 r4
        cases ty <;> first | (cases ht9; exact go _ _ _ rfl rfl (by decide) rfl rfl (by decide) (fun _ h => h)) | cases ht9
      · cases h2
    · cases h2
  case anewarray idx =>
    obtain ⟨rfl, h1⟩ := g1_inv h
    obtain ⟨x, r, rfl, h2⟩ := qi_inv h1
    split at h2
    · rename_i ci q9 hci
      split at h2
      · rename_i hroom
        cases h2
        obtain ⟨r0, r1, r2, r3, r4⟩ := hroom
        obtain ⟨cc9, k1, k2⟩ := newc_ok hci
        have go : ∀ C : String, cc9.1 = C → va_AO C s → ATY[ci + 3]? = some (.object C) → W p l e (rmM M) s m args below meth cd H locs c sl Q (F0 m pc lsR (.int x :: r)) := by
          intro C e1 hO e2
          subst e1
          obtain ⟨kA9, comp9, a1, a2, a3, a4⟩ := (hA (ci + 3) _ e2).2
          refine W.anew hx hb hown (hts _ k2) (va_AO.use hO) rfl hd rfl r1 (Nat.le_trans (Nat.mul_le_mul_right 4 r2) (by decide)) r3 r4 fun cA kA comp f1 f2 f3 f4 => ?_
          have hcA : cA = dA (ci + 3) := Option.some.inj (f1.symm.trans a4)
          subst hcA
          have hz : H.size = q9 := hW.2.2 _ rfl
          generalize hH1 : H.push ({ cls := dA (ci + 3), slots := Array.replicate x.toNatClampNeg .null, vm := .none } : Cell) = H1
          have z1 : H1.size = q9 + 1 := by rw [← hH1, Array.size_push, hz]
          have e9 : H1[q9]? = some (arrV (dA (ci + 3)) x.toNatClampNeg (anw ci q9 x.toNatClampNeg)) := by rw [arrV_anw, ← hH1, ← hz, Array.getElem?_push_size, ← arrV_new]
          have o1 : ∀ q : Nat, q < q9 → H1[q]? = H[q]? := fun q hq => by rw [← hH1, Array.getElem?_push, if_neg (by omega)]
          rw [hz]
          exact kk H1 locs lsR hL (hW.push e9 z1 o1) (hS.push hz z1 o1) r3 r4
        rcases r0 with rfl | rfl
        · cases k1; exact go _ rfl hO1 rfl
        · cases k1; exact go _ rfl hO2 rfl
      · cases h2
    · cases h2
  case ireturn =>
    obtain ⟨rfl, h1⟩ := g1_inv h
    obtain ⟨x, r, rfl, h2⟩ := qi_inv h1
    split at h2
    · obtain ⟨-, h3⟩ := gc_inv h2
      cases h3
    · cases h2
  case freturn =>
    obtain ⟨rfl, h1⟩ := g1_inv h
    obtain ⟨x, r, rfl, h2⟩ := qf_inv h1
    split at h2
    · obtain ⟨-, h3⟩ := gc_inv h2
      cases h3
    · cases h2
  case dreturn =>
    obtain ⟨rfl, h1⟩ := g1_inv h
    obtain ⟨x, r, rfl, h2⟩ := qd_inv h1
    split at h2
    · obtain ⟨-, h3⟩ := gc_inv h2
      cases h3
    · cases h2
  case areturn =>
    obtain ⟨rfl, h1⟩ := g1_inv h
    obtain ⟨x, r, rfl, h2⟩ := qr_inv h1
    split at h2
    · obtain ⟨-, h3⟩ := gc_inv h2
      cases h3
    · cases h2
  case return_ =>
    obtain ⟨rfl, h1⟩ := g1_inv h
    split at h1
    · obtain ⟨-, h3⟩ := gc_inv h1
      cases h3
    · cases h1
  case invokevirtual idx =>
    obtain ⟨rfl, h1⟩ := g1_inv h
    split at h1
    · split at h1
      · obtain ⟨b, r, -, h2⟩ := qr_inv h1
        obtain ⟨-, h3⟩ := gc_inv h2
        exact absurd h3 xcl_no
      · cases h1
    · cases h1
  case invokestatic idx =>
    obtain ⟨rfl, h1⟩ := g1_inv h
    split at h1
    · split at h1
      · exact absurd h1 xcl_no
      · cases h1
    · rename_i u1 u2 hq
      split at h1
      · rename_i hroom
        obtain ⟨y, r, rfl, h2⟩ := qi_inv h1
        obtain ⟨x, r, rfl, h3⟩ := qi_inv h2
        cases h3
        obtain ⟨k1, k2, k3⟩ := mx_ok hq
        exact va_mmax hx hb (hml.trans hsz.symm) hown (hts _ k1) (hts _ k2.1) (hts _ k2.2.1) (hts _ k2.2.2) hroom.1 (cat_room (k := 13) (by have := hroom.2; simp only [List.length_cons] at this; show 2 * r.length + 13 ≤ mO M; omega)) hc hs hd (kk _ _ _ hL hW hS hc hs)
      · cases h1
    · rename_i u1 u2 hq
      split at h1
      · rename_i hroom
        obtain ⟨y, r, rfl, h2⟩ := qi_inv h1
        obtain ⟨x, r, rfl, h3⟩ := qi_inv h2
        cases h3
        obtain ⟨k1, k2, k3⟩ := mn_ok hq
        exact va_mmin hx hb (hml.trans hsz.symm) hown (hts _ k1) (hts _ k2.1) (hts _ k2.2.1) (hts _ k2.2.2) hroom.1 (cat_room (k := 13) (by have := hroom.2; simp only [List.length_cons] at this; show 2 * r.length + 13 ≤ mO M; omega)) hc hs hd (kk _ _ _ hL hW hS hc hs)
      · cases h1
    · cases h1
  case invokespecial idx =>
    obtain ⟨rfl, h1⟩ := g1_inv h
    split at h1
    · rename_i u1 u2 hq
      obtain ⟨a, r, rfl, h2⟩ := qr_inv h1
      split at h2
      · rename_i hroom
        cases h2
        have k1 := oi_ok hq
        exact W.objInit hx hb hown (hts _ k1) (hts _ (wis_mem POI_ok.1)) (hts _ (wis_mem POI_ok.2)) rfl (by show lsR.size = _; rw [hsz, hml]) rfl hd hroom.1 (by show 2 * 0 + _ + 12 ≤ mO M; have := cat_room (r := r) (k := 12) (R := mO M) hroom.2; omega) (kk _ _ _ hL hW hS hc hs)
      · cases h2
    · split at h1
      · obtain ⟨b, r, -, h2⟩ := qr_inv h1
        exact absurd h2 xcl_no
      · cases h1
    · split at h1
      · obtain ⟨b, r, -, h2⟩ := qr_inv h1
        exact absurd h2 xcl_no
      · cases h1
    · cases h1
  all_goals exact xpst_ok B' hd hL hW hS hc hs h kk
end STEP
