/-! ===== SOUNDNESS of one instruction ===== -/
/-- the room of a run of the method that makes kc cells -/
def rmM (M kc : Nat) : Room := { frames := mF M, cells := kc, slots := 60 * kc, locals := mO M }
def Bd (l : Launch) (X : Cxt) (b0 : Nat) (D : va_G) (dA : Nat → ClassId) (M : Nat) (p : Program) (s : State) (m : MethodId) (args : Array Value) (meth : Method) (cd : Code) : Prop :=
  (p.tables.exec = Jvm.exec ∧ cd.code = mB M ∧ meth.sig.returnType = mR M ∧ cd.maxLocals = mL M) ∧
  (s.vm.findClass (cname (mN M)) = some m.cls ∧ (∀ w ∈ ALLG, w.before args s = true) ∧ meth.locks = false ∧ meth.name = (mY M).name) ∧
  cd.exceptionTable.toList = tableOf (mH M) ∧ KEnv X b0 D dA s s.heap ∧ l.stackTraces = false
theorem find_inv {α : Type} {l : List α} {p : α → Bool} {a : α} (h : l.find? p = some a) : a ∈ l ∧ p a = true := ⟨List.mem_of_find?_eq_some h, List.find?_some h⟩
theorem fld_ok {k idx : Nat} {q : Nat × Nat} (h : fld k idx = some q) : ∃ c : vw_C, KL[q.1]? = some c ∧ q.2 < c.2.2 ∧ Cond.fieldLink (cname k) idx (c.2.1 q.2).1 (c.2.1 q.2).2.1 (c.2.1 q.2).2.2.1 ∈ ALLG := by
  unfold fld ftf at h
  obtain ⟨r, hr, rfl⟩ := Option.map_eq_some_iff.mp h
  obtain ⟨hm, hp⟩ := find_inv hr
  simp only [Bool.and_eq_true, beq_iff_eq] at hp
  have h1 := List.all_eq_true.mp FT_ok r hm
  have h2 := chk_all FTW_ok (List.mem_map.mpr ⟨r, hm, rfl⟩)
  unfold okF at h1
  split at h1
  · rename_i c hc
    refine ⟨c, hc, of_decide_eq_true h1, ?_⟩
    (try dsimp only at h2)
    unfold ftw at h2
    rw [hc, hp.1, hp.2] at h2
    exact h2
  · cases h1
theorem newc_ok {k idx ci : Nat} (h : newc k idx = some ci) : ∃ c : vw_C, KL[ci]? = some c ∧ Cond.classLink (cname k) idx c.1 ∈ ALLG := by
  unfold newc ntf at h
  obtain ⟨r, hr, rfl⟩ := Option.map_eq_some_iff.mp h
  obtain ⟨hm, hp⟩ := find_inv hr
  simp only [Bool.and_eq_true, beq_iff_eq] at hp
  have h1 := List.all_eq_true.mp NT_ok r hm
  unfold okN at h1
  split at h1
  · rename_i c hc
    have h2 := wis_mem h1
    rw [hp.1, hp.2] at h2
    exact ⟨c, hc, h2⟩
  · cases h1
theorem lit_ok {k idx j : Nat} (h : lit k idx = some j) : ∃ r ∈ LT, r.1 = k ∧ r.2.1 = idx ∧ r.2.2.1 = j := by
  unfold lit ltf at h
  obtain ⟨r, hr, rfl⟩ := Option.map_eq_some_iff.mp h
  obtain ⟨hm, hp⟩ := find_inv hr
  simp only [Bool.and_eq_true, beq_iff_eq] at hp
  exact ⟨r, hm, hp.1, hp.2, rfl⟩
theorem icst_ok {k idx : Nat} {v : Int32} (h : icst k idx = some v) : Cond.constant (cname k) idx v ∈ ALLG := by
  unfold icst itf at h
  obtain ⟨r, hr, rfl⟩ := Option.map_eq_some_iff.mp h
  obtain ⟨hm, hp⟩ := find_inv hr
  simp only [Bool.and_eq_true, beq_iff_eq] at hp
  have h1 := wis_mem (List.all_eq_true.mp IT_ok r hm)
  rw [hp.1, hp.2] at h1
  exact h1
theorem sgf_ok {k idx j : Nat} (h : sgf k idx = some j) : (j = 0 ∧ Cond.fieldLink (cname k) idx "java/lang/String" "COMPACT_STRINGS" "Z" ∈ ALLG) ∨ (j = 1 ∧ Cond.fieldLink (cname k) idx "jdk/internal/util/Preconditions" "SIOOBE_FORMATTER" "Ljava/util/function/BiFunction;" ∈ ALLG) ∨ (j = 2 ∧ Cond.fieldLink (cname k) idx "java/lang/Integer" "DigitOnes" "[B" ∈ ALLG) := by
  unfold sgf at h
  obtain ⟨r, hr, rfl⟩ := Option.map_eq_some_iff.mp h
  obtain ⟨hm, hp⟩ := find_inv hr
  simp only [Bool.and_eq_true, beq_iff_eq] at hp
  have h1 := List.all_eq_true.mp SG_ok r hm
  simp only [Bool.or_eq_true, Bool.and_eq_true, decide_eq_true_eq] at h1
  rcases h1 with (⟨a, h2⟩ | ⟨a, h2⟩) | ⟨a, h2⟩
  · have h4 := wis_mem h2
    rw [hp.1, hp.2] at h4
    exact Or.inl ⟨a, h4⟩
  · have h4 := wis_mem h2
    rw [hp.1, hp.2] at h4
    exact Or.inr (Or.inl ⟨a, h4⟩)
  · have h4 := wis_mem h2
    rw [hp.1, hp.2] at h4
    exact Or.inr (Or.inr ⟨a, h4⟩)
theorem fcst_ok {k idx : Nat} {v : UInt32} (h : fcst k idx = some v) : Cond.constantFloat (cname k) idx v ∈ ALLG := by
  unfold fcst Fctf at h
  obtain ⟨r, hr, rfl⟩ := Option.map_eq_some_iff.mp h
  obtain ⟨hm, hp⟩ := find_inv hr
  simp only [Bool.and_eq_true, beq_iff_eq] at hp
  have h1 := wis_mem (List.all_eq_true.mp FC_ok r hm)
  rw [hp.1, hp.2] at h1
  exact h1
theorem lcst_ok {k idx : Nat} {v : Int64} (h : lcst k idx = some v) : Cond.constantLong (cname k) idx v ∈ ALLG := by
  unfold lcst Lctf at h
  obtain ⟨r, hr, rfl⟩ := Option.map_eq_some_iff.mp h
  obtain ⟨hm, hp⟩ := find_inv hr
  simp only [Bool.and_eq_true, beq_iff_eq] at hp
  have h1 := wis_mem (List.all_eq_true.mp LC_ok r hm)
  rw [hp.1, hp.2] at h1
  exact h1
theorem dcst_ok {k idx : Nat} {v : UInt64} (h : dcst k idx = some v) : Cond.constantDouble (cname k) idx v ∈ ALLG := by
  unfold dcst Dctf at h
  obtain ⟨r, hr, rfl⟩ := Option.map_eq_some_iff.mp h
  obtain ⟨hm, hp⟩ := find_inv hr
  simp only [Bool.and_eq_true, beq_iff_eq] at hp
  have h1 := wis_mem (List.all_eq_true.mp DC_ok r hm)
  rw [hp.1, hp.2] at h1
  exact h1
theorem sff_ok {k idx j : Nat} (h : sff k idx = some j) : (j = 0 ∧ Cond.fieldLink (cname k) idx "java/lang/String" "value" "[B" ∈ ALLG) ∨ (j = 1 ∧ Cond.fieldLink (cname k) idx "java/lang/String" "coder" "B" ∈ ALLG) := by
  unfold sff at h
  obtain ⟨r, hr, rfl⟩ := Option.map_eq_some_iff.mp h
  obtain ⟨hm, hp⟩ := find_inv hr
  simp only [Bool.and_eq_true, beq_iff_eq] at hp
  have h1 := List.all_eq_true.mp SF_ok r hm
  rcases Bool.or_eq_true_iff.mp h1 with h2 | h2
  · have h3 := Bool.and_eq_true_iff.mp h2
    have h4 := wis_mem h3.2
    rw [hp.1, hp.2] at h4
    exact Or.inl ⟨of_decide_eq_true h3.1, h4⟩
  · have h3 := Bool.and_eq_true_iff.mp h2
    have h4 := wis_mem h3.2
    rw [hp.1, hp.2] at h4
    exact Or.inr ⟨of_decide_eq_true h3.1, h4⟩
theorem KL_len {ci : Nat} {c : vw_C} (h : KL[ci]? = some c) : ci < 7 := (List.getElem?_eq_some_iff.mp h).1
theorem KTY_ok {ci : Nat} {c : vw_C} (h : KL[ci]? = some c) : ∀ k, k < c.2.2 → parseFieldDescriptor (c.2.1 k).2.2.1 = some ((KTY.getD ci tyX0) k) := by
  have hl := KL_len h
  match ci, hl, h with
  | 0, _, h => cases h; exact tyX0_ok
  | 1, _, h => cases h; exact tyX1_ok
  | 2, _, h => cases h; exact tyX2_ok
  | 3, _, h => cases h; exact tyX3_ok
  | 4, _, h => cases h; exact tyX5_ok
  | 5, _, h => cases h; exact tyJ4_ok
  | 6, _, h => cases h; exact tyJ0_ok
theorem KNM_ok {ci : Nat} {c : vw_C} (h : KL[ci]? = some c) : ∀ a, a < c.2.2 → ∀ b, b < c.2.2 → a ≠ b → (c.2.1 a).2.1 ≠ (c.2.1 b).2.1 := by
  have hl := KL_len h
  match ci, hl, h with
  | 0, _, h => cases h; exact nmX0
  | 1, _, h => cases h; exact nmX1
  | 2, _, h => cases h; exact nmX2
  | 3, _, h => cases h; exact nmX3
  | 4, _, h => cases h; exact nmX5
  | 5, _, h => cases h; exact nmJ4
  | 6, _, h => cases h; exact nmJ0
theorem dflt_ok {ci : Nat} {c : vw_C} (h : KL[ci]? = some c) (j : Nat) (hj : j < c.2.2) : defaultValue ((KTY.getD ci tyX0) j) = vp_V (dflt ci) j := by
  have e : kn ci = c.2.2 := by
    unfold kn
    rw [List.getD_eq_getElem?_getD, h]
    rfl
  unfold vp_V dflt
  rw [e, List.getD_eq_getElem?_getD (i := j), List.getElem?_map, List.getElem?_range hj]
  rfl
theorem call_ok {k idx : Nat} {q : Nat × Nat × Nat} (h : call k idx = some q) : ∃ r ∈ CT, r.1 = k ∧ r.2.1 = idx ∧ r.2.2.1 = q := by
  unfold call ctf at h
  obtain ⟨r, hr, rfl⟩ := Option.map_eq_some_iff.mp h
  obtain ⟨hm, hp⟩ := find_inv hr
  simp only [Bool.and_eq_true, beq_iff_eq] at hp
  exact ⟨r, hm, hp.1, hp.2, rfl⟩
/-- the word of a call that is no constructor's of a nest mate -/
theorem call_w {k idx kd M2 na : Nat} (h : call k idx = some (kd, M2, na)) (h3 : kd ≠ 3) : ctw (k, idx, (kd, M2, na), 0) ∈ ALLG := by
  obtain ⟨r, hm, e1, e2, e3⟩ := call_ok h
  obtain ⟨r1, r2, r3, r4⟩ := r
  dsimp only at e1 e2 e3
  subst e1; subst e2; subst e3
  rcases List.mem_append.mp hm with h9 | h9
  · have h1 := List.all_eq_true.mp CTN_ok _ h9
    have h2 := Bool.and_eq_true_iff.mp h1
    exact absurd (of_decide_eq_true h2.1) h3
  · have h2 := chk_all CTA_ok (List.mem_map.mpr ⟨_, h9, rfl⟩)
    exact h2
theorem mx_ok {k idx u v : Nat} (h : call k idx = some (6, u, v)) : Cond.methodLink (cname k) idx Lib.Math.max.name ∈ ALLG ∧ (Cond.static Lib.Math.max.name ∈ ALLG ∧ Cond.initialized "java/lang/Math" ∈ ALLG ∧ Cond.code Lib.Math.max.name Lib.Math.max.code 2 (some .int) ∈ ALLG) ∧ True :=
  ⟨call_w h (by decide), ⟨wis_mem MXP_ok.1, wis_mem MXP_ok.2.2.2.2, wis_mem MXP_ok.2.1⟩, trivial⟩
theorem mn_ok {k idx u v : Nat} (h : call k idx = some (7, u, v)) : Cond.methodLink (cname k) idx Lib.Math.min.name ∈ ALLG ∧ (Cond.static Lib.Math.min.name ∈ ALLG ∧ Cond.initialized "java/lang/Math" ∈ ALLG ∧ Cond.code Lib.Math.min.name Lib.Math.min.code 2 (some .int) ∈ ALLG) ∧ True :=
  ⟨call_w h (by decide), ⟨wis_mem MXP_ok.2.2.1, wis_mem MXP_ok.2.2.2.2, wis_mem MXP_ok.2.2.2.1⟩, trivial⟩
theorem oi_ok {k idx u v : Nat} (h : call k idx = some (5, u, v)) : Cond.methodLink (cname k) idx Lib.objectInit ∈ ALLG := call_w h (by decide)
theorem xcl_no {M M2 : Nat} {vs : List Value} {r : Stk} {q : Nxt} : ¬ xcl M M2 vs r = some (.inl q) := by
  unfold xcl
  split
  · intro h; cases h
  · intro h; cases h
theorem xc4_no {M M2 : Nat} {vs : List Value} {r : Stk} {q : Nxt} : ¬ xc4 M M2 vs r = some (.inl q) := by
  unfold xc4
  split
  · exact xcl_no
  · intro h; cases h
theorem cat_sum (r : List Value) : (r.map fun v => v.category).sum ≤ 2 * r.length := by
  induction r with
  | nil => exact Nat.le_refl _
  | cons v r ih =>
    have : v.category ≤ 2 := by rcases lv_cat v with h | h <;> omega
    simp only [List.map_cons, List.sum_cons, List.length_cons]
    omega
theorem cat_room {r : List Value} {k R : Nat} (h : 2 * r.length + k ≤ R) : (r.map fun v => v.category).sum + k ≤ R := by
  have := cat_sum r
  omega
theorem arrV_anw {cI : ClassId} {ci q N : Nat} : arrV cI N (anw ci q N) = arrV cI N (fun _ => .null) := by
  have h : (Array.ofFn (n := N) fun j => anw ci q N j.val) = Array.ofFn (n := N) fun _ => (.null : Value) := by
    congr 1
    funext j
    exact if_pos j.isLt
  unfold arrV
  rw [h]
/-- what the machine holds of a source of bytes -/
def SrcAt (s : State) (H : Heap) (b n0 : Nat) (f : Nat → Value) : Prop := ∃ (scr : Cell) (k0 : Class) (cm0 : ClassId), H[b]? = some scr ∧ (∀ k, scr.vm ≠ .statics k) ∧ scr.vm ≠ .unknown ∧ s.vm.classes[scr.cls]? = some k0 ∧ k0.kind = .array cm0 .byte ∧ n0 ≤ scr.slots.size ∧ ∀ j, j < n0 → scr.slots[j]? = some (f j)
section ACP
variable {p : Program} {l : Launch} {e : Env} {R : Room} {s : State} {m : MethodId} {args : Array Value} {below : List Frame} {meth : Method} {c : Code} {H : Heap} {locs : List Loc} {cells slots : Nat} {Q : State → Prop}
variable {cc : ByteArray} {b0 : Nat} {D : va_G} {dA : Nat → ClassId} {w : Wld} {n : Option Nat} {H0 : Heap} {pc : Nat} {lsR : Array Slot} {r : Stk}
theorem okv_byte {v : Value} (h : okv .byte v = true) : ∃ x : Int32, v = .int x ∧ fits .byte (.int x) = true := by
  have h2 := (okv_ok h).2
  unfold okv at h
  cases v
  case int x => exact ⟨x, rfl, h2⟩
  all_goals cases h
theorem m_acopy (hexec : p.tables.exec = Jvm.exec) (hb : c.code = cc) (hml : c.maxLocals = lsR.size) {own : String} {index : Nat} (hown : s.vm.findClass own = some m.cls) (hlink : (Cond.methodLink own index arraycopyName).before args s = true) (hnat : (Cond.native arraycopyName).before args s = true) (hstat : (Cond.static arraycopyName).before args s = true) (hini : (Cond.initialized "java/lang/System").before args s = true)
    (hA : AKs dA s) (hW : WOK b0 D dA w n H) (hS : va_S (fun q => b0 ≤ q) H0 H locs) {b a n0 N : Nat} {f g : Nat → Value} (hsrc : SrcAt s H b n0 f) (hwa : w a = some (.inl (3, N, g)))
    {sp dp m9 : Int32} (h1 : ¬ sp < 0) (h2 : ¬ dp < 0) (h3 : ¬ m9 < 0) (h4 : sp.toNatClampNeg + m9.toNatClampNeg ≤ n0) (h5 : dp.toNatClampNeg + m9.toNatClampNeg ≤ N) (hfit : ∀ i : Nat, i < m9.toNatClampNeg → okv .byte (f (sp.toNatClampNeg + i)) = true)
    (hframes : 1 ≤ R.frames) (hlocals : (r.map fun v => v.category).sum + (nativeFrameWords "java/lang/System" "arraycopy" 5 + 11) ≤ R.locals) (hdg : decode cc pc = .ok (.invokestatic index, 3))
    (kk : ∀ (H1 : Heap) (locs1 : List Loc), WOK b0 D dA (wset w a (.inl (3, N, cpy f g sp.toNatClampNeg dp.toNatClampNeg m9.toNatClampNeg))) n H1 → va_S (fun q => b0 ≤ q) H0 H1 locs1 → W p l e R s m args below meth c H1 locs1 cells slots Q (F0 m (pc + 3) lsR r)) : W p l e R s m args below meth c H locs cells slots Q (F0 m pc lsR (.int m9 :: .int dp :: .ref a :: .int sp :: .ref b :: r)) := by
  have nn : ∀ z : Int32, ¬ z < 0 → z.toInt = (z.toNatClampNeg : Int) := by
    intro z hz
    have hz0 : (0 : Int) ≤ z.toInt := by
      have := Int32.not_lt.mp hz
      simpa using Int32.le_iff_toInt_le.mp this
    show z.toInt = ((z.toInt.toNat : Nat) : Int)
    omega
  obtain ⟨scr, k0, cm0, hc0, ho, hkn, hk0, hkk0, hz, hv⟩ := hsrc
  have hc1 : H[a]? = some (arrV (dA 3) N g) := (hW.1 _ _ hwa).2
  have hba : b0 ≤ a := (hW.1 _ _ hwa).1
  obtain ⟨-, k1, hk1, cm1, hkk1⟩ := (hA 3 _ rfl).1 N g
  intro T hT X
  obtain ⟨vm', X', step⟩ := X.arraycopy hexec hown hlink hnat hstat hini (src := b) (dst := a) (cs := scr) (cd := arrV (dA 3) N g) (srcPos := sp) (destPos := dp) (n := m9) (by rw [hT]; exact hc0) (by rw [hT]; exact hc1)
    ho (fun _ h => by cases h) hkn (fun h => by cases h) hk0 hk1 hkk0 hkk1 (by simp [refKind]) h1 h2 h3
    (by rw [nn sp h1, nn m9 h3]; omega)
    (by rw [nn dp h2, nn m9 h3, arrV_size]; omega)
    (fun vm₁ _ i hi => by
      obtain ⟨x, ex, fx⟩ := okv_byte (hfit i hi)
      have e : scr.slots.getD (sp.toNatClampNeg + i) .null = .int x := by
        rw [Array.getD_eq_getD_getElem?, hv _ (by omega), ex]
        rfl
      refine ⟨?_, ?_⟩
      · rw [e]
        exact fx
      · rw [e]
        exact trivial)
    (g := F0 m pc lsR (.int m9 :: .int dp :: .ref a :: .int sp :: .ref b :: r)) rfl (by rw [hml]) (rest := r) rfl (by rw [hb]; exact hdg) hframes (by show 2 * 0 + _ + _ ≤ _; omega)
  have e1 : copied scr (arrV (dA 3) N g) sp dp m9 = arrV (dA 3) N (cpy f g sp.toNatClampNeg dp.toNatClampNeg m9.toNatClampNeg) := va_copiedX (fun z => z) scr (dA 3) f g hv h4
  rw [e1] at X' step
  have hl : a < H.size := (Array.getElem?_eq_some_iff.mp hc1).1
  generalize hnew : arrV (dA 3) N (cpy f g sp.toNatClampNeg dp.toNatClampNeg m9.toNatClampNeg) = cnew at X' step
  have hheap : ((T.setVm vm').setCell a cnew).heap = H.setIfInBounds a cnew := by rw [← hT]; rfl
  have oq : ∀ q : Nat, q ≠ a → (H.setIfInBounds a cnew)[q]? = H[q]? := fun q hq => by simp [Array.getElem?_setIfInBounds, Ne.symm hq]
  have ea : (H.setIfInBounds a cnew)[a]? = some cnew := by simp [Array.getElem?_setIfInBounds, hl]
  obtain ⟨t, a1, b1⟩ := kk _ _ (hW.set hwa (show (H.setIfInBounds a cnew)[a]? = some (arrV (dA 3) N _) by rw [ea, ← hnew]) (by simp) oq) ⟨by simp; exact hS.1, fun q g1 g2 => by
      rw [oq q (fun e => g2 (by rw [e]; exact hba))]
      exact hS.2.1 q g1 g2, fun q hq => by
      rcases List.mem_append.mp hq with h | h
      · exact hS.2.2 q h
      · obtain ⟨z, -, hz⟩ := List.mem_map.mp h
        rw [← hz]
        exact hba⟩ _ hheap X'
  exact ⟨t, step t a1, b1⟩
end ACP
