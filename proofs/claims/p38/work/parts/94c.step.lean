/-! ===== SOUNDNESS of one instruction ===== -/
section STEP
variable {p : Program} {l : Launch} {e : Env} {s : State} {m : MethodId} {args : Array Value} {below : List Frame} {meth : Method} {cd : Code} {H : Heap} {locs : List Loc} {Q : State → Prop}
variable {k0 kt : Nat} {X : Cxt} {b0 : Nat} {D : va_G} {dA : Nat → ClassId} {M : Nat} {pc len : Nat} {ls : Lcs} {st : Stk} {w : Wld} {n : Option Nat} {c sl : Nat} {lsR : Array Slot}
/-- the cells made since the entry, where k0 is the heap's size there -/
def cu (k0 : Nat) (n : Option Nat) : Nat := n.getD 0 - k0
def lo_ (k0 : Nat) (n : Option Nat) : Prop := ∃ k : Nat, n = some k ∧ k0 ≤ k
/-- what goes on behind an instruction -/
def Kont (p : Program) (l : Launch) (e : Env) (s : State) (m : MethodId) (args : Array Value) (below : List Frame) (meth : Method) (cd : Code) (Q : State → Prop) (b0 : Nat) (D : va_G) (dA : Nat → ClassId) (M k0 kt : Nat) (q : Nxt) : Prop :=
  ∀ (H1 : Heap) (locs1 : List Loc) (lsR1 : Array Slot), LH (m2 M) (mL M) lsR1 q.2.1 → WOK b0 D dA q.2.2.2.1 q.2.2.2.2.1 H1 → va_S (KA b0) s.heap H1 locs1 → cu k0 q.2.2.2.2.1 ≤ kt → W p l e (rmM M kt) s m args below meth cd H1 locs1 (cu k0 q.2.2.2.2.1) (60 * cu k0 q.2.2.2.2.1) Q (F0 m q.1 lsR1 q.2.2.1)
theorem m_ldcSW {R : Room} {cc : ByteArray} {cells slots : Nat} {rest : List Value} (hexec : p.tables.exec = Jvm.exec) (hb : cd.code = cc) {own tx : String} {index q : Nat} (hown : s.vm.findClass own = some m.cls) (hZ : vk_R own index tx q s) (hdg : decode cc pc = .ok (.ldc_w index, 3))
    (k : W p l e R s m args below meth cd H locs cells slots Q (F0 m (pc + 3) lsR (.ref q :: rest))) : W p l e R s m args below meth cd H locs cells slots Q (F0 m pc lsR rest) := by
  intro T hT X9
  obtain ⟨t, a1, b1⟩ := k T hT X9
  exact ⟨t, X9.ldcStringW hexec hown (text := tx) (a := q) hZ.1 hZ.2 (g := F0 m pc lsR rest) rfl (by rw [hb]; exact hdg) t a1, b1⟩
theorem xpst_ok {i : Instr} (B : Bd l X b0 D dA M p s m args meth cd) (hd : decode (mB M) pc = .ok (i, len)) (hL : LH (m2 M) (mL M) lsR ls) (hW : WOK b0 D dA w n H) (hS : va_S (KA b0) s.heap H locs) (hc : cu k0 n ≤ kt) {q : Nxt} (h : xpst M pc i len ls st w n c sl = some (.inl q))
    (kk : Kont p l e s m args below meth cd Q b0 D dA M k0 kt q) : W p l e (rmM M kt) s m args below meth cd H locs (cu k0 n) (60 * cu k0 n) Q (F0 m pc lsR st) := by
  unfold xpst at h
  split at h
  · rename_i r hr
    cases h
    exact pst_ok B.1.1 B.1.2.1 hd hL hr (fun lsR2 h2 => kk _ _ lsR2 h2 hW hS hc)
  · cases h
theorem m_d2l (B : Bd l X b0 D dA M p s m args meth cd) {idx u v : Nat} (hq : call (mN M) idx = some (8, u, v)) (hml : cd.maxLocals = lsR.size) {x : UInt64} {r : Stk} (hroom : 4 ≤ mF M ∧ (Value.double x :: r).length ≤ 3 ∧ 80 ≤ mO M) (hc : cu k0 n ≤ kt) (hnn : Op.cmpValue (FP.dcmp x x) .l = 0) (hd : decode (mB M) pc = .ok (.invokestatic idx, 3))
    (kk : ∀ (H1 : Heap) (locs1 : List Loc), H1 = H → locs1 = locs → W p l e (rmM M kt) s m args below meth cd H1 locs1 (cu k0 n) (60 * cu k0 n) Q (F0 m (pc + 3) lsR (.long x.toInt64 :: r))) : W p l e (rmM M kt) s m args below meth cd H locs (cu k0 n) (60 * cu k0 n) Q (F0 m pc lsR (.double x :: r)) := by
  obtain ⟨⟨hx, hb, -, -⟩, ⟨hown, hts, -, -⟩, -, -, -⟩ := B
  have hl9 := hroom.2.1
  simp only [List.length_cons] at hl9
  have hcs := cat_sum r
  exact m_one (f := 2) hx hb hml hown hts (c_dlb hnn) w4_1 (call_w hq (by decide)) (dlw (by simp [DLW, DLB])) (dlw (by simp [DLW, DLB])) (by decide +kernel) (by show 2 + 1 ≤ mF M; omega) (by show 8 + (2 + 11) + 20 * 2 ≤ mO M; omega) hc (Nat.mul_le_mul_left 60 hc) (by omega) hd (kk H locs rfl rfl)
theorem m_f2i (B : Bd l X b0 D dA M p s m args meth cd) {idx u v : Nat} (hq : call (mN M) idx = some (9, u, v)) (hml : cd.maxLocals = lsR.size) {x : UInt32} {r : Stk} (hroom : 4 ≤ mF M ∧ (Value.float x :: r).length ≤ 3 ∧ 80 ≤ mO M) (hc : cu k0 n ≤ kt) (hnn : Op.cmpValue (FP.fcmp x x) .l = 0) (hd : decode (mB M) pc = .ok (.invokestatic idx, 3))
    (kk : ∀ (H1 : Heap) (locs1 : List Loc), H1 = H → locs1 = locs → W p l e (rmM M kt) s m args below meth cd H1 locs1 (cu k0 n) (60 * cu k0 n) Q (F0 m (pc + 3) lsR (.int x.toInt32 :: r))) : W p l e (rmM M kt) s m args below meth cd H locs (cu k0 n) (60 * cu k0 n) Q (F0 m pc lsR (.float x :: r)) := by
  obtain ⟨⟨hx, hb, -, -⟩, ⟨hown, hts, -, -⟩, -, -, -⟩ := B
  have hl9 := hroom.2.1
  simp only [List.length_cons] at hl9
  have hcs := cat_sum r
  exact m_one (f := 2) hx hb hml hown hts (c_fib hnn) w4_3 (call_w hq (by decide)) (dlw (by simp [DLW, FIB])) (dlw (by simp [DLW, FIB])) (by decide +kernel) (by show 2 + 1 ≤ mF M; omega) (by show 8 + (1 + 11) + 20 * 2 ≤ mO M; omega) hc (Nat.mul_le_mul_left 60 hc) (by omega) hd (kk H locs rfl rfl)
theorem byt_ok {a : Nat} {q : Nat × (Nat → Value)} (hE : KEnv X b0 D dA s s.heap) (hA : AKs dA s) (hW : WOK b0 D dA w n H) (hS : va_S (KA b0) s.heap H locs) (h : byt X w a = some q) : SrcAt s H a q.1 q.2 := by
  unfold byt at h
  split at h
  · rename_i q9 hq9
    cases h
    obtain ⟨scr, hs1, hs2, hs3, hs4, -, hs5, hs7⟩ := hE.2.2.2.1 a q9 hq9
    obtain ⟨hs6, k9, hk9, cm9, hkk9⟩ := hs2
    exact ⟨scr, k9, cm9, by rw [hS.2.1 a (Array.getElem?_eq_some_iff.mp hs1).1 hs7]; exact hs1, hs6, hs3, hk9, hkk9, hs4, hs5⟩
  · split at h
    · rename_i N f hwa
      cases h
      obtain ⟨h6, k1, hk1, cm1, hkk1⟩ := (hA 3 _ rfl).1 N f
      exact ⟨_, k1, cm1, (hW.1 _ _ hwa).2, h6, (fun q => by cases q), hk1, hkk1, by rw [arrV_size]; exact Nat.le_refl _, fun j hj => arrV_read _ _ hj⟩
    · cases h
theorem KL_60 : ∀ q ∈ KL, q.2.2 ≤ 60 := by
  have h : KL.all (fun q => decide (q.2.2 ≤ 60)) = true := by decide +kernel
  exact fun q hq => of_decide_eq_true (List.all_eq_true.mp h q hq)
set_option maxHeartbeats 4000000 in
set_option maxRecDepth 100000 in
theorem xst_ok {i : Instr} (B : Bd l X b0 D dA M p s m args meth cd) (hd : decode (mB M) pc = .ok (i, len)) (hL : LH (m2 M) (mL M) lsR ls) (hW : WOK b0 D dA w n H) (hS : va_S (KA b0) s.heap H locs) (hlo : lo_ k0 n) (hc : cu k0 n ≤ kt) {q : Nxt} (hc2 : cu k0 q.2.2.2.2.1 ≤ kt) (h : xst X M pc i len ls st w n c sl = some (.inl q))
    (kk : Kont p l e s m args below meth cd Q b0 D dA M k0 kt q) : W p l e (rmM M kt) s m args below meth cd H locs (cu k0 n) (60 * cu k0 n) Q (F0 m pc lsR st) := by
  have B' := B
  obtain ⟨⟨hx, hb, -, hml⟩, ⟨hown, hts, hlk, hnm⟩, htb, hE, hst⟩ := B
  have hE' := hE
  obtain ⟨⟨hK, hA, hO1, hO2⟩, ⟨hl1, -⟩, hs1, hs2, ⟨hz1, hz2, hz3⟩, -, -, hX, hXb, hXs⟩ := hE
  have hsz : lsR.size = mL M := hL.2.1.1
  cases i
  case getfield idx =>
    obtain ⟨rfl, h1⟩ := g1_inv h
    obtain ⟨a, r, rfl, h2⟩ := qr_inv h1
    have own : (match fld (mN M) idx with
        | some q => match gf w a q.1 q.2 with
          | some v => nxt (pc + 3) ls (v :: r) w n c sl
          | none => none
        | none => none) = some (.inl q) → W p l e (rmM M kt) s m args below meth cd H locs (cu k0 n) (60 * cu k0 n) Q (F0 m pc lsR (.ref a :: r)) := by
      intro h2
      split at h2
      · rename_i q9 hq9
        split at h2
        · rename_i v hv
          cases h2
          obtain ⟨cc9, k1, k2, k3⟩ := fld_ok hq9
          exact m_getf hx hb hts hown hK hW k1 (KL_in _ (List.mem_of_getElem? k1)) k2 (hts _ k3) hv hd (kk _ _ _ hL hW hS hc)
        · cases h2
      · cases h2
    split at h2
    · split at h2
      · rename_i v hv
        split at h2
        · rename_i hf
          cases h2
          rcases sff_ok hf with ⟨-, hw9⟩ | ⟨h9, -⟩
          · exact vk_getf hx hb (hs1 a v hv).2.2 hS hown (hts _ hw9) (fun _ h => h) hd (kk _ _ _ hL hW hS hc)
          · cases h9
        · rename_i j hne hf
          cases h2
          rcases sff_ok hf with ⟨h9, -⟩ | ⟨-, hw9⟩
          · exact absurd h9 hne
          · exact vk_getf hx hb (hs1 a v hv).2.1 hS hown (hts _ hw9) (fun _ h => h) hd (kk _ _ _ hL hW hS hc)
        · cases h2
      · exact own h2
    · exact own h2
  case putfield idx =>
    obtain ⟨rfl, h1⟩ := g1_inv h
    obtain ⟨v, r, rfl, hcat, h2⟩ := q1_inv h1
    obtain ⟨a, r, rfl, h3⟩ := qr_inv h2
    split at h3
    · rename_i q9 hq9
      split at h3
      · rename_i w2 hw2
        obtain ⟨h4, h5⟩ := gc_inv h3
        cases h5
        obtain ⟨cc9, k1, k2, k3⟩ := fld_ok hq9
        have hfin : (cc9.2.1 q9.2).2.2.2 = false ∨ (meth.name = "<init>" ∧ (cc9.2.1 q9.2).1 = cname (mN M)) := by
          unfold pok at h4
          rw [k1] at h4
          simp only [Bool.or_eq_true, Bool.not_eq_true', Bool.and_eq_true, beq_iff_eq] at h4
          rcases h4 with h4 | h4
          · exact Or.inl h4
          · exact Or.inr ⟨hnm.trans h4.1, h4.2.symm⟩
        exact m_putf (ty0 := KTY.getD q9.1 tyX0) hx hb hts hown hK hW hS k1 (KL_in _ (List.mem_of_getElem? k1)) k2 (KTY_ok k1) (KNM_ok k1) (hts _ k3) hfin hw2 rfl hd (fun H1 locs1 hW1 hS1 => kk H1 locs1 _ hL hW1 hS1 hc)
      · cases h3
    · cases h3
  case iaload =>
    obtain ⟨rfl, h1⟩ := g1_inv h
    obtain ⟨j, r, rfl, h2⟩ := qi_inv h1
    obtain ⟨a, r, rfl, h3⟩ := qr_inv h2
    split at h3
    · split at h3
      · rename_i hh
        cases h3
        obtain ⟨rfl, hin⟩ := hh
        exact va_sld hx hb hX (Nat.lt_of_lt_of_le hXb hXs) (Nat.not_le.mpr hXb) hS (inr_ok hin) hd (kk _ _ _ hL hW hS hc)
      · cases h3
    · split at h3
      · rename_i v hv
        cases h3
        exact m_iald hx hb hA hW hv hd (kk _ _ _ hL hW hS hc)
      · cases h3
  case caload =>
    obtain ⟨rfl, h1⟩ := g1_inv h
    obtain ⟨j, r, rfl, h2⟩ := qi_inv h1
    obtain ⟨a, r, rfl, h3⟩ := qr_inv h2
    split at h3
    · rename_i v hv
      cases h3
      exact m_cald hx hb hA hW hv hd (kk _ _ _ hL hW hS hc)
    · cases h3
  case laload =>
    obtain ⟨rfl, h1⟩ := g1_inv h
    obtain ⟨j, r, rfl, h2⟩ := qi_inv h1
    obtain ⟨a, r, rfl, h3⟩ := qr_inv h2
    split at h3
    · rename_i v hv
      cases h3
      exact m_lald hx hb hA hW hv hd (kk _ _ _ hL hW hS hc)
    · cases h3
  case aaload =>
    obtain ⟨rfl, h1⟩ := g1_inv h
    obtain ⟨j, r, rfl, h2⟩ := qi_inv h1
    obtain ⟨a, r, rfl, h3⟩ := qr_inv h2
    split at h3
    · rename_i v hv
      cases h3
      exact m_aald (t := 4) hx hb hA hW rfl hv hd (kk _ _ _ hL hW hS hc)
    · split at h3
      · rename_i v hv
        cases h3
        exact m_aald (t := 5) hx hb hA hW rfl hv hd (kk _ _ _ hL hW hS hc)
      · cases h3
  case iastore =>
    obtain ⟨rfl, h1⟩ := g1_inv h
    obtain ⟨v, r, rfl, h2⟩ := qi_inv h1
    obtain ⟨j, r, rfl, h3⟩ := qi_inv h2
    obtain ⟨a, r, rfl, h4⟩ := qr_inv h3
    split at h4
    · rename_i w2 hw2
      cases h4
      exact m_iast hx hb hA hW hS hw2 hd (fun H1 locs1 hW1 hS1 => kk H1 locs1 _ hL hW1 hS1 hc)
    · cases h4
  case castore =>
    obtain ⟨rfl, h1⟩ := g1_inv h
    obtain ⟨v, r, rfl, h2⟩ := qi_inv h1
    obtain ⟨j, r, rfl, h3⟩ := qi_inv h2
    obtain ⟨a, r, rfl, h4⟩ := qr_inv h3
    split at h4
    · rename_i w2 hw2
      cases h4
      exact m_cast hx hb hA hW hS hw2 hd (fun H1 locs1 hW1 hS1 => kk H1 locs1 _ hL hW1 hS1 hc)
    · cases h4
  case lastore =>
    obtain ⟨rfl, h1⟩ := g1_inv h
    obtain ⟨v, r, rfl, h2⟩ := ql_inv h1
    obtain ⟨j, r, rfl, h3⟩ := qi_inv h2
    obtain ⟨a, r, rfl, h4⟩ := qr_inv h3
    split at h4
    · rename_i w2 hw2
      cases h4
      exact m_last hx hb hA hW hS hw2 hd (fun H1 locs1 hW1 hS1 => kk H1 locs1 _ hL hW1 hS1 hc)
    · cases h4
  case bastore =>
    obtain ⟨rfl, h1⟩ := g1_inv h
    obtain ⟨v, r, rfl, h2⟩ := qi_inv h1
    obtain ⟨j, r, rfl, h3⟩ := qi_inv h2
    obtain ⟨a, r, rfl, h4⟩ := qr_inv h3
    split at h4
    · rename_i w2 hw2
      cases h4
      exact m_bast hx hb hA hW hS hw2 hd (fun H1 locs1 hW1 hS1 => kk H1 locs1 _ hL hW1 hS1 hc)
    · cases h4
  case aastore =>
    obtain ⟨rfl, h1⟩ := g1_inv h
    obtain ⟨v, r, rfl, h2⟩ := qr_inv h1
    obtain ⟨j, r, rfl, h3⟩ := qi_inv h2
    obtain ⟨a, r, rfl, h4⟩ := qr_inv h3
    split at h4
    · rename_i w2 hv hw2
      cases h4
      exact m_aast (t := 4) (ci := 1) hx hb hA hK hW hS rfl rfl rfl hv hw2 hd (fun H1 locs1 hW1 hS1 => kk H1 locs1 _ hL hW1 hS1 hc)
    · split at h4
      · rename_i w2 hv hw2
        cases h4
        exact m_aast (t := 5) (ci := 2) hx hb hA hK hW hS rfl rfl rfl hv hw2 hd (fun H1 locs1 hW1 hS1 => kk H1 locs1 _ hL hW1 hS1 hc)
      · cases h4
  case arraylength =>
    obtain ⟨rfl, h1⟩ := g1_inv h
    obtain ⟨a, r, rfl, h3⟩ := qr_inv h1
    split at h3
    · split at h3
      · rename_i hh
        cases h3
        subst hh
        exact va_slen hx hb hX (Nat.lt_of_lt_of_le hXb hXs) (Nat.not_le.mpr hXb) hS hd (kk _ _ _ hL hW hS hc)
      · cases h3
    · split at h3
      · rename_i q9 hq9
        cases h3
        exact va_tlen hx hb (hs2 a q9 hq9) hS rfl hd (kk _ _ _ hL hW hS hc)
      · split at h3
        · rename_i hwa
          cases h3
          exact m_balen hx hb hA hW hwa hd (kk _ _ _ hL hW hS hc)
        · cases h3
    · cases h3
  case baload =>
    obtain ⟨rfl, h1⟩ := g1_inv h
    obtain ⟨j, r, rfl, h2⟩ := qi_inv h1
    obtain ⟨a, r, rfl, h3⟩ := qr_inv h2
    split at h3
    · rename_i q9 hq9
      split at h3
      · rename_i hin
        cases h3
        exact va_tb hx hb (hs2 a q9 hq9) hS (inr_ok hin) rfl hd (kk _ _ _ hL hW hS hc)
      · cases h3
    · split at h3
      · rename_i v hv
        cases h3
        exact m_bald hx hb hA hW hv hd (kk _ _ _ hL hW hS hc)
      · cases h3
  case getstatic idx =>
    obtain ⟨rfl, h1⟩ := g1_inv h
    split at h1
    · rename_i hq
      cases h1
      rcases sgf_ok hq with ⟨-, k3⟩ | ⟨k3, -⟩ | ⟨k3, -⟩
      · exact va_gets hx hb hz1 hS hown (hts _ k3) (fun _ h => h) hd (kk _ _ _ hL hW hS hc)
      · cases k3
      · cases k3
    · rename_i hq
      cases h1
      rcases sgf_ok hq with ⟨k3, -⟩ | ⟨-, k3⟩ | ⟨k3, -⟩
      · cases k3
      · exact va_gets hx hb hz2 hS hown (hts _ k3) (fun _ h => h) hd (kk _ _ _ hL hW hS hc)
      · cases k3
    · rename_i j hn1 hn2 hq
      cases h1
      rcases sgf_ok hq with ⟨k3, -⟩ | ⟨k3, -⟩ | ⟨-, k3⟩
      · exact absurd k3 hn1
      · exact absurd k3 hn2
      · exact va_gets hx hb hz3 hS hown (hts _ k3) (fun _ h => h) hd (kk _ _ _ hL hW hS hc)
    · cases h1
  case ldc idx =>
    obtain ⟨rfl, h1⟩ := g1_inv h
    split at h1
    · rename_i j hj
      cases h1
      obtain ⟨r9, hm9, e1, e2, e3⟩ := lit_ok hj
      have h9 := hl1 r9 hm9
      rw [e1, e2, e3] at h9
      exact va_ldcS hx hb hown h9 hd (kk _ _ _ hL hW hS hc)
    · split at h1
      · rename_i v hv
        cases h1
        exact lv_ldcf hx hb hown (hts _ (fcst_ok hv)) hd (kk _ _ _ hL hW hS hc)
      · cases h1
  case ldc2_w idx =>
    obtain ⟨rfl, h1⟩ := g1_inv h
    split at h1
    · rename_i v hv
      cases h1
      exact lv_ldc2 hx hb hown (hts _ (lcst_ok hv)) hd (kk _ _ _ hL hW hS hc)
    · split at h1
      · rename_i v hv
        cases h1
        exact lv_ldc2d hx hb hown (hts _ (dcst_ok hv)) hd (kk _ _ _ hL hW hS hc)
      · cases h1
  case ldc_w idx =>
    obtain ⟨rfl, h1⟩ := g1_inv h
    split at h1
    · rename_i v hv
      cases h1
      exact lv_ldcw hx hb hown (hts _ (icst_ok hv)) hd (kk _ _ _ hL hW hS hc)
    · split at h1
      · rename_i j hj
        cases h1
        obtain ⟨r9, hm9, e1, e2, e3⟩ := lit_ok hj
        have h9 := hl1 r9 hm9
        rw [e1, e2, e3] at h9
        exact m_ldcSW hx hb hown h9 hd (kk _ _ _ hL hW hS hc)
      · cases h1
  case new idx =>
    obtain ⟨rfl, h1⟩ := g1_inv h
    split at h1
    · split at h1 <;> cases h1
    · split at h1
      · rename_i ci q9 hci
        cases h1
        obtain ⟨k9, e9, hlo⟩ := hlo
        cases e9
        have e5 : cu k0 (some (q9 + 1)) = cu k0 (some q9) + 1 := by show q9 + 1 - k0 = q9 - k0 + 1; omega
        dsimp only at hc2
        obtain ⟨cc9, k1, k2⟩ := newc_ok hci
        have hKn := hK.1 ci _ k1
        have h60 : cc9.2.2 ≤ 60 := KL_60 _ (List.mem_of_getElem? k1)
        obtain ⟨g1, g2⟩ := KL_new _ (List.mem_of_getElem? k1)
        have hk9 := kk
        unfold Kont at hk9
        dsimp only at hk9
        rw [e5] at hk9 hc2
        refine W.newcK hx hb hown (hts _ k2) (hts _ g1) (hts _ g2) rfl hd hc2 (by show 60 * cu k0 (some q9) + cc9.2.2 ≤ 60 * kt; omega) hKn.2.1 (hW.2.2 _ rfl) fun H1 kC hkC e1 z1 o1 => ?_
        exact W.widen (Nat.le_refl _) (by omega) (hk9 H1 locs lsR hL (hW.push ⟨cc9, k1, (u_born (KTY.getD ci tyX0) hts (KL_in _ (List.mem_of_getElem? k1)) hKn hkC e1 (KTY_ok k1)).to (dflt_ok k1)⟩ z1 o1) (hS.push (hW.2.2 _ rfl) z1 o1) hc2)
      · cases h1
  case newarray ty =>
    obtain ⟨rfl, h1⟩ := g1_inv h
    obtain ⟨x, r, rfl, h2⟩ := qi_inv h1
    split at h2
    · rename_i t9 q9 ht9
      split at h2
      · rename_i hroom
        cases h2
        obtain ⟨r1, r2⟩ := hroom
        obtain ⟨k9, e9, hlo⟩ := hlo
        cases e9
        have e5 : cu k0 (some (q9 + 1)) = cu k0 (some q9) + 1 := by show q9 + 1 - k0 = q9 - k0 + 1; omega
        dsimp only at hc2
        have hk9 := kk
        unfold Kont at hk9
        dsimp only at hk9
        rw [e5] at hk9 hc2
        have go : ∀ (ft : FieldType) (tg : Nat) (dv : Value), newarray.typeOf ty = ft → ATY[tg]? = some ft → ft ∈ ([.int, .char, .long, .byte] : List FieldType) → defaultValue ft = dv → t9 = (tg, dv) → componentBytes ft ≤ 8 → (∀ cA : ClassId, va_RA s cA ft → s.vm.findClass ("[" ++ ft.toString) = some cA) → W p l e (rmM M kt) s m args below meth cd H locs (cu k0 (some q9)) (60 * cu k0 (some q9)) Q (F0 m pc lsR (.int x :: r)) := by
          intro ft tg dv e1 e2 e3 e4 e5 e6 e7
          subst e5
          subst e4
          refine va_newaK hx hb (by rw [e1]; exact hts _ (AC_ok ft e3)) rfl hd rfl r1 rfl (by rw [e1]; exact Nat.le_trans (Nat.mul_le_mul r2 e6) (by decide)) hc2 (by show 60 * cu k0 (some q9) + _ ≤ 60 * kt; omega) (hW.2.2 _ rfl) fun H1 cA f1 z1 o1 hAr hNm => ?_
          rw [e1] at f1 hNm
          have hcA : cA = dA tg := Option.some.inj (hNm.symm.trans (e7 _ (hA tg ft e2).2))
          subst hcA
          exact W.widen (Nat.le_refl _) (by omega) (hk9 H1 locs lsR hL (hW.push f1 z1 o1) (hS.push (hW.2.2 _ rfl) z1 o1) hc2)
        cases ty <;> first | (cases ht9; exact go _ _ _ rfl rfl (by decide) rfl rfl (by decide) (fun _ h => h)) | cases ht9
      · cases h2
    · cases h2
  case anewarray idx =>
    obtain ⟨rfl, h1⟩ := g1_inv h
    obtain ⟨x, r, rfl, h2⟩ := qi_inv h1
    split at h2
    · rename_i ci q9 hci
      split at h2
      · rename_i hroom
        cases h2
        obtain ⟨r0, r1, r2⟩ := hroom
        obtain ⟨k9, e9, hlo⟩ := hlo
        cases e9
        have e5 : cu k0 (some (q9 + 1)) = cu k0 (some q9) + 1 := by show q9 + 1 - k0 = q9 - k0 + 1; omega
        dsimp only at hc2
        have hk9 := kk
        unfold Kont at hk9
        dsimp only at hk9
        rw [e5] at hk9 hc2
        obtain ⟨cc9, k1, k2⟩ := newc_ok hci
        have go : ∀ C : String, cc9.1 = C → va_AO C s → ATY[ci + 3]? = some (.object C) → W p l e (rmM M kt) s m args below meth cd H locs (cu k0 (some q9)) (60 * cu k0 (some q9)) Q (F0 m pc lsR (.int x :: r)) := by
          intro C e1 hO e2
          subst e1
          obtain ⟨kA9, comp9, a1, a2, a3, a4⟩ := (hA (ci + 3) _ e2).2
          refine W.anew hx hb hown (hts _ k2) (va_AO.use hO) rfl hd rfl r1 (Nat.le_trans (Nat.mul_le_mul_right 4 r2) (by decide)) hc2 (by show 60 * cu k0 (some q9) + _ ≤ 60 * kt; omega) fun cA kA comp f1 f2 f3 f4 => ?_
          have hcA : cA = dA (ci + 3) := Option.some.inj (f1.symm.trans a4)
          subst hcA
          have hz : H.size = q9 := hW.2.2 _ rfl
          generalize hH1 : H.push ({ cls := dA (ci + 3), slots := Array.replicate x.toNatClampNeg .null, vm := .none } : Cell) = H1
          have z1 : H1.size = q9 + 1 := by rw [← hH1, Array.size_push, hz]
          have e9 : H1[q9]? = some (arrV (dA (ci + 3)) x.toNatClampNeg (anw ci q9 x.toNatClampNeg)) := by rw [arrV_anw, ← hH1, ← hz, Array.getElem?_push_size, ← arrV_new]
          have o1 : ∀ q : Nat, q < q9 → H1[q]? = H[q]? := fun q hq => by rw [← hH1, Array.getElem?_push, if_neg (by omega)]
          rw [hz]
          exact W.widen (Nat.le_refl _) (by omega) (hk9 H1 locs lsR hL (hW.push e9 z1 o1) (hS.push hz z1 o1) hc2)
        rcases r0 with rfl | rfl
        · cases k1; exact go _ rfl hO1 rfl
        · cases k1; exact go _ rfl hO2 rfl
      · cases h2
    · cases h2
  case ireturn =>
    obtain ⟨rfl, h1⟩ := g1_inv h
    obtain ⟨x, r, rfl, h2⟩ := qi_inv h1
    split at h2
    · obtain ⟨-, h3⟩ := gc_inv h2
      cases h3
    · cases h2
  case freturn =>
    obtain ⟨rfl, h1⟩ := g1_inv h
    obtain ⟨x, r, rfl, h2⟩ := qf_inv h1
    split at h2
    · obtain ⟨-, h3⟩ := gc_inv h2
      cases h3
    · cases h2
  case dreturn =>
    obtain ⟨rfl, h1⟩ := g1_inv h
    obtain ⟨x, r, rfl, h2⟩ := qd_inv h1
    split at h2
    · obtain ⟨-, h3⟩ := gc_inv h2
      cases h3
    · cases h2
  case lreturn =>
    obtain ⟨rfl, h1⟩ := g1_inv h
    obtain ⟨x, r, rfl, h2⟩ := ql_inv h1
    split at h2
    · obtain ⟨-, h3⟩ := gc_inv h2
      cases h3
    · cases h2
  case areturn =>
    obtain ⟨rfl, h1⟩ := g1_inv h
    obtain ⟨x, r, rfl, h2⟩ := qr_inv h1
    split at h2
    · obtain ⟨-, h3⟩ := gc_inv h2
      cases h3
    · cases h2
  case return_ =>
    obtain ⟨rfl, h1⟩ := g1_inv h
    split at h1
    · obtain ⟨-, h3⟩ := gc_inv h1
      cases h3
    · cases h1
  case invokevirtual idx =>
    obtain ⟨rfl, h1⟩ := g1_inv h
    split at h1
    · obtain ⟨-, h1⟩ := gc_inv h1
      split at h1
      · obtain ⟨b, r, -, h2⟩ := qr_inv h1
        obtain ⟨-, h3⟩ := gc_inv h2
        split at h3
        · exact absurd h3 xcl_no
        · exact absurd h3 xc4_no
      · cases h1
    · cases h1
  case invokestatic idx =>
    obtain ⟨rfl, h1⟩ := g1_inv h
    split at h1
    · split at h1
      · exact absurd h1 xcl_no
      · cases h1
    · rename_i u1 u2 hq
      split at h1
      · rename_i hroom
        obtain ⟨y, r, rfl, h2⟩ := qi_inv h1
        obtain ⟨x, r, rfl, h3⟩ := qi_inv h2
        cases h3
        obtain ⟨k1, k2, k3⟩ := mx_ok hq
        exact va_mmax hx hb (hml.trans hsz.symm) hown (hts _ k1) (hts _ k2.1) (hts _ k2.2.1) (hts _ k2.2.2) hroom.1 (cat_room (k := 13) (by have := hroom.2; simp only [List.length_cons] at this; show 2 * r.length + 13 ≤ mO M; omega)) hc (Nat.mul_le_mul_left 60 hc) hd (kk _ _ _ hL hW hS hc)
      · cases h1
    · rename_i u1 u2 hq
      split at h1
      · rename_i hroom
        obtain ⟨y, r, rfl, h2⟩ := qi_inv h1
        obtain ⟨x, r, rfl, h3⟩ := qi_inv h2
        cases h3
        obtain ⟨k1, k2, k3⟩ := mn_ok hq
        exact va_mmin hx hb (hml.trans hsz.symm) hown (hts _ k1) (hts _ k2.1) (hts _ k2.2.1) (hts _ k2.2.2) hroom.1 (cat_room (k := 13) (by have := hroom.2; simp only [List.length_cons] at this; show 2 * r.length + 13 ≤ mO M; omega)) hc (Nat.mul_le_mul_left 60 hc) hd (kk _ _ _ hL hW hS hc)
      · cases h1
    · rename_i u1 u2 hq
      split at h1
      · rename_i hroom
        obtain ⟨x, r, rfl, h2⟩ := qd_inv h1
        obtain ⟨hnn, h3⟩ := gc_inv h2
        cases h3
        exact m_d2l B' hq (hml.trans hsz.symm) hroom hc (of_decide_eq_true hnn) hd (fun H1 locs1 e1 e2 => kk H1 locs1 _ hL (by rw [e1]; exact hW) (by rw [e1, e2]; exact hS) hc)
      · cases h1
    · rename_i u1 u2 hq
      split at h1
      · rename_i hroom
        obtain ⟨x, r, rfl, h2⟩ := qf_inv h1
        obtain ⟨hnn, h3⟩ := gc_inv h2
        cases h3
        exact m_f2i B' hq (hml.trans hsz.symm) hroom hc (of_decide_eq_true hnn) hd (fun H1 locs1 e1 e2 => kk H1 locs1 _ hL (by rw [e1]; exact hW) (by rw [e1, e2]; exact hS) hc)
      · cases h1
    · rename_i u1 u2 hq
      split at h1
      · rename_i hroom
        obtain ⟨m9, r, rfl, h2⟩ := qi_inv h1
        obtain ⟨dp, r, rfl, h3⟩ := qi_inv h2
        obtain ⟨d9, r, rfl, h4⟩ := qr_inv h3
        obtain ⟨sp, r, rfl, h5⟩ := qi_inv h4
        obtain ⟨s9, r, rfl, h6⟩ := qr_inv h5
        split at h6
        · rename_i q9 N9 g9 hq9 hwd
          split at h6
          · rename_i hcond
            cases h6
            obtain ⟨-, c1, c2, c3, c4, c5, c6⟩ := hcond
            have hlk := call_w hq (by decide)
            refine m_acopy hx hb (hml.trans hsz.symm) hown (hts _ hlk) (hts _ (dlw (by decide +kernel))) (hts _ (dlw (by decide +kernel))) (hts _ (dlw (by decide +kernel))) hA hW hS (byt_ok hE' hA hW hS hq9) hwd c1 c2 c3 c4 c5 (fun i hi => List.all_eq_true.mp c6 i (List.mem_range.mpr hi)) (Nat.le_trans (by decide) hroom.1) ?_ hd (fun H1 locs1 hW1 hS1 => kk H1 locs1 _ hL hW1 hS1 hc)
            have hcs := cat_sum r
            have hl9 := hroom.2.1
            have h80 := hroom.2.2
            simp only [List.length_cons] at hl9
            have hnw : nativeFrameWords "java/lang/System" "arraycopy" 5 + 11 ≤ 60 := by decide
            show _ ≤ mO M
            omega
          · cases h6
        · cases h6
      · cases h1
    · cases h1
  case invokespecial idx =>
    obtain ⟨rfl, h1⟩ := g1_inv h
    split at h1
    · rename_i u1 u2 hq
      obtain ⟨a, r, rfl, h2⟩ := qr_inv h1
      split at h2
      · rename_i hroom
        cases h2
        have k1 := oi_ok hq
        exact W.objInit hx hb hown (hts _ k1) (hts _ (wis_mem POI_ok.1)) (hts _ (wis_mem POI_ok.2)) rfl (by show lsR.size = _; rw [hsz, hml]) rfl hd hroom.1 (by show 2 * 0 + _ + 12 ≤ mO M; have := cat_room (r := r) (k := 12) (R := mO M) hroom.2; omega) (kk _ _ _ hL hW hS hc)
      · cases h2
    · split at h1
      · obtain ⟨b, r, -, h2⟩ := qr_inv h1
        exact absurd h2 xc4_no
      · cases h1
    · split at h1
      · obtain ⟨b, r, -, h2⟩ := qr_inv h1
        exact absurd h2 xc4_no
      · cases h1
    · split at h1
      · obtain ⟨b, r, -, h2⟩ := qr_inv h1
        obtain ⟨-, h3⟩ := gc_inv h2
        exact absurd h3 xc4_no
      · cases h1
    · cases h1
  all_goals exact xpst_ok (c := c) (sl := sl) B' hd hL hW hS hc h kk
end STEP
