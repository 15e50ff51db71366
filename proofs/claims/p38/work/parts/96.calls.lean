/-! ===== SOUNDNESS of calls ===== -/
def PcM (X : Cxt) (b0 : Nat) (D : va_G) (dA : Nat → ClassId) (vs : List Value) (w : Wld) (n : Option Nat) : Array Value → State → Prop := va_Pc vs (fun U => WOK b0 D dA w n U.heap ∧ KEnv X b0 D dA U U.heap)
def QcM (b0 : Nat) (D : va_G) (dA : Nat → ClassId) (o : Otc) : Array Value → State → Outcome → State → Prop := fun _ st oc t => ∃ v : Option Value, o.1 = .inl v ∧ oc = .returned v ∧ WOK b0 D dA o.2.1 o.2.2 t.heap ∧ va_F (KA b0) st t
def XcM (b0 : Nat) (D : va_G) (dA : Nat → ClassId) (o : Otc) : String → State → State → Prop := fun E st t => o.1 = .inr E ∧ WOK b0 D dA o.2.1 o.2.2 t.heap ∧ va_F (KA b0) st t
/-- a run of the method from vs, w, n comes to o: what the callee owes -/
def CtrM (l : Launch) (X : Cxt) (b0 : Nat) (D : va_G) (dA : Nat → ClassId) (M : Nat) (vs : List Value) (w : Wld) (n : Option Nat) (o : Otc) : Prop :=
  vx_Met l (mY M) (wsM M) (rmM M (cu (n.getD 0) o.2.2)) (PcM X b0 D dA vs w n) (QcM b0 D dA o) (XcM b0 D dA o) (cu (n.getD 0) o.2.2) (60 * cu (n.getD 0) o.2.2) (KA b0)
theorem PcM_blind {X : Cxt} {b0 : Nat} {D : va_G} {dA : Nat → ClassId} {vs : List Value} {w : Wld} {n : Option Nat} : FrameBlind (PcM X b0 D dA vs w n) := fun a U g mk h => ⟨h.1, h.2.1, h.2.2.same (U := U.calling g mk a) rfl⟩
theorem any_pos {l : List (Nat × Nat)} {M : Nat} (h : l.any (·.2 == M) = true) : ∃ q ∈ l, q.2 = M := by
  obtain ⟨q, hq, h2⟩ := List.any_eq_true.mp h
  exact ⟨q, hq, beq_iff_eq.mp h2⟩
/-- what the tables say of a method -/
theorem mth_ok {M : Nat} (hM : M < LAWM) : (plainName (mY M).cls = true ∧ cname (mN M) = (mY M).cls ∧ ((mY M).cls ≠ "java/lang/invoke/MethodHandle" ∧ (mY M).cls ≠ "java/lang/invoke/VarHandle") ∧ (parseMethodDescriptor (mY M).desc).map (fun d => d.parameters.length) = some (MAL.getD M 0)) ∧
    hdw M ∈ ALLG ∧ stw M ∈ ALLG ∧ (MEL.any (·.2 == M) = true → Cond.selects (mY M).cls (mY M) (mY M) ∈ ALLG) ∧ Cond.initialized (mY M).cls ∈ ALLG := by
  have h := List.all_eq_true.mp MT_ok M (List.mem_range.mpr hM)
  unfold okM at h
  simp only [Bool.and_eq_true, decide_eq_true_eq, beq_iff_eq] at h
  obtain ⟨⟨⟨⟨⟨⟨h1, h2⟩, h3⟩, h4⟩, h5⟩, h6⟩, h8⟩ := h
  refine ⟨⟨h1, h2, h3, h4⟩, ?_, ?_, fun h7 => ?_, ?_⟩
  · obtain ⟨q, hq, e⟩ := any_pos h5
    have := MCL_in q hq
    rw [e] at this
    exact this
  · obtain ⟨q, hq, e⟩ := any_pos h6
    have := chk_all MSL_ok (List.mem_map.mpr ⟨q, hq, rfl⟩)
    dsimp only at this
    rw [e] at this
    exact this
  · obtain ⟨q, hq, e⟩ := any_pos h7
    have := chk_all MEL_ok (List.mem_map.mpr ⟨q, hq, rfl⟩)
    dsimp only at this
    rw [e] at this
    exact this
  · obtain ⟨q, hq, e⟩ := any_pos h8
    have := chk_all MIL_ok (List.mem_map.mpr ⟨q, hq, rfl⟩)
    dsimp only at this
    rw [e, h2] at this
    exact this
theorem ws_good {M : Nat} (hM : M < LAWM) : GoodIn ALLG (wsM M) := by
  intro w hw
  rcases List.mem_cons.mp hw with rfl | hw
  · exact good_ALLG (mth_ok hM).2.1
  · exact good_ALLG hw
theorem popv_inv : ∀ (k : Nat) (st acc : List Value) (vs : List Value) (r : Stk), popv k st acc = some (vs, r) → ∃ us : List Value, vs = us ++ acc ∧ us.length = k ∧ st = us.reverse ++ r ∧ ∀ u ∈ us, u.category = 1 := by
  intro k
  induction k with
  | zero =>
    intro st acc vs r h
    cases h
    exact ⟨[], rfl, rfl, rfl, fun _ h => nomatch h⟩
  | succ k ih =>
    intro st acc vs r h
    cases st with
    | nil => cases h
    | cons v st =>
      unfold popv at h
      split at h
      · rename_i hv
        obtain ⟨us, e1, e2, e3, e4⟩ := ih _ _ _ _ h
        refine ⟨us ++ [v], by rw [e1]; simp, by simp [e2], by rw [e3]; simp, fun u hu => ?_⟩
        rcases List.mem_append.mp hu with hu | hu
        · exact e4 u hu
        · rw [List.mem_singleton.mp hu]; exact hv
      · cases h
/-- the code that the reference names and that isn't run -/
theorem ASL_in : Cond.code ⟨"java/lang/AbstractStringBuilder", "length", "()I"⟩ (mB 163) (mL 163) (mR 163) ∈ ALLG := by
  have h : hdw 163 = Cond.code ⟨"java/lang/AbstractStringBuilder", "length", "()I"⟩ (mB 163) (mL 163) (mR 163) := by decide +kernel
  rw [← h]
  exact (mth_ok (M := 163) (by decide)).2.1
section CALLS
variable {p : Program} {l : Launch} {e : Env} {s : State} {m : MethodId} {args : Array Value} {below : List Frame} {meth : Method} {cd : Code} {H : Heap} {locs : List Loc} {Q : State → Prop}
variable {k0 kt : Nat} {X : Cxt} {b0 : Nat} {D : va_G} {dA : Nat → ClassId} {M : Nat} {pc len : Nat} {ls : Lcs} {st : Stk} {w : Wld} {n : Option Nat} {c sl : Nat} {lsR : Array Slot}
theorem vx_go {mc ms c sl : Nat} {a : Array Value} {o : Otc} {st0 rest : List Value} {R : Room} (hr : vx_Run p l e R s m args below meth cd H locs c sl mc ms (F0 m pc lsR st0) rest (QcM b0 D dA o a) (XcM b0 D dA o) (KA b0)) (hS : va_S (KA b0) s.heap H locs)
    (kr : ∀ v : Option Value, o.1 = .inl v → ∀ (H1 : Heap) (locs1 : List Loc), WOK b0 D dA o.2.1 o.2.2 H1 → va_S (KA b0) s.heap H1 locs1 → W p l e R s m args below meth cd H1 locs1 (c + mc) (sl + ms) Q (F0 m (pc + 3) lsR (v.toList ++ rest)))
    (kx : ∀ E : String, o.1 = .inr E → ∀ (ce : Cell) (q9 : Addr) (H1 : Heap) (locs1 : List Loc), WOK b0 D dA o.2.1 o.2.2 H1 → va_S (KA b0) s.heap H1 locs1 → H1[q9]? = some ce → ce.vm = .none → s.vm.findClass E = some ce.cls → vx_W p l e R s m args below meth cd H1 locs1 (c + mc) (sl + ms) Q (F0 m pc lsR rest) q9) :
    W p l e R s m args below meth cd H locs c sl Q (F0 m pc lsR st0) := by
  intro T hT X9
  rcases hr T hT X9 with ⟨v, st₀, t, T', L, h0, X', hL, e1, e2, ⟨v2, hv, hp, hb, hF⟩, st⟩ | ⟨q, st₀, t, T', L, E, ce, h0, X', hL, e1, e2, ⟨hp, hb, hF⟩, hce, hcv, hcl, st⟩
  · cases hp
    obtain ⟨k1, k2, k3⟩ := vx_keep h0 e1 hS (fun _ _ h => h) (fun _ h => h) hL hF
    obtain ⟨t2, a1, b1⟩ := kr v hv T'.heap (locs ++ L) (by rw [e1]; exact hb) k3 T' rfl X'
    exact ⟨t2, st t2 a1, b1⟩
  · obtain ⟨k1, k2, k3⟩ := vx_keep h0 e1 hS (fun _ _ h => h) (fun _ h => h) hL hF
    obtain ⟨t2, a1, b1⟩ := kx E hp ce q T'.heap (locs ++ L) (by rw [e1]; exact hb) k3 (by rw [e1]; exact hce) hcv hcl T' rfl X'
    exact ⟨t2, st.trans a1, b1⟩
theorem xcl_inv {M2 : Nat} {vs : List Value} {r : Stk} {q : Cll} (h : xcl M M2 vs r = some (.inr (.inr q))) : fits2 M M2 = true ∧ r.length ≤ 8 ∧ q = (M2, vs, r) := by
  unfold xcl at h
  split at h
  · rename_i hh
    cases h
    exact ⟨hh.1, hh.2, rfl⟩
  · cases h
theorem xc4_inv {M2 : Nat} {vs : List Value} {r : Stk} {q : Cll} (h : xc4 M M2 vs r = some (.inr (.inr q))) : fits2 M M2 = true ∧ r.length ≤ 4 ∧ q = (M2, vs, r) := by
  unfold xc4 at h
  split at h
  · rename_i h4
    obtain ⟨a, -, b⟩ := xcl_inv h
    exact ⟨a, h4, b⟩
  · cases h
theorem xst_call_not {i : Instr} {q : Cll} (_ : decode (mB M) pc = .ok (i, len)) (h : xpst M pc i len ls st w n c sl = some (.inr (.inr q))) : False := by
  unfold xpst at h
  split at h <;> cases h
theorem rcw_ok {M2 b : Nat} (hE : KEnv X b0 D dA s s.heap) (hW : WOK b0 D dA w n H) (h : rcw w M2 b = true) : ∃ cellB : Cell, H[b]? = some cellB ∧ cellB.vm.isStatics = false ∧ s.vm.findClass (rco (mY M2).cls) = some cellB.cls := by
  unfold rcw at h
  split at h
  · rename_i ci fs hw
    have h9 := of_decide_eq_true h
    obtain ⟨r, h1, cell, g1, g2, g3, -⟩ := (hW.1 _ _ hw).2
    refine ⟨cell, g1, by rw [g3]; rfl, ?_⟩
    have h8 := (hE.1.1.1 ci r h1).2.1
    rw [List.getD_eq_getElem?_getD, h1] at h9
    rw [g2, ← h9]
    exact h8
  · cases h
theorem rcv_ok {M2 b : Nat} (hE : KEnv X b0 D dA s s.heap) (hW : WOK b0 D dA w n H) (hS : va_S (KA b0) s.heap H locs) (h : rcv X w M2 b = true) : ∃ cellB : Cell, H[b]? = some cellB ∧ cellB.vm.isStatics = false ∧ s.vm.findClass (rco (mY M2).cls) = some cellB.cls := by
  unfold rcv at h
  split at h
  · rcases Bool.or_eq_true_iff.mp h with h | h
    · obtain ⟨h1, h2⟩ := Bool.and_eq_true_iff.mp h
      obtain ⟨v, hv⟩ := Option.isSome_iff_exists.mp h1
      obtain ⟨cell, g1, g2, g3, -⟩ := ((hE.2.2.1 b v hv).1).kept hS.2.1
      refine ⟨cell, g1, g2, ?_⟩
      rw [of_decide_eq_true h2]; exact g3
    · exact rcw_ok hE hW h
  · exact rcw_ok hE hW h
/-- a contract whose outcome is a return is one of a method that only returns -/
theorem met_of {y : MethodName} {ws : List Cond} {rm : Room} {Pc : Array Value → State → Prop} {Qc : Array Value → State → Outcome → State → Prop} {XC : String → State → State → Prop} {mc ms : Nat} {free : Addr → Prop} (h : vx_Met l y ws rm Pc Qc XC mc ms free) (hno : ∀ (E : String) (st t : State), ¬ XC E st t) : Met l y ws rm Pc Qc mc ms free := by
  intro p e ha hc hk s m args below hf happ hP hK
  obtain ⟨n, o, h1, h2, h3, hQ⟩ := h p e ha hc hk s m args below hf happ hP hK
  refine ⟨n, o, h1, h2, h3, ?_⟩
  rcases hQ with hQ | ⟨q, -, E, ce, L, hx, -⟩
  · exact hQ
  · exact absurd hx (hno _ _ _)
theorem vx_of_va {mc ms c sl : Nat} {g : JFrame} {rest : List Value} {Qa : State → Outcome → State → Prop} {XC : String → State → State → Prop} {free : Addr → Prop} {R : Room} (h : va_Run p l e R s m args below meth cd H locs c sl mc ms g rest Qa free) : vx_Run p l e R s m args below meth cd H locs c sl mc ms g rest Qa XC free := fun T hT X => Or.inl (h T hT X)
theorem xc_no {o : Otc} {v : Option Value} (h : o.1 = .inl v) (E : String) (st t : State) : ¬ XcM b0 D dA o E st t := by
  rintro ⟨h1, -⟩
  rw [h] at h1
  cases h1
set_option maxHeartbeats 4000000 in
set_option maxRecDepth 100000 in
/-- a call's run, out of the callee's contract -/
theorem xst_call {i : Instr} (B : Bd l X b0 D dA M p s m args meth cd) (hd : decode (mB M) pc = .ok (i, len)) (hL : LH (m2 M) (mL M) lsR ls) (hW : WOK b0 D dA w n H) (hS : va_S (KA b0) s.heap H locs) {q : Cll} (h : xst X M pc i len ls st w n c sl = some (.inr (.inr q))) :
    q.1 < LAWM ∧ (∀ v ∈ q.2.1, v.category = 1) ∧ ∀ o : Otc, (jdk q.1 = true → ∃ v, o.1 = .inl v) → cu k0 n + cu (n.getD 0) o.2.2 ≤ kt → CtrM l X b0 D dA q.1 q.2.1 w n o → ∃ a : Array Value, vx_Run p l e (rmM M kt) s m args below meth cd H locs (cu k0 n) (60 * cu k0 n) (cu (n.getD 0) o.2.2) (60 * cu (n.getD 0) o.2.2) (F0 m pc lsR st) q.2.2 (QcM b0 D dA o a) (XcM b0 D dA o) (KA b0) := by
  obtain ⟨⟨hx, hb, -, hml⟩, ⟨hown, hts, hlk, hnm⟩, htb, hE, hst⟩ := B
  have hsz : lsR.size = mL M := hL.2.1.1
  have pre : ∀ vs : List Value, ∀ U : State, U.heap = H → s.WarmedH U.vm → PcM X b0 D dA vs w n vs.toArray U := fun vs U hU hWU => ⟨rfl, by rw [hU]; exact hW, by rw [hU]; exact hE.warm hWU hS.1 hS.2.1⟩
  have room16 : ∀ M2 kc : Nat, fits2 M M2 = true → (rmM M2 kc).frames + 1 ≤ (rmM M kt).frames ∧ 16 + (mL M2 + 11) + (rmM M2 kc).locals ≤ (rmM M kt).locals := fun M2 kc hf => of_decide_eq_true (p := mF M2 + 1 ≤ mF M ∧ 16 + (mL M2 + 11) + mO M2 ≤ mO M) hf
  have room : ∀ M2 kc : Nat, fits2 M M2 = true → (rmM M2 kc).frames + 1 ≤ (rmM M kt).frames ∧ 8 + (mL M2 + 11) + (rmM M2 kc).locals ≤ (rmM M kt).locals := fun M2 kc hf => ⟨(room16 M2 kc hf).1, by have := (room16 M2 kc hf).2; omega⟩
  have fit : ∀ kc : Nat, cu k0 n + kc ≤ kt → cu k0 n + kc ≤ (rmM M kt).cells ∧ 60 * cu k0 n + 60 * kc ≤ (rmM M kt).slots := fun kc h => ⟨h, by show 60 * cu k0 n + 60 * kc ≤ 60 * kt; omega⟩
  have lvr : ∀ r : Stk, r.length ≤ 4 → 2 * (F0 m pc lsR st).monitorRoom + (r.map fun v => v.category).sum ≤ 8 := fun r hr => lv_room (by have := cat_sum r; omega)
  have lvr16 : ∀ r : Stk, r.length ≤ 8 → 2 * (F0 m pc lsR st).monitorRoom + (r.map fun v => v.category).sum ≤ 16 := fun r hr => by
    have := cat_sum r
    show 2 * 0 + _ ≤ 16
    omega
  cases i
  case invokestatic idx =>
    obtain ⟨rfl, h1⟩ := g1_inv h
    split at h1
    · rename_i M2 k hcall
      split at h1
      · rename_i vs r hpop
        obtain ⟨f1, f2, rfl⟩ := xcl_inv h1
        obtain ⟨us, e1, e2, e3, e4⟩ := popv_inv _ _ _ _ _ hpop
        rw [List.append_nil] at e1
        subst e1
        obtain ⟨r9, hm9, -, -, e5⟩ := call_ok hcall
        have h9 := List.all_eq_true.mp CT_ok r9 hm9
        unfold okC at h9
        rw [e5] at h9
        simp only [Bool.and_eq_true, decide_eq_true_eq, beq_iff_eq] at h9
        obtain ⟨⟨hM, hT⟩, hA⟩ := h9
        obtain ⟨⟨g1, g2, g3, g4⟩, g5, g6, -, g8⟩ := mth_ok hM
        have hlink : Cond.methodLink (cname (mN M)) idx (mY M2) ∈ ALLG := call_w hcall (by decide)
        have hsw : Cond.static (mY M2) ∈ ALLG := by unfold stw at g6; rw [hT] at g6; exact g6
        refine ⟨hM, e4, fun o hJ hkc hM2 => ⟨vs.toArray, ?_⟩⟩
        have hG : GoodIn ALLG (va_wsS (cname (mN M)) idx (mY M2) (wsM M2)) := by
          intro w9 hw9
          unfold va_wsS at hw9
          rcases List.mem_append.mp hw9 with h8 | h8
          · simp only [List.mem_cons, List.not_mem_nil, or_false] at h8
            rcases h8 with rfl | rfl | rfl
            · exact good_ALLG hlink
            · exact good_ALLG hsw
            · exact good_ALLG g8
          · exact ws_good hM w9 h8
        by_cases hH : mH M2 = []
        · have hw2 : wsM M2 = Cond.code (mY M2) (mB M2) (mL M2) (mR M2) :: ALLG := by unfold wsM hdw; rw [hH]
          exact vx_runS (Ts := ALLG) ⟨hx, hb, hml, hown, hts⟩ hM2 (va_cwS k hts hG hw2 rfl rfl ⟨g3.1, g3.2, by rw [← hA]; exact g4⟩ (room M2 _ f1)) ⟨PcM_blind, pre vs⟩ rfl e2 hsz e3 (lvr16 r f2) hd (fit _ hkc) (room16 M2 _ f1).2
        · have hw2 : wsM M2 = Cond.codeWith (mY M2) (mB M2) (mL M2) (mR M2) (mH M2) :: ALLG := by
            unfold wsM hdw
            cases hq : mH M2 with
            | nil => exact absurd hq hH
            | cons a b => rfl
          exact vx_runSX (Ts := ALLG) ⟨hx, hb, hml, hown, hts⟩ hM2 (vx_cwSW k hts hG hw2 rfl rfl ⟨g3.1, g3.2, by rw [← hA]; exact g4⟩ (room M2 _ f1)) ⟨PcM_blind, pre vs⟩ rfl e2 hsz e3 (lvr16 r f2) hd (fit _ hkc) (room16 M2 _ f1).2
      · cases h1
    · split at h1
      · obtain ⟨y, r, rfl, h2⟩ := qi_inv h1
        obtain ⟨x, r, rfl, h3⟩ := qi_inv h2
        cases h3
      · cases h1
    · split at h1
      · obtain ⟨y, r, rfl, h2⟩ := qi_inv h1
        obtain ⟨x, r, rfl, h3⟩ := qi_inv h2
        cases h3
      · cases h1
    · split at h1
      · obtain ⟨x, r, rfl, h2⟩ := qd_inv h1
        obtain ⟨-, h3⟩ := gc_inv h2
        cases h3
      · cases h1
    · split at h1
      · obtain ⟨x, r, rfl, h2⟩ := qf_inv h1
        obtain ⟨-, h3⟩ := gc_inv h2
        cases h3
      · cases h1
    · split at h1
      · obtain ⟨_, _, _, h2⟩ := qi_inv h1
        obtain ⟨_, _, _, h3⟩ := qi_inv h2
        obtain ⟨_, _, _, h4⟩ := qr_inv h3
        obtain ⟨_, _, _, h5⟩ := qi_inv h4
        obtain ⟨_, _, _, h6⟩ := qr_inv h5
        (repeat' split at h6) <;> cases h6
      · cases h1
    · cases h1
  case invokevirtual idx =>
    obtain ⟨rfl, h1⟩ := g1_inv h
    split at h1
    · rename_i q9 hcall
      obtain ⟨kd, M2, k⟩ := q9
      obtain ⟨hvk, h1⟩ := gc_inv h1
      dsimp only at h1 hvk
      split at h1
      · rename_i vs r0 hpop
        obtain ⟨b, r, hr0, h2⟩ := qr_inv h1
        obtain ⟨hrc, h3⟩ := gc_inv h2
        obtain ⟨us, e1, e2, e3, e4⟩ := popv_inv _ _ _ _ _ hpop
        rw [List.append_nil] at e1
        subst e1
        subst hr0
        obtain ⟨r9, hm9, -, -, e5⟩ := call_ok hcall
        have h9 := List.all_eq_true.mp CT_ok r9 hm9
        unfold okC at h9
        rw [e5] at h9
        have hkd : kd = 0 ∨ kd = 11 ∨ kd = 12 := by
          unfold vkd at hvk
          simp only [Bool.or_eq_true] at hvk
          rcases hvk with h | h | h
          · exact Or.inl (Nat.eq_of_beq_eq_true h)
          · exact Or.inr (Or.inl (Nat.eq_of_beq_eq_true h))
          · exact Or.inr (Or.inr (Nat.eq_of_beq_eq_true h))
        have hcat : ∀ v ∈ (Value.ref b :: vs), v.category = 1 := fun v hv => by
          rcases List.mem_cons.mp hv with rfl | hv
          · rfl
          · exact e4 v hv
        rcases hkd with rfl | rfl | rfl
        · simp only [Bool.and_eq_true, decide_eq_true_eq, beq_iff_eq, Bool.not_eq_true', List.isEmpty_iff] at h9
          obtain ⟨⟨⟨⟨⟨⟨hM, hT⟩, hI⟩, hH⟩, hA⟩, hE9⟩, hrco⟩ := h9
          obtain ⟨f1, f2, rfl⟩ := xcl_inv h3
          obtain ⟨⟨g1, g2, g3, g4⟩, g5, g6, g7, g8⟩ := mth_ok hM
          have hlink : Cond.methodLink (cname (mN M)) idx (mY M2) ∈ ALLG := call_w hcall (by decide)
          have hsw : Cond.instanceMethod (mY M2) ∈ ALLG := by unfold stw at g6; rw [hT] at g6; exact g6
          refine ⟨hM, hcat, fun o hJ hkc hM2 => ⟨(Value.ref b :: vs).toArray, ?_⟩⟩
          have hG : GoodIn ALLG (wsV (cname (mN M)) idx (mY M2).cls (mY M2) (wsM M2)) := by
            intro w9 hw9
            unfold wsV at hw9
            rcases List.mem_append.mp hw9 with h8 | h8
            · simp only [List.mem_cons, List.not_mem_nil, or_false] at h8
              rcases h8 with rfl | rfl | rfl | rfl
              · exact good_ALLG hlink
              · exact good_ALLG hsw
              · exact good_ALLG (g7 hE9)
              · exact good_ALLG g8
            · exact ws_good hM w9 h8
          have hw2 : wsM M2 = Cond.code (mY M2) (mB M2) (mL M2) (mR M2) :: ALLG := by unfold wsM hdw; rw [hH]
          have hrv := rcv_ok hE hW hS hrc
          rw [hrco] at hrv
          exact vx_runV (Ts := ALLG) ⟨hx, hb, hml, hown, hts⟩ hM2 (cwV k hts hG hw2 rfl rfl ⟨rfl, g3.1, g3.2, by rw [← hA]; exact g4⟩ (room M2 _ f1)) ⟨PcM_blind, hrv, pre (.ref b :: vs)⟩ rfl e2 hsz e3 (lvr16 r f2) hd (fit _ hkc) (room16 M2 _ f1).2
        · simp only [Bool.and_eq_true, decide_eq_true_eq, beq_iff_eq, Bool.not_eq_true', List.isEmpty_iff] at h9
          obtain ⟨⟨⟨⟨⟨⟨⟨⟨hM, hT⟩, hI⟩, hH⟩, hA⟩, hcl⟩, hsm⟩, hsel⟩, hjd⟩ := h9
          obtain ⟨f1, f2, rfl⟩ := xc4_inv h3
          obtain ⟨⟨g1, g2, g3, g4⟩, g5, g6, g7, g8⟩ := mth_ok hM
          have hlink : Cond.methodLink (cname (mN M)) idx (mY M2) ∈ ALLG := call_w hcall (by decide)
          have hsw : Cond.instanceMethod (mY M2) ∈ ALLG := by unfold stw at g6; rw [hT] at g6; exact g6
          refine ⟨hM, hcat, fun o hJ hkc hM2 => ⟨(Value.ref b :: vs).toArray, ?_⟩⟩
          have hG : GoodIn ALLG (va_wsU (cname (mN M)) idx "java/lang/StringBuilder" (mY M2).cls (mY M2) (mY M2) (wsM M2)) := by
            intro w9 hw9
            unfold va_wsU at hw9
            rcases List.mem_append.mp hw9 with h8 | h8
            · simp only [List.mem_cons, List.not_mem_nil, or_false] at h8
              rcases h8 with rfl | rfl | rfl | rfl | rfl
              · exact good_ALLG hlink
              · exact good_ALLG (inG_ok hsm)
              · exact good_ALLG hsel
              · exact good_ALLG hsw
              · exact good_ALLG g8
            · exact ws_good hM w9 h8
          have hw2 : wsM M2 = Cond.code (mY M2) (mB M2) (mL M2) (mR M2) :: ALLG := by unfold wsM hdw; rw [hH]
          obtain ⟨v9, hv9⟩ := hJ hjd
          have hrv := rcv_ok hE hW hS hrc
          rw [show rco (mY M2).cls = "java/lang/StringBuilder" by rw [hcl]; rfl] at hrv
          exact vx_of_va (va_runU (Ts := ALLG) ⟨hx, hb, hml, hown, hts⟩ (met_of hM2 (xc_no hv9)) (va_cwU k hts hG hw2 rfl rfl rfl ⟨g3.1, g3.2, by rw [← hA]; exact g4⟩ (room M2 _ f1)) ⟨PcM_blind, hrv, pre (.ref b :: vs)⟩ rfl e2 hsz e3 (lvr r f2) hd (fit _ hkc))
        · simp only [Bool.and_eq_true, decide_eq_true_eq, beq_iff_eq, Bool.not_eq_true', List.isEmpty_iff] at h9
          obtain ⟨⟨⟨⟨⟨⟨hM, hT⟩, hI⟩, hH⟩, hA⟩, hcl⟩, hjd⟩ := h9
          obtain ⟨f1, f2, rfl⟩ := xc4_inv h3
          obtain ⟨⟨g1, g2, g3, g4⟩, g5, g6, g7, g8⟩ := mth_ok hM
          have hlink : Cond.methodLink (cname (mN M)) idx ⟨"java/lang/AbstractStringBuilder", "length", "()I"⟩ ∈ ALLG := by
            have h8 := call_w hcall (by decide)
            unfold ctw at h8
            dsimp only at h8
            rw [hcl] at h8
            exact h8
          have hsw : Cond.instanceMethod (mY M2) ∈ ALLG := by unfold stw at g6; rw [hT] at g6; exact g6
          refine ⟨hM, hcat, fun o hJ hkc hM2 => ⟨(Value.ref b :: vs).toArray, ?_⟩⟩
          have hG : GoodIn ALLG (va_wsO (cname (mN M)) idx "java/lang/StringBuilder" "java/lang/AbstractStringBuilder" ⟨"java/lang/AbstractStringBuilder", "length", "()I"⟩ (mY M2) (wsM M2)) := by
            intro w9 hw9
            unfold va_wsO at hw9
            rcases List.mem_append.mp hw9 with h8 | h8
            · simp only [List.mem_cons, List.not_mem_nil, or_false] at h8
              rcases h8 with rfl | rfl | rfl | rfl | rfl | rfl
              · exact good_ALLG hlink
              · exact good_ALLG (dlw (by decide +kernel))
              · exact good_ALLG (dlw (by decide +kernel))
              · rw [hcl]; exact good_ALLG (dlw (by decide +kernel))
              · exact good_ALLG hsw
              · exact good_ALLG g8
            · exact ws_good hM w9 h8
          have hw2 : wsM M2 = Cond.code (mY M2) (mB M2) (mL M2) (mR M2) :: ALLG := by unfold wsM hdw; rw [hH]
          obtain ⟨v9, hv9⟩ := hJ hjd
          have hrv := rcv_ok hE hW hS hrc
          rw [show rco (mY M2).cls = "java/lang/StringBuilder" by rw [hcl]; rfl] at hrv
          have hk0 : k = 0 := by
            rw [← hA]
            have h4 := g4
            rw [hcl] at h4
            have h5 : (parseMethodDescriptor "()I").map (fun d => d.parameters.length) = some 0 := by decide +kernel
            exact (Option.some.inj (h5.symm.trans h4)).symm
          exact vx_of_va (va_runU (Ts := ALLG) ⟨hx, hb, hml, hown, hts⟩ (met_of hM2 (xc_no hv9)) (va_cwO k hts hG hw2 rfl rfl ASL_in ⟨by decide, by decide, by rw [hk0]; decide +kernel⟩ (room M2 _ f1)) ⟨PcM_blind, hrv, pre (.ref b :: vs)⟩ rfl e2 hsz e3 (lvr r f2) hd (fit _ hkc))
      · cases h1
    · cases h1
  case invokespecial idx =>
    obtain ⟨rfl, h1⟩ := g1_inv h
    split at h1
    · obtain ⟨y, r, rfl, h2⟩ := qr_inv h1
      split at h2 <;> cases h2
    · rename_i M2 k hcall
      split at h1
      · rename_i vs r0 hpop
        obtain ⟨b, r, hr0, h3⟩ := qr_inv h1
        obtain ⟨f1, f2, rfl⟩ := xc4_inv h3
        obtain ⟨us, e1, e2, e3, e4⟩ := popv_inv _ _ _ _ _ hpop
        rw [List.append_nil] at e1
        subst e1
        subst hr0
        obtain ⟨r9, hm9, -, -, e5⟩ := call_ok hcall
        have h9 := List.all_eq_true.mp CT_ok r9 hm9
        unfold okC at h9
        rw [e5] at h9
        simp only [Bool.and_eq_true, decide_eq_true_eq, beq_iff_eq, Bool.not_eq_true', List.isEmpty_iff] at h9
        obtain ⟨⟨⟨⟨⟨hM, hT⟩, hI⟩, hH⟩, hRt⟩, hA⟩ := h9
        obtain ⟨⟨g1, g2, g3, g4⟩, g5, g6, -, g8⟩ := mth_ok hM
        have hlink : Cond.methodLink (cname (mN M)) idx (mY M2) ∈ ALLG := call_w hcall (by decide)
        have hsw : Cond.instanceMethod (mY M2) ∈ ALLG := by unfold stw at g6; rw [hT] at g6; exact g6
        refine ⟨hM, fun v hv => ?_, fun o hJ hkc hM2 => ⟨(Value.ref b :: vs).toArray, ?_⟩⟩
        · rcases List.mem_cons.mp hv with rfl | hv
          · rfl
          · exact e4 v hv
        have hw2 : wsM M2 = Cond.code (mY M2) (mB M2) (mL M2) none :: ALLG := by unfold wsM hdw; rw [hH, hRt]
        exact vx_runI (Ts := ALLG) ⟨hx, hb, hml, hown, hts⟩ hM2 (cwI k hts (ws_good hM) hw2 rfl rfl (hts _ g8) (hts _ hlink) (hts _ hsw) (beq_iff_eq.mp hI) ⟨g3.1, g3.2, by rw [← hA]; exact g4⟩ (room M2 _ f1)) ⟨PcM_blind, pre (.ref b :: vs)⟩ rfl e2 hsz e3 (lvr r f2) hd (fit _ hkc)
      · cases h1
    · rename_i M2 k hcall
      split at h1
      · rename_i vs r0 hpop
        obtain ⟨b, r, hr0, h3⟩ := qr_inv h1
        obtain ⟨f1, f2, rfl⟩ := xc4_inv h3
        obtain ⟨us, e1, e2, e3, e4⟩ := popv_inv _ _ _ _ _ hpop
        rw [List.append_nil] at e1
        subst e1
        subst hr0
        obtain ⟨r9, hm9, e6, e7, e5⟩ := call_ok hcall
        have h9 := List.all_eq_true.mp CT_ok r9 hm9
        unfold okC at h9
        rw [e5] at h9
        simp only [Bool.and_eq_true, decide_eq_true_eq, beq_iff_eq, Bool.not_eq_true', List.isEmpty_iff] at h9
        obtain ⟨⟨⟨⟨⟨hM, hT⟩, hI⟩, hH⟩, hRt⟩, hA⟩ := h9
        obtain ⟨⟨g1, g2, g3, g4⟩, g5, g6, -, g8⟩ := mth_ok hM
        have hnest : va_Nw (.methodLinkNest (cname (mN M)) idx (mY M2) "SoupTable") s := by
          rcases List.mem_append.mp hm9 with h7 | h7
          · have h6 := Bool.and_eq_true_iff.mp (List.all_eq_true.mp CTN_ok r9 h7)
            have h4 := of_decide_eq_true h6.2
            rw [e6, e7, e5] at h4
            exact hE.2.2.2.2.2.2.1.1 _ h4 rfl
          · have h6 := of_decide_eq_true (List.all_eq_true.mp CTA_no3 r9 h7)
            rw [e5] at h6
            exact absurd rfl h6
        have hsw : Cond.instanceMethod (mY M2) ∈ ALLG := by unfold stw at g6; rw [hT] at g6; exact g6
        refine ⟨hM, fun v hv => ?_, fun o hJ hkc hM2 => ⟨(Value.ref b :: vs).toArray, ?_⟩⟩
        · rcases List.mem_cons.mp hv with rfl | hv
          · rfl
          · exact e4 v hv
        have hw2 : wsM M2 = Cond.code (mY M2) (mB M2) (mL M2) none :: ALLG := by unfold wsM hdw; rw [hH, hRt]
        exact vx_runIN (Ts := ALLG) (host := "SoupTable") ⟨hx, hb, hml, hown, hts⟩ hM2 ⟨va_cnB k hts (ws_good hM) hw2 rfl rfl hnest (hts _ g8) ⟨g3.1, g3.2, by rw [← hA]; exact g4⟩ (room M2 _ f1), beq_iff_eq.mp hI, hts _ hsw⟩ ⟨PcM_blind, pre (.ref b :: vs)⟩ rfl e2 hsz e3 (lvr r f2) hd (fit _ hkc)
      · cases h1
    · rename_i M2 k hcall
      split at h1
      · rename_i vs r0 hpop
        obtain ⟨b, r, hr0, h2⟩ := qr_inv h1
        obtain ⟨hrc, h3⟩ := gc_inv h2
        obtain ⟨f1, f2, rfl⟩ := xc4_inv h3
        obtain ⟨us, e1, e2, e3, e4⟩ := popv_inv _ _ _ _ _ hpop
        rw [List.append_nil] at e1
        subst e1
        subst hr0
        obtain ⟨r9, hm9, e8, -, e5⟩ := call_ok hcall
        have h9 := List.all_eq_true.mp CT_ok r9 hm9
        unfold okC at h9
        rw [e5] at h9
        simp only [Bool.and_eq_true, decide_eq_true_eq, beq_iff_eq, Bool.not_eq_true', List.isEmpty_iff] at h9
        obtain ⟨⟨⟨⟨⟨⟨⟨⟨hM, hT⟩, hI⟩, hH⟩, hA⟩, hcl⟩, hsm⟩, hcn⟩, hjd⟩ := h9
        rw [e8] at hcn
        obtain ⟨⟨g1, g2, g3, g4⟩, g5, g6, g7, g8⟩ := mth_ok hM
        have hlink : Cond.methodLink (cname (mN M)) idx (mY M2) ∈ ALLG := call_w hcall (by decide)
        have hsw : Cond.instanceMethod (mY M2) ∈ ALLG := by unfold stw at g6; rw [hT] at g6; exact g6
        refine ⟨hM, fun v hv => ?_, fun o hJ hkc hM2 => ⟨(Value.ref b :: vs).toArray, ?_⟩⟩
        · rcases List.mem_cons.mp hv with rfl | hv
          · rfl
          · exact e4 v hv
        have hG : GoodIn ALLG (va_wsSU (cname (mN M)) idx (mY M2) (wsM M2)) := by
          intro w9 hw9
          unfold va_wsSU at hw9
          rcases List.mem_append.mp hw9 with h8 | h8
          · simp only [List.mem_cons, List.not_mem_nil, or_false] at h8
            rcases h8 with rfl | rfl | rfl | rfl | rfl
            · exact good_ALLG hlink
            · exact good_ALLG (inG_ok hsm)
            · rw [hcn, hcl]; exact good_ALLG (dlw (by decide +kernel))
            · exact good_ALLG hsw
            · exact good_ALLG g8
          · exact ws_good hM w9 h8
        have hw2 : wsM M2 = Cond.code (mY M2) (mB M2) (mL M2) (mR M2) :: ALLG := by unfold wsM hdw; rw [hH]
        obtain ⟨v9, hv9⟩ := hJ hjd
        have hrv := rcv_ok hE hW hS hrc
        rw [show rco (mY M2).cls = "java/lang/StringBuilder" by rw [hcl]; rfl] at hrv
        have hat : ClassAt s "java/lang/StringBuilder" (D.1 5) := (hE.1.1.1 5 _ rfl).2
        exact vx_of_va (va_runSU (Ts := ALLG) hat ⟨hx, hb, hml, hown, hts⟩ (met_of hM2 (xc_no hv9)) (va_cwSU k hts hG hw2 rfl rfl ⟨(fun h => by unfold isI at hI; rw [h] at hI; cases hI), by rw [← hA]; exact g4⟩ (room M2 _ f1)) ⟨PcM_blind, hrv, pre (.ref b :: vs)⟩ rfl e2 hsz e3 (lvr r f2) hd (fit _ hkc))
      · cases h1
    · cases h1
  case getfield idx =>
    obtain ⟨-, h1⟩ := g1_inv h
    obtain ⟨_, _, _, h2⟩ := qr_inv h1
    (repeat' split at h2) <;> first | cases h2 | (obtain ⟨-, h8⟩ := gc_inv h2; cases h8)
  case putfield idx =>
    obtain ⟨-, h1⟩ := g1_inv h
    obtain ⟨_, _, _, _, h2⟩ := q1_inv h1
    obtain ⟨_, _, _, h3⟩ := qr_inv h2
    (repeat' split at h3) <;> first | cases h3 | (obtain ⟨-, h8⟩ := gc_inv h3; cases h8)
  case iaload =>
    obtain ⟨-, h1⟩ := g1_inv h
    obtain ⟨_, _, _, h2⟩ := qi_inv h1
    obtain ⟨_, _, _, h3⟩ := qr_inv h2
    (repeat' split at h3) <;> first | cases h3 | (obtain ⟨-, h8⟩ := gc_inv h3; cases h8)
  case caload =>
    obtain ⟨-, h1⟩ := g1_inv h
    obtain ⟨_, _, _, h2⟩ := qi_inv h1
    obtain ⟨_, _, _, h3⟩ := qr_inv h2
    (repeat' split at h3) <;> first | cases h3 | (obtain ⟨-, h8⟩ := gc_inv h3; cases h8)
  case laload =>
    obtain ⟨-, h1⟩ := g1_inv h
    obtain ⟨_, _, _, h2⟩ := qi_inv h1
    obtain ⟨_, _, _, h3⟩ := qr_inv h2
    (repeat' split at h3) <;> first | cases h3 | (obtain ⟨-, h8⟩ := gc_inv h3; cases h8)
  case aaload =>
    obtain ⟨-, h1⟩ := g1_inv h
    obtain ⟨_, _, _, h2⟩ := qi_inv h1
    obtain ⟨_, _, _, h3⟩ := qr_inv h2
    (repeat' split at h3) <;> first | cases h3 | (obtain ⟨-, h8⟩ := gc_inv h3; cases h8)
  case iastore =>
    obtain ⟨-, h1⟩ := g1_inv h
    obtain ⟨_, _, _, h2⟩ := qi_inv h1
    obtain ⟨_, _, _, h3⟩ := qi_inv h2
    obtain ⟨_, _, _, h4⟩ := qr_inv h3
    (repeat' split at h4) <;> first | cases h4 | (obtain ⟨-, h8⟩ := gc_inv h4; cases h8)
  case castore =>
    obtain ⟨-, h1⟩ := g1_inv h
    obtain ⟨_, _, _, h2⟩ := qi_inv h1
    obtain ⟨_, _, _, h3⟩ := qi_inv h2
    obtain ⟨_, _, _, h4⟩ := qr_inv h3
    (repeat' split at h4) <;> first | cases h4 | (obtain ⟨-, h8⟩ := gc_inv h4; cases h8)
  case lastore =>
    obtain ⟨-, h1⟩ := g1_inv h
    obtain ⟨_, _, _, h2⟩ := ql_inv h1
    obtain ⟨_, _, _, h3⟩ := qi_inv h2
    obtain ⟨_, _, _, h4⟩ := qr_inv h3
    (repeat' split at h4) <;> first | cases h4 | (obtain ⟨-, h8⟩ := gc_inv h4; cases h8)
  case bastore =>
    obtain ⟨-, h1⟩ := g1_inv h
    obtain ⟨_, _, _, h2⟩ := qi_inv h1
    obtain ⟨_, _, _, h3⟩ := qi_inv h2
    obtain ⟨_, _, _, h4⟩ := qr_inv h3
    (repeat' split at h4) <;> first | cases h4 | (obtain ⟨-, h8⟩ := gc_inv h4; cases h8)
  case aastore =>
    obtain ⟨-, h1⟩ := g1_inv h
    obtain ⟨_, _, _, h2⟩ := qr_inv h1
    obtain ⟨_, _, _, h3⟩ := qi_inv h2
    obtain ⟨_, _, _, h4⟩ := qr_inv h3
    (repeat' split at h4) <;> first | cases h4 | (obtain ⟨-, h8⟩ := gc_inv h4; cases h8)
  case arraylength =>
    obtain ⟨-, h1⟩ := g1_inv h
    obtain ⟨_, _, _, h2⟩ := qr_inv h1
    (repeat' split at h2) <;> first | cases h2 | (obtain ⟨-, h8⟩ := gc_inv h2; cases h8)
  case baload =>
    obtain ⟨-, h1⟩ := g1_inv h
    obtain ⟨_, _, _, h2⟩ := qi_inv h1
    obtain ⟨_, _, _, h3⟩ := qr_inv h2
    (repeat' split at h3) <;> first | cases h3 | (obtain ⟨-, h8⟩ := gc_inv h3; cases h8)
  case getstatic idx =>
    obtain ⟨-, h1⟩ := g1_inv h
    (repeat' split at h1) <;> first | cases h1 | (obtain ⟨-, h8⟩ := gc_inv h1; cases h8)
  case ldc idx =>
    obtain ⟨-, h1⟩ := g1_inv h
    (repeat' split at h1) <;> first | cases h1 | (obtain ⟨-, h8⟩ := gc_inv h1; cases h8)
  case ldc2_w idx =>
    obtain ⟨-, h1⟩ := g1_inv h
    (repeat' split at h1) <;> first | cases h1 | (obtain ⟨-, h8⟩ := gc_inv h1; cases h8)
  case ldc_w idx =>
    obtain ⟨-, h1⟩ := g1_inv h
    (repeat' split at h1) <;> first | cases h1 | (obtain ⟨-, h8⟩ := gc_inv h1; cases h8)
  case new idx =>
    obtain ⟨-, h1⟩ := g1_inv h
    (repeat' split at h1) <;> first | cases h1 | (obtain ⟨-, h8⟩ := gc_inv h1; cases h8)
  case newarray ty =>
    obtain ⟨-, h1⟩ := g1_inv h
    obtain ⟨_, _, _, h2⟩ := qi_inv h1
    (repeat' split at h2) <;> first | cases h2 | (obtain ⟨-, h8⟩ := gc_inv h2; cases h8)
  case anewarray idx =>
    obtain ⟨-, h1⟩ := g1_inv h
    obtain ⟨_, _, _, h2⟩ := qi_inv h1
    (repeat' split at h2) <;> first | cases h2 | (obtain ⟨-, h8⟩ := gc_inv h2; cases h8)
  case ireturn =>
    obtain ⟨-, h1⟩ := g1_inv h
    obtain ⟨_, _, _, h2⟩ := qi_inv h1
    (repeat' split at h2) <;> first | cases h2 | (obtain ⟨-, h8⟩ := gc_inv h2; cases h8)
  case freturn =>
    obtain ⟨-, h1⟩ := g1_inv h
    obtain ⟨_, _, _, h2⟩ := qf_inv h1
    (repeat' split at h2) <;> first | cases h2 | (obtain ⟨-, h8⟩ := gc_inv h2; cases h8)
  case dreturn =>
    obtain ⟨-, h1⟩ := g1_inv h
    obtain ⟨_, _, _, h2⟩ := qd_inv h1
    (repeat' split at h2) <;> first | cases h2 | (obtain ⟨-, h8⟩ := gc_inv h2; cases h8)
  case lreturn =>
    obtain ⟨-, h1⟩ := g1_inv h
    obtain ⟨_, _, _, h2⟩ := ql_inv h1
    (repeat' split at h2) <;> first | cases h2 | (obtain ⟨-, h8⟩ := gc_inv h2; cases h8)
  case areturn =>
    obtain ⟨-, h1⟩ := g1_inv h
    obtain ⟨_, _, _, h2⟩ := qr_inv h1
    (repeat' split at h2) <;> first | cases h2 | (obtain ⟨-, h8⟩ := gc_inv h2; cases h8)
  case return_ =>
    obtain ⟨-, h1⟩ := g1_inv h
    (repeat' split at h1) <;> first | cases h1 | (obtain ⟨-, h8⟩ := gc_inv h1; cases h8)
  all_goals exact (xst_call_not (ls := ls) (st := st) (w := w) (n := n) (c := c) (sl := sl) hd h).elim
end CALLS
