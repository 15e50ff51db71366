/-! ===== SOUNDNESS of Double.doubleToLongBits and Float.floatToIntBits, of what is no NaN ===== -/
def DLB : MethodName := ⟨"java/lang/Double", "doubleToLongBits", "(D)J"⟩
def DNN : MethodName := ⟨"java/lang/Double", "isNaN", "(D)Z"⟩
def FIB : MethodName := ⟨"java/lang/Float", "floatToIntBits", "(F)I"⟩
def FNN : MethodName := ⟨"java/lang/Float", "isNaN", "(F)Z"⟩
def wDLB : Cond := .code DLB prog_18_method_23_code 2 (some .long)
def wDNN : Cond := .code DNN prog_18_method_6_code 2 (some .boolean)
def wFIB : Cond := .code FIB prog_20_method_24_code 1 (some .int)
def wFNN : Cond := .code FNN prog_20_method_6_code 1 (some .boolean)
theorem w4_ok : ([wDLB, wDNN, wFIB, wFNN, .methodLink "java/lang/Double" 122 DNN, .methodLink "java/lang/Double" 134 ⟨"java/lang/Double", "doubleToRawLongBits", "(D)J"⟩, .methodLink "java/lang/Float" 59 FNN, .methodLink "java/lang/Float" 74 ⟨"java/lang/Float", "floatToRawIntBits", "(F)I"⟩] : List Cond).all inG = true := by decide +kernel
theorem w4 {w : Cond} (h : w ∈ ([wDLB, wDNN, wFIB, wFNN, .methodLink "java/lang/Double" 122 DNN, .methodLink "java/lang/Double" 134 ⟨"java/lang/Double", "doubleToRawLongBits", "(D)J"⟩, .methodLink "java/lang/Float" 59 FNN, .methodLink "java/lang/Float" 74 ⟨"java/lang/Float", "floatToRawIntBits", "(F)I"⟩] : List Cond)) : w ∈ ALLG := inG_ok (List.all_eq_true.mp w4_ok w h)
theorem w4_1 : wDLB ∈ ALLG := w4 (by simp)
theorem w4_2 : wDNN ∈ ALLG := w4 (by simp)
theorem w4_3 : wFIB ∈ ALLG := w4 (by simp)
theorem w4_4 : wFNN ∈ ALLG := w4 (by simp)
/-- a contract of a method that no native stands in for, whatever its class's name -/
theorem ofWF {l : Launch} {y : MethodName} {ws ws' : List Cond} {rm : Room} {Pc : Array Value → State → Prop} {Qc : Array Value → State → Outcome → State → Prop} {mc ms : Nat} {free : Addr → Prop} {cc : ByteArray} {maxL : Nat} {ret : Option FieldType}
    (hy : plainFor y = true) (hw : ws = Cond.code y cc maxL ret :: ws')
    (body : ∀ p e s m args below meth c s₁, BodyLoose p l y (headSpec ws rm) cc maxL ret e s m args below meth c s₁ → c.maxLocals = maxL → Pc args s →
      W p l e (headSpec ws rm).room s m args below meth c s.heap [] 0 0 (MQ below Qc args s mc ms free) (entryFrame m args maxL)) : Met l y ws rm Pc Qc mc ms free := by
  refine MetFree.of_bodySF (code := cc) (maxLocals := maxL) (ret := ret) hy ?_ ?_
  · intro args s m h hn
    obtain ⟨meth, c, h1, h2, h3, h4, h5, h6, -, -⟩ := Cond.code_spec hn (atoms_spec (ws := ws) h _ (by rw [hw]; exact List.mem_cons_self))
    exact ⟨meth, c, h1, h2, h3, h4, h5, h6⟩
  · intro p e s m args below meth c s₁ B hml hP _
    have hh0 : s₁.heap = s.heap := by rw [B.state]; rfl
    obtain ⟨t, a1, o, b1, b2, b3⟩ := body p e s m args below meth c s₁ B hml hP s₁ hh0 (Stand.of_body B)
    exact ⟨t, o, a1, b1, b2, ⟨b3.1, b3.2⟩⟩
theorem good_ALLG {w : Cond} (h : w ∈ ALLG) : w ∈ ALLG ∧ ((w.onTables && w.keeps) = true ∨ ∃ ty, w = .arrayClass ty) := ⟨h, good_of_word (List.mem_filter.mp h).2⟩
theorem dlb_0 : decode prog_18_method_23_code 0 = .ok (.dload_n 0, 1) := by decide +kernel
theorem dlb_1 : decode prog_18_method_23_code 1 = .ok (.invokestatic 122, 3) := by decide +kernel
theorem dlb_4 : decode prog_18_method_23_code 4 = .ok (.ifCond .ne 8, 3) := by decide +kernel
theorem dlb_7 : decode prog_18_method_23_code 7 = .ok (.dload_n 0, 1) := by decide +kernel
theorem dlb_8 : decode prog_18_method_23_code 8 = .ok (.invokestatic 134, 3) := by decide +kernel
theorem dlb_11 : decode prog_18_method_23_code 11 = .ok (.lreturn, 1) := by decide +kernel
theorem dnn_0 : decode prog_18_method_6_code 0 = .ok (.dload_n 0, 1) := by decide +kernel
theorem dnn_1 : decode prog_18_method_6_code 1 = .ok (.dload_n 0, 1) := by decide +kernel
theorem dnn_2 : decode prog_18_method_6_code 2 = .ok (.dcmp .l, 1) := by decide +kernel
theorem dnn_3 : decode prog_18_method_6_code 3 = .ok (.ifCond .eq 7, 3) := by decide +kernel
theorem dnn_10 : decode prog_18_method_6_code 10 = .ok (.iconst 0, 1) := by decide +kernel
theorem dnn_11 : decode prog_18_method_6_code 11 = .ok (.ireturn, 1) := by decide +kernel
theorem fib_0 : decode prog_20_method_24_code 0 = .ok (.fload_n 0, 1) := by decide +kernel
theorem fib_1 : decode prog_20_method_24_code 1 = .ok (.invokestatic 59, 3) := by decide +kernel
theorem fib_4 : decode prog_20_method_24_code 4 = .ok (.ifCond .ne 8, 3) := by decide +kernel
theorem fib_7 : decode prog_20_method_24_code 7 = .ok (.fload_n 0, 1) := by decide +kernel
theorem fib_8 : decode prog_20_method_24_code 8 = .ok (.invokestatic 74, 3) := by decide +kernel
theorem fib_11 : decode prog_20_method_24_code 11 = .ok (.ireturn, 1) := by decide +kernel
theorem fnn_0 : decode prog_20_method_6_code 0 = .ok (.fload_n 0, 1) := by decide +kernel
theorem fnn_1 : decode prog_20_method_6_code 1 = .ok (.fload_n 0, 1) := by decide +kernel
theorem fnn_2 : decode prog_20_method_6_code 2 = .ok (.fcmp .l, 1) := by decide +kernel
theorem fnn_3 : decode prog_20_method_6_code 3 = .ok (.ifCond .eq 7, 3) := by decide +kernel
theorem fnn_10 : decode prog_20_method_6_code 10 = .ok (.iconst 0, 1) := by decide +kernel
theorem fnn_11 : decode prog_20_method_6_code 11 = .ok (.ireturn, 1) := by decide +kernel
/-- a start with one value, an end with one value and the heap as it was -/
def PcB (v : Value) : Array Value → State → Prop := fun a _ => a = #[v]
def QcB (v : Value) : Array Value → State → Outcome → State → Prop := fun _ st oc t => oc = .returned (some v) ∧ t.heap = st.heap
def rmB (f : Nat) : Room := { frames := f, cells := 0, slots := 0, locals := 20 * f }
section BITS
variable {p : Program} {l : Launch} {e : Env} {R : Room} {s : State} {m : MethodId} {args : Array Value} {below : List Frame} {meth : Method} {cd : Code} {H : Heap} {locs : List Loc} {cells slots : Nat} {Q : State → Prop} {pc : Nat} {lsR : Array Slot} {r : Stk}
/-- a static call of a method with no table, that gives v2 of v -/
theorem m_one {cc : ByteArray} {own : String} {idx : Nat} {y : MethodName} {bytes : ByteArray} {maxL : Nat} {ret : Option FieldType} {f : Nat} {v v2 : Value} (hx : p.tables.exec = Jvm.exec) (hb : cd.code = cc) (hml : cd.maxLocals = lsR.size) (hown : s.vm.findClass own = some m.cls) (hts : ∀ w ∈ ALLG, w.before args s = true)
    (hM : Met l y (Cond.code y bytes maxL ret :: ALLG) (rmB f) (PcB v) (QcB v2) 0 0 (fun _ => False)) (h1 : Cond.code y bytes maxL ret ∈ ALLG) (h2 : Cond.methodLink own idx y ∈ ALLG) (h3 : Cond.static y ∈ ALLG) (h4 : Cond.initialized y.cls ∈ ALLG)
    (hy : y.cls ≠ "java/lang/invoke/MethodHandle" ∧ y.cls ≠ "java/lang/invoke/VarHandle" ∧ (parseMethodDescriptor y.desc).map (fun d => d.parameters.length) = some 1)
    (hf : f + 1 ≤ R.frames) (hl : 8 + (maxL + 11) + 20 * f ≤ R.locals) (hc : cells ≤ R.cells) (hs : slots ≤ R.slots) (hr : (r.map fun v => v.category).sum ≤ 8) (hd : decode cc pc = .ok (.invokestatic idx, 3))
    (kk : W p l e R s m args below meth cd H locs cells slots Q (F0 m (pc + 3) lsR (v2 :: r))) : W p l e R s m args below meth cd H locs cells slots Q (F0 m pc lsR (v :: r)) := by
  have hG : GoodIn ALLG (va_wsS own idx y (Cond.code y bytes maxL ret :: ALLG)) := by
    intro w9 hw9
    unfold va_wsS at hw9
    rcases List.mem_append.mp hw9 with h8 | h8
    · simp only [List.mem_cons, List.not_mem_nil, or_false] at h8
      rcases h8 with rfl | rfl | rfl
      · exact good_ALLG h2
      · exact good_ALLG h3
      · exact good_ALLG h4
    · rcases List.mem_cons.mp h8 with rfl | h8
      · exact good_ALLG h1
      · exact good_ALLG h8
  have hrun := va_runS (Ts := ALLG) (As := [v]) (rest := r) (H := H) (locs := locs) (cells := cells) (slots := slots) (below := below) (meth := meth) (e := e) (R := R) (g := F0 m pc lsR (v :: r)) ⟨hx, hb, hml, hown, hts⟩ hM (va_cwS 1 hts hG rfl rfl rfl hy ⟨hf, hl⟩) ⟨fun _ _ _ _ h => h, fun _ _ _ => rfl⟩ rfl rfl rfl rfl (lv_room hr) hd ⟨hc, hs⟩
  intro T hT X
  obtain ⟨v9, st₀, t, T', L, h0, X', hL, e1, -, ⟨hq1, hq2⟩, st⟩ := hrun T hT X
  cases hq1
  have hLn : L = [] := by
    cases L with
    | nil => rfl
    | cons a b => exact (hL a List.mem_cons_self).elim
  subst hLn
  rw [List.append_nil] at X'
  obtain ⟨t2, a1, b1⟩ := kk T' (by rw [e1, hq2, h0]) X'
  exact ⟨t2, st t2 a1, b1⟩
set_option maxHeartbeats 1000000 in
theorem c_dnn {x : UInt64} (hn : Op.cmpValue (FP.dcmp x x) .l = 0) : Met l DNN (wDNN :: ALLG) (rmB 0) (PcB (.double x)) (QcB (.int 0)) 0 0 (fun _ => False) := by
  refine ofWF (cc := prog_18_method_6_code) (maxL := 2) (ret := some .boolean) (by decide +kernel) rfl ?_
  intro p e s m args below meth c s₁ B hml hv
  have hv2 : args = #[.double x] := hv
  subst hv2
  have hx := B.exec
  have hb := B.bytes
  have hl := lv_entry [Value.double x] (n := 2) (Nat.le_refl 2)
  rw [show (#[Value.double x] : Array Value) = [Value.double x].toArray from rfl, lg_entry_eq]
  generalize (lg_sl [Value.double x] ++ List.replicate (2 - (lg_sl [Value.double x]).length) Slot.unset).toArray = ls at hl ⊢
  refine lv_dload_n hx hb dnn_0 rfl (lv_at hl 0 rfl) ?_
  refine lv_dload_n hx hb dnn_1 rfl (lv_at hl 0 rfl) ?_
  refine lv_dcmp hx hb dnn_2 ?_
  rw [hn]
  refine lv_if_eq hx hb dnn_3 rfl (fun _ => ?_) (fun q => absurd rfl q)
  refine lv_iconst hx hb dnn_10 rfl ?_
  exact W.zret hx hb B.returns rfl (fun t ht _ => ⟨rfl, ht⟩) (fun _ h => nomatch h) dnn_11 B.notSynchronized
set_option maxHeartbeats 1000000 in
theorem c_fnn {x : UInt32} (hn : Op.cmpValue (FP.fcmp x x) .l = 0) : Met l FNN (wFNN :: ALLG) (rmB 0) (PcB (.float x)) (QcB (.int 0)) 0 0 (fun _ => False) := by
  refine ofWF (cc := prog_20_method_6_code) (maxL := 1) (ret := some .boolean) (by decide +kernel) rfl ?_
  intro p e s m args below meth c s₁ B hml hv
  have hv2 : args = #[.float x] := hv
  subst hv2
  have hx := B.exec
  have hb := B.bytes
  have hl := lv_entry [Value.float x] (n := 1) (Nat.le_refl 1)
  rw [show (#[Value.float x] : Array Value) = [Value.float x].toArray from rfl, lg_entry_eq]
  generalize (lg_sl [Value.float x] ++ List.replicate (1 - (lg_sl [Value.float x]).length) Slot.unset).toArray = ls at hl ⊢
  refine lv_fload_n hx hb fnn_0 rfl (lv_at hl 0 rfl) ?_
  refine lv_fload_n hx hb fnn_1 rfl (lv_at hl 0 rfl) ?_
  refine lv_fcmp hx hb fnn_2 ?_
  rw [hn]
  refine lv_if_eq hx hb fnn_3 rfl (fun _ => ?_) (fun q => absurd rfl q)
  refine lv_iconst hx hb fnn_10 rfl ?_
  exact W.zret hx hb B.returns rfl (fun t ht _ => ⟨rfl, ht⟩) (fun _ h => nomatch h) fnn_11 B.notSynchronized
set_option maxHeartbeats 1000000 in
theorem c_dlb {x : UInt64} (hn : Op.cmpValue (FP.dcmp x x) .l = 0) : Met l DLB (wDLB :: ALLG) (rmB 2) (PcB (.double x)) (QcB (.long x.toInt64)) 0 0 (fun _ => False) := by
  refine ofWF (cc := prog_18_method_23_code) (maxL := 2) (ret := some .long) (by decide +kernel) rfl ?_
  intro p e s m args below meth c s₁ B hml hv
  have hv2 : args = #[.double x] := hv
  subst hv2
  have hx := B.exec
  have hb := B.bytes
  have hts := atoms_spec (ws := wDLB :: ALLG) B.pre
  have ht : ∀ w ∈ ALLG, w.before #[.double x] s = true := fun w hw => hts w (List.mem_cons_of_mem _ hw)
  have hown : s.vm.findClass "java/lang/Double" = some m.cls := findClass_of_methodNamed B.named
  have hl := lv_entry [Value.double x] (n := 2) (Nat.le_refl 2)
  rw [show (#[Value.double x] : Array Value) = [Value.double x].toArray from rfl, lg_entry_eq]
  generalize (lg_sl [Value.double x] ++ List.replicate (2 - (lg_sl [Value.double x]).length) Slot.unset).toArray = ls at hl ⊢
  have hsz : c.maxLocals = ls.size := hml.trans hl.1.symm
  refine lv_dload_n hx hb dlb_0 rfl (lv_at hl 0 rfl) ?_
  refine m_one (f := 0) hx hb hsz hown ht (c_dnn hn) w4_2 (w4 (by simp)) (dlw (by simp [DLW, DNN])) (dlw (by simp [DLW, DNN])) (by decide +kernel) (by decide) (by decide) (Nat.le_refl _) (Nat.le_refl _) (by decide) dlb_1 ?_
  refine lv_if_ne hx hb dlb_4 rfl (fun q => absurd rfl q) (fun _ => ?_)
  refine lv_dload_n hx hb dlb_7 rfl (lv_at hl 0 rfl) ?_
  refine vn_d2l hx hb hsz hown (ht _ (w4 (by simp))) (ht _ (dlw (by simp [DLW]))) (ht _ (dlw (by simp [DLW]))) (ht _ (dlw (by simp [DLW]))) (by decide) (by decide) dlb_8 ?_
  exact W.lret hx hb B.returns (fun t ht _ => ⟨rfl, ht⟩) (fun _ h => nomatch h) dlb_11 B.notSynchronized
set_option maxHeartbeats 1000000 in
theorem c_fib {x : UInt32} (hn : Op.cmpValue (FP.fcmp x x) .l = 0) : Met l FIB (wFIB :: ALLG) (rmB 2) (PcB (.float x)) (QcB (.int x.toInt32)) 0 0 (fun _ => False) := by
  refine ofWF (cc := prog_20_method_24_code) (maxL := 1) (ret := some .int) (by decide +kernel) rfl ?_
  intro p e s m args below meth c s₁ B hml hv
  have hv2 : args = #[.float x] := hv
  subst hv2
  have hx := B.exec
  have hb := B.bytes
  have hts := atoms_spec (ws := wFIB :: ALLG) B.pre
  have ht : ∀ w ∈ ALLG, w.before #[.float x] s = true := fun w hw => hts w (List.mem_cons_of_mem _ hw)
  have hown : s.vm.findClass "java/lang/Float" = some m.cls := findClass_of_methodNamed B.named
  have hl := lv_entry [Value.float x] (n := 1) (Nat.le_refl 1)
  rw [show (#[Value.float x] : Array Value) = [Value.float x].toArray from rfl, lg_entry_eq]
  generalize (lg_sl [Value.float x] ++ List.replicate (1 - (lg_sl [Value.float x]).length) Slot.unset).toArray = ls at hl ⊢
  have hsz : c.maxLocals = ls.size := hml.trans hl.1.symm
  refine lv_fload_n hx hb fib_0 rfl (lv_at hl 0 rfl) ?_
  refine m_one (f := 0) hx hb hsz hown ht (c_fnn hn) w4_4 (w4 (by simp)) (dlw (by simp [DLW, FNN])) (dlw (by simp [DLW, FNN])) (by decide +kernel) (by decide) (by decide) (Nat.le_refl _) (Nat.le_refl _) (by decide) fib_1 ?_
  refine lv_if_ne hx hb fib_4 rfl (fun q => absurd rfl q) (fun _ => ?_)
  refine lv_fload_n hx hb fib_7 rfl (lv_at hl 0 rfl) ?_
  refine vn_f2i hx hb hsz hown (ht _ (w4 (by simp))) (ht _ (dlw (by simp [DLW]))) (ht _ (dlw (by simp [DLW]))) (ht _ (dlw (by simp [DLW]))) (by decide) (by decide) fib_8 ?_
  exact W.iret hx hb B.returns (fun t ht _ => ⟨rfl, ht⟩) (fun _ h => nomatch h) fib_11 B.notSynchronized
end BITS
