/-! ===== SOUNDNESS of returns and throws ===== -/
theorem own_any {own own2 X9 : String} {ic ic2 : Nat} {N9 : List String} {w : Cond} (h : w ∈ Bundle.ownAtoms own ic X9 N9) : w = .methodLink own ic (Bundle.initS X9) ∨ w ∈ Bundle.ownAtoms own2 ic2 X9 N9 := by
  unfold Bundle.ownAtoms at h ⊢
  rcases List.mem_append.mp h with h | h
  · exact Or.inr (List.mem_append_left _ h)
  · rcases List.mem_cons.mp h with h | h
    · exact Or.inl h
    · exact Or.inr (List.mem_append_right _ (List.mem_cons_of_mem _ h))
theorem no_q : ∀ k, k < 5 → (Bundle.ownAtoms "q" 1 (EXN.getD k "") NMX).all (fun w => decide (w ≠ .methodLink "" 0 (Bundle.initS (EXN.getD k "")))) = true := by
  intro k hk
  rcases (show k = 0 ∨ k = 1 ∨ k = 2 ∨ k = 3 ∨ k = 4 by omega) with rfl | rfl | rfl | rfl | rfl <;> decide +kernel
theorem okX_all : ∀ k, k < 5 → okX (EXN.getD k "") = true := by
  intro k hk
  rcases (show k = 0 ∨ k = 1 ∨ k = 2 ∨ k = 3 ∨ k = 4 by omega) with rfl | rfl | rfl | rfl | rfl
  · exact okX_0
  · exact okX_1
  · exact okX_2
  · exact okX_3
  · exact okX_4
theorem goodOn {w : Cond} (h : goodWord w = true) : vx_ot w = true := by unfold vx_ot; rw [h]; exact Bool.or_true _
theorem ngwOt {w : Cond} (h : ngw w = true) : vx_ot w = true := by unfold vx_ot; rw [ngw_on h]; rfl
/-- the words of a throw -/
theorem thw_ok {own : String} {ic k : Nat} (hk : k < 5) (hlk : Cond.methodLink own ic (Bundle.initS (EXN.getD k "")) ∈ ALLG) : ∀ w ∈ vx_atS own ic (EXN.getD k "") NMX, w ∈ ALLG ∨ (w ∈ lw_tbl ∧ ngw w = true) := by
  intro w hw
  unfold vx_atS at hw
  obtain ⟨h1, h2⟩ := List.mem_filter.mp hw
  rcases own_any (own2 := "") (ic2 := 0) h1 with rfl | h3
  · exact Or.inl hlk
  · have h4 : w ∈ thw (EXN.getD k "") := List.mem_filter.mpr ⟨h3, h2⟩
    have h5 := okX_all k hk
    unfold okX at h5
    have h6 := List.all_eq_true.mp (Bool.and_eq_true_iff.mp h5).2 w h4
    rcases Bool.or_eq_true_iff.mp h6 with h7 | h7
    · rcases own_any (own2 := "q") (ic2 := 1) h1 with rfl | h8
      · exact Or.inl hlk
      · exact absurd (of_decide_eq_true h7) (of_decide_eq_true (List.all_eq_true.mp (no_q k hk) w h8))
    · have h8 := Bool.and_eq_true_iff.mp h7
      rcases Bool.or_eq_true_iff.mp h8.2 with h9 | h9
      · exact Or.inl (allg (of_decide_eq_true h8.1) h9)
      · exact Or.inr ⟨of_decide_eq_true h8.1, h9⟩
/-- a throw's instructions, its own link, its class's link; the room -/
def okT (q : Nat × Nat × Nat × Nat × Nat × Nat × Nat) : Bool :=
  decide (decode (mB q.1) q.2.1 = .ok (.new q.2.2.2.2.1, 3)) && decide (decode (mB q.1) (q.2.1 + 3) = .ok (.dup, 1)) &&
  (match q.2.2.1 with
    | 0 => decide (decode (mB q.1) (q.2.1 + 4) = .ok (.ldc q.2.2.2.2.2.1, 2)) && decide (decode (mB q.1) (q.2.1 + 6) = .ok (.invokespecial q.2.2.2.2.2.2, 3)) && decide (decode (mB q.1) (q.2.1 + 9) = .ok (.athrow, 1))
    | _ => decide (decode (mB q.1) (q.2.1 + 4) = .ok (.ldc_w q.2.2.2.2.2.1, 3)) && decide (decode (mB q.1) (q.2.1 + 7) = .ok (.invokespecial q.2.2.2.2.2.2, 3)) && decide (decode (mB q.1) (q.2.1 + 10) = .ok (.athrow, 1))) &&
  (mH q.1).isEmpty && decide (6 ≤ mF q.1) && decide (100 ≤ mO q.1) && decide (mN q.1 = 5)
theorem TT_ok : TT.all okT = true := by decide +kernel
/-- the links out of SoupTable that throws use: the class, its constructor -/
def TLK : List (Nat × Nat × Nat) := (TT.map fun q => (q.2.2.2.1, q.2.2.2.2.1, q.2.2.2.2.2.2)).eraseDups
theorem TLK_in : ∀ q ∈ TT, (q.2.2.2.1, q.2.2.2.2.1, q.2.2.2.2.2.2) ∈ TLK := by
  have h : TT.all (fun q => decide ((q.2.2.2.1, q.2.2.2.2.1, q.2.2.2.2.2.2) ∈ TLK)) = true := by decide +kernel
  exact fun q hq => of_decide_eq_true (List.all_eq_true.mp h q hq)
theorem TLK_ok : TLK.all (fun q => inG (.classLink "SoupTable" q.2.1 (EXN.getD q.1 "")) && inG (.initialized (EXN.getD q.1 "")) && inG (.methodLink "SoupTable" q.2.2 (Bundle.initS (EXN.getD q.1 "")))) = true := by decide +kernel
theorem xcl_no2 {M M2 : Nat} {vs : List Value} {r : Stk} {o : Otc} : ¬ xcl M M2 vs r = some (.inr (.inl o)) := by
  unfold xcl
  split
  · intro h; cases h
  · intro h; cases h
theorem xc4_no2 {M M2 : Nat} {vs : List Value} {r : Stk} {o : Otc} : ¬ xc4 M M2 vs r = some (.inr (.inl o)) := by
  unfold xc4
  split
  · exact xcl_no2
  · intro h; cases h
section ENDS
variable {p : Program} {l : Launch} {e : Env} {s : State} {m : MethodId} {args : Array Value} {below : List Frame} {meth : Method} {cd : Code} {H : Heap} {locs : List Loc} {Q : State → Prop}
variable {k0 kt : Nat} {X : Cxt} {b0 : Nat} {D : va_G} {dA : Nat → ClassId} {M : Nat} {pc len : Nat} {ls : Lcs} {st : Stk} {w : Wld} {n : Option Nat} {c sl : Nat} {lsR : Array Slot}
/-- the throw of a NoSuchElementException (its constructor's entry is not the kit's) -/
theorem thr_nse (B : Bd l X b0 D dA M p s m args meth cd) (hL : LH (m2 M) (mL M) lsR ls) (hW : WOK b0 D dA w n H) (hS : va_S (KA b0) s.heap H locs) (hc : cu k0 n + 1 ≤ kt) (hst : st.length ≤ 4)
    {q : Nat × Nat × Nat × Nat × Nat × Nat × Nat} (hq : q ∈ TT) (hM : q.1 = M) (hpc : q.2.1 = pc) (hk : q.2.2.2.1 = 5) :
    W p l e (rmM M kt) s m args below meth cd H locs (cu k0 n) (60 * cu k0 n) (vx_MQ below (QcM b0 D dA (.inr "java/util/NoSuchElementException", w, n.map (· + 1))) (XcM b0 D dA (.inr "java/util/NoSuchElementException", w, n.map (· + 1))) args s kt (60 * kt) (KA b0)) (F0 m pc lsR st) := by
  obtain ⟨⟨hx, hb, -, hml⟩, ⟨hown, hts, hlk, hnm⟩, htb, hE, hfl⟩ := B
  obtain ⟨q1, q2, q3, q4, q5, q6, q7⟩ := q
  dsimp only at hM hpc hk
  subst hM
  subst hpc
  subst hk
  have hT := List.all_eq_true.mp TT_ok _ hq
  unfold okT at hT
  simp only [Bool.and_eq_true, decide_eq_true_eq, List.isEmpty_iff] at hT
  obtain ⟨⟨⟨⟨⟨⟨d0, d3⟩, dd⟩, hH⟩, hF⟩, hO⟩, hN⟩ := hT
  have hlks := List.all_eq_true.mp TLK_ok _ (TLK_in _ hq)
  simp only [Bool.and_eq_true] at hlks
  obtain ⟨⟨l1, l2⟩, l3⟩ := hlks
  have m1 : Cond.classLink "SoupTable" q5 NSE ∈ ALLG := inG_ok l1
  have m2 : Cond.initialized NSE ∈ ALLG := inG_ok l2
  have m3 : Cond.methodLink "SoupTable" q7 (Bundle.initS NSE) ∈ ALLG := inG_ok l3
  have hown5 : s.vm.findClass "SoupTable" = some m.cls := by rw [hN] at hown; exact hown
  obtain ⟨tx, sa, hvk⟩ := hE.2.1.2 _ hq
  dsimp only at hvk
  rw [hN] at hvk
  have hat := xw_ok m3
  have hat2 : ∀ w ∈ (XW "SoupTable" q7).filter vx_no, w.before args s = true := fun w hw => by
    rcases hat w hw with h | h
    · exact hts w h
    · exact (hE.2.2.2.2.2.2.1.1 w h.1 h.2).use (ngw_on h.2)
  have hgood : ∀ w ∈ Cond.classLink "SoupTable" q5 NSE :: Cond.initialized NSE :: (XW "SoupTable" q7).filter vx_no, vx_ot w = true := fun w hw => by
    rcases List.mem_cons.mp hw with rfl | hw
    · exact goodOn (List.mem_filter.mp m1).2
    · rcases List.mem_cons.mp hw with rfl | hw
      · exact goodOn (List.mem_filter.mp m2).2
      · rcases hat w hw with h | h
        · exact goodOn (List.mem_filter.mp h).2
        · exact ngwOt h.2
  have hout : ∀ x ∈ cd.exceptionTable.toList, ∀ k : Nat, covers x k = false := by
    rw [htb, hH]
    intro x hx
    exact nomatch hx
  have hXc : ∀ t : State, s.vm.Alike t.vm → t.heap.size = H.size + 1 → (∀ q : Nat, q < H.size → t.heap[q]? = H[q]?) → XcM b0 D dA (.inr "java/util/NoSuchElementException", w, n.map (· + 1)) NSE s t := fun t _ hz ho =>
    ⟨rfl, hW.grow hz ho, Nat.le_trans hS.1 (by rw [hz]; exact Nat.le_succ _), fun q h1 h2 => (ho q (Nat.lt_of_lt_of_le h1 hS.1)).trans (hS.2.1 q h1 h2)⟩
  have hcat := cat_sum st
  have hRl : (st.map fun v => v.category).sum + (13 * 3 + 43) ≤ (rmM q1 kt).locals := by
    show _ + (13 * 3 + 43) ≤ mO q1
    omega
  have e0 : q3 = 0 := by
    have h9 : TT.all (fun q => !(q.2.2.2.1 == 5) || (q.2.2.1 == 0)) = true := by decide +kernel
    have h8 := List.all_eq_true.mp h9 _ hq
    simpa using h8
  subst e0
  simp only [Bool.and_eq_true, decide_eq_true_eq] at dd
  obtain ⟨⟨d4, d6⟩, d9⟩ := dd
  exact nse_throw (own := "SoupTable") (text := tx) (sa := sa) (A := KA b0) hx hb hfl hown5 (hts _ m1) (hts _ m2) hvk hat2 hgood hE.2.2.2.2.2.1.1 hE.2.2.2.2.2.1.2 hS (hL.2.1.1.trans hml.symm) d0 d3 d4 d6 d9 (fun x hx => hout x hx _) (by show 5 < mF q1; omega) hRl hc (by show 60 * cu k0 n + 6 ≤ 60 * kt; omega) hlk hXc hS.2.2 hc (by omega)
set_option maxHeartbeats 4000000 in
theorem thr_ok (B : Bd l X b0 D dA M p s m args meth cd) (hL : LH (m2 M) (mL M) lsR ls) (hW : WOK b0 D dA w n H) (hS : va_S (KA b0) s.heap H locs) (hc : cu k0 n + 1 ≤ kt) (hst : st.length ≤ 4) {E : String} (h : thr M pc = some E) :
    W p l e (rmM M kt) s m args below meth cd H locs (cu k0 n) (60 * cu k0 n) (vx_MQ below (QcM b0 D dA (.inr E, w, n.map (· + 1))) (XcM b0 D dA (.inr E, w, n.map (· + 1))) args s kt (60 * kt) (KA b0)) (F0 m pc lsR st) := by
  unfold thr ttf at h
  obtain ⟨q, hq, rfl⟩ := Option.map_eq_some_iff.mp h
  obtain ⟨hm, hp⟩ := find_inv hq
  simp only [Bool.and_eq_true, beq_iff_eq] at hp
  by_cases h5 : q.2.2.2.1 = 5
  · rw [h5]
    exact thr_nse B hL hW hS hc hst hm hp.1 hp.2 h5
  · have hk : q.2.2.2.1 < 5 := by
      have h9 : TT.all (fun q => decide (q.2.2.2.1 < 6)) = true := by decide +kernel
      have := of_decide_eq_true (List.all_eq_true.mp h9 q hm)
      omega
    obtain ⟨⟨hx, hb, -, hml⟩, ⟨hown, hts, hlk, hnm⟩, htb, hE, hfl⟩ := B
    obtain ⟨q1, q2, q3, q4, q5, q6, q7⟩ := q
    dsimp only at hp hk h5 ⊢
    obtain ⟨rfl, rfl⟩ := hp
    have hT := List.all_eq_true.mp TT_ok _ hm
    unfold okT at hT
    simp only [Bool.and_eq_true, decide_eq_true_eq, List.isEmpty_iff] at hT
    obtain ⟨⟨⟨⟨⟨⟨d0, d3⟩, dd⟩, hH⟩, hF⟩, hO⟩, hN⟩ := hT
    have hlks := List.all_eq_true.mp TLK_ok _ (TLK_in _ hm)
    simp only [Bool.and_eq_true] at hlks
    obtain ⟨⟨l1, l2⟩, l3⟩ := hlks
    have hown5 : s.vm.findClass "SoupTable" = some m.cls := by rw [hN] at hown; exact hown
    obtain ⟨tx, sa, hvk⟩ := hE.2.1.2 _ hm
    dsimp only at hvk
    rw [hN] at hvk
    have hat := thw_ok (own := "SoupTable") hk (inG_ok l3)
    have hat2 : ∀ w ∈ vx_atS "SoupTable" q7 (EXN.getD q4 "") NMX, w.before args s = true := fun w hw => by
      rcases hat w hw with h | h
      · exact hts w h
      · exact (hE.2.2.2.2.2.2.1.1 w h.1 h.2).use (ngw_on h.2)
    have hgood : ∀ w ∈ Cond.classLink "SoupTable" q5 (EXN.getD q4 "") :: Cond.initialized (EXN.getD q4 "") :: vx_atS "SoupTable" q7 (EXN.getD q4 "") NMX, vx_ot w = true := fun w hw => by
      rcases List.mem_cons.mp hw with rfl | hw
      · exact goodOn (List.mem_filter.mp (inG_ok l1)).2
      · rcases List.mem_cons.mp hw with rfl | hw
        · exact goodOn (List.mem_filter.mp (inG_ok l2)).2
        · rcases hat w hw with h | h
          · exact goodOn (List.mem_filter.mp h).2
          · exact ngwOt h.2
    have hfit : Bundle.fit (EXN.getD q4 "") = true := (Bool.and_eq_true_iff.mp (okX_all q4 hk)).1
    have hout : ∀ x ∈ cd.exceptionTable.toList, ∀ k : Nat, covers x k = false := by
      rw [htb, hH]
      intro x hx
      exact nomatch hx
    have hXc : ∀ t : State, s.vm.Alike t.vm → t.heap.size = H.size + 1 → (∀ q : Nat, q < H.size → t.heap[q]? = H[q]?) → XcM b0 D dA (.inr (EXN.getD q4 ""), w, n.map (· + 1)) (EXN.getD q4 "") s t := fun t _ hz ho =>
      ⟨rfl, hW.grow hz ho, Nat.le_trans hS.1 (by rw [hz]; exact Nat.le_succ _), fun q h1 h2 => (ho q (Nat.lt_of_lt_of_le h1 hS.1)).trans (hS.2.1 q h1 h2)⟩
    have hcat := cat_sum st
    have hRl : (st.map fun v => v.category).sum + (13 * (NMX.length + 1) + 43) ≤ (rmM q1 kt).locals := by
      show _ + (13 * (2 + 1) + 43) ≤ mO q1
      omega
    match q3, dd with
    | 0, dd =>
      simp only [Bool.and_eq_true, decide_eq_true_eq] at dd
      obtain ⟨⟨d4, d6⟩, d9⟩ := dd
      exact vx_throwS (own := "SoupTable") (names := NMX) (text := tx) (sa := sa) (A := KA b0) hx hb hfl hown5 hfit NMX_ok (hts _ (inG_ok l1)) (hts _ (inG_ok l2)) hvk hat2 hgood hE.2.2.2.2.2.1.1 hE.2.2.2.2.2.1.2 hS (hL.2.1.1.trans hml.symm) d0 d3 d4 d6 d9 (fun x hx => hout x hx _) (by show 2 + 3 < mF q1; omega) hRl hc (by show 60 * cu k0 n + 6 ≤ 60 * kt; omega) hlk hXc hS.2.2 hc (by omega)
    | k + 1, dd =>
      simp only [Bool.and_eq_true, decide_eq_true_eq] at dd
      obtain ⟨⟨d4, d7⟩, d10⟩ := dd
      exact vx_throwSW (own := "SoupTable") (names := NMX) (text := tx) (sa := sa) (A := KA b0) hx hb hfl hown5 hfit NMX_ok (hts _ (inG_ok l1)) (hts _ (inG_ok l2)) hvk hat2 hgood hE.2.2.2.2.2.1.1 hE.2.2.2.2.2.1.2 hS (hL.2.1.1.trans hml.symm) d0 d3 d4 d7 d10 (fun x hx => hout x hx _) (by show 2 + 3 < mF q1; omega) hRl hc (by show 60 * cu k0 n + 6 ≤ 60 * kt; omega) hlk hXc hS.2.2 hc (by omega)
theorem xst_end_not {i : Instr} {o : Otc} (_ : decode (mB M) pc = .ok (i, len)) (h : xpst M pc i len ls st w n c sl = some (.inr (.inl o))) : False := by
  unfold xpst at h
  split at h <;> cases h
set_option maxHeartbeats 4000000 in
set_option maxRecDepth 100000 in
/-- a method's end -/
theorem xst_end {i : Instr} (B : Bd l X b0 D dA M p s m args meth cd) (hd : decode (mB M) pc = .ok (i, len)) (hL : LH (m2 M) (mL M) lsR ls) (hW : WOK b0 D dA w n H) (hS : va_S (KA b0) s.heap H locs) (hlo : lo_ k0 n) (hc : cu k0 n ≤ kt) {o : Otc} (hc2 : cu k0 o.2.2 ≤ kt) (h : xst X M pc i len ls st w n c sl = some (.inr (.inl o))) :
    W p l e (rmM M kt) s m args below meth cd H locs (cu k0 n) (60 * cu k0 n) (vx_MQ below (QcM b0 D dA o) (XcM b0 D dA o) args s kt (60 * kt) (KA b0)) (F0 m pc lsR st) := by
  have B' := B
  obtain ⟨⟨hx, hb, hr, hml⟩, ⟨hown, hts, hlk, hnm⟩, htb, hE, hfl⟩ := B
  have hq : ∀ (v : Option Value) (w : Wld) (n : Option Nat), WOK b0 D dA w n H → ∀ t : State, t.heap = H → s.WarmedH t.vm → QcM b0 D dA (.inl v, w, n) args s (.returned v) t := fun v w n hW t ht _ => ⟨v, rfl, rfl, by rw [ht]; exact hW, hS.F ht⟩
  cases i
  case new idx =>
    obtain ⟨rfl, h1⟩ := g1_inv h
    split at h1
    · rename_i E hE9
      split at h1
      · rename_i hroom
        cases h1
        obtain ⟨k9, rfl, hk9⟩ := hlo
        have hc3 : k9 + 1 - k0 ≤ kt := hc2
        exact thr_ok B' hL hW hS (by show k9 - k0 + 1 ≤ kt; omega) hroom hE9
      · cases h1
    · (repeat' split at h1) <;> cases h1
  case ireturn =>
    obtain ⟨rfl, h1⟩ := g1_inv h
    obtain ⟨x, r, rfl, h2⟩ := qi_inv h1
    split at h2
    · obtain ⟨h3, h4⟩ := gc_inv h2
      cases h4
      refine vx_ret (W.widen hc (Nat.mul_le_mul_left 60 hc) ?_)
      unfold okr at h3
      split at h3
      · rename_i hret
        exact W.iret hx hb (hr.trans hret) (hq _ _ _ hW) hS.2.2 hd hlk
      · rename_i hret
        exact W.zret hx hb (hr.trans hret) (of_decide_eq_true h3) (hq _ _ _ hW) hS.2.2 hd hlk
      · rename_i hret
        exact W.zret hx hb (hr.trans hret) (of_decide_eq_true h3) (hq _ _ _ hW) hS.2.2 hd hlk
      · rename_i hret
        exact W.zret hx hb (hr.trans hret) (of_decide_eq_true h3) (hq _ _ _ hW) hS.2.2 hd hlk
      · cases h3
    · cases h2
  case freturn =>
    obtain ⟨rfl, h1⟩ := g1_inv h
    obtain ⟨x, r, rfl, h2⟩ := qf_inv h1
    split at h2
    · obtain ⟨h3, h4⟩ := gc_inv h2
      cases h4
      exact vx_ret (W.widen hc (Nat.mul_le_mul_left 60 hc) (W.fret hx hb (hr.trans (of_decide_eq_true h3)) (hq _ _ _ hW) hS.2.2 hd hlk))
    · cases h2
  case dreturn =>
    obtain ⟨rfl, h1⟩ := g1_inv h
    obtain ⟨x, r, rfl, h2⟩ := qd_inv h1
    split at h2
    · obtain ⟨h3, h4⟩ := gc_inv h2
      cases h4
      exact vx_ret (W.widen hc (Nat.mul_le_mul_left 60 hc) (W.dret hx hb (hr.trans (of_decide_eq_true h3)) (hq _ _ _ hW) hS.2.2 hd hlk))
    · cases h2
  case lreturn =>
    obtain ⟨rfl, h1⟩ := g1_inv h
    obtain ⟨x, r, rfl, h2⟩ := ql_inv h1
    split at h2
    · obtain ⟨h3, h4⟩ := gc_inv h2
      cases h4
      exact vx_ret (W.widen hc (Nat.mul_le_mul_left 60 hc) (W.lret hx hb (hr.trans (of_decide_eq_true h3)) (hq _ _ _ hW) hS.2.2 hd hlk))
    · cases h2
  case areturn =>
    obtain ⟨rfl, h1⟩ := g1_inv h
    obtain ⟨x, r, rfl, h2⟩ := qr_inv h1
    split at h2
    · obtain ⟨h3, h4⟩ := gc_inv h2
      cases h4
      unfold isob at h3
      split at h3
      · rename_i nm9 hret
        exact vx_ret (W.widen hc (Nat.mul_le_mul_left 60 hc) (W.aret hx hb (hr.trans hret) (Or.inl ⟨_, rfl⟩) (Or.inr ⟨_, rfl⟩) (hq _ _ _ hW) hS.2.2 hd hlk))
      · rename_i nm9 hret
        exact vx_ret (W.widen hc (Nat.mul_le_mul_left 60 hc) (W.aret hx hb (hr.trans hret) (Or.inr ⟨_, rfl⟩) (Or.inr ⟨_, rfl⟩) (hq _ _ _ hW) hS.2.2 hd hlk))
      · cases h3
    · cases h2
  case return_ =>
    obtain ⟨rfl, h1⟩ := g1_inv h
    split at h1
    · obtain ⟨h3, h4⟩ := gc_inv h1
      cases h4
      exact vx_ret (W.widen hc (Nat.mul_le_mul_left 60 hc) (W.vret hx hb (hr.trans (of_decide_eq_true h3)) (hq _ _ _ hW) hS.2.2 hd hlk))
    · cases h1
  case getfield idx =>
    obtain ⟨-, h1⟩ := g1_inv h
    obtain ⟨_, _, _, h2⟩ := qr_inv h1
    (repeat' split at h2) <;> first | cases h2 | (obtain ⟨-, h8⟩ := gc_inv h2; cases h8)
  case putfield idx =>
    obtain ⟨-, h1⟩ := g1_inv h
    obtain ⟨_, _, _, _, h2⟩ := q1_inv h1
    obtain ⟨_, _, _, h3⟩ := qr_inv h2
    (repeat' split at h3) <;> first | cases h3 | (obtain ⟨-, h8⟩ := gc_inv h3; cases h8)
  case iaload =>
    obtain ⟨-, h1⟩ := g1_inv h
    obtain ⟨_, _, _, h2⟩ := qi_inv h1
    obtain ⟨_, _, _, h3⟩ := qr_inv h2
    (repeat' split at h3) <;> first | cases h3 | (obtain ⟨-, h8⟩ := gc_inv h3; cases h8)
  case caload =>
    obtain ⟨-, h1⟩ := g1_inv h
    obtain ⟨_, _, _, h2⟩ := qi_inv h1
    obtain ⟨_, _, _, h3⟩ := qr_inv h2
    (repeat' split at h3) <;> first | cases h3 | (obtain ⟨-, h8⟩ := gc_inv h3; cases h8)
  case laload =>
    obtain ⟨-, h1⟩ := g1_inv h
    obtain ⟨_, _, _, h2⟩ := qi_inv h1
    obtain ⟨_, _, _, h3⟩ := qr_inv h2
    (repeat' split at h3) <;> first | cases h3 | (obtain ⟨-, h8⟩ := gc_inv h3; cases h8)
  case aaload =>
    obtain ⟨-, h1⟩ := g1_inv h
    obtain ⟨_, _, _, h2⟩ := qi_inv h1
    obtain ⟨_, _, _, h3⟩ := qr_inv h2
    (repeat' split at h3) <;> first | cases h3 | (obtain ⟨-, h8⟩ := gc_inv h3; cases h8)
  case iastore =>
    obtain ⟨-, h1⟩ := g1_inv h
    obtain ⟨_, _, _, h2⟩ := qi_inv h1
    obtain ⟨_, _, _, h3⟩ := qi_inv h2
    obtain ⟨_, _, _, h4⟩ := qr_inv h3
    (repeat' split at h4) <;> first | cases h4 | (obtain ⟨-, h8⟩ := gc_inv h4; cases h8)
  case castore =>
    obtain ⟨-, h1⟩ := g1_inv h
    obtain ⟨_, _, _, h2⟩ := qi_inv h1
    obtain ⟨_, _, _, h3⟩ := qi_inv h2
    obtain ⟨_, _, _, h4⟩ := qr_inv h3
    (repeat' split at h4) <;> first | cases h4 | (obtain ⟨-, h8⟩ := gc_inv h4; cases h8)
  case lastore =>
    obtain ⟨-, h1⟩ := g1_inv h
    obtain ⟨_, _, _, h2⟩ := ql_inv h1
    obtain ⟨_, _, _, h3⟩ := qi_inv h2
    obtain ⟨_, _, _, h4⟩ := qr_inv h3
    (repeat' split at h4) <;> first | cases h4 | (obtain ⟨-, h8⟩ := gc_inv h4; cases h8)
  case bastore =>
    obtain ⟨-, h1⟩ := g1_inv h
    obtain ⟨_, _, _, h2⟩ := qi_inv h1
    obtain ⟨_, _, _, h3⟩ := qi_inv h2
    obtain ⟨_, _, _, h4⟩ := qr_inv h3
    (repeat' split at h4) <;> first | cases h4 | (obtain ⟨-, h8⟩ := gc_inv h4; cases h8)
  case aastore =>
    obtain ⟨-, h1⟩ := g1_inv h
    obtain ⟨_, _, _, h2⟩ := qr_inv h1
    obtain ⟨_, _, _, h3⟩ := qi_inv h2
    obtain ⟨_, _, _, h4⟩ := qr_inv h3
    (repeat' split at h4) <;> first | cases h4 | (obtain ⟨-, h8⟩ := gc_inv h4; cases h8)
  case arraylength =>
    obtain ⟨-, h1⟩ := g1_inv h
    obtain ⟨_, _, _, h2⟩ := qr_inv h1
    (repeat' split at h2) <;> first | cases h2 | (obtain ⟨-, h8⟩ := gc_inv h2; cases h8)
  case baload =>
    obtain ⟨-, h1⟩ := g1_inv h
    obtain ⟨_, _, _, h2⟩ := qi_inv h1
    obtain ⟨_, _, _, h3⟩ := qr_inv h2
    (repeat' split at h3) <;> first | cases h3 | (obtain ⟨-, h8⟩ := gc_inv h3; cases h8)
  case getstatic idx =>
    obtain ⟨-, h1⟩ := g1_inv h
    (repeat' split at h1) <;> first | cases h1 | (obtain ⟨-, h8⟩ := gc_inv h1; cases h8)
  case ldc idx =>
    obtain ⟨-, h1⟩ := g1_inv h
    (repeat' split at h1) <;> first | cases h1 | (obtain ⟨-, h8⟩ := gc_inv h1; cases h8)
  case ldc2_w idx =>
    obtain ⟨-, h1⟩ := g1_inv h
    (repeat' split at h1) <;> first | cases h1 | (obtain ⟨-, h8⟩ := gc_inv h1; cases h8)
  case ldc_w idx =>
    obtain ⟨-, h1⟩ := g1_inv h
    (repeat' split at h1) <;> first | cases h1 | (obtain ⟨-, h8⟩ := gc_inv h1; cases h8)
  case newarray ty =>
    obtain ⟨-, h1⟩ := g1_inv h
    obtain ⟨_, _, _, h2⟩ := qi_inv h1
    (repeat' split at h2) <;> first | cases h2 | (obtain ⟨-, h8⟩ := gc_inv h2; cases h8)
  case anewarray idx =>
    obtain ⟨-, h1⟩ := g1_inv h
    obtain ⟨_, _, _, h2⟩ := qi_inv h1
    (repeat' split at h2) <;> first | cases h2 | (obtain ⟨-, h8⟩ := gc_inv h2; cases h8)
  case invokestatic idx =>
    obtain ⟨-, h1⟩ := g1_inv h
    split at h1
    · split at h1
      · exact absurd h1 xcl_no2
      · cases h1
    · split at h1
      · obtain ⟨_, _, -, h2⟩ := qi_inv h1
        obtain ⟨_, _, -, h3⟩ := qi_inv h2
        cases h3
      · cases h1
    · split at h1
      · obtain ⟨_, _, -, h2⟩ := qi_inv h1
        obtain ⟨_, _, -, h3⟩ := qi_inv h2
        cases h3
      · cases h1
    · split at h1
      · obtain ⟨_, _, -, h2⟩ := qd_inv h1
        obtain ⟨-, h3⟩ := gc_inv h2
        cases h3
      · cases h1
    · split at h1
      · obtain ⟨_, _, -, h2⟩ := qf_inv h1
        obtain ⟨-, h3⟩ := gc_inv h2
        cases h3
      · cases h1
    · split at h1
      · obtain ⟨_, _, _, h2⟩ := qi_inv h1
        obtain ⟨_, _, _, h3⟩ := qi_inv h2
        obtain ⟨_, _, _, h4⟩ := qr_inv h3
        obtain ⟨_, _, _, h5⟩ := qi_inv h4
        obtain ⟨_, _, _, h6⟩ := qr_inv h5
        (repeat' split at h6) <;> cases h6
      · cases h1
    · cases h1
  case invokevirtual idx =>
    obtain ⟨-, h1⟩ := g1_inv h
    split at h1
    · obtain ⟨-, h1⟩ := gc_inv h1
      split at h1
      · obtain ⟨_, _, -, h2⟩ := qr_inv h1
        obtain ⟨-, h3⟩ := gc_inv h2
        split at h3
        · exact absurd h3 xcl_no2
        · exact absurd h3 xc4_no2
      · cases h1
    · cases h1
  case invokespecial idx =>
    obtain ⟨-, h1⟩ := g1_inv h
    split at h1
    · obtain ⟨_, _, -, h2⟩ := qr_inv h1
      split at h2 <;> cases h2
    · split at h1
      · obtain ⟨_, _, -, h2⟩ := qr_inv h1
        exact absurd h2 xc4_no2
      · cases h1
    · split at h1
      · obtain ⟨_, _, -, h2⟩ := qr_inv h1
        exact absurd h2 xc4_no2
      · cases h1
    · split at h1
      · obtain ⟨_, _, -, h2⟩ := qr_inv h1
        obtain ⟨-, h3⟩ := gc_inv h2
        exact absurd h3 xc4_no2
      · cases h1
    · cases h1
  all_goals exact (xst_end_not (ls := ls) (st := st) (w := w) (n := n) (c := c) (sl := sl) hd h).elim
end ENDS
