section SOUND
variable {p : Program} {l : Launch} {e : Env} {s : State} {m : MethodId} {args : Array Value} {below : List Frame} {meth : Method} {cd : Code} {H : Heap} {locs : List Loc} {Q : State → Prop}
variable {k0 kt : Nat} {X : Cxt} {b0 : Nat} {D : va_G} {dA : Nat → ClassId} {M : Nat} {pc len : Nat} {ls : Lcs} {st : Stk} {w : Wld} {n : Option Nat} {c sl : Nat} {lsR : Array Slot}
theorem hdl_ok {E : String} {kq : Nat × Nat} (B : Bd l X b0 D dA M p s m args meth cd) (hL : LH (m2 M) (mL M) lsR ls) (hh : hdl M pc E = some kq) {ce : Cell} {q9 : Addr} (hce : H[q9]? = some ce) (hv : ce.vm = .none) (hcl : s.vm.findClass E = some ce.cls)
    (kk : ∀ lsR2 : Array Slot, LH (m2 M) (mL M) lsR2 (ls.set kq.1 none) → W p l e (rmM M kt) s m args below meth cd H locs c sl Q (F0 m kq.2 lsR2 [])) {rest : Stk} : vx_W p l e (rmM M kt) s m args below meth cd H locs c sl Q (F0 m pc lsR rest) q9 := by
  obtain ⟨⟨hx, hb, -, hml⟩, ⟨hown, hts, hlk, hnm⟩, htb, hE, hfl⟩ := B
  unfold hdl hdf at hh
  obtain ⟨q, hq, rfl⟩ := Option.map_eq_some_iff.mp hh
  obtain ⟨hm, hp⟩ := find_inv hq
  have h1 := List.all_eq_true.mp HT_ok q hm
  obtain ⟨M9, e9, hp9, k9, nx9, a9, b9, ct9, ln9, p1, p2, j9, pe9, pp9⟩ := q
  simp only [Bool.and_eq_true, beq_iff_eq, decide_eq_true_eq] at hp
  obtain ⟨⟨⟨rfl, rfl⟩, ha⟩, hbb⟩ := hp
  unfold okH at h1
  simp only [Bool.and_eq_true, decide_eq_true_eq, Bool.or_eq_true] at h1
  obtain ⟨⟨⟨⟨⟨⟨⟨⟨⟨hMl, hj⟩, hct⟩, hcl9⟩, hcs⟩, hk⟩, hc2⟩, hnx⟩, hst⟩, hpre⟩ := h1
  dsimp only at kk hcl ⊢
  have hxe : (tableOf (mH M9))[j9]? = some ⟨a9, b9, hp9, ct9⟩ := by
    unfold tableOf
    rw [List.getElem?_map, hj]
    rfl
  have hsplit : cd.exceptionTable.toList = (tableOf (mH M9)).take j9 ++ ⟨a9, b9, hp9, ct9⟩ :: (tableOf (mH M9)).drop (j9 + 1) := by
    rw [htb]
    obtain ⟨hlt, he⟩ := List.getElem?_eq_some_iff.mp hxe
    rw [← he, ← List.drop_eq_getElem_cons hlt, List.take_append_drop]
  refine vx_catch (own := cname (mN M9)) (name := EXN.getD e9 "") (E := EXN.getD e9 "") hown _ _ _ hsplit ?_ ?_ hct (hts _ (inG_ok hcl9)) ((hE.2.2.2.2.2.2.1.1 _ hcs rfl).use rfl) hce hv hcl ?_
  · intro z hz
    refine Or.inr ?_
    split at hpre
    · simp at hz
    · split at hpre
      · rename_i h0 hh0
        simp only [Bool.and_eq_true, decide_eq_true_eq] at hpre
        obtain ⟨⟨u1, u2⟩, u3⟩ := hpre
        have hz0 : z = ⟨h0.1, h0.2.1, h0.2.2.1, h0.2.2.2⟩ := by
          have h9 : (tableOf (mH M9)).take 1 = [⟨h0.1, h0.2.1, h0.2.2.1, h0.2.2.2⟩] := by
            unfold tableOf
            cases hmm : mH M9 with
            | nil => rw [hmm] at hh0; cases hh0
            | cons x y => rw [hmm] at hh0; cases hh0; rfl
          rw [h9] at hz
          exact List.mem_singleton.mp hz
        subst hz0
        exact ⟨u1, EXN.getD pe9 "", hts _ (inG_ok u2), hE.2.2.2.2.2.2.1.2 _ u3⟩
      · cases hpre
    · cases hpre
  · show (decide (a9 ≤ pc) && decide (pc < b9)) = true
    simp only [Bool.and_eq_true, decide_eq_true_eq]
    exact ⟨ha, hbb⟩
  · have hkl : k9 < ls.length := by rw [hL.1]; exact hk
    have fin : ∀ lsR2 : Array Slot, LH (m2 M9) (mL M9) lsR2 (e_st (m2 M9) ls k9 (.ref q9)) → LH (m2 M9) (mL M9) lsR2 (ls.set k9 none) := by
      intro lsR2 h2
      refine h2.mono (by unfold e_st; rw [hc2]; simp) (fun i v hi => ?_)
      unfold e_st
      rw [hc2]
      rw [List.getElem?_set] at hi ⊢
      by_cases hik : k9 = i
      · rw [if_pos hik] at hi
        split at hi <;> cases hi
      · rw [if_neg hik] at hi ⊢
        exact hi
    rcases hst with ⟨kf, hkf, hdd, hln⟩ | ⟨hdd, hln⟩
    · refine pst_ok (c2 := m2 M9) hx hb hdd hL (ls2 := e_st (m2 M9) ls k9 (.ref q9)) (st2 := []) (pc2 := nx9) ?_ (fun lsR2 h2 => kk lsR2 (fin lsR2 h2))
      subst hln
      subst hkf
      rw [hnx]
      show g1 1 1 (qr [Value.ref q9] fun x r => gst ls (kf : Nat) (some (hp9 + 1, e_st (m2 M9) ls (kf : Nat) (.ref x), r))) = _
      rw [g1_same]
      show gst ls (kf : Nat) _ = _
      unfold gst
      rw [if_pos hkl]
    · refine pst_ok (c2 := m2 M9) hx hb hdd hL (ls2 := e_st (m2 M9) ls k9 (.ref q9)) (st2 := []) (pc2 := nx9) ?_ (fun lsR2 h2 => kk lsR2 (fin lsR2 h2))
      subst hln
      rw [hnx]
      show g1 2 2 (qr [Value.ref q9] fun x r => gst ls k9 (some (hp9 + 2, e_st (m2 M9) ls k9 (.ref x), r))) = _
      rw [g1_same]
      show gst ls k9 _ = _
      unfold gst
      rw [if_pos hkl]
/-- what is shown of every run of f turns -/
def Snd (l : Launch) (X : Cxt) (b0 : Nat) (D : va_G) (dA : Nat → ClassId) (f : Nat) : Prop :=
  ∀ (M pc : Nat) (ls : Lcs) (st : Stk) (w : Wld) (n : Option Nat) (c sl : Nat) (o : Otc), ex X f M pc ls st w n c sl = some o → ∀ (p : Program) (e : Env) (s : State) (m : MethodId) (args : Array Value) (below : List Frame) (meth : Method) (cd : Code) (H : Heap) (locs : List Loc) (lsR : Array Slot) (k0 kt : Nat), Bd l X b0 D dA M p s m args meth cd → LH (m2 M) (mL M) lsR ls → WOK b0 D dA w n H → va_S (KA b0) s.heap H locs → lo_ k0 n → cu k0 o.2.2 ≤ kt →
    W p l e (rmM M kt) s m args below meth cd H locs (cu k0 n) (60 * cu k0 n) (vx_MQ below (QcM b0 D dA o) (XcM b0 D dA o) args s kt (60 * kt) (KA b0)) (F0 m pc lsR st)
theorem ctr_of {f : Nat} (IH : Snd l X b0 D dA f) (hfl : l.stackTraces = false) (hM : M < LAWM) {vs : List Value} (hcat : ∀ v ∈ vs, v.category = 1) (hl : vs.length ≤ mL M) {k : Nat} {o : Otc} (h : ex X f M 0 (entl M vs) [] w (some k) 0 0 = some o) : CtrM l X b0 D dA M vs w (some k) o := by
  obtain ⟨⟨g1, g2, g3, g4⟩, g5, g6, g7, g8⟩ := mth_ok hM
  have body : ∀ (p : Program) (e : Env) (s : State) (m : MethodId) (args : Array Value) (below : List Frame) (meth : Method) (cd : Code) (s₁ : State), BodyLoose p l (mY M) (headSpec (wsM M) (rmM M (cu k o.2.2))) (mB M) (mL M) (mR M) e s m args below meth cd s₁ → cd.maxLocals = mL M → cd.exceptionTable.toList = tableOf (mH M) → PcM X b0 D dA vs w (some k) args s →
      W p l e (headSpec (wsM M) (rmM M (cu k o.2.2))).room s m args below meth cd s.heap [] 0 0 (vx_MQ below (QcM b0 D dA o) (XcM b0 D dA o) args s (cu k o.2.2) (60 * cu k o.2.2) (KA b0)) (entryFrame m args (mL M)) := by
    intro p e s m args below meth cd s₁ B hml htb hv
    obtain ⟨rfl, hW, hE⟩ := hv
    have hts := atoms_spec (ws := wsM M) B.pre
    have hown : s.vm.findClass (mY M).cls = some m.cls := findClass_of_methodNamed B.named
    rw [lg_entry_eq]
    have h0 : cu k (some k) = 0 := Nat.sub_self k
    have h9 := IH M 0 (entl M vs) [] w (some k) 0 0 o h p e s m _ below meth cd s.heap [] _ k (cu k o.2.2) ⟨⟨B.exec, B.bytes, B.returns, hml⟩, ⟨by rw [g2]; exact hown, fun w hw => hts w (List.mem_cons_of_mem _ hw), B.notSynchronized, (name_of_methodNamed B.named B.method).1⟩, htb, hE, hfl⟩ (LH_entry hcat hl) hW va_S.rf ⟨k, rfl, Nat.le_refl k⟩ (Nat.le_refl _)
    rw [h0] at h9
    exact h9
  unfold CtrM
  by_cases hH : mH M = []
  · have hw2 : wsM M = Cond.code (mY M) (mB M) (mL M) (mR M) :: ALLG := by unfold wsM hdw; rw [hH]
    refine vx_ofW (cc := mB M) (maxL := mL M) (ret := mR M) g1 hw2 ?_
    intro p e s m args below meth cd s₁ B hml htb hv
    refine body p e s m args below meth cd s₁ B hml ?_ hv
    rw [hH]
    cases hx : cd.exceptionTable.toList with
    | nil => rfl
    | cons a b => exact absurd (htb a (by rw [hx]; exact List.mem_cons_self)) id
  · have hw2 : wsM M = Cond.codeWith (mY M) (mB M) (mL M) (mR M) (mH M) :: ALLG := by
      unfold wsM hdw
      cases hq : mH M with
      | nil => exact absurd hq hH
      | cons a b => rfl
    refine vx_ofWH (cc := mB M) (maxL := mL M) (ret := mR M) (hh := mH M) g1 hw2 ?_
    intro p e s m args below meth cd s₁ B hml hv
    exact body p e s m args below meth cd s₁ B hml (vx_table (x := mY M) B (atoms_spec (ws := wsM M) B.pre _ (by rw [hw2]; exact List.mem_cons_self))) hv
theorem sound (hfl : l.stackTraces = false) : ∀ f : Nat, Snd l X b0 D dA f := by
  intro f
  induction f with
  | zero => intro M pc ls st w n c sl o h; cases h
  | succ f ih =>
    intro M pc ls st w n c sl o h p e s m args below meth cd H locs lsR k0 kt B hL hW hS hlo hkt
    have h00 := h
    rw [ex] at h
    have hL2 := hL.mk (pc := pc)
    obtain ⟨k, rfl, hk0⟩ := hlo
    obtain ⟨k9, e9, hk9⟩ := ex_n _ _ _ _ _ _ _ _ _ _ h00
    have hk9t : k9 - k0 ≤ kt := by rw [e9] at hkt; exact hkt
    have hck : cu k0 (some k) ≤ kt := by show k - k0 ≤ kt; omega
    split at h
    · cases h
    · rename_i i len hd
      split at h
      · cases h
      · rename_i q hq
        obtain ⟨k2, e2, hk2⟩ := xst_n _ hq
        obtain ⟨k3, e3, hk3⟩ := ex_n _ _ _ _ _ _ _ _ _ _ (by rw [e2] at h; exact h)
        have hk93 : k3 = k9 := Option.some.inj (e3.symm.trans e9)
        refine xst_ok B hd hL2 hW hS ⟨k, rfl, hk0⟩ hck (by rw [e2]; show k2 - k0 ≤ kt; omega) hq ?_
        intro H1 locs1 lsR1 hL1 hW1 hS1 hc1
        exact ih _ _ _ _ _ _ _ _ _ h p e s m args below meth cd H1 locs1 lsR1 k0 kt B hL1 hW1 hS1 ⟨k2, e2, Nat.le_trans hk0 hk2⟩ hkt
      · rename_i q hq
        cases h
        exact xst_end B hd hL2 hW hS ⟨k, rfl, hk0⟩ hck hkt hq
      · rename_i q hq
        split at h
        · cases h
        · rename_i o2 ho2
          split at h
          · rename_i hroom
            obtain ⟨hM, hcat, hcall⟩ := xst_call (k0 := k0) (kt := kt) B hd hL2 hW hS hq
            have hJ : jdk q.1 = true → ∃ v, o2.1 = .inl v := by
              intro hj
              cases ho : o2.1 with
              | inl v => exact ⟨v, rfl⟩
              | inr e5 =>
                rw [ho] at h
                dsimp only at h
                rw [hj] at h
                cases h
            obtain ⟨k2, e2, hk2⟩ := ex_n _ _ _ _ _ _ _ _ _ _ ho2
            have hle : k2 ≤ k9 := by
              split at h
              · rw [e2] at h
                obtain ⟨k3, e3, hk3⟩ := ex_n _ _ _ _ _ _ _ _ _ _ h
                have := Option.some.inj (e3.symm.trans e9)
                omega
              · split at h
                · cases h
                · split at h
                  · cases h
                    have := Option.some.inj (e2.symm.trans e9)
                    omega
                  · split at h
                    · rw [e2] at h
                      obtain ⟨k3, e3, hk3⟩ := ex_n _ _ _ _ _ _ _ _ _ _ h
                      have := Option.some.inj (e3.symm.trans e9)
                      omega
                    · cases h
            have ecu : cu k0 (some k) + cu k o2.2.2 = cu k0 o2.2.2 := by
              rw [e2]
              show k - k0 + (k2 - k) = k2 - k0
              omega
            have ecu2 : 60 * cu k0 (some k) + 60 * cu k o2.2.2 = 60 * cu k0 o2.2.2 := by rw [← ecu]; omega
            have hlo2 : lo_ k0 o2.2.2 := ⟨k2, e2, Nat.le_trans hk0 hk2⟩
            have hct : cu k0 o2.2.2 ≤ kt := by rw [e2]; show k2 - k0 ≤ kt; omega
            obtain ⟨a9, hrun⟩ := hcall o2 hJ (by show cu k0 (some k) + cu k o2.2.2 ≤ kt; rw [ecu]; exact hct) (ctr_of ih hfl hM hcat hroom ho2)
            refine vx_go hrun hS (fun v hv H1 locs1 hW1 hS1 => ?_) (fun E hE9 ce q9 H1 locs1 hW1 hS1 hce hcv hcl => ?_)
            · rw [hv] at h
              show W p l e (rmM M kt) s m args below meth cd H1 locs1 (cu k0 (some k) + cu k o2.2.2) (60 * cu k0 (some k) + 60 * cu k o2.2.2) _ _
              rw [ecu, ecu2]
              exact ih _ _ _ _ _ _ _ _ _ h p e s m args below meth cd H1 locs1 lsR k0 kt B hL2 hW1 hS1 hlo2 hkt
            · rw [hE9] at h
              dsimp only at h
              show vx_W p l e (rmM M kt) s m args below meth cd H1 locs1 (cu k0 (some k) + cu k o2.2.2) (60 * cu k0 (some k) + 60 * cu k o2.2.2) _ _ q9
              rw [ecu, ecu2]
              split at h
              · cases h
              · split at h
                · rename_i hmh
                  cases h
                  refine vx_out (fun x hx => ?_) B.2.1.2.2.1 hce hcv hcl (fun t ht _ => ⟨rfl, by rw [ht]; exact hW1, hS1.F ht⟩) hS1.2.2 hct (Nat.mul_le_mul_left 60 hct)
                  rw [B.2.2.1, hmh] at hx
                  exact nomatch hx
                · split at h
                  · rename_i kq hkq
                    exact hdl_ok B hL2 hkq hce hcv hcl (fun lsR2 h2 => ih _ _ _ _ _ _ _ _ _ h p e s m args below meth cd H1 locs1 lsR2 k0 kt B h2 hW1 hS1 hlo2 hkt)
                  · cases h
          · cases h
end SOUND
