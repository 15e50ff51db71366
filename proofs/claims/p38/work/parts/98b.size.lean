/-! ===== the heap's size is known at every turn, and never falls ===== -/
def okn (k : Nat) (v : Nxt ⊕ (Otc ⊕ Cll)) : Prop := match v with
  | .inl q => ∃ k2 : Nat, q.2.2.2.2.1 = some k2 ∧ k ≤ k2
  | .inr (.inl o) => ∃ k2 : Nat, o.2.2 = some k2 ∧ k ≤ k2
  | .inr (.inr _) => True
def Inn (k : Nat) (r : Option (Nxt ⊕ (Otc ⊕ Cll))) : Prop := ∀ v, r = some v → okn k v
section SIZE
variable {k : Nat} {X : Cxt} {M pc len : Nat} {ls : Lcs} {st : Stk} {w : Wld} {c sl : Nat}
theorem inn_0 : Inn k none := fun _ h => nomatch h
theorem inn_n {w2 : Wld} {pc2 : Nat} {ls2 : Lcs} {st2 : Stk} {c2 s2 : Nat} : Inn k (nxt pc2 ls2 st2 w2 (some k) c2 s2) := fun v h => by
  unfold nxt at h
  cases h
  exact ⟨k, rfl, Nat.le_refl k⟩
theorem inn_n1 {w2 : Wld} {pc2 : Nat} {ls2 : Lcs} {st2 : Stk} {c2 s2 : Nat} : Inn k (nxt pc2 ls2 st2 w2 (some (k + 1)) c2 s2) := fun v h => by
  unfold nxt at h
  cases h
  exact ⟨k + 1, rfl, Nat.le_succ k⟩
theorem inn_n2 {q : Nat} {w2 : Wld} {pc2 : Nat} {ls2 : Lcs} {st2 : Stk} {c2 s2 : Nat} (h : some k = some q) : Inn k (nxt pc2 ls2 st2 w2 (some (q + 1)) c2 s2) := by
  cases h
  exact inn_n1
theorem inn_o {o : Otc} (h0 : o.2.2 = some k) : Inn k (some (.inr (.inl o))) := fun v h => by
  cases h
  exact ⟨k, h0, Nat.le_refl k⟩
theorem inn_o1 {o : Otc} (h0 : o.2.2 = some (k + 1)) : Inn k (some (.inr (.inl o))) := fun v h => by
  cases h
  exact ⟨k + 1, h0, Nat.le_succ k⟩
theorem inn_g1 {a b : Nat} {r : Option (Nxt ⊕ (Otc ⊕ Cll))} (h : Inn k r) : Inn k (g1 a b r) := by
  unfold g1
  split
  · exact h
  · exact inn_0
theorem inn_gc {b : Bool} {r : Option (Nxt ⊕ (Otc ⊕ Cll))} (h : Inn k r) : Inn k (gc b r) := by
  cases b
  · exact inn_0
  · exact h
theorem inn_qi {f : Int32 → Stk → Option (Nxt ⊕ (Otc ⊕ Cll))} (h : ∀ x r, Inn k (f x r)) : Inn k (qi st f) := by
  unfold qi
  split
  · exact h _ _
  · exact inn_0
theorem inn_ql {f : Int64 → Stk → Option (Nxt ⊕ (Otc ⊕ Cll))} (h : ∀ x r, Inn k (f x r)) : Inn k (ql st f) := by
  unfold ql
  split
  · exact h _ _
  · exact inn_0
theorem inn_qf {f : UInt32 → Stk → Option (Nxt ⊕ (Otc ⊕ Cll))} (h : ∀ x r, Inn k (f x r)) : Inn k (qf st f) := by
  unfold qf
  split
  · exact h _ _
  · exact inn_0
theorem inn_qd {f : UInt64 → Stk → Option (Nxt ⊕ (Otc ⊕ Cll))} (h : ∀ x r, Inn k (f x r)) : Inn k (qd st f) := by
  unfold qd
  split
  · exact h _ _
  · exact inn_0
theorem inn_qr {f : Nat → Stk → Option (Nxt ⊕ (Otc ⊕ Cll))} (h : ∀ x r, Inn k (f x r)) : Inn k (qr st f) := by
  unfold qr
  split
  · exact h _ _
  · exact inn_0
theorem inn_q1 {f : Value → Stk → Option (Nxt ⊕ (Otc ⊕ Cll))} (h : ∀ x r, Inn k (f x r)) : Inn k (q1 st f) := by
  unfold q1
  split
  · split
    · exact h _ _
    · exact inn_0
  · exact inn_0
theorem inn_xcl {M2 : Nat} {vs : List Value} {r : Stk} : Inn k (xcl M M2 vs r) := by
  unfold xcl
  split
  · intro v h; cases h; exact trivial
  · exact inn_0
theorem inn_xc4 {M2 : Nat} {vs : List Value} {r : Stk} : Inn k (xc4 M M2 vs r) := by
  unfold xc4
  split
  · exact inn_xcl
  · exact inn_0
theorem inn_xpst {i : Instr} : Inn k (xpst M pc i len ls st w (some k) c sl) := by
  unfold xpst
  split
  · exact inn_n
  · exact inn_0
set_option maxHeartbeats 4000000 in
theorem xst_n {i : Instr} : Inn k (xst X M pc i len ls st w (some k) c sl) := by
  cases i
  all_goals first
    | (rw [isP_x rfl]; exact inn_xpst)
    | (unfold xst
       dsimp only
       refine inn_g1 ?_
       repeat' first
         | exact inn_0
         | exact inn_n
         | exact inn_n1
         | exact inn_n2 (by assumption)
         | exact inn_o rfl
         | exact inn_o1 rfl
         | exact inn_xcl
         | exact inn_xc4
         | refine inn_gc ?_
         | refine inn_qi fun _ _ => ?_
         | refine inn_ql fun _ _ => ?_
         | refine inn_qf fun _ _ => ?_
         | refine inn_qd fun _ _ => ?_
         | refine inn_qr fun _ _ => ?_
         | refine inn_q1 fun _ _ => ?_
         | split
         | (rename_i h9; cases h9; done)
         | (rename_i h9; cases h9))
theorem ex_n : ∀ (f M pc : Nat) (ls : Lcs) (st : Stk) (w : Wld) (k c sl : Nat) (o : Otc), ex X f M pc ls st w (some k) c sl = some o → ∃ k2 : Nat, o.2.2 = some k2 ∧ k ≤ k2 := by
  intro f
  induction f with
  | zero => intro M pc ls st w k c sl o h; cases h
  | succ f ih =>
    intro M pc ls st w k c sl o h
    rw [ex] at h
    split at h
    · cases h
    · rename_i i len hd
      split at h
      · cases h
      · rename_i q hq
        obtain ⟨k2, e, hk⟩ := xst_n _ hq
        rw [e] at h
        obtain ⟨k3, e3, hk3⟩ := ih _ _ _ _ _ _ _ _ _ h
        exact ⟨k3, e3, Nat.le_trans hk hk3⟩
      · rename_i q hq
        cases h
        exact xst_n _ hq
      · rename_i q hq
        split at h
        · cases h
        · rename_i o2 ho2
          obtain ⟨k2, e, hk⟩ := ih _ _ _ _ _ _ _ _ _ ho2
          split at h
          · split at h
            · rw [e] at h
              obtain ⟨k3, e3, hk3⟩ := ih _ _ _ _ _ _ _ _ _ h
              exact ⟨k3, e3, Nat.le_trans hk hk3⟩
            · split at h
              · cases h
              · split at h
                · cases h
                  exact ⟨k2, e, hk⟩
                · split at h
                  · rw [e] at h
                    obtain ⟨k3, e3, hk3⟩ := ih _ _ _ _ _ _ _ _ _ h
                    exact ⟨k3, e3, Nat.le_trans hk hk3⟩
                  · cases h
          · cases h
end SIZE
