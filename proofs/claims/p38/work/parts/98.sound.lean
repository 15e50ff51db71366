/-! ===== SOUNDNESS of a run ===== -/
theorem LH.mono {c2 : Bool} {nL : Nat} {lsR : Array Slot} {ls ls2 : Lcs} (h : LH c2 nL lsR ls) (hlen : ls2.length = ls.length) (hs : ∀ (i : Nat) (v : Value), ls2[i]? = some (some v) → ls[i]? = some (some v)) : LH c2 nL lsR ls2 := by
  refine ⟨hlen.trans h.1, ⟨h.2.1.1, h.2.1.2.1, fun q hq => ?_⟩, fun hf i v hv => h.2.2 hf i v (hs i v hv)⟩
  obtain ⟨j, u⟩ := q
  exact h.2.1.2.2 (j, u) (mem_prs.mpr (hs j u (mem_prs.mp hq)))
theorem MKT_L : MKT.all (fun q => Nat.beq q.2.2.length (mL q.1)) = true := by decide +kernel
theorem LH.mk {M pc : Nat} {lsR : Array Slot} {ls : Lcs} (h : LH (m2 M) (mL M) lsR ls) : LH (m2 M) (mL M) lsR (e_mk M pc ls) := by
  unfold e_mk
  split
  · rename_i q hq
    have h3 := List.all_eq_true.mp MKT_L q (List.mem_of_find?_eq_some hq)
    have h4 := List.find?_some hq
    have hM : q.1 = M := Nat.eq_of_beq_eq_true (Bool.and_eq_true_iff.mp h4).1
    have hl : q.2.2.length = ls.length := by rw [Nat.eq_of_beq_eq_true h3, hM, h.1]
    refine h.mono (by rw [List.length_zipWith, hl, Nat.min_self]) (fun i v hv => ?_)
    rw [List.getElem?_zipWith] at hv
    cases h5 : q.2.2[i]? with
    | none => rw [h5] at hv; cases hv
    | some b =>
      cases h6 : ls[i]? with
      | none => rw [h5, h6] at hv; cases hv
      | some u =>
        rw [h5, h6] at hv
        cases b with
        | true => exact hv
        | false => cases hv
  · exact h
theorem lv_args_at : ∀ (vs : List Value) (k : Nat), (∀ v ∈ vs, v.category = 1) → ∀ (j : Nat) (v : Value), vs[j]? = some v → (k + j, v) ∈ lv_args k vs := by
  intro vs
  induction vs with
  | nil => intro k _ j v hv; simp at hv
  | cons a vs ih =>
    intro k hc j v hv
    have hca := hc a List.mem_cons_self
    unfold lv_args
    match j, hv with
    | 0, hv =>
      cases hv
      exact List.mem_cons_self
    | j + 1, hv =>
      refine List.mem_cons_of_mem _ ?_
      have h9 := ih (k + 1) (fun u hu => hc u (List.mem_cons_of_mem _ hu)) j v hv
      rw [show k + (j + 1) = k + 1 + j by omega]
      first
        | exact h9
        | (rw [hca]; exact h9)
        | (simp only [hca]; exact h9)
theorem sl_len : ∀ vs : List Value, (∀ v ∈ vs, v.category = 1) → (lg_sl vs).length = vs.length := by
  intro vs
  induction vs with
  | nil => intro _; rfl
  | cons a vs ih =>
    intro hc
    have hca := hc a List.mem_cons_self
    have h9 := ih (fun u hu => hc u (List.mem_cons_of_mem _ hu))
    unfold lg_sl at h9 ⊢
    rw [List.flatMap_cons, List.length_append, h9, if_neg (by rw [hca]; decide)]
    simp only [List.length_cons, List.length_nil]
    omega
theorem LH_entry {M : Nat} {vs : List Value} (hc : ∀ v ∈ vs, v.category = 1) (hl : vs.length ≤ mL M) : LH (m2 M) (mL M) (lg_sl vs ++ List.replicate (mL M - (lg_sl vs).length) Slot.unset).toArray (entl M vs) := by
  have h1 := lv_entry vs (n := mL M) (by rw [sl_len vs hc]; exact hl)
  have hat : ∀ (i : Nat) (v : Value), (entl M vs)[i]? = some (some v) → vs[i]? = some v := by
    intro i v hv
    unfold entl at hv
    by_cases hi : i < vs.length
    · rw [List.getElem?_append_left (by simpa using hi), List.getElem?_map] at hv
      cases hx : vs[i]? with
      | none => rw [hx] at hv; cases hv
      | some u => rw [hx] at hv; cases hv; rfl
    · rw [List.getElem?_append_right (by simpa using hi)] at hv
      have := List.mem_of_getElem? hv
      have := List.eq_of_mem_replicate this
      cases this
  refine ⟨by unfold entl; simp; omega, ⟨h1.1, h1.2.1, fun q hq => ?_⟩, fun _ i v hv => hc v (List.mem_of_getElem? (hat i v hv))⟩
  obtain ⟨j, u⟩ := q
  have h2 := lv_args_at vs 0 hc j u (hat j u (mem_prs.mp hq))
  rw [Nat.zero_add] at h2
  exact h1.2.2 (j, u) h2
/-- a handler's row: its entry of the table, the words, what is ahead of it, its first instruction -/
def okH (q : Hrw) : Bool := match q with
  | (M, e, hp, k, nx, a, b, ct, ln, pc1, pc2, j, pe, pp) =>
    decide (M < LAWM) && decide ((mH M)[j]? = some (a, b, hp, ct)) && decide (ct ≠ 0) && inG (.classLink (cname (mN M)) ct (EXN.getD e "")) && decide (Cond.castable (EXN.getD e "") (EXN.getD e "") ∈ lw_tbl) && decide (k < mL M) && decide (m2 M = false) && decide (nx = hp + ln) &&
    (decide (∃ kk : Fin 4, (kk : Nat) = k ∧ decode (mB M) hp = .ok (.astore_n kk, 1) ∧ ln = 1) || decide (decode (mB M) hp = .ok (.astore k, 2) ∧ ln = 2)) &&
    (match j with
      | 0 => true
      | 1 => (match (mH M)[0]? with
        | some h => decide (h.2.2.2 ≠ 0) && inG (.classLink (cname (mN M)) h.2.2.2 (EXN.getD pe "")) && decide ((e, pe) ∈ NCP)
        | none => false)
      | _ => false)
theorem HT_ok : HT.all okH = true := by decide +kernel
