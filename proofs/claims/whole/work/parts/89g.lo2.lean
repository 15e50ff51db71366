/-! ===== the law: all its turns ===== -/
section LOOP2
variable {X : Cxt} {w : Wld} {n : Option Nat} {Q : (Option Value ⊕ String) → Wld → Option Nat → Prop} {x c sl B : Nat} {T : Nat → Tb} {pa : Nat → Nat} {be : Nat} {Z P C D R Lt V N : Nat → Int32} {A : Nat → Nat → Int32} {l d : Nat → Value} {x5 : Int32} {l6 l7 l8 : Option Value}
theorem and_63 (v : Int32) : ∃ j : Nat, j < 64 ∧ v &&& 63 = nI j := by
  have e : (v &&& 63).toBitVec.toNat = v.toBitVec.toNat % 64 := by
    show (v.toBitVec &&& (63 : Int32).toBitVec).toNat = _
    rw [BitVec.toNat_and]
    exact Nat.and_two_pow_sub_one_eq_mod v.toBitVec.toNat 6
  refine ⟨(v &&& 63).toBitVec.toNat, by rw [e]; exact Nat.mod_lt _ (by decide), ?_⟩
  refine Int32.toBitVec_inj.mp (BitVec.eq_of_toNat_eq ?_)
  show (v &&& 63).toBitVec.toNat = (BitVec.ofNat 32 (v &&& 63).toBitVec.toNat).toNat
  rw [BitVec.toNat_ofNat]
  have := Nat.mod_lt v.toBitVec.toNat (show 64 > 0 by decide)
  omega
theorem len_lt {len i : Nat} (hl : len ≤ 2048) (hi : i ≤ 513) : Int32.ofNat len - 4 < nI (4 * i) ↔ len < 4 * i + 4 := by
  show nI len - nI 4 < nI (4 * i) ↔ _
  by_cases c : 4 ≤ len
  · rw [nI_sub c, nI_ltI (by omega) (by omega)]
    omega
  · refine ⟨fun _ => by omega, fun _ => ?_⟩
    have h0 : nI len - nI 4 < 0 := by
      rcases (show len = 0 ∨ len = 1 ∨ len = 2 ∨ len = 3 by omega) with e | e | e | e <;> rw [e] <;> decide
    exact Int32.lt_of_lt_of_le h0 (nI_pos' (by omega))
theorem law_loop (hX : LitX X) (hl : X.2.2.2.2.2.1 ≤ 2048) (hQ : ∀ W n, Q (.inl (some (.int 1))) W n) : ∀ (t i B c sl : Nat) (T : Nat → Tb) (pa : Nat → Nat) (be : Nat) (Z P C D R Lt V N : Nat → Int32) (A : Nat → Nat → Int32) (l d : Nat → Value) (n : Option Nat) (l6 l7 l8 : Option Value), X.2.2.2.2.2.1 < 4 * i + 4 + 4 * t → 4 * i ≤ 2052 → B ≤ 6000 * i → c ≤ 1000 + i → sl ≤ 4000 + 6 * i → REL B T pa be Z P C R Lt V N A →
    Ev X 223 28 [some (.ref X.2.2.2.2.1), some (.ref x), some (.ref (x + 139)), some (.ref (x + 148)), some (.ref (x + 149)), some (.int (nI (4 * i))), l6, l7, l8] [] (FW w x T pa be Z P C D R Lt V N A l d) n c sl Q := by
  intro t
  induction t with
  | zero =>
    intro i B c sl T pa be Z P C D R Lt V N A l d n l6 l7 l8 h1 h2 hB hc hs h
    refine L_law_28.mpr (L_law_30.mpr (L_law_31.mpr (L_law_32.mpr (L_law_33.mpr (L_law_34.mpr ?_)))))
    rw [if_pos ((len_lt hl (by omega)).mpr (by omega))]
    exact L_law_1859.mpr ((L_law_1860 rfl).mpr (hQ _ _))
  | succ t ih =>
    intro i B c sl T pa be Z P C D R Lt V N A l d n l6 l7 l8 h1 h2 hB hc hs h
    refine L_law_28.mpr (L_law_30.mpr (L_law_31.mpr (L_law_32.mpr (L_law_33.mpr (L_law_34.mpr ?_)))))
    by_cases hx : X.2.2.2.2.2.1 < 4 * i + 4
    · rw [if_pos ((len_lt hl (by omega)).mpr hx)]
      exact L_law_1859.mpr ((L_law_1860 rfl).mpr (hQ _ _))
    · rw [if_neg (fun z => hx ((len_lt hl (by omega)).mp z))]
      have ik : ∀ k, k < 4 → inr_ (nI (4 * i + k)) X.2.2.2.2.2.1 = true := fun k hk => inr_nI (by omega) (by omega)
      have i0 : inr_ (nI (4 * i)) X.2.2.2.2.2.1 = true := ik 0 (by decide)
      have i1 : inr_ (nI (4 * i) + 1) X.2.2.2.2.2.1 = true := by rw [nI_1]; exact ik 1 (by decide)
      have i2 : inr_ (nI (4 * i) + 2) X.2.2.2.2.2.1 = true := by rw [show (2 : Int32) = nI 2 from rfl, nI_add]; exact ik 2 (by decide)
      have i3 : inr_ (nI (4 * i) + 3) X.2.2.2.2.2.1 = true := by rw [show (3 : Int32) = nI 3 from rfl, nI_add]; exact ik 3 (by decide)
      refine L_law_37.mpr (L_law_38.mpr ((L_law_40 i0).mpr (L_law_41.mpr (L_law_43.mpr ?_))))
      obtain ⟨j, hj, e⟩ := and_63 (X.2.2.2.2.2.2 (nI (4 * i)).toNatClampNeg)
      rw [e]
      refine law_case hX h (by omega) (by omega) (by omega) i1 i2 i3 (fun T' pa' be' Z' P' C' D' R' Lt' V' N' A' l' d' n' c' sl' k6 k7 k8 hr hc' hs' => ?_) hj
      refine L_law_1853.mpr (L_law_1856.mpr ?_)
      have e4 : nI (4 * i) + 4 = nI (4 * (i + 1)) := by rw [show (4 : Int32) = nI 4 from rfl, nI_add]; rfl
      rw [e4]
      exact ih (i + 1) (B + 6000) c' sl' T' pa' be' Z' P' C' D' R' Lt' V' N' A' l' d' n' k6 k7 k8 (by omega) (by omega) (by omega) (by omega) (by omega) hr
end LOOP2
