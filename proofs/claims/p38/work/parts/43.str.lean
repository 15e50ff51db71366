/-! ===== the String constants ===== -/
/-- what the context must say of the String constants: their bytes -/
def LitX (X : Cxt) : Prop := ∀ j, j < 8 → ∃ v, X.2.1 (X.1 j) = some v ∧ X.2.2.1 v = some ((LBY.getD j []).length, fun i => (LBY.getD j []).getD i 0)
def kndF (c : Int32) : Option Nat := if c = 43 then some 0 else if c = 45 then some 1 else if c = 109 then some 2 else if c = 107 then some 3 else if c = 119 then some 4 else if c = 112 then some 5 else if c = 100 then some 6 else if c = 116 then some 7 else none
theorem knd_tab : ∀ j, j < 256 → ff (fun i => decide ((LBY.getD 0 []).getD i 0 = (nI j).toInt8.toInt32)) 8 0 = kndF (nI j) := by decide +kernel
theorem kndF_big {j : Nat} (h : 256 ≤ j) (h2 : j < 65536) : kndF (nI j) = none := by
  have e : ∀ k : Nat, k < 256 → ¬ nI j = nI k := fun k hk q => by
    have := (nI_eq (by omega) (by omega)).mp q
    omega
  unfold kndF
  have f : ∀ k : Nat, k < 256 → ∀ c : Int32, nI k = c → ¬ nI j = c := fun k hk c hc => hc ▸ e k hk
  rw [if_neg (f 43 (by decide) 43 rfl), if_neg (f 45 (by decide) 45 rfl), if_neg (f 109 (by decide) 109 rfl), if_neg (f 107 (by decide) 107 rfl), if_neg (f 119 (by decide) 119 rfl), if_neg (f 112 (by decide) 112 rfl), if_neg (f 100 (by decide) 100 rfl), if_neg (f 116 (by decide) 116 rfl)]
section STR
variable {X : Cxt} {w : Wld} {n : Option Nat} {Q : (Option Value ⊕ String) → Wld → Option Nat → Prop}
theorem sp_isLatin1 {a v : Nat} (h : X.2.1 a = some v) : Ev X 30 0 [some (.ref a)] [] w n 0 0 Q ↔ Q (.inl (some (.int 1))) w n := by
  have e1 : (1 : Int32) = 0 ↔ False := by decide
  simp only [J0_isLatin1_aae02_0, J0_isLatin1_aae02_3, J0_isLatin1_aae02_6, J0_isLatin1_aae02_10, J0_isLatin1_aae02_13, J0_isLatin1_aae02_14, J0_isLatin1_aae02_17, J0_isLatin1_aae02_18 okz0, J0_isLatin1_aae02_18 okz1, J0_isLatin1_aae02_7 h, e1, if_false, if_true]
theorem okb0 : okr (some .byte) 0 = true := rfl
theorem sp_coder {a v : Nat} (h : X.2.1 a = some v) : Ev X 31 0 [some (.ref a)] [] w n 0 0 Q ↔ Q (.inl (some (.int 0))) w n := by
  have e1 : (1 : Int32) = 0 ↔ False := by decide
  simp only [J0_coder_7d493_0, J0_coder_7d493_3, J0_coder_7d493_6, J0_coder_7d493_10, J0_coder_7d493_13, J0_coder_7d493_7 h, J0_coder_7d493_14 okb0, e1, if_false]
theorem sp_slen {j v N : Nat} {f : Nat → Int32} (h : X.2.1 j = some v) (h2 : X.2.2.1 v = some (N, f)) : Ev X 32 0 [some (.ref j)] [] w n 0 0 Q ↔ Q (.inl (some (.int (nI N)))) w n := by
  have hs : (X.2.1 j).isSome = true := by rw [h]; rfl
  have e : nI N >>> (0 &&& 31) = nI N := by simp
  simp only [J0_length_8abf5_0, J0_length_8abf5_5, J0_length_8abf5_9, J0_length_8abf5_10, J0_length_8abf5_1 h, J0_length_8abf5_4 h2, J0_length_8abf5_6 hs, sp_coder h, Kr_v, Kj_v]
  show Q (.inl (some (.int (nI N >>> (0 &&& 31))))) w n ↔ _
  rw [e]
theorem sp_checkIndex3 {j N : Nat} {v : Value} (h : j < N) (hN : N < 2 ^ 31) : Ev X 39 0 [some (.int (nI j)), some (.int (nI N)), some v] [] w n 0 0 Q ↔ Q (.inl (some (.int (nI j)))) w n := by
  have h1 := nI_pos (show j < 2 ^ 31 by omega)
  have h2 := nI_lt h hN
  simp only [J3_checkIndex_8e157_0, J3_checkIndex_8e157_1, J3_checkIndex_8e157_4, J3_checkIndex_8e157_5, J3_checkIndex_8e157_6, J3_checkIndex_8e157_9, J3_checkIndex_8e157_10, J3_checkIndex_8e157_11, J3_checkIndex_8e157_16, J3_checkIndex_8e157_17, h1, h2, if_false, if_true]
theorem sp_checkIndex2 {j N : Nat} (h : j < N) (hN : N < 2 ^ 31) : Ev X 40 0 [some (.int (nI j)), some (.int (nI N))] [] w n 0 0 Q ↔ Q (.inl none) w n := by
  simp only [J0_checkIndex_df160_0, J0_checkIndex_df160_1, J0_checkIndex_df160_2, J0_checkIndex_df160_5, J0_checkIndex_df160_8, J0_checkIndex_df160_9, sp_checkIndex3 h hN, Kr_v, Kj_v]
theorem sp_charAt1 {v N j : Nat} {f : Nat → Int32} (h2 : X.2.2.1 v = some (N, f)) (h : j < N) (hN : N < 2 ^ 31) {y : Int32} (hy : ((f j &&& 255).toUInt32 % 65536).toInt32 = y) (ho : okr (some .char) y = true) : Ev X 41 0 [some (.ref v), some (.int (nI j))] [] w n 0 0 Q ↔ Q (.inl (some (.int y))) w n := by
  have hi : inr_ (nI j) N = true := inr_nI h hN
  have e : (nI j).toNatClampNeg = j := nI_clamp (by omega)
  have hN2 : Int32.ofNat N = nI N := rfl
  simp only [J1_charAt_3b067_0, J1_charAt_3b067_1, J1_charAt_3b067_3, J1_charAt_3b067_6, J1_charAt_3b067_7, J1_charAt_3b067_9, J1_charAt_3b067_12, J1_charAt_3b067_13, J1_charAt_3b067_2 h2, J1_charAt_3b067_8 h2 hi, hN2, sp_checkIndex2 h hN, Kr_n, Kj_n, e, hy, J1_charAt_3b067_14 ho]
theorem sp_charAt {a v N j : Nat} {f : Nat → Int32} (h1 : X.2.1 a = some v) (h2 : X.2.2.1 v = some (N, f)) (h : j < N) (hN : N < 2 ^ 31) {y : Int32} (hy : ((f j &&& 255).toUInt32 % 65536).toInt32 = y) (ho : okr (some .char) y = true) : Ev X 42 0 [some (.ref a), some (.int (nI j))] [] w n 0 0 Q ↔ Q (.inl (some (.int y))) w n := by
  have e1 : (1 : Int32) = 0 ↔ False := by decide
  have hs : (X.2.1 a).isSome = true := by rw [h1]; rfl
  simp only [J0_charAt_5068e_0, J0_charAt_5068e_1 hs, sp_isLatin1 h1, Kr_v, Kj_v, J0_charAt_5068e_4, e1, if_false, J0_charAt_5068e_7, J0_charAt_5068e_8 h1, J0_charAt_5068e_11, J0_charAt_5068e_12, sp_charAt1 h2 h hN hy ho, J0_charAt_5068e_15 ho]
/-- what a String constant answers -/
theorem sp_litAt (hX : LitX X) {j i : Nat} (hj : j < 8) (hi : i < (LBY.getD j []).length) {y : Int32} (hy : (((LBY.getD j []).getD i 0 &&& 255).toUInt32 % 65536).toInt32 = y) (ho : okr (some .char) y = true) : Ev X 42 0 [some (.ref (X.1 j)), some (.int (nI i))] [] w n 0 0 Q ↔ Q (.inl (some (.int y))) w n := by
  obtain ⟨v, h1, h2⟩ := hX j hj
  have hN : (LBY.getD j []).length < 2 ^ 31 := by
    rcases (show j = 0 ∨ j = 1 ∨ j = 2 ∨ j = 3 ∨ j = 4 ∨ j = 5 ∨ j = 6 ∨ j = 7 by omega) with rfl | rfl | rfl | rfl | rfl | rfl | rfl | rfl <;> decide
  exact sp_charAt h1 h2 hi hN hy ho
theorem sp_litLen (hX : LitX X) {j : Nat} (hj : j < 8) : Ev X 32 0 [some (.ref (X.1 j))] [] w n 0 0 Q ↔ Q (.inl (some (.int (nI (LBY.getD j []).length)))) w n := by
  obtain ⟨v, h1, h2⟩ := hX j hj
  exact sp_slen h1 h2
theorem lit_some (hX : LitX X) {j : Nat} (hj : j < 8) : (X.2.1 (X.1 j)).isSome = true := by
  obtain ⟨v, h1, h2⟩ := hX j hj
  rw [h1]; rfl
theorem sp_indexOfChar {v : Nat} {f : Nat → Int32} {c : Int32} (h2 : X.2.2.1 v = some (8, f)) : Ev X 34 0 [some (.ref v), some (.int c), some (.int 0), some (.int 8), none, none] [] w n 0 0 Q ↔ Q (.inl (some (.int (oI (ff (fun i => decide (f i = c.toInt8.toInt32)) 8 0))))) w n := by
  have h := loop_ff (P := fun k => Ev X 34 7 [some (.ref v), some (.int c), some (.int 0), some (.int 8), some (.int c.toInt8.toInt32), some (.int (nI k))] [] w n 0 0 Q) (R := fun j => Q (.inl (some (.int (nI j)))) w n) (p := fun i => decide (f i = c.toInt8.toInt32)) (n := 8) (fun k hk => by
    have hlt : nI k < 8 := show nI k < nI 8 from nI_lt hk (by decide)
    have hi : inr_ (nI k) 8 = true := inr_nI hk (by decide)
    have e : (nI k).toNatClampNeg = k := nI_clamp (by omega)
    simp only [J1_indexOfChar_4cfef_0, J1_indexOfChar_4cfef_1, J1_indexOfChar_4cfef_2, J1_indexOfChar_4cfef_4, J1_indexOfChar_4cfef_5, J1_indexOfChar_4cfef_9, J1_indexOfChar_4cfef_10, J1_indexOfChar_4cfef_13, J1_indexOfChar_4cfef_14, J1_indexOfChar_4cfef_17, J1_indexOfChar_4cfef_19, J1_indexOfChar_4cfef_22, J1_indexOfChar_4cfef_24, J1_indexOfChar_4cfef_25, J1_indexOfChar_4cfef_28, J1_indexOfChar_4cfef_31, J1_indexOfChar_4cfef_32, J1_indexOfChar_4cfef_16 h2 hi, J1_indexOfChar_4cfef_7, hlt, if_true, e, nI_1]
    by_cases b : f k = c.toInt8.toInt32 <;> simp [b]) 8 0 rfl
  have z : nI 0 = 0 := rfl
  simp only [J1_indexOfChar_4cfef_0, J1_indexOfChar_4cfef_1, J1_indexOfChar_4cfef_2, J1_indexOfChar_4cfef_4, J1_indexOfChar_4cfef_5]
  refine h.trans ?_
  unfold oI
  have e8 : nI 8 < 8 ↔ False := by decide
  cases ff (fun i => decide (f i = c.toInt8.toInt32)) 8 0 with
  | some j => exact Iff.rfl
  | none => simp only [J1_indexOfChar_4cfef_0, J1_indexOfChar_4cfef_1, J1_indexOfChar_4cfef_2, J1_indexOfChar_4cfef_4, J1_indexOfChar_4cfef_5, J1_indexOfChar_4cfef_7, J1_indexOfChar_4cfef_9, J1_indexOfChar_4cfef_10, J1_indexOfChar_4cfef_13, J1_indexOfChar_4cfef_14, J1_indexOfChar_4cfef_17, J1_indexOfChar_4cfef_19, J1_indexOfChar_4cfef_22, J1_indexOfChar_4cfef_24, J1_indexOfChar_4cfef_25, J1_indexOfChar_4cfef_28, J1_indexOfChar_4cfef_31, J1_indexOfChar_4cfef_32, e8, if_false]
theorem sp_canEncode {j : Nat} (hj : j < 65536) : Ev X 33 0 [some (.int (nI j))] [] w n 0 0 Q ↔ Q (.inl (some (.int (if j < 256 then 1 else 0)))) w n := by
  have h1 := nI_pos (show j < 2 ^ 31 by omega)
  by_cases h : j < 256
  · have h2 : ¬ (255 : Int32) < nI j := fun q => nI_nlt (show j ≤ 255 by omega) (by decide) (show nI 255 < nI j from q)
    simp only [J1_canEncode_9a6ad_0, J1_canEncode_9a6ad_1, J1_canEncode_9a6ad_4, J1_canEncode_9a6ad_5, J1_canEncode_9a6ad_8, J1_canEncode_9a6ad_11, J1_canEncode_9a6ad_12, J1_canEncode_9a6ad_15, h1, h2, h, if_false, if_true, J1_canEncode_9a6ad_16 okz1]
  · have h2 : (255 : Int32) < nI j := show nI 255 < nI j from nI_lt (by omega) (by omega)
    simp only [J1_canEncode_9a6ad_0, J1_canEncode_9a6ad_1, J1_canEncode_9a6ad_4, J1_canEncode_9a6ad_5, J1_canEncode_9a6ad_8, J1_canEncode_9a6ad_11, J1_canEncode_9a6ad_12, J1_canEncode_9a6ad_15, h1, h2, h, if_false, if_true, J1_canEncode_9a6ad_16 okz0]
theorem sp_indexOf3 {v j : Nat} {f : Nat → Int32} (h2 : X.2.2.1 v = some (8, f)) (hj : j < 65536) : Ev X 35 0 [some (.ref v), some (.int (nI j)), some (.int 0), some (.int 8)] [] w n 0 0 Q ↔ Q (.inl (some (.int (if j < 256 then oI (ff (fun i => decide (f i = (nI j).toInt8.toInt32)) 8 0) else -1)))) w n := by
  have e1 : (1 : Int32) = 0 ↔ False := by decide
  have m1 : imx 0 0 = 0 := rfl
  have m2 : imn 8 (Int32.ofNat 8) = 8 := rfl
  have m3 : (0 : Int32) < 8 := by decide
  by_cases h : j < 256
  · simp only [J1_indexOf_4cfef_0, J1_indexOf_4cfef_1, J1_indexOf_4cfef_4, J1_indexOf_4cfef_7, J1_indexOf_4cfef_8, J1_indexOf_4cfef_9, J1_indexOf_4cfef_10, J1_indexOf_4cfef_11, J1_indexOf_4cfef_14, J1_indexOf_4cfef_15, J1_indexOf_4cfef_16, J1_indexOf_4cfef_18, J1_indexOf_4cfef_21, J1_indexOf_4cfef_22, J1_indexOf_4cfef_23, J1_indexOf_4cfef_24, J1_indexOf_4cfef_27, J1_indexOf_4cfef_28, J1_indexOf_4cfef_29, J1_indexOf_4cfef_30, J1_indexOf_4cfef_31, J1_indexOf_4cfef_32, J1_indexOf_4cfef_33, J1_indexOf_4cfef_36, J1_indexOf_4cfef_17 h2, sp_canEncode hj, h, if_true, Kr_v, Kj_v, e1, if_false, m1, m2, m3, sp_indexOfChar h2]
  · simp only [J1_indexOf_4cfef_0, J1_indexOf_4cfef_1, J1_indexOf_4cfef_4, J1_indexOf_4cfef_7, J1_indexOf_4cfef_8, J1_indexOf_4cfef_9, J1_indexOf_4cfef_10, J1_indexOf_4cfef_11, J1_indexOf_4cfef_14, J1_indexOf_4cfef_15, J1_indexOf_4cfef_16, J1_indexOf_4cfef_18, J1_indexOf_4cfef_21, J1_indexOf_4cfef_22, J1_indexOf_4cfef_23, J1_indexOf_4cfef_24, J1_indexOf_4cfef_27, J1_indexOf_4cfef_28, J1_indexOf_4cfef_29, J1_indexOf_4cfef_30, J1_indexOf_4cfef_31, J1_indexOf_4cfef_32, J1_indexOf_4cfef_33, J1_indexOf_4cfef_36, sp_canEncode hj, h, if_true, Kr_v, Kj_v, if_false]
theorem sp_litIndex (hX : LitX X) {j : Nat} (hj : j < 65536) : Ev X 37 0 [some (.ref (X.1 0)), some (.int (nI j))] [] w n 0 0 Q ↔ Q (.inl (some (.int (oI (kndF (nI j)))))) w n := by
  obtain ⟨v, h1, h2⟩ := hX 0 (by decide)
  have h2' : X.2.2.1 v = some (8, fun i => (LBY.getD 0 []).getD i 0) := h2
  have hs : (X.2.1 (X.1 0)).isSome = true := by rw [h1]; rfl
  have e1 : (1 : Int32) = 0 ↔ False := by decide
  have n8 : nI 8 = 8 := rfl
  have key : (if j < 256 then oI (ff (fun i => decide ((LBY.getD 0 []).getD i 0 = (nI j).toInt8.toInt32)) 8 0) else -1) = oI (kndF (nI j)) := by
    by_cases h : j < 256
    · rw [if_pos h, knd_tab j h]
    · rw [if_neg h, kndF_big (by omega) hj]; rfl
  simp only [J0_indexOf_0f7a4_0, J0_indexOf_0f7a4_1, J0_indexOf_0f7a4_2, J0_indexOf_0f7a4_6, J0_indexOf_0f7a4_3 hs, J0_indexOf_7cf53_0, J0_indexOf_7cf53_1 hs, sp_isLatin1 h1, Kr_v, Kj_v, J0_indexOf_7cf53_4, e1, if_false, J0_indexOf_7cf53_7, J0_indexOf_7cf53_8 h1, J0_indexOf_7cf53_11, J0_indexOf_7cf53_12, J0_indexOf_7cf53_13, J0_indexOf_7cf53_14 hs, sp_slen h1 h2', n8, J0_indexOf_7cf53_17, sp_indexOf3 h2' hj, J0_indexOf_7cf53_20, J0_indexOf_7cf53_36, key]
end STR
