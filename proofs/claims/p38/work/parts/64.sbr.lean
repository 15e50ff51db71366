/-! ===== a StringBuilder's road: new, append a constant, append a digit, toString ===== -/
/-- a StringBuilder at b, its sixteen bytes behind it, c of them taken -/
def sbW (w : Wld) (b c : Nat) (f : Nat → Value) : Wld := fun a => if a = b then some (.inr (5, [.ref (b + 1), .int 0, .int 0, .int (nI c)])) else if a = b + 1 then some (.inl (3, 16, f)) else w a
def Hol (f : Nat → Value) (L : List Int32) : Prop := ∀ i, i < L.length → f i = .int (L.getD i 0)
def ByL (L : List Int32) : Prop := ∀ c, c ∈ L → okv .byte (.int c) = true
/-- addresses at which no constant lies -/
def Nok (X : Cxt) (b0 : Nat) : Prop := ∀ a, b0 ≤ a → X.2.1 a = none ∧ X.2.2.1 a = none
def dgt : Nat → Int32 := fun i => nI (48 + i % 10)
def DigX (X : Cxt) : Prop := X.2.2.1 (X.1 100) = some (100, dgt)
section SBR
variable {X : Cxt} {w : Wld} {n : Option Nat} {Q : (Option Value ⊕ String) → Wld → Option Nat → Prop} {b c b0 : Nat} {f : Nat → Value} {L K : List Int32} {l0 l1 l2 l3 : Option Value} {st : Stk} {a : Nat}
theorem sbr_b : sbW w b c f b = some (.inr (5, [.ref (b + 1), .int 0, .int 0, .int (nI c)])) := if_pos rfl
theorem sbr_1 : sbW w b c f (b + 1) = some (.inl (3, 16, f)) := by unfold sbW; rw [if_neg (by omega), if_pos rfl]
theorem sbr_g0 : gf (sbW w b c f) b 5 0 = some (.ref (b + 1)) := by unfold gf; rw [sbr_b]; rfl
theorem sbr_g1 : gf (sbW w b c f) b 5 1 = some (.int 0) := by unfold gf; rw [sbr_b]; rfl
theorem sbr_g3 : gf (sbW w b c f) b 5 3 = some (.int (nI c)) := by unfold gf; rw [sbr_b]; rfl
theorem sbr_h : hasc (sbW w b c f) b 5 = true := by unfold hasc; rw [sbr_b]; rfl
theorem sbr_w {g : Nat → Value} : wset (sbW w b c f) (b + 1) (.inl (3, 16, g)) = sbW w b c g := by
  refine wset_same sbr_1 (fun d hd => ?_)
  unfold sbW
  rw [if_neg hd, if_neg hd]
theorem sbr_pc {k : Nat} : pf (sbW w b c f) b 5 3 (.int (nI k)) = some (sbW w b k f) := by
  unfold pf
  rw [sbr_b]
  dsimp only
  rw [if_pos ⟨rfl, (by decide : 3 < 4), rfl⟩]
  congr 1
  refine wset_same sbr_b (fun d hd => ?_)
  unfold sbW
  rw [if_neg hd, if_neg hd]
theorem c153_9 {v : Nat} (h : X.2.1 a = some v) : Ev X 153 9 [l0, l1, l2, l3] (.ref a :: st) w n 0 0 Q ↔ Ev X 153 12 [l0, l1, l2, l3] (.ref v :: st) w n 0 0 Q := E_getS0 (by decide +kernel : okP 153 = true) (by decide +kernel) (show decode (mB 153) 9 = .ok (.getfield 9, 3) by decide +kernel) (by decide +kernel) h
theorem c153_18 {v : Nat} (h : X.2.1 a = some v) : Ev X 153 18 [l0, l1, l2, l3] (.ref a :: st) w n 0 0 Q ↔ Ev X 153 21 [l0, l1, l2, l3] (.ref v :: st) w n 0 0 Q := E_getS0 (by decide +kernel : okP 153 = true) (by decide +kernel) (show decode (mB 153) 18 = .ok (.getfield 9, 3) by decide +kernel) (by decide +kernel) h
theorem sbr_new (hw : w b = some (.inr (5, dflt 5))) (hQ : ∀ f, Q (.inl none) (sbW w b 0 f) (some (b + 2))) : Ev X 150 0 [some (.ref b)] [] w (some (b + 1)) 0 0 Q := by
  refine J4_init_da8c8_0.mpr (J4_init_da8c8_1.mpr (?_))
  refine J4_init_da8c8_3.mpr ?_
  refine J5_init_d00df_0.mpr (J5_init_d00df_1.mpr (J5_init_d00df_4.mpr (?_)))
  refine J5_init_d00df_7.mpr (ifF (by decide) ?_)
  refine J5_init_d00df_10.mpr (J5_init_d00df_11.mpr (?_))
  refine (J5_init_d00df_12 (m := 16) (by decide)).mpr ?_
  have e1 : wset w (b + 1) (.inl (3, 16, fun _ => .int 0)) b = some (.inr (5, dflt 5)) := by
    unfold wset
    rw [if_neg (by omega), hw]
  refine J5_init_d00df_14.mpr ⟨wset (wset w (b + 1) (.inl (3, 16, fun _ => .int 0))) b (.inr (5, (dflt 5).set 0 (.ref (b + 1)))), ?_, ?_⟩
  · unfold pf
    rw [e1]
    rfl
  refine J5_init_d00df_17.mpr (J5_init_d00df_18.mpr (?_))
  refine J5_init_d00df_19.mpr ⟨sbW w b 0 (fun _ => .int 0), ?_, ?_⟩
  · unfold pf
    rw [show wset (wset w (b + 1) (.inl (3, 16, fun _ => .int 0))) b (.inr (5, (dflt 5).set 0 (.ref (b + 1)))) b = some (.inr (5, (dflt 5).set 0 (.ref (b + 1)))) from if_pos rfl]
    dsimp only
    rw [if_pos ⟨rfl, by rw [List.length_set]; decide, rfl⟩]
    congr 1
    refine wset_same ?_ (fun d hd => ?_)
    · exact sbr_b
    · unfold sbW wset
      rw [if_neg hd, if_neg hd]
  refine J5_init_d00df_22.mpr (J5_init_d00df_38.mpr (?_))
  exact J4_init_da8c8_6.mpr (hQ _)
theorem ec_le : ∀ k : Nat, k ≤ 16 → ¬ (0 : Int32) < nI k - (nI 16 >>> (0 &&& 31)) := by decide
theorem sbr_ens {k : Nat} (hk : k ≤ 16) (h0 : X.2.1 b = none) (h1 : X.2.2.1 (b + 1) = none) (hQ : Q (.inl none) (sbW w b c f) n) : Ev X 151 0 [some (.ref b), some (.int (nI k)), none] [] (sbW w b c f) n 0 0 Q := by
  refine J5_ensureCapacityInternal_d00df_0.mpr (?_)
  refine (J5_ensureCapacityInternal_d00df_1 h0).mpr ⟨_, sbr_g0, ?_⟩
  refine (J5_ensureCapacityInternal_d00df_4 h1 sbr_1).mpr (J5_ensureCapacityInternal_d00df_5.mpr (?_))
  refine (J5_ensureCapacityInternal_d00df_6 h0).mpr ⟨_, sbr_g1, ?_⟩
  refine J5_ensureCapacityInternal_d00df_9.mpr (J5_ensureCapacityInternal_d00df_10.mpr (J5_ensureCapacityInternal_d00df_11.mpr (J5_ensureCapacityInternal_d00df_12.mpr (J5_ensureCapacityInternal_d00df_13.mpr (?_)))))
  refine J5_ensureCapacityInternal_d00df_14.mpr (ifF (ec_le k hk) ?_)
  exact J5_ensureCapacityInternal_d00df_38.mpr hQ
theorem sbr_inf {v : Nat} (hs : X.2.1 a = some v) (h0 : X.2.1 b = none) (hQ : Q (.inl none) (sbW w b c f) n) : Ev X 152 0 [some (.ref b), some (.ref a)] [] (sbW w b c f) n 0 0 Q := by
  refine J5_inflateIfNeededFor_a7421_0.mpr (?_)
  refine J5_inflateIfNeededFor_a7421_3.mpr (ifF (by decide) ?_)
  refine J5_inflateIfNeededFor_a7421_6.mpr (?_)
  refine (J5_inflateIfNeededFor_a7421_7 h0).mpr ⟨_, sbr_g1, ?_⟩
  refine J5_inflateIfNeededFor_a7421_10.mpr (?_)
  refine (J5_inflateIfNeededFor_a7421_11 (Or.inl (by rw [hs]; rfl))).mpr ?_
  refine (sp_coder hs).mpr ?_
  refine J5_inflateIfNeededFor_a7421_14.mpr (ifT (rfl) ?_)
  exact J5_inflateIfNeededFor_a7421_21.mpr hQ
theorem by_okv (hb : ByL K) : (List.range K.length).all (fun i => okv .byte (.int (K.getD i 0))) = true := by
  rw [List.all_eq_true]
  intro i hi
  exact hb _ (getD_mem (List.mem_range.mp hi))
theorem Hol.app (hf : Hol f L) : Hol (cpy (fun j => .int (K.getD j 0)) f 0 L.length K.length) (L ++ K) := by
  intro i hi
  rw [List.length_append] at hi
  unfold cpy
  dsimp only
  by_cases h : i < L.length
  · rw [if_neg (by omega), hf i h, List.getD_eq_getElem?_getD, List.getD_eq_getElem?_getD, List.getElem?_append_left h]
  · rw [if_pos (by omega), List.getD_eq_getElem?_getD, List.getD_eq_getElem?_getD, List.getElem?_append_right (by omega), Nat.zero_add]
theorem shl0 {k : Nat} : nI k <<< (0 &&& 31) = nI k := by simp
theorem sbr_get {v : Nat} (hs : X.2.1 a = some v) (hv : X.2.2.1 v = some (K.length, fun i => K.getD i 0)) (hb : ByL K) (h1 : X.2.2.1 (b + 1) = none) (hf : Hol f L) (hc : L.length + K.length ≤ 16) (hQ : ∀ f2, Hol f2 (L ++ K) → Q (.inl none) (sbW w b c f2) n) : Ev X 153 0 [some (.ref a), some (.ref (b + 1)), some (.int (nI L.length)), some (.int 0)] [] (sbW w b c f) n 0 0 Q := by
  have hn : v ≠ b + 1 := fun z => by rw [z, h1] at hv; cases hv
  have hby : byt X (sbW w b c f) v = some (K.length, fun j => .int (K.getD j 0)) := by unfold byt; rw [hv]
  refine J0_getBytes_840e7_0.mpr (?_)
  refine (J0_getBytes_840e7_1 (Or.inl (by rw [hs]; rfl))).mpr ?_
  refine (sp_coder hs).mpr ?_
  refine J0_getBytes_840e7_4.mpr (?_)
  refine J0_getBytes_840e7_5.mpr (ifT (rfl) ?_)
  refine J0_getBytes_840e7_8.mpr (?_)
  refine (c153_9 hs).mpr ?_
  refine J0_getBytes_840e7_12.mpr (J0_getBytes_840e7_13.mpr (J0_getBytes_840e7_14.mpr (J0_getBytes_840e7_15.mpr (?_))))
  refine J0_getBytes_840e7_16.mpr ?_
  rw [shl0]
  refine J0_getBytes_840e7_17.mpr (?_)
  refine (c153_18 hs).mpr ((J0_getBytes_840e7_21c hv).mpr ?_)
  have m1 : (nI L.length).toNatClampNeg = L.length := nI_clamp (by omega)
  have m2 : (nI K.length).toNatClampNeg = K.length := nI_clamp (by omega)
  refine (J0_getBytes_840e7_22 (N0 := K.length) (N := 16) (g := f) hby sbr_1 ⟨hn, by decide, nI_pos (by omega), nI_pos (by omega), ?_, ?_, ?_⟩).mpr ?_
  · rw [m2]; exact Nat.le_of_eq (Nat.zero_add _)
  · rw [m1, m2]; exact hc
  · rw [m2]
    have := by_okv hb
    rw [List.all_eq_true] at this ⊢
    intro i hi
    have := this i hi
    rw [show (0 : Int32).toNatClampNeg = 0 from rfl, Nat.zero_add]
    exact this
  rw [m1, m2, sbr_w]
  refine J0_getBytes_840e7_25.mpr (?_)
  exact J0_getBytes_840e7_43.mpr (hQ _ hf.app)
theorem sbr_put {v : Nat} (hs : X.2.1 a = some v) (hv : X.2.2.1 v = some (K.length, fun i => K.getD i 0)) (hb : ByL K) (h0 : X.2.1 b = none) (h1 : X.2.2.1 (b + 1) = none) (hf : Hol f L) (hc : L.length + K.length ≤ 16) (hQ : ∀ f2, Hol f2 (L ++ K) → Q (.inl none) (sbW w b c f2) n) : Ev X 154 0 [some (.ref b), some (.int (nI L.length)), some (.ref a)] [] (sbW w b c f) n 0 0 Q := by
  refine J5_putStringAt_47b60_0.mpr (J5_putStringAt_47b60_1.mpr (?_))
  refine (J5_putStringAt_47b60_2 sbr_h).mpr ?_
  refine sbr_inf hs h0 ?_
  refine J5_putStringAt_47b60_5.mpr (J5_putStringAt_47b60_6.mpr (?_))
  refine (J5_putStringAt_47b60_7 h0).mpr ⟨_, sbr_g0, ?_⟩
  refine J5_putStringAt_47b60_10.mpr (J5_putStringAt_47b60_11.mpr (?_))
  refine (J5_putStringAt_47b60_12 h0).mpr ⟨_, sbr_g1, ?_⟩
  refine (J5_putStringAt_47b60_15 (Or.inl (by rw [hs]; rfl))).mpr ?_
  refine sbr_get hs hv hb h1 hf hc ?_
  intro f2 hf2
  exact J5_putStringAt_47b60_18.mpr (hQ _ hf2)
theorem sbr_app {v : Nat} (hs : X.2.1 a = some v) (hv : X.2.2.1 v = some (K.length, fun i => K.getD i 0)) (hb : ByL K) (h0 : X.2.1 b = none) (h1 : X.2.2.1 (b + 1) = none) (hf : Hol f L) (hc : L.length + K.length ≤ 16) (hQ : ∀ f2, Hol f2 (L ++ K) → Q (.inl (some (.ref b))) (sbW w b (L ++ K).length f2) n) : Ev X 156 0 [some (.ref b), some (.ref a)] [] (sbW w b L.length f) n 0 0 Q := by
  have el : (L ++ K).length = L.length + K.length := List.length_append
  rw [el] at hQ
  refine J4_append_15ec4_0.mpr (J4_append_15ec4_1.mpr (?_))
  refine (J4_append_15ec4_2 sbr_h).mpr ?_
  refine J5_append_cf1ce_0.mpr (J5_append_cf1ce_1.mpr (J5_append_cf1ce_9.mpr (?_)))
  refine (J5_append_cf1ce_10 (Or.inl (by rw [hs]; rfl))).mpr ?_
  refine (sp_slen hs hv).mpr ?_
  refine J5_append_cf1ce_13.mpr (J5_append_cf1ce_14.mpr (J5_append_cf1ce_15.mpr (?_)))
  refine (J5_append_cf1ce_16 h0).mpr ⟨_, sbr_g3, ?_⟩
  refine J5_append_cf1ce_19.mpr (?_)
  refine J5_append_cf1ce_20.mpr ?_
  rw [nI_plus]
  refine (J5_append_cf1ce_21 sbr_h).mpr ?_
  refine sbr_ens hc h0 h1 ?_
  refine J5_append_cf1ce_24.mpr (J5_append_cf1ce_25.mpr (?_))
  refine (J5_append_cf1ce_26 h0).mpr ⟨_, sbr_g3, ?_⟩
  refine J5_append_cf1ce_29.mpr (?_)
  refine (J5_append_cf1ce_30 sbr_h).mpr ?_
  refine sbr_put hs hv hb h0 h1 hf hc ?_
  intro f2 hf2
  refine J5_append_cf1ce_33.mpr (J5_append_cf1ce_34.mpr (?_))
  refine (J5_append_cf1ce_35 h0).mpr ⟨_, sbr_g3, ?_⟩
  refine J5_append_cf1ce_38.mpr (?_)
  refine J5_append_cf1ce_39.mpr ?_
  rw [nI_plus]
  refine J5_append_cf1ce_40.mpr ⟨_, sbr_pc, ?_⟩
  refine J5_append_cf1ce_43.mpr (?_)
  refine J5_append_cf1ce_44.mpr ?_
  refine J4_append_15ec4_5.mpr (J4_append_15ec4_6.mpr (?_))
  exact J4_append_15ec4_7.mpr (hQ _ hf2)
/-! a digit -/
theorem ss_lt : ∀ d : Nat, d < 10 → -10 < -nI d := by decide
theorem sbr_size {d : Nat} (hd : d < 10) (hQ : Q (.inl (some (.int (nI 1)))) w n) : Ev X 157 0 [some (.int (nI d)), none, none, none] [] w n 0 0 Q := by
  refine J6_stringSize_0f7a4_0.mpr (J6_stringSize_0f7a4_1.mpr (J6_stringSize_0f7a4_2.mpr (?_)))
  refine J6_stringSize_0f7a4_3.mpr (ifF (nI_pos (by omega)) ?_)
  refine J6_stringSize_0f7a4_6.mpr (J6_stringSize_0f7a4_7.mpr (J6_stringSize_0f7a4_8.mpr (J6_stringSize_0f7a4_9.mpr (J6_stringSize_0f7a4_10.mpr (J6_stringSize_0f7a4_11.mpr (J6_stringSize_0f7a4_13.mpr (J6_stringSize_0f7a4_14.mpr (J6_stringSize_0f7a4_15.mpr (J6_stringSize_0f7a4_16.mpr (J6_stringSize_0f7a4_17.mpr (?_)))))))))))
  refine J6_stringSize_0f7a4_19.mpr (ifT (by decide) ?_)
  refine J6_stringSize_0f7a4_22.mpr (J6_stringSize_0f7a4_23.mpr (?_))
  refine J6_stringSize_0f7a4_24.mpr (ifT (ss_lt d hd) ?_)
  refine J6_stringSize_0f7a4_27.mpr (J6_stringSize_0f7a4_28.mpr (J6_stringSize_0f7a4_29.mpr (?_)))
  exact J6_stringSize_0f7a4_30.mpr hQ
theorem gc_a : ∀ d : Nat, d < 10 → -100 < -nI d := by decide
theorem gc_b : ∀ d : Nat, d < 10 → ¬ -nI d < -9 := by decide
theorem gc_c : ∀ d : Nat, d < 10 → (- -nI d) = nI d := by decide
theorem gc_d : ∀ d : Nat, d < 10 → narrow .byte (.int (dgt d)) = .int (nI (48 + d)) := by decide +kernel
theorem sbr_chars {d k : Nat} (hd : d < 10) (hk : k < 16) (hD : DigX X) (h1 : X.2.2.1 (b + 1) = none) (hQ : Q (.inl (some (.int (nI k)))) (sbW w b c (updV f k (.int (nI (48 + d))))) n) : Ev X 159 0 [some (.int (nI d)), some (.int (nI (k + 1))), some (.ref (b + 1)), none, none, none, none] [] (sbW w b c f) n 0 0 Q := by
  refine J6_getChars_ba4f3_0.mpr (J6_getChars_ba4f3_1.mpr (J6_getChars_ba4f3_3.mpr (?_)))
  refine J6_getChars_ba4f3_4.mpr (ifF (nI_pos (by omega)) ?_)
  refine J6_getChars_ba4f3_11.mpr (J6_getChars_ba4f3_12.mpr (J6_getChars_ba4f3_14.mpr (?_)))
  refine J6_getChars_ba4f3_16.mpr (ifT (rfl) ?_)
  refine J6_getChars_ba4f3_19.mpr (J6_getChars_ba4f3_20.mpr (J6_getChars_ba4f3_21.mpr (J6_getChars_ba4f3_22.mpr (J6_getChars_ba4f3_23.mpr (?_)))))
  refine J6_getChars_ba4f3_25.mpr (ifT (gc_a d hd) ?_)
  refine J6_getChars_ba4f3_72.mpr (?_)
  refine J6_getChars_ba4f3_73.mpr ?_
  rw [show nI (k + 1) + -1 = nI k by rw [← Int32.sub_eq_add_neg]; exact nI_pred k]
  refine J6_getChars_ba4f3_76.mpr (J6_getChars_ba4f3_78.mpr (J6_getChars_ba4f3_81.mpr (J6_getChars_ba4f3_82.mpr (?_))))
  rw [gc_c d hd]
  refine (J6_getChars_ba4f3_83c hD (inr_nI (by omega) (by decide))).mpr ?_
  rw [nI_clamp (by omega)]
  refine J6_getChars_ba4f3_84.mpr ⟨sbW w b c (updV f k (.int (nI (48 + d)))), ?_, ?_⟩
  · unfold sa
    rw [sbr_1]
    dsimp only
    rw [if_pos ⟨rfl, inr_nI hk (by decide)⟩, nI_clamp (by omega), show narrow .byte (.int (dgt d)) = .int (nI (48 + d)) from gc_d d hd, sbr_w]
  refine J6_getChars_ba4f3_85.mpr (J6_getChars_ba4f3_86.mpr (?_))
  refine J6_getChars_ba4f3_88.mpr (ifF (gc_b d hd) ?_)
  refine J6_getChars_ba4f3_104.mpr (?_)
  refine J6_getChars_ba4f3_106.mpr (ifT (rfl) ?_)
  refine J6_getChars_ba4f3_118.mpr (?_)
  exact J6_getChars_ba4f3_120.mpr hQ
theorem sbr_l1 (h0 : X.2.1 b = none) (hQ : Q (.inl (some (.int 1))) (sbW w b c f) n) : Ev X 158 0 [some (.ref b)] [] (sbW w b c f) n 0 0 Q := by
  refine J5_isLatin1_aae02_0.mpr (?_)
  refine J5_isLatin1_aae02_3.mpr (ifF (by decide) ?_)
  refine J5_isLatin1_aae02_6.mpr (?_)
  refine (J5_isLatin1_aae02_7 h0).mpr ⟨_, sbr_g1, ?_⟩
  refine J5_isLatin1_aae02_10.mpr (ifT (rfl) ?_)
  refine J5_isLatin1_aae02_13.mpr (J5_isLatin1_aae02_14.mpr (?_))
  exact (J5_isLatin1_aae02_18 okz1).mpr hQ
theorem Hol.dig (hf : Hol f L) {d : Int32} : Hol (updV f L.length (.int d)) (L ++ [d]) := by
  intro i hi
  rw [List.length_append] at hi
  unfold updV
  by_cases h : i = L.length
  · rw [if_pos h, h, List.getD_eq_getElem?_getD, List.getElem?_append_right (Nat.le_refl _), Nat.sub_self]
    rfl
  · have hi : i < L.length := by
      have : [d].length = 1 := rfl
      omega
    rw [if_neg h, hf i hi, List.getD_eq_getElem?_getD, List.getD_eq_getElem?_getD, List.getElem?_append_left hi]
theorem sbr_int {d : Nat} (hd : d < 10) (hD : DigX X) (h0 : X.2.1 b = none) (h1 : X.2.2.1 (b + 1) = none) (hf : Hol f L) (hc : L.length < 16) (hQ : ∀ f2, Hol f2 (L ++ [nI (48 + d)]) → Q (.inl (some (.ref b))) (sbW w b (L ++ [nI (48 + d)]).length f2) n) : Ev X 161 0 [some (.ref b), some (.int (nI d))] [] (sbW w b L.length f) n 0 0 Q := by
  have el : (L ++ [nI (48 + d)]).length = L.length + 1 := List.length_append
  rw [el] at hQ
  refine J4_append_bf812_0.mpr (J4_append_bf812_1.mpr (?_))
  refine (J4_append_bf812_2 sbr_h).mpr ?_
  refine J5_append_c97b9_0.mpr (?_)
  refine (J5_append_c97b9_1 h0).mpr ⟨_, sbr_g3, ?_⟩
  refine J5_append_c97b9_4.mpr (J5_append_c97b9_5.mpr (J5_append_c97b9_6.mpr (?_)))
  refine J5_append_c97b9_7.mpr ?_
  refine sbr_size hd ?_
  refine J5_append_c97b9_10.mpr ?_
  rw [nI_plus]
  refine J5_append_c97b9_11.mpr (J5_append_c97b9_12.mpr (J5_append_c97b9_13.mpr (?_)))
  refine (J5_append_c97b9_14 sbr_h).mpr ?_
  refine sbr_ens hc h0 h1 ?_
  refine J5_append_c97b9_17.mpr (?_)
  refine (J5_append_c97b9_18 sbr_h).mpr ?_
  refine sbr_l1 h0 ?_
  refine J5_append_c97b9_21.mpr (ifF (by decide) ?_)
  refine J5_append_c97b9_24.mpr (J5_append_c97b9_25.mpr (J5_append_c97b9_26.mpr (?_)))
  refine (J5_append_c97b9_27 h0).mpr ⟨_, sbr_g0, ?_⟩
  refine J5_append_c97b9_30.mpr ?_
  refine sbr_chars hd hc hD h1 ?_
  refine J5_append_c97b9_33.mpr (J5_append_c97b9_34.mpr (J5_append_c97b9_48.mpr (J5_append_c97b9_49.mpr (?_))))
  refine J5_append_c97b9_50.mpr ⟨_, sbr_pc, ?_⟩
  refine J5_append_c97b9_53.mpr (?_)
  refine J5_append_c97b9_54.mpr ?_
  refine J4_append_bf812_5.mpr (J4_append_bf812_6.mpr (?_))
  exact J4_append_bf812_7.mpr (hQ _ hf.dig)
/-! the String -/
theorem cr_map {q : Nat} (hq : b + 2 ≤ q) : sbW w b c f (b + 1) = some (.inl (3, 16, f)) := sbr_1
/-- the String at q, its bytes behind it -/
def stW (w : Wld) (q N : Nat) (g : Nat → Value) : Wld := fun a => if a = q then some (.inr (6, [.ref (q + 1), .int 0, .int 0, .int 0])) else if a = q + 1 then some (.inl (3, N, g)) else w a
theorem sbr_str {q : Nat} (hq : b + 2 ≤ q) (hN : Nok X b) (hb : ByL L) (hf : Hol f L) (hc : L.length < 16) (hQ : ∀ g, Hol g L → Q (.inl (some (.ref q))) (stW (sbW w b L.length f) q L.length g) (some (q + 2))) : Ev X 170 0 [some (.ref b)] [] (sbW w b L.length f) (some q) 0 0 Q := by
  have h0 : X.2.1 b = none := (hN b (Nat.le_refl b)).1
  have h1 : X.2.2.1 (b + 1) = none := (hN (b + 1) (by omega)).2
  refine J4_toString_0e30d_0.mpr ?_
  generalize hw1 : wset (sbW w b L.length f) q (.inr (6, dflt 6)) = w1
  have wb : w1 b = some (.inr (5, [.ref (b + 1), .int 0, .int 0, .int (nI L.length)])) := by rw [← hw1]; exact (if_neg (by omega)).trans sbr_b
  have wq : w1 q = some (.inr (6, dflt 6)) := by rw [← hw1]; exact if_pos rfl
  have g0 : gf w1 b 5 0 = some (.ref (b + 1)) := by unfold gf; rw [wb]; rfl
  have g1 : gf w1 b 5 1 = some (.int 0) := by unfold gf; rw [wb]; rfl
  have g3 : gf w1 b 5 3 = some (.int (nI L.length)) := by unfold gf; rw [wb]; rfl
  have gh : hasc w1 b 5 = true := by unfold hasc; rw [wb]; rfl
  refine J4_toString_0e30d_3.mpr (J4_toString_0e30d_4.mpr (?_))
  refine J4_toString_0e30d_5.mpr ?_
  refine J0_init_81219_0.mpr (J0_init_81219_1.mpr (J0_init_81219_2.mpr (?_)))
  refine J0_init_81219_3.mpr ?_
  refine J0_init_db425_0.mpr (J0_init_db425_1.mpr (J0_init_db425_4.mpr (?_)))
  refine (J0_init_db425_5 gh).mpr ?_
  refine J5_getValue_6d5f1_0.mpr (?_)
  refine (J5_getValue_6d5f1_1 h0).mpr ⟨_, g0, ?_⟩
  refine J5_getValue_6d5f1_4.mpr (?_)
  refine J0_init_db425_8.mpr (J0_init_db425_9.mpr (?_))
  refine (J0_init_db425_10 gh).mpr ?_
  refine J4_length_8abf5_0.mpr (?_)
  refine (J4_length_8abf5_1 gh).mpr ?_
  refine J5_length_8abf5_0.mpr (?_)
  refine (J5_length_8abf5_1 h0).mpr ⟨_, g3, ?_⟩
  refine J5_length_8abf5_4.mpr (?_)
  refine J4_length_8abf5_4.mpr (?_)
  refine J0_init_db425_13.mpr (J0_init_db425_15.mpr (?_))
  refine (J0_init_db425_16 gh).mpr ?_
  refine J5_isLatin1_aae02_0.mpr (?_)
  refine J5_isLatin1_aae02_3.mpr (ifF (by decide) ?_)
  refine J5_isLatin1_aae02_6.mpr (?_)
  refine (J5_isLatin1_aae02_7 h0).mpr ⟨_, g1, ?_⟩
  refine J5_isLatin1_aae02_10.mpr (ifT (rfl) ?_)
  refine J5_isLatin1_aae02_13.mpr (J5_isLatin1_aae02_14.mpr (?_))
  refine (J5_isLatin1_aae02_18 okz1).mpr ?_
  refine J0_init_db425_19.mpr (ifF (by decide) ?_)
  refine J0_init_db425_22.mpr (J0_init_db425_23.mpr (?_))
  refine J0_init_db425_24.mpr ⟨wset w1 q (.inr (6, (dflt 6).set 1 (.int 0))), ?_, ?_⟩
  · unfold pf
    rw [wq]
    rfl
  generalize hw2 : wset w1 q (.inr (6, (dflt 6).set 1 (.int 0))) = w2
  have wq2 : w2 q = some (.inr (6, (dflt 6).set 1 (.int 0))) := by rw [← hw2]; exact if_pos rfl
  have wv2 : w2 (b + 1) = some (.inl (3, 16, f)) := by
    rw [← hw2, ← hw1]
    exact (if_neg (by omega)).trans ((if_neg (by omega)).trans sbr_1)
  refine J0_init_db425_27.mpr (J0_init_db425_28.mpr (J0_init_db425_29.mpr (J0_init_db425_30.mpr (?_))))
  refine J0_init_db425_32.mpr ?_
  refine J7_copyOfRange_39247_0.mpr (?_)
  refine J7_copyOfRange_39247_1.mpr (ifT (rfl) ?_)
  refine J7_copyOfRange_39247_4.mpr (J7_copyOfRange_39247_5.mpr ((J7_copyOfRange_39247_6 h1 wv2).mpr (?_)))
  refine J7_copyOfRange_39247_7.mpr (ifF (fun z => by have := (nI_eq (by omega) (by decide)).mp (show nI L.length = nI 16 from z); omega) ?_)
  refine J7_copyOfRange_39247_10.mpr (J7_copyOfRange_39247_11.mpr (J7_copyOfRange_39247_12.mpr (?_)))
  refine J7_copyOfRange_39247_13.mpr ?_
  refine J7_copyOfRangeByte_39247_0.mpr (J7_copyOfRangeByte_39247_1.mpr (?_))
  refine J7_copyOfRangeByte_39247_2.mpr ?_
  refine J7_checkLength_df160_0.mpr (J7_checkLength_df160_1.mpr (?_))
  refine J7_checkLength_df160_2.mpr (ifF (nI_pos (by omega)) ?_)
  refine J7_checkLength_df160_37.mpr ?_
  refine J7_copyOfRangeByte_39247_5.mpr (J7_copyOfRangeByte_39247_6.mpr (?_))
  refine J7_copyOfRangeByte_39247_7.mpr ?_
  rw [show nI L.length - 0 = nI L.length from Int32.sub_zero _]
  refine J7_copyOfRangeByte_39247_8.mpr (J7_copyOfRangeByte_39247_9.mpr (?_))
  refine (J7_copyOfRangeByte_39247_10 (m := L.length) ⟨nI_pos (by omega), nI_clamp (by omega), by omega⟩).mpr ?_
  generalize hw3 : wset w2 (q + 1) (.inl (3, L.length, fun _ => .int 0)) = w3
  have wv3 : w3 (b + 1) = some (.inl (3, 16, f)) := by rw [← hw3]; exact (if_neg (by omega)).trans wv2
  have wn3 : w3 (q + 1) = some (.inl (3, L.length, fun _ => .int 0)) := by rw [← hw3]; exact if_pos rfl
  refine J7_copyOfRangeByte_39247_12.mpr (J7_copyOfRangeByte_39247_14.mpr (J7_copyOfRangeByte_39247_15.mpr (J7_copyOfRangeByte_39247_16.mpr (J7_copyOfRangeByte_39247_18.mpr (J7_copyOfRangeByte_39247_19.mpr ((J7_copyOfRangeByte_39247_20 h1 wv3).mpr (J7_copyOfRangeByte_39247_21.mpr (J7_copyOfRangeByte_39247_22.mpr (J7_copyOfRangeByte_39247_23.mpr (?_))))))))))
  refine J7_copyOfRangeByte_39247_24.mpr ?_
  have em : imn (nI 16 - 0) (nI L.length) = nI L.length := by
    rw [show nI 16 - 0 = nI 16 from Int32.sub_zero _]
    unfold imn
    rw [if_pos (nI_lt hc (by decide))]
  rw [em]
  have m2 : (nI L.length).toNatClampNeg = L.length := nI_clamp (by omega)
  have hby : byt X w3 (b + 1) = some (16, f) := by unfold byt; rw [h1]; dsimp only; rw [wv3]; rfl
  refine (J7_copyOfRangeByte_39247_27 (N0 := 16) (N := L.length) (g := fun _ => .int 0) hby wn3 ⟨by omega, by decide, by decide, nI_pos (by omega), ?_, ?_, ?_⟩).mpr ?_
  · rw [m2, show (0 : Int32).toNatClampNeg = 0 from rfl]; omega
  · rw [m2, show (0 : Int32).toNatClampNeg = 0 from rfl]; omega
  · rw [m2, List.all_eq_true]
    intro i hi
    rw [show (0 : Int32).toNatClampNeg = 0 from rfl, Nat.zero_add, hf i (List.mem_range.mp hi)]
    exact hb _ (getD_mem (List.mem_range.mp hi))
  rw [m2, show (0 : Int32).toNatClampNeg = 0 from rfl]
  refine J7_copyOfRangeByte_39247_30.mpr (?_)
  refine J7_copyOfRangeByte_39247_32.mpr ?_
  refine J7_copyOfRange_39247_16.mpr ?_
  refine J0_init_db425_35.mpr ⟨stW (sbW w b L.length f) q L.length (cpy f (fun _ => .int 0) 0 0 L.length), ?_, ?_⟩
  · unfold pf
    rw [show wset w3 (q + 1) (.inl (3, L.length, cpy f (fun _ => .int 0) 0 0 L.length)) q = some (.inr (6, (dflt 6).set 1 (.int 0))) from (if_neg (by omega)).trans (by rw [← hw3]; exact (if_neg (by omega)).trans wq2)]
    dsimp only
    rw [if_pos ⟨rfl, by decide, rfl⟩]
    congr 1
    refine wset_same ?_ (fun d hd => ?_)
    · exact if_pos rfl
    · rw [← hw3, ← hw2, ← hw1]
      unfold stW wset
      rw [if_neg hd, if_neg hd, if_neg hd]
      by_cases e : d = q + 1
      · rw [if_pos e, if_pos e]
      · rw [if_neg e, if_neg e, if_neg e]
  refine J0_init_db425_38.mpr (?_)
  refine J0_init_db425_97.mpr ?_
  refine J0_init_81219_6.mpr ?_
  refine J4_toString_0e30d_8.mpr (hQ _ ?_)
  intro i hi
  unfold cpy
  dsimp only
  rw [if_pos (by omega), Nat.zero_add, Nat.sub_zero]
  exact hf i hi
theorem st_str {q : Nat} {g : Nat → Value} (hg : Hol g L) (h0 : X.2.1 q = none) (h1 : X.2.2.1 (q + 1) = none) {w2 : Wld} (e0 : w2 q = stW w q L.length g q) (e1 : w2 (q + 1) = stW w q L.length g (q + 1)) : StrW X w2 q (q + 1) L.length (fun i => L.getD i 0) := by
  refine ⟨h0, h1, ⟨[.int 0, .int 0], ?_⟩, g, ?_, hg⟩
  · rw [e0]; exact if_pos rfl
  · rw [e1]
    unfold stW
    rw [if_neg (by omega), if_pos rfl]
end SBR
