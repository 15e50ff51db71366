/-! ===== the reference's copies and small methods ===== -/
section MCP
variable {X : Cxt} {w : Wld} {n : Option Nat} {Q : (Option Value ⊕ String) → Wld → Option Nat → Prop} {m cnt c : Nat} {V N : Nat → Int32} {A : Nat → Nat → Int32}
theorem lt103 : nI 103 < 103 ↔ False := by decide
theorem mw_tries : Ev X 19 0 [some (.ref m), none] [] (MW w m V N A) n 0 0 Q ↔ Q (.inl none) (MW w m (upd V 19 0) N (updT A 2 (cpN N (A 2)))) n := by
  have h := loop_up (P := fun k (b : Nat → Int32) => Ev X 19 7 [some (.ref m), some (.int (nI k))] [] (MW w m (upd V 19 0) N (updT A 2 b)) n 0 0 Q) (f := fun k b => upd b k (N k)) (n := 103) (a0 := A 2) (fun k b hk => by
    have hlt : nI k < 103 := show nI k < nI 103 from nI_lt hk (by decide)
    rw [X6_tries_7]
    simp only [X6_tries_0, X6_tries_1, X6_tries_2, X6_tries_5, X6_tries_6, X6_tries_8, X6_tries_10, X6_tries_13, X6_tries_14, X6_tries_17, X6_tries_18, X6_tries_19, X6_tries_22, X6_tries_23, X6_tries_24, X6_tries_25, X6_tries_28, X6_tries_31, hlt, if_true, gm0, gm1, Option.some.injEq, exists_eq_left', eq_self, okz0, okz1, ht, gn hk, sat hk, updT_s, updT_T, nI_1])
  rw [cpN_itr, updT_id] at h
  simp only [X6_tries_0, X6_tries_1, X6_tries_2, pm (show 19 = 4 ∨ 19 = 8 ∨ 19 = 10 ∨ 19 = 11 ∨ 19 = 14 ∨ 19 = 15 ∨ 19 = 16 ∨ 19 = 17 ∨ 19 = 18 ∨ 19 = 19 by decide), Option.some.injEq, exists_eq_left', eq_self, okz0, okz1, ht, X6_tries_5, X6_tries_6]
  refine h.trans ?_
  simp only [X6_tries_0, X6_tries_1, X6_tries_2, X6_tries_5, X6_tries_6, X6_tries_7, X6_tries_8, X6_tries_10, X6_tries_13, X6_tries_14, X6_tries_17, X6_tries_18, X6_tries_19, X6_tries_22, X6_tries_23, X6_tries_24, X6_tries_25, X6_tries_28, X6_tries_31, lt103, if_false]
theorem mw_comesBack : Ev X 188 0 [some (.ref m), none] [] (MW w m V N A) n 0 0 Q ↔ Q (.inl none) (MW w m V (cpN (A 2) N) A) n := by
  have h := loop_up (P := fun k (b : Nat → Int32) => Ev X 188 2 [some (.ref m), some (.int (nI k))] [] (MW w m V b A) n 0 0 Q) (f := fun k b => upd b k (A 2 k)) (n := 103) (a0 := N) (fun k b hk => by
    have hlt : nI k < 103 := show nI k < nI 103 from nI_lt hk (by decide)
    rw [X6_comesBack_2]
    simp only [X6_comesBack_0, X6_comesBack_1, X6_comesBack_3, X6_comesBack_5, X6_comesBack_8, X6_comesBack_9, X6_comesBack_12, X6_comesBack_13, X6_comesBack_14, X6_comesBack_17, X6_comesBack_18, X6_comesBack_19, X6_comesBack_20, X6_comesBack_23, X6_comesBack_26, hlt, if_true, gm0, gm1, Option.some.injEq, exists_eq_left', eq_self, okz0, okz1, ht, gat hk, sn hk, nI_1])
  rw [cpN_itr] at h
  simp only [X6_comesBack_0, X6_comesBack_1]
  refine h.trans ?_
  simp only [X6_comesBack_0, X6_comesBack_1, X6_comesBack_2, X6_comesBack_3, X6_comesBack_5, X6_comesBack_8, X6_comesBack_9, X6_comesBack_12, X6_comesBack_13, X6_comesBack_14, X6_comesBack_17, X6_comesBack_18, X6_comesBack_19, X6_comesBack_20, X6_comesBack_23, X6_comesBack_26, lt103, if_false]
theorem mw_thinks : Ev X 137 0 [some (.ref m), none] [] (MW w m V N A) n 0 0 Q ↔ Q (.inl none) (MW w m V N (updT A 3 (cpN N (A 3)))) n := by
  have h := loop_up (P := fun k (b : Nat → Int32) => Ev X 137 2 [some (.ref m), some (.int (nI k))] [] (MW w m V N (updT A 3 b)) n 0 0 Q) (f := fun k b => upd b k (N k)) (n := 103) (a0 := A 3) (fun k b hk => by
    have hlt : nI k < 103 := show nI k < nI 103 from nI_lt hk (by decide)
    rw [X6_thinks_2]
    simp only [X6_thinks_0, X6_thinks_1, X6_thinks_3, X6_thinks_5, X6_thinks_8, X6_thinks_9, X6_thinks_12, X6_thinks_13, X6_thinks_14, X6_thinks_17, X6_thinks_18, X6_thinks_19, X6_thinks_20, X6_thinks_23, X6_thinks_26, hlt, if_true, gm0, gm2, Option.some.injEq, exists_eq_left', eq_self, okz0, okz1, ht, gn hk, sah hk, updT_s, updT_T, nI_1])
  rw [cpN_itr, updT_id] at h
  simp only [X6_thinks_0, X6_thinks_1]
  refine h.trans ?_
  simp only [X6_thinks_0, X6_thinks_1, X6_thinks_2, X6_thinks_3, X6_thinks_5, X6_thinks_8, X6_thinks_9, X6_thinks_12, X6_thinks_13, X6_thinks_14, X6_thinks_17, X6_thinks_18, X6_thinks_19, X6_thinks_20, X6_thinks_23, X6_thinks_26, lt103, if_false]
theorem mw_thinksNoMore : Ev X 138 0 [some (.ref m), none] [] (MW w m V N A) n 0 0 Q ↔ Q (.inl none) (MW w m V (cpN (A 3) N) A) n := by
  have h := loop_up (P := fun k (b : Nat → Int32) => Ev X 138 2 [some (.ref m), some (.int (nI k))] [] (MW w m V b A) n 0 0 Q) (f := fun k b => upd b k (A 3 k)) (n := 103) (a0 := N) (fun k b hk => by
    have hlt : nI k < 103 := show nI k < nI 103 from nI_lt hk (by decide)
    rw [X6_thinksNoMore_2]
    simp only [X6_thinksNoMore_0, X6_thinksNoMore_1, X6_thinksNoMore_3, X6_thinksNoMore_5, X6_thinksNoMore_8, X6_thinksNoMore_9, X6_thinksNoMore_12, X6_thinksNoMore_13, X6_thinksNoMore_14, X6_thinksNoMore_17, X6_thinksNoMore_18, X6_thinksNoMore_19, X6_thinksNoMore_20, X6_thinksNoMore_23, X6_thinksNoMore_26, hlt, if_true, gm0, gm2, Option.some.injEq, exists_eq_left', eq_self, okz0, okz1, ht, gah hk, sn hk, nI_1])
  rw [cpN_itr] at h
  simp only [X6_thinksNoMore_0, X6_thinksNoMore_1]
  refine h.trans ?_
  simp only [X6_thinksNoMore_0, X6_thinksNoMore_1, X6_thinksNoMore_2, X6_thinksNoMore_3, X6_thinksNoMore_5, X6_thinksNoMore_8, X6_thinksNoMore_9, X6_thinksNoMore_12, X6_thinksNoMore_13, X6_thinksNoMore_14, X6_thinksNoMore_17, X6_thinksNoMore_18, X6_thinksNoMore_19, X6_thinksNoMore_20, X6_thinksNoMore_23, X6_thinksNoMore_26, lt103, if_false]
theorem mw_does {y : Int32} : Ev X 24 0 [some (.ref m), some (.int y)] [] (MW w m V N A) n 0 0 Q ↔ Q (.inl (some (.int 1))) (MW w m (upd V 18 y) N A) n := by
  simp only [X6_does_0, X6_does_1, X6_does_2, X6_does_5, X6_does_6 okz0, X6_does_6 okz1, pm (show 18 = 4 ∨ 18 = 8 ∨ 18 = 10 ∨ 18 = 11 ∨ 18 = 14 ∨ 18 = 15 ∨ 18 = 16 ∨ 18 = 17 ∨ 18 = 18 ∨ 18 = 19 by decide), Option.some.injEq, exists_eq_left', eq_self, okz0, okz1, ht]
def rfV (V : Nat → Int32) (a b : Int32) : Nat → Int32 := upd (upd (upd V 15 a) 16 b) 17 0
theorem mw_refuses {a b : Int32} : Ev X 21 0 [some (.ref m), some (.int a), some (.int b)] [] (MW w m V N A) n 0 0 Q ↔ Q (.inl (some (.int 0))) (MW w m (rfV V a b) N A) n := by
  simp only [X6_refuses_0, X6_refuses_1, X6_refuses_2, X6_refuses_5, X6_refuses_6, X6_refuses_7, X6_refuses_10, X6_refuses_11, X6_refuses_12, X6_refuses_15, X6_refuses_16 okz0, X6_refuses_16 okz1, pm (show 15 = 4 ∨ 15 = 8 ∨ 15 = 10 ∨ 15 = 11 ∨ 15 = 14 ∨ 15 = 15 ∨ 15 = 16 ∨ 15 = 17 ∨ 15 = 18 ∨ 15 = 19 by decide), pm (show 16 = 4 ∨ 16 = 8 ∨ 16 = 10 ∨ 16 = 11 ∨ 16 = 14 ∨ 16 = 15 ∨ 16 = 16 ∨ 16 = 17 ∨ 16 = 18 ∨ 16 = 19 by decide), pm (show 17 = 4 ∨ 17 = 8 ∨ 17 = 10 ∨ 17 = 11 ∨ 17 = 14 ∨ 17 = 15 ∨ 17 = 16 ∨ 17 = 17 ∨ 17 = 18 ∨ 17 = 19 by decide), Option.some.injEq, exists_eq_left', eq_self, okz0, okz1, ht, rfV]
/-- what kept holds once the tried state was put behind c others -/
def kpK (c : Nat) (K B : Nat → Int32) : Nat → Int32 := if c = 8 then fun i => if i < 721 then K (103 + i) else if i < 824 then B (i - 721) else K i else fun i => if 103 * c ≤ i ∧ i < 103 * c + 103 then B (i - 103 * c) else K i
theorem shK_itr {K : Nat → Int32} : itr (fun k (B : Nat → Int32) => upd B k (B (103 + k))) 721 K = fun i => if i < 721 then K (103 + i) else K i := by
  have h : ∀ d, d ≤ 721 → itr (fun k (B : Nat → Int32) => upd B k (B (103 + k))) d K = fun i => if i < d then K (103 + i) else K i := by
    intro d
    induction d with
    | zero => intro _; funext k; exact (if_neg (Nat.not_lt_zero k)).symm
    | succ d ih =>
      intro hd
      rw [itr_s, ih (by omega)]
      funext k
      unfold upd
      by_cases a : k = d
      · rw [if_pos a, if_pos (by omega)]
        dsimp only
        rw [if_neg (by omega), a]
      · rw [if_neg a]
        dsimp only
        by_cases b : k < d
        · rw [if_pos b, if_pos (by omega)]
        · rw [if_neg b, if_neg (by omega)]
  exact h 721 (Nat.le_refl _)
theorem ptK_itr {c : Nat} {K B : Nat → Int32} : itr (fun k (b : Nat → Int32) => upd b (103 * c + k) (B k)) 103 K = fun i => if 103 * c ≤ i ∧ i < 103 * c + 103 then B (i - 103 * c) else K i := by
  have h : ∀ d, d ≤ 103 → itr (fun k (b : Nat → Int32) => upd b (103 * c + k) (B k)) d K = fun i => if 103 * c ≤ i ∧ i < 103 * c + d then B (i - 103 * c) else K i := by
    intro d
    induction d with
    | zero => intro _; funext k; exact (if_neg (by omega)).symm
    | succ d ih =>
      intro hd
      rw [itr_s, ih (by omega)]
      funext k
      unfold upd
      by_cases a : k = 103 * c + d
      · rw [if_pos a, if_pos (by omega), a, show 103 * c + d - 103 * c = d by omega]
      · rw [if_neg a]
        dsimp only
        by_cases b : 103 * c ≤ k ∧ k < 103 * c + d
        · rw [if_pos b, if_pos (by omega)]
        · rw [if_neg b, if_neg (by omega)]
  exact h 103 (Nat.le_refl _)
theorem nI_mul (a b : Nat) : nI a * nI b = nI (a * b) := by
  unfold nI
  rw [Int32.ofNat_mul]
theorem mw_keeps (hV : V 4 = nI c) (hc : c ≤ 8) {y : Int32} : Ev X 26 0 [some (.ref m), some (.int y), none] [] (MW w m V N A) n 0 0 Q ↔ Q (.inl (some (.int y))) (MW w m (upd V 4 (nI (kpC c))) N (updT A 4 (kpK c (A 4) (A 2)))) n := by
  have h103 : (103 : Int32) = nI 103 := rfl
  have tail : ∀ (c : Nat) (V : Nat → Int32) (A : Nat → Nat → Int32) (l2 : Option Value), V 4 = nI c → c < 8 → (Ev X 26 49 [some (.ref m), some (.int y), l2] [] (MW w m V N A) n 0 0 Q ↔ Q (.inl (some (.int y))) (MW w m (upd V 4 (nI (c + 1))) N (updT A 4 (fun i => if 103 * c ≤ i ∧ i < 103 * c + 103 then A 2 (i - 103 * c) else A 4 i))) n) := by
    intro c V A l2 hV hc
    have h := loop_up (P := fun k (b : Nat → Int32) => Ev X 26 51 [some (.ref m), some (.int y), some (.int (nI k))] [] (MW w m V N (updT A 4 b)) n 0 0 Q) (f := fun k b => upd b (103 * c + k) (A 2 k)) (n := 103) (a0 := A 4) (fun k b hk => by
      have hlt : nI k < 103 := show nI k < nI 103 from nI_lt hk (by decide)
      have hi : (103 : Int32) * nI c + nI k = nI (103 * c + k) := by rw [h103, nI_mul, nI_add]
      have u2 : updT A 4 b 2 = A 2 := updT_o (by decide)
      rw [X6_keeps_51]
      simp only [X6_keeps_0, X6_keeps_1, X6_keeps_4, X6_keeps_6, X6_keeps_9, X6_keeps_10, X6_keeps_11, X6_keeps_12, X6_keeps_15, X6_keeps_18, X6_keeps_19, X6_keeps_22, X6_keeps_23, X6_keeps_24, X6_keeps_27, X6_keeps_29, X6_keeps_30, X6_keeps_31, X6_keeps_32, X6_keeps_33, X6_keeps_36, X6_keeps_39, X6_keeps_40, X6_keeps_41, X6_keeps_44, X6_keeps_45, X6_keeps_46, X6_keeps_49, X6_keeps_50, X6_keeps_52, X6_keeps_54, X6_keeps_57, X6_keeps_58, X6_keeps_61, X6_keeps_63, X6_keeps_64, X6_keeps_67, X6_keeps_68, X6_keeps_69, X6_keeps_70, X6_keeps_71, X6_keeps_74, X6_keeps_75, X6_keeps_76, X6_keeps_77, X6_keeps_80, X6_keeps_83, X6_keeps_84, X6_keeps_85, X6_keeps_88, X6_keeps_89, X6_keeps_90, X6_keeps_93, X6_keeps_94, hlt, if_true, gm1, gm3, gm4, hV, Option.some.injEq, exists_eq_left', eq_self, okz0, okz1, ht, hi, gat hk, u2, sak (show 103 * c + k < 824 by omega), updT_s, updT_T, nI_1])
    rw [ptK_itr, updT_id] at h
    simp only [X6_keeps_49, X6_keeps_50]
    refine h.trans ?_
    simp only [X6_keeps_51, X6_keeps_52, X6_keeps_54, lt103, if_false, X6_keeps_83, X6_keeps_84, X6_keeps_85, gm4, hV, Option.some.injEq, exists_eq_left', eq_self, okz0, okz1, ht, X6_keeps_88, X6_keeps_89, nI_1, X6_keeps_90, pm (show 4 = 4 ∨ 4 = 8 ∨ 4 = 10 ∨ 4 = 11 ∨ 4 = 14 ∨ 4 = 15 ∨ 4 = 16 ∨ 4 = 17 ∨ 4 = 18 ∨ 4 = 19 by decide), X6_keeps_93, X6_keeps_94]
  unfold kpK kpC
  by_cases e : c = 8
  · subst e
    have h8 : nI 8 = 8 := rfl
    have e87 : (8 : Int32) - 1 = nI 7 := by decide
    have h := loop_up (P := fun k (b : Nat → Int32) => Ev X 26 11 [some (.ref m), some (.int y), some (.int (nI k))] [] (MW w m V N (updT A 4 b)) n 0 0 Q) (f := fun k b => upd b k (b (103 + k))) (n := 721) (a0 := A 4) (fun k b hk => by
      have hlt : nI k < 721 := show nI k < nI 721 from nI_lt hk (by decide)
      have hi : (103 : Int32) + nI k = nI (103 + k) := by rw [h103, nI_add]
      rw [X6_keeps_11]
      simp only [X6_keeps_0, X6_keeps_1, X6_keeps_4, X6_keeps_6, X6_keeps_9, X6_keeps_10, X6_keeps_12, X6_keeps_15, X6_keeps_18, X6_keeps_19, X6_keeps_22, X6_keeps_23, X6_keeps_24, X6_keeps_27, X6_keeps_29, X6_keeps_30, X6_keeps_31, X6_keeps_32, X6_keeps_33, X6_keeps_36, X6_keeps_39, X6_keeps_40, X6_keeps_41, X6_keeps_44, X6_keeps_45, X6_keeps_46, X6_keeps_49, X6_keeps_50, X6_keeps_51, X6_keeps_52, X6_keeps_54, X6_keeps_57, X6_keeps_58, X6_keeps_61, X6_keeps_63, X6_keeps_64, X6_keeps_67, X6_keeps_68, X6_keeps_69, X6_keeps_70, X6_keeps_71, X6_keeps_74, X6_keeps_75, X6_keeps_76, X6_keeps_77, X6_keeps_80, X6_keeps_83, X6_keeps_84, X6_keeps_85, X6_keeps_88, X6_keeps_89, X6_keeps_90, X6_keeps_93, X6_keeps_94, hlt, if_true, gm3, Option.some.injEq, exists_eq_left', eq_self, okz0, okz1, ht, hi, gak (show 103 + k < 824 by omega), sak (show k < 824 by omega), updT_s, updT_T, nI_1])
    rw [shK_itr, updT_id] at h
    have hl : nI 721 < 721 ↔ False := by decide
    rw [if_pos rfl, if_pos rfl]
    simp only [X6_keeps_0, X6_keeps_1, gm4, Option.some.injEq, exists_eq_left', eq_self, okz0, okz1, ht, hV, h8, X6_keeps_4, X6_keeps_6, if_true, X6_keeps_9, X6_keeps_10]
    refine h.trans ?_
    simp only [X6_keeps_11, X6_keeps_12, X6_keeps_15, hl, if_false, X6_keeps_39, X6_keeps_40, X6_keeps_41, gm4, hV, h8, Option.some.injEq, exists_eq_left', eq_self, okz0, okz1, ht, X6_keeps_44, X6_keeps_45, e87, X6_keeps_46, pm (show 4 = 4 ∨ 4 = 8 ∨ 4 = 10 ∨ 4 = 11 ∨ 4 = 14 ∨ 4 = 15 ∨ 4 = 16 ∨ 4 = 17 ∨ 4 = 18 ∨ 4 = 19 by decide)]
    rw [tail 7 _ _ _ upd_same (by decide), upd_upd, updT_T, updT_s]
    have u2 : ∀ f, updT A 4 f 2 = A 2 := fun f => updT_o (by decide)
    rw [u2]
    have eF : (fun i => if 103 * 7 ≤ i ∧ i < 103 * 7 + 103 then A 2 (i - 103 * 7) else if i < 721 then A 4 (103 + i) else A 4 i) = fun i => if i < 721 then A 4 (103 + i) else if i < 824 then A 2 (i - 721) else A 4 i := by
      funext i
      by_cases a : i < 721
      · rw [if_neg (by omega), if_pos a, if_pos a]
      · rw [if_neg a]
        by_cases b : i < 824
        · rw [if_pos (by omega), if_neg a, if_pos b]
        · rw [if_neg (by omega), if_neg a, if_neg b]
    rw [eF]
    exact Iff.rfl
  · have h8 : nI c = 8 ↔ False := ⟨fun q => e ((nI_eq (by omega) (by decide)).mp (show nI c = nI 8 from q)), False.elim⟩
    rw [if_neg e, if_neg e]
    simp only [X6_keeps_0, X6_keeps_1, gm4, Option.some.injEq, exists_eq_left', eq_self, okz0, okz1, ht, hV, X6_keeps_4, X6_keeps_6, h8, if_false]
    exact tail c V A none hV (by omega)
/-- the end of a change of the reference -/
def mEn (Q : (Option Value ⊕ String) → Wld → Option Nat → Prop) (w : Wld) (m : Nat) (V N : Nat → Int32) (A : Nat → Nat → Int32) (c : Nat) (n : Option Nat) : (Int32 × Int32) ⊕ (Int32 × (Nat → Int32)) → Prop
  | .inl (a, b) => Q (.inl (some (.int 0))) (MW w m (upd (rfV (upd V 19 0) a b) 19 1) N (updT A 2 (cpN N (A 2)))) n
  | .inr (v, N2) => Q (.inl (some (.int v))) (MW w m (upd (upd (upd V 19 0) 18 v) 4 (nI (kpC c))) N2 (updT (updT A 2 (cpN N (A 2))) 4 (kpK c (A 4) (cpN N (A 2))))) n
/-- the end of a change's inner method -/
def mIn (Q : (Option Value ⊕ String) → Wld → Option Nat → Prop) (w : Wld) (m : Nat) (V N : Nat → Int32) (A : Nat → Nat → Int32) (n : Option Nat) : (Int32 × Int32) ⊕ (Int32 × (Nat → Int32)) → Prop
  | .inl (a, b) => Q (.inl (some (.int 0))) (MW w m (rfV V a b) N A) n
  | .inr (v, N2) => Q (.inl (some (.int 1))) (MW w m (upd V 18 v) N2 A) n
theorem mw_ends_no : Ev X 28 0 [some (.ref m), some (.int 0)] [] (MW w m V N A) n 0 0 Q ↔ Q (.inl (some (.int 0))) (MW w m (upd V 19 1) N A) n := by
  simp only [X6_ends_0, X6_ends_1, if_true, X6_ends_15, X6_ends_16, X6_ends_17 cm, mw_raises, Kr_v, X6_ends_20]
theorem mw_ends_ok (hV : V 4 = nI c) (hc : c ≤ 8) : Ev X 28 0 [some (.ref m), some (.int 1)] [] (MW w m V N A) n 0 0 Q ↔ Q (.inl (some (.int (V 18)))) (MW w m (upd V 4 (nI (kpC c))) N (updT A 4 (kpK c (A 4) (A 2)))) n := by
  have e1 : (1 : Int32) = 0 ↔ False := by decide
  simp only [X6_ends_0, X6_ends_1, e1, if_false, X6_ends_4, X6_ends_5, X6_ends_6, gm18, Option.some.injEq, exists_eq_left', eq_self, okz0, okz1, ht, X6_ends_9 cm, mw_keeps hV hc, Kr_v, X6_ends_12, X6_ends_20]
/-- tries, an inner method, ends: together -/
theorem mEn_of {M pc : Nat} {ls : Lcs} {r : (Int32 × Int32) ⊕ (Int32 × (Nat → Int32))} (hV : V 4 = nI c) (hc : c ≤ 8) (h : ∀ (b : Int32) (w2 : Wld), (b = 0 ∨ b = 1) → hasc w2 m 5 = true → (Ev X M pc ls [.int b, .ref m] w2 n 0 0 Q ↔ Ev X 28 0 [some (.ref m), some (.int b)] [] w2 n 0 0 Q)) : mIn (Kr X M pc ls [.ref m] 0 0 Q) w m (upd V 19 0) N (updT A 2 (cpN N (A 2))) n r ↔ mEn Q w m V N A c n r := by
  cases r with
  | inl q =>
    obtain ⟨a, b⟩ := q
    show Ev X M pc ls [.int 0, .ref m] _ n 0 0 Q ↔ _
    rw [h 0 _ (Or.inl rfl) cm, mw_ends_no]
    exact Iff.rfl
  | inr q =>
    obtain ⟨v, N2⟩ := q
    show Ev X M pc ls [.int 1, .ref m] _ n 0 0 Q ↔ _
    rw [h 1 _ (Or.inr rfl) cm, mw_ends_ok (c := c) (by exact hV) hc]
    have u4 : updT A 2 (cpN N (A 2)) 4 = A 4 := updT_o (by decide)
    rw [u4, updT_s]
    exact Iff.rfl
end MCP
