/-! ===== more queries of the reference ===== -/
section MQ2
variable {X : Cxt} {w : Wld} {n : Option Nat} {Q : (Option Value ⊕ String) → Wld → Option Nat → Prop} {m cnt c : Nat} {V N : Nat → Int32} {A : Nat → Nat → Int32}
def unM (N : Nat → Int32) (k : Nat) (a : Int32) : Int32 := a ||| (if N (ix (k + 1) 0) = N (ix 0 0) then 0 else 1)
def suM (cnt : Nat) (N : Nat → Int32) : Int32 := if 1 < N 0 then (if itr (unM N) (cnt - 1) 0 = 0 then (if inF (N 3) 1 (N 0 - 1) = 0 then 0 else 1) else 1) else 0
theorem mw_isSure (hN : N 0 = nI cnt) (h8 : cnt ≤ 8) : Ev X 134 0 [some (.ref m), none, none] [] (MW w m V N A) n 0 0 Q ↔ Q (.inl (some (.int (suM cnt N)))) (MW w m (upd V 19 0) N A) n := by
  have tail : ∀ (u : Int32) (l2 : Option Value), (Ev X 134 48 [some (.ref m), some (.int u), l2] [] (MW w m (upd V 19 0) N A) n 0 0 Q ↔ Q (.inl (some (.int (if 1 < N 0 then (if u = 0 then (if inF (N 3) 1 (N 0 - 1) = 0 then 0 else 1) else 1) else 0)))) (MW w m (upd V 19 0) N A) n) := by
    intro u l2
    by_cases a : 1 < N 0
    · rw [if_pos a]
      by_cases b : u = 0
      · rw [if_pos b]
        by_cases d : inF (N 3) 1 (N 0 - 1) = 0
        · simp only [X6_isSure_48, X6_isSure_49, X6_isSure_52, X6_isSure_53, X6_isSure_54, X6_isSure_55, gm0, gn0, gn3, Option.some.injEq, exists_eq_left', eq_self, okz0, okz1, ht, a, if_true, X6_isSure_58, X6_isSure_59, b, X6_isSure_62, X6_isSure_63, X6_isSure_66, X6_isSure_67, X6_isSure_68, X6_isSure_69, X6_isSure_70, X6_isSure_73, X6_isSure_74, X6_isSure_75, X6_isSure_76, X6_isSure_77, mw_in, d, Kr_v, X6_isSure_80, X6_isSure_87, X6_isSure_88 okz0]
        · simp only [X6_isSure_48, X6_isSure_49, X6_isSure_52, X6_isSure_53, X6_isSure_54, X6_isSure_55, gm0, gn0, gn3, Option.some.injEq, exists_eq_left', eq_self, okz0, okz1, ht, a, if_true, X6_isSure_58, X6_isSure_59, b, X6_isSure_62, X6_isSure_63, X6_isSure_66, X6_isSure_67, X6_isSure_68, X6_isSure_69, X6_isSure_70, X6_isSure_73, X6_isSure_74, X6_isSure_75, X6_isSure_76, X6_isSure_77, mw_in, d, if_false, Kr_v, X6_isSure_80, X6_isSure_83, X6_isSure_84, X6_isSure_88 okz1]
      · simp only [X6_isSure_48, X6_isSure_49, X6_isSure_52, X6_isSure_53, X6_isSure_54, X6_isSure_55, gm0, gn0, Option.some.injEq, exists_eq_left', eq_self, okz0, okz1, ht, a, if_true, X6_isSure_58, X6_isSure_59, b, if_false, X6_isSure_83, X6_isSure_84, X6_isSure_88 okz1]
    · rw [if_neg a]
      simp only [X6_isSure_48, X6_isSure_49, X6_isSure_52, X6_isSure_53, X6_isSure_54, X6_isSure_55, gm0, gn0, Option.some.injEq, exists_eq_left', eq_self, okz0, okz1, ht, a, if_false, X6_isSure_87, X6_isSure_88 okz0]
  have z1 : (1 : Int32) = nI 1 := rfl
  simp only [X6_isSure_0, X6_isSure_1, X6_isSure_2, p19, Option.some.injEq, exists_eq_left', eq_self, okz0, okz1, ht, X6_isSure_5, X6_isSure_6, X6_isSure_7, X6_isSure_8]
  unfold suM
  rcases Nat.eq_zero_or_pos cnt with h0 | h0
  · subst h0
    have hl : (1 : Int32) < nI 0 ↔ False := by decide
    rw [X6_isSure_9]
    simp only [X6_isSure_10, X6_isSure_11, X6_isSure_14, X6_isSure_15, X6_isSure_16, gm0, gn0, hN, Option.some.injEq, exists_eq_left', eq_self, okz0, okz1, ht, hl, if_false]
    refine (tail 0 _).trans ?_
    rw [hN]
    exact Iff.rfl
  · have of0 : ∀ {w V n Q}, Ev X 42 0 [some (.ref m), some (.int 0), some (.int 0)] [] (MW w m V N A) n 0 0 Q ↔ Q (.inl (some (.int (N (ix 0 0))))) (MW w m V N A) n := mw_of0 (s := 0) (by decide)
    have hL := loop_up (P := fun k a => Ev X 134 9 [some (.ref m), some (.int a), some (.int (nI (k + 1)))] [] (MW w m (upd V 19 0) N A) n 0 0 Q) (f := unM N) (n := cnt - 1) (a0 := 0) (fun k a hk => by
      have hlt : nI (k + 1) < nI cnt := nI_lt (by omega) (by omega)
      rw [X6_isSure_9]
      unfold unM
      by_cases b : N (ix (k + 1) 0) = N (ix 0 0)
      · simp only [X6_isSure_10, X6_isSure_11, X6_isSure_14, X6_isSure_15, X6_isSure_16, gm0, gn0, hN, Option.some.injEq, exists_eq_left', eq_self, okz0, okz1, ht, hlt, if_true, X6_isSure_19, X6_isSure_20, X6_isSure_21, X6_isSure_22, X6_isSure_23 cm, mw_of0 (show k + 1 < 8 by omega), Kr_v, X6_isSure_26, X6_isSure_27, X6_isSure_28, X6_isSure_29 cm, of0, X6_isSure_32, b, X6_isSure_39, X6_isSure_40, X6_isSure_41, X6_isSure_42, X6_isSure_45, nI_1]
      · simp only [X6_isSure_10, X6_isSure_11, X6_isSure_14, X6_isSure_15, X6_isSure_16, gm0, gn0, hN, Option.some.injEq, exists_eq_left', eq_self, okz0, okz1, ht, hlt, if_true, X6_isSure_19, X6_isSure_20, X6_isSure_21, X6_isSure_22, X6_isSure_23 cm, mw_of0 (show k + 1 < 8 by omega), Kr_v, X6_isSure_26, X6_isSure_27, X6_isSure_28, X6_isSure_29 cm, of0, X6_isSure_32, b, if_false, X6_isSure_35, X6_isSure_36, X6_isSure_40, X6_isSure_41, X6_isSure_42, X6_isSure_45, nI_1])
    rw [show nI (0 + 1) = 1 from rfl, Nat.sub_add_cancel h0] at hL
    refine hL.trans ?_
    rw [X6_isSure_9]
    simp only [X6_isSure_10, X6_isSure_11, X6_isSure_14, X6_isSure_15, X6_isSure_16, gm0, gn0, hN, Option.some.injEq, exists_eq_left', eq_self, okz0, okz1, ht, Int32.lt_irrefl, if_false]
    refine (tail _ _).trans ?_
    rw [hN]
theorem mw_mealsIn_bad {y : Int32} (h : inF y 0 99 = 0) : Ev X 139 0 [some (.ref m), some (.int y), none] [] (MW w m V N A) n 0 0 Q ↔ Q (.inl (some (.int 0))) (MW w m (upd V 19 1) N A) n := by
  simp only [X6_mealsIn_0, X6_mealsIn_1, X6_mealsIn_2, X6_mealsIn_5, X6_mealsIn_6, X6_mealsIn_7, X6_mealsIn_9, X6_mealsIn_12, X6_mealsIn_15, X6_mealsIn_16, X6_mealsIn_17, X6_mealsIn_20, X6_mealsIn_21, X6_mealsIn_22, X6_mealsIn_25, X6_mealsIn_26, X6_mealsIn_27, X6_mealsIn_28, X6_mealsIn_31, X6_mealsIn_32, X6_mealsIn_33, X6_mealsIn_34, X6_mealsIn_37, X6_mealsIn_38, X6_mealsIn_39, X6_mealsIn_42, X6_mealsIn_43, X6_mealsIn_44, X6_mealsIn_47, X6_mealsIn_48, p19, Option.some.injEq, exists_eq_left', eq_self, okz0, okz1, ht, mw_in, h, Kr_v, if_true, cm, mw_raises, upd_upd]
theorem inF_ok {y a b : Int32} (h1 : ¬ y < a) (h2 : ¬ b < y) : ¬ inF y a b = 0 := by
  unfold inF
  rw [if_neg h1, if_neg h2]
  decide
theorem mw_mealsIn {I : Nat → (Nat → Int32) → Prop} (hT : TI cnt I) (hN : N 0 = nI cnt) (h8 : cnt ≤ 8) {k : Nat} (hI : 2 ≤ cnt → I k N) (hk : k < 100) (hQ : ∀ (N2 : Nat → Int32) (A2 : Nat → Nat → Int32), (∀ i, i < 103 → N2 i = N i) → (∀ i, i ≠ 3 → A2 i = A i) → Q (.inl (some (.int (if cnt < 2 then 0 else (tksN cnt k N).2)))) (MW w m (upd V 19 0) N2 A2) n) : Ev X 139 0 [some (.ref m), some (.int (nI k)), none] [] (MW w m V N A) n 0 0 Q := by
  have h : ¬ inF (nI k) 0 99 = 0 := inF_ok (nI_pos (by omega)) (fun q => nI_nlt (show k ≤ 99 by omega) (by decide) (show nI 99 < nI k from q))
  by_cases c2 : cnt < 2
  · have f2 : nI cnt < 2 := show nI cnt < nI 2 from nI_lt c2 (by decide)
    have hq := hQ N A (fun _ _ => rfl) (fun _ _ => rfl)
    rw [if_pos c2] at hq
    simp only [X6_mealsIn_0, X6_mealsIn_1, X6_mealsIn_2, X6_mealsIn_5, X6_mealsIn_6, X6_mealsIn_7, X6_mealsIn_9, X6_mealsIn_12, X6_mealsIn_15, X6_mealsIn_16, X6_mealsIn_17, X6_mealsIn_20, X6_mealsIn_21, X6_mealsIn_22, X6_mealsIn_25, X6_mealsIn_26, X6_mealsIn_27, X6_mealsIn_28, X6_mealsIn_31, X6_mealsIn_32, X6_mealsIn_33, X6_mealsIn_34, X6_mealsIn_37, X6_mealsIn_38, X6_mealsIn_39, X6_mealsIn_42, X6_mealsIn_43, X6_mealsIn_44, X6_mealsIn_47, X6_mealsIn_48, p19, Option.some.injEq, exists_eq_left', eq_self, okz0, okz1, ht, mw_in, h, Kr_v, if_false, gm0, gn0, hN, f2, if_true]
    exact hq
  · have f2 : ¬ nI cnt < 2 := fun q => nI_nlt (show 2 ≤ cnt by omega) (by omega) (show nI cnt < nI 2 from q)
    have hq := hQ (cpN (cpN N (A 3)) (tksN cnt k N).1) (updT A 3 (cpN N (A 3))) (fun i hi => by unfold cpN; rw [if_pos hi, if_pos hi]) (fun i hi => updT_o hi)
    rw [if_neg c2] at hq
    simp only [X6_mealsIn_0, X6_mealsIn_1, X6_mealsIn_2, X6_mealsIn_5, X6_mealsIn_6, X6_mealsIn_7, X6_mealsIn_9, X6_mealsIn_12, X6_mealsIn_15, X6_mealsIn_16, X6_mealsIn_17, X6_mealsIn_20, X6_mealsIn_21, X6_mealsIn_22, X6_mealsIn_25, X6_mealsIn_26, X6_mealsIn_27, X6_mealsIn_28, X6_mealsIn_31, X6_mealsIn_32, X6_mealsIn_33, X6_mealsIn_34, X6_mealsIn_37, X6_mealsIn_38, X6_mealsIn_39, X6_mealsIn_42, X6_mealsIn_43, X6_mealsIn_44, X6_mealsIn_47, X6_mealsIn_48, p19, Option.some.injEq, exists_eq_left', eq_self, okz0, okz1, ht, mw_in, h, Kr_v, Kr_n, if_false, gm0, gn0, hN, f2, cm, mw_thinks, mw_ticks hT (hI (by omega)) h8 hk, mw_thinksNoMore, updT_s]
    exact hq
/-- the first tick from i on, of d, before which a seat is stuck -/
def siM (cnt : Nat) : Nat → Nat → (Nat → Int32) → Nat × (Nat → Int32)
  | 0, i, N => (i, N)
  | d + 1, i, N => if stM cnt N = 0 then siM cnt d (i + 1) (tgN cnt N).1 else (i, N)
/-- what must hold for a look at the seats that are stuck -/
def SI (cnt : Nat) (I : Nat → (Nat → Int32) → Prop) : Prop := ∀ d N, I d N → N 0 = nI cnt ∧ (∀ j, j < cnt → seatI cnt (N (lx j) - 1)) ∧ itr (rnM cnt N) cnt 0 ≠ -1 ∧ psM cnt N (stM cnt N) = stM cnt N
theorem mw_stuckIn_few (hN : N 0 = nI cnt) (c2 : cnt < 2) : Ev X 142 0 [some (.ref m), none, none] [] (MW w m V N A) n 0 0 Q ↔ Q (.inl (some (.int 0))) (MW w m (upd V 19 1) N A) n := by
  have f2 : nI cnt < 2 := show nI cnt < nI 2 from nI_lt c2 (by decide)
  simp only [X6_stuckIn_0, X6_stuckIn_1, X6_stuckIn_2, X6_stuckIn_5, X6_stuckIn_6, X6_stuckIn_9, X6_stuckIn_10, X6_stuckIn_11, X6_stuckIn_12, X6_stuckIn_15, X6_stuckIn_16, X6_stuckIn_17, X6_stuckIn_20, X6_stuckIn_21, X6_stuckIn_22, X6_stuckIn_25, X6_stuckIn_26, X6_stuckIn_27, X6_stuckIn_28, X6_stuckIn_30, X6_stuckIn_33, X6_stuckIn_34, X6_stuckIn_37, X6_stuckIn_40, X6_stuckIn_41, X6_stuckIn_42, X6_stuckIn_43, X6_stuckIn_44, X6_stuckIn_47, X6_stuckIn_48, X6_stuckIn_49, X6_stuckIn_50, X6_stuckIn_51, X6_stuckIn_54, X6_stuckIn_55, X6_stuckIn_58, X6_stuckIn_61, X6_stuckIn_62, X6_stuckIn_65, X6_stuckIn_66, X6_stuckIn_67, X6_stuckIn_68, X6_stuckIn_71, X6_stuckIn_72, X6_stuckIn_75, X6_stuckIn_76, X6_stuckIn_79, X6_stuckIn_80, X6_stuckIn_81, X6_stuckIn_84, p19, Option.some.injEq, exists_eq_left', eq_self, okz0, okz1, ht, gm0, gn0, hN, f2, if_true, cm, mw_raises, Kr_v, upd_upd]
theorem mw_stuckIn {I : Nat → (Nat → Int32) → Prop} (hT : TI cnt I) (hS : SI cnt I) (hN : N 0 = nI cnt) (h8 : cnt ≤ 8) (c2 : 2 ≤ cnt) (hI : I 99 N) (hQ : ∀ (N2 : Nat → Int32) (A2 : Nat → Nat → Int32), (∀ i, i < 103 → N2 i = N i) → (∀ i, i ≠ 3 → A2 i = A i) → if stM cnt (siM cnt 99 0 N).2 = 0 then Q (.inl (some (.int 0))) (MW w m (upd V 19 1) N2 A2) n else Q (.inl (some (.int (nI (siM cnt 99 0 N).1)))) (MW w m (upd V 19 0) N2 A2) n) : Ev X 142 0 [some (.ref m), none, none] [] (MW w m V N A) n 0 0 Q := by
  have e1 : (1 : Int32) = 0 ↔ False := by decide
  have f2 : ¬ nI cnt < 2 := fun q => nI_nlt (show 2 ≤ cnt by omega) (by omega) (show nI cnt < nI 2 from q)
  have u1 : ∀ x : Int32, (1 : Int32) + 0 * x = 1 := fun x => by rw [Int32.zero_mul]; rfl
  generalize hA2 : updT A 3 (cpN N (A 3)) = A2
  have fin : ∀ (i d : Nat) (N' : Nat → Int32), I d N' → (if stM cnt N' = 0 then Q (.inl (some (.int 0))) (MW w m (upd V 19 1) (cpN (A2 3) N') A2) n else Q (.inl (some (.int (nI i)))) (MW w m (upd V 19 0) (cpN (A2 3) N') A2) n) → Ev X 142 54 [some (.ref m), some (.int (nI i)), none] [] (MW w m (upd V 19 0) N' A2) n 0 0 Q := by
    intro i d N' hN' hq
    obtain ⟨h0, s1, s2, s3⟩ := hS d N' hN'
    by_cases b : stM cnt N' = 0
    · rw [if_pos b] at hq
      simp only [X6_stuckIn_54, X6_stuckIn_55 cm, mw_stuckOnes s1 h0 h8 s2 s3, Kr_v, X6_stuckIn_58, b, if_true, X6_stuckIn_65, X6_stuckIn_66, X6_stuckIn_67, X6_stuckIn_68 cm, mw_thinksNoMore, Kr_n, X6_stuckIn_71, X6_stuckIn_72, X6_stuckIn_79, X6_stuckIn_80, X6_stuckIn_81 cm, mw_raises, X6_stuckIn_84, upd_upd]
      exact hq
    · rw [if_neg b] at hq
      simp only [X6_stuckIn_54, X6_stuckIn_55 cm, mw_stuckOnes s1 h0 h8 s2 s3, Kr_v, X6_stuckIn_58, b, if_false, X6_stuckIn_61, X6_stuckIn_62, X6_stuckIn_66, X6_stuckIn_67, X6_stuckIn_68 cm, mw_thinksNoMore, Kr_n, X6_stuckIn_71, X6_stuckIn_72, e1, X6_stuckIn_75, X6_stuckIn_76, X6_stuckIn_84]
      exact hq
  have hL : ∀ (d i : Nat) (N' : Nat → Int32), i + d = 99 → I d N' → (if stM cnt (siM cnt d i N').2 = 0 then Q (.inl (some (.int 0))) (MW w m (upd V 19 1) (cpN (A2 3) (siM cnt d i N').2) A2) n else Q (.inl (some (.int (nI (siM cnt d i N').1)))) (MW w m (upd V 19 0) (cpN (A2 3) (siM cnt d i N').2) A2) n) → Ev X 142 27 [some (.ref m), some (.int (nI i)), none] [] (MW w m (upd V 19 0) N' A2) n 0 0 Q := by
    intro d
    induction d with
    | zero =>
      intro i N' hi hN' hq
      have hlt : nI i < 99 ↔ False := ⟨fun q => nI_nlt (show 99 ≤ i by omega) (by omega) (show nI i < nI 99 from q), False.elim⟩
      rw [X6_stuckIn_27]
      simp only [X6_stuckIn_28, X6_stuckIn_30, hlt, if_false]
      exact fin i 0 N' hN' hq
    | succ d ih =>
      intro i N' hi hN' hq
      have hlt : nI i < 99 := show nI i < nI 99 from nI_lt (by omega) (by decide)
      obtain ⟨⟨h0, ⟨a0, ha0, h6⟩, a, hv⟩, hn⟩ := hT d N' hN'
      obtain ⟨-, s1, s2, s3⟩ := hS (d + 1) N' hN'
      rw [X6_stuckIn_27]
      by_cases b : stM cnt N' = 0
      · have es : siM cnt (d + 1) i N' = siM cnt d (i + 1) (tgN cnt N').1 := by rw [siM, if_pos b]
        rw [es] at hq
        simp only [X6_stuckIn_28, X6_stuckIn_30, hlt, if_true, X6_stuckIn_33, X6_stuckIn_34 cm, mw_stuckOnes s1 h0 h8 s2 s3, Kr_v, X6_stuckIn_37, b, X6_stuckIn_40, X6_stuckIn_41, X6_stuckIn_42, X6_stuckIn_43, X6_stuckIn_44 cm, mw_tickGoes h0 h8 h6 ha0 hv, X6_stuckIn_47, X6_stuckIn_48, u1, X6_stuckIn_49, nI_1, X6_stuckIn_50, X6_stuckIn_51]
        exact ih (i + 1) _ (by omega) hn hq
      · have es : siM cnt (d + 1) i N' = (i, N') := by rw [siM, if_neg b]
        rw [es] at hq
        simp only [X6_stuckIn_28, X6_stuckIn_30, hlt, if_true, X6_stuckIn_33, X6_stuckIn_34 cm, mw_stuckOnes s1 h0 h8 s2 s3, Kr_v, X6_stuckIn_37, b, if_false]
        exact fin i (d + 1) N' hN' hq
  have z0 : nI 0 = 0 := rfl
  have h9 := hL 99 0 N rfl hI (by
    rw [← hA2]
    exact hQ _ _ (fun i hi => by unfold cpN; rw [if_pos hi, updT_s, if_pos hi]) (fun i hi => updT_o hi))
  rw [z0] at h9
  simp only [X6_stuckIn_0, X6_stuckIn_1, X6_stuckIn_2, p19, Option.some.injEq, exists_eq_left', eq_self, okz0, okz1, ht, X6_stuckIn_5, X6_stuckIn_6, X6_stuckIn_9, X6_stuckIn_10, X6_stuckIn_11, X6_stuckIn_12, gm0, gn0, hN, f2, if_false, X6_stuckIn_21, X6_stuckIn_22 cm, mw_thinks, Kr_n, hA2, X6_stuckIn_25, X6_stuckIn_26]
  exact h9
def ahD (N : Nat → Int32) (a b : Nat) : Int32 := if N (ix b 5) - N (ix a 5) = 0 then N (ix a 6) - N (ix b 6) else N (ix b 5) - N (ix a 5)
def ahM (N : Nat → Int32) (a b : Nat) : Bool := if 0 < ahD N a b then true else if ahD N a b = 0 then decide (nI a < nI b) else false
theorem mw_isAhead {a b : Nat} (ha : a < 8) (hb : b < 8) : Ev X 148 0 [some (.ref m), some (.int (nI a)), some (.int (nI b)), none] [] (MW w m V N A) n 0 0 Q ↔ Q (.inl (some (.int (if ahM N a b then 1 else 0)))) (MW w m V N A) n := by
  have tail : ∀ r : Int32, (Ev X 148 34 [some (.ref m), some (.int (nI a)), some (.int (nI b)), some (.int r)] [] (MW w m V N A) n 0 0 Q ↔ Q (.inl (some (.int (if (if 0 < r then true else if r = 0 then decide (nI a < nI b) else false) = true then 1 else 0)))) (MW w m V N A) n) := by
    intro r
    by_cases h1 : 0 < r
    · simp only [X6_isAhead_34, X6_isAhead_35, h1, if_true, X6_isAhead_47, X6_isAhead_48, X6_isAhead_52 okz1]
    · by_cases h2 : r = 0
      · by_cases h3 : nI a < nI b
        · simp only [X6_isAhead_34, X6_isAhead_35, h1, if_false, X6_isAhead_38, X6_isAhead_39, h2, if_true, X6_isAhead_42, X6_isAhead_43, X6_isAhead_44, h3, X6_isAhead_47, X6_isAhead_48, X6_isAhead_52 okz1, decide_true, Int32.lt_irrefl]
        · simp only [X6_isAhead_34, X6_isAhead_35, h1, if_false, X6_isAhead_38, X6_isAhead_39, h2, if_true, X6_isAhead_42, X6_isAhead_43, X6_isAhead_44, h3, X6_isAhead_51, X6_isAhead_52 okz0, decide_false, Int32.lt_irrefl, Bool.false_eq_true]
      · simp only [X6_isAhead_34, X6_isAhead_35, h1, if_false, X6_isAhead_38, X6_isAhead_39, h2, X6_isAhead_51, X6_isAhead_52 okz0, Bool.false_eq_true]
  unfold ahM
  rw [← tail]
  unfold ahD
  by_cases h : N (ix b 5) - N (ix a 5) = 0
  · rw [if_pos h]
    simp only [X6_isAhead_0, X6_isAhead_1, X6_isAhead_2, X6_isAhead_3 cm, mw_of5 hb, Kr_v, X6_isAhead_6, X6_isAhead_7, X6_isAhead_8, X6_isAhead_9 cm, mw_of5 ha, X6_isAhead_12, X6_isAhead_13, X6_isAhead_14, X6_isAhead_15, h, if_true, X6_isAhead_18, X6_isAhead_19, X6_isAhead_20, X6_isAhead_22 cm, mw_of6 ha, X6_isAhead_25, X6_isAhead_26, X6_isAhead_27, X6_isAhead_29 cm, mw_of6 hb, X6_isAhead_32, X6_isAhead_33]
  · rw [if_neg h]
    simp only [X6_isAhead_0, X6_isAhead_1, X6_isAhead_2, X6_isAhead_3 cm, mw_of5 hb, Kr_v, X6_isAhead_6, X6_isAhead_7, X6_isAhead_8, X6_isAhead_9 cm, mw_of5 ha, X6_isAhead_12, X6_isAhead_13, X6_isAhead_14, X6_isAhead_15, h, if_false]
def huM (N : Nat → Int32) (s q : Nat) (a : Int32) : Int32 := if nI q = nI s then a else if ahM N q s then a + 1 else a
def hpM (cnt : Nat) (N : Nat → Int32) (y : Int32) (s : Nat) : Bool := decide (itr (huM N s) cnt 0 = y)
theorem mw_hungriest (hN : N 0 = nI cnt) (h8 : cnt ≤ 8) {y : Int32} : Ev X 149 0 [some (.ref m), some (.int y), none, none, none] [] (MW w m V N A) n 0 0 Q ↔ match ff (hpM cnt N y) cnt 0 with | some j => Q (.inl (some (.int (nI j)))) (MW w m (upd V 19 0) N A) n | none => Q (.inl (some (.int 0))) (MW w m (upd V 19 1) N A) n := by
  have e1 : (1 : Int32) = 0 ↔ False := by decide
  have h : ∀ d s, s + d = cnt → ∀ l3 l4, (Ev X 149 7 [some (.ref m), some (.int y), some (.int (nI s)), l3, l4] [] (MW w m (upd V 19 0) N A) n 0 0 Q ↔ match ff (hpM cnt N y) d s with | some j => Q (.inl (some (.int (nI j)))) (MW w m (upd V 19 0) N A) n | none => Q (.inl (some (.int 0))) (MW w m (upd V 19 1) N A) n) := by
    intro d
    induction d with
    | zero =>
      intro s hs l3 l4
      obtain rfl : s = cnt := by omega
      rw [X6_hungriest_7]
      simp only [X6_hungriest_8, X6_hungriest_9, X6_hungriest_12, X6_hungriest_13, X6_hungriest_14, gm0, gn0, hN, Option.some.injEq, exists_eq_left', eq_self, okz0, okz1, ht, Int32.lt_irrefl, if_false, X6_hungriest_71, X6_hungriest_72, X6_hungriest_73 cm, mw_raises, Kr_v, X6_hungriest_76, upd_upd]
      exact Iff.rfl
    | succ d ih =>
      intro s hs l3 l4
      have hsc : s < cnt := by omega
      have hlt : nI s < nI cnt := nI_lt hsc (by omega)
      have hL := loop_up (P := fun q a => Ev X 149 22 [some (.ref m), some (.int y), some (.int (nI s)), some (.int a), some (.int (nI q))] [] (MW w m (upd V 19 0) N A) n 0 0 Q) (f := huM N s) (n := cnt) (a0 := 0) (fun q a hq => by
        have hltq : nI q < nI cnt := nI_lt hq (by omega)
        rw [X6_hungriest_22]
        unfold huM
        by_cases b : nI q = nI s
        · rw [if_pos b]
          simp only [X6_hungriest_24, X6_hungriest_25, X6_hungriest_28, X6_hungriest_29, X6_hungriest_30, gm0, gn0, hN, Option.some.injEq, exists_eq_left', eq_self, okz0, okz1, ht, hltq, if_true, X6_hungriest_33, X6_hungriest_35, X6_hungriest_36, b, hlt, X6_hungriest_52, X6_hungriest_55]
          rw [← b]
          simp only [nI_1]
        · rw [if_neg b]
          by_cases e : ahM N q s = true
          · simp only [X6_hungriest_24, X6_hungriest_25, X6_hungriest_28, X6_hungriest_29, X6_hungriest_30, gm0, gn0, hN, Option.some.injEq, exists_eq_left', eq_self, okz0, okz1, ht, hltq, if_true, X6_hungriest_33, X6_hungriest_35, X6_hungriest_36, b, if_false, X6_hungriest_39, X6_hungriest_40, X6_hungriest_42, X6_hungriest_43 cm, mw_isAhead (show q < 8 by omega) (show s < 8 by omega), e, Kr_v, X6_hungriest_46, e1, X6_hungriest_49, X6_hungriest_52, X6_hungriest_55, nI_1]
          · simp only [X6_hungriest_24, X6_hungriest_25, X6_hungriest_28, X6_hungriest_29, X6_hungriest_30, gm0, gn0, hN, Option.some.injEq, exists_eq_left', eq_self, okz0, okz1, ht, hltq, if_true, X6_hungriest_33, X6_hungriest_35, X6_hungriest_36, b, if_false, X6_hungriest_39, X6_hungriest_40, X6_hungriest_42, X6_hungriest_43 cm, mw_isAhead (show q < 8 by omega) (show s < 8 by omega), e, Kr_v, X6_hungriest_46, X6_hungriest_52, X6_hungriest_55, nI_1, Bool.false_eq_true])
      have z0 : nI 0 = 0 := rfl
      rw [z0] at hL
      rw [X6_hungriest_7]
      simp only [X6_hungriest_8, X6_hungriest_9, X6_hungriest_12, X6_hungriest_13, X6_hungriest_14, gm0, gn0, hN, Option.some.injEq, exists_eq_left', eq_self, okz0, okz1, ht, hlt, if_true, X6_hungriest_17, X6_hungriest_18, X6_hungriest_19, X6_hungriest_20]
      refine hL.trans ?_
      rw [X6_hungriest_22]
      unfold ff hpM
      by_cases b : itr (huM N s) cnt 0 = y
      · simp only [X6_hungriest_24, X6_hungriest_25, X6_hungriest_28, X6_hungriest_29, X6_hungriest_30, gm0, gn0, hN, Option.some.injEq, exists_eq_left', eq_self, okz0, okz1, ht, Int32.lt_irrefl, if_false, X6_hungriest_58, X6_hungriest_59, X6_hungriest_60, b, if_true, X6_hungriest_63, X6_hungriest_64, decide_true]
      · simp only [X6_hungriest_24, X6_hungriest_25, X6_hungriest_28, X6_hungriest_29, X6_hungriest_30, gm0, gn0, hN, Option.some.injEq, exists_eq_left', eq_self, okz0, okz1, ht, Int32.lt_irrefl, if_false, X6_hungriest_58, X6_hungriest_59, X6_hungriest_60, b, X6_hungriest_65, X6_hungriest_68, decide_false, Bool.false_eq_true, nI_1]
        exact ih (s + 1) (by omega) _ _
  have z0 : nI 0 = 0 := rfl
  have h0 := h cnt 0 (Nat.zero_add cnt) none none
  rw [z0] at h0
  simp only [X6_hungriest_0, X6_hungriest_1, X6_hungriest_2, p19, Option.some.injEq, exists_eq_left', eq_self, okz0, okz1, ht, X6_hungriest_5, X6_hungriest_6]
  exact h0
def mmM (cnt : Nat) (N : Nat → Int32) (b : Bool) : Int32 := if cnt = 0 then 0 else itr (fun k a => if b then imx a (N (ix (k + 1) 5)) else imn a (N (ix (k + 1) 5))) (cnt - 1) (N (ix 0 5))
theorem mw_meals (hN : N 0 = nI cnt) (h8 : cnt ≤ 8) {b : Bool} : Ev X 152 0 [some (.ref m), some (.int (if b then 1 else 0)), none, none] [] (MW w m V N A) n 0 0 Q ↔ Q (.inl (some (.int (mmM cnt N b)))) (MW w m V N A) n := by
  have e1 : (1 : Int32) = 0 ↔ False := by decide
  unfold mmM
  rcases Nat.eq_zero_or_pos cnt with h0 | h0
  · subst h0
    have z : nI 0 = 0 := rfl
    have hl : (1 : Int32) < 0 ↔ False := by decide
    rw [if_pos rfl]
    simp only [X6_meals_0, X6_meals_1, X6_meals_4, X6_meals_5, X6_meals_6, X6_meals_9, X6_meals_10, X6_meals_13, X6_meals_14, X6_meals_15, X6_meals_16, X6_meals_19, X6_meals_20, X6_meals_21, X6_meals_23, X6_meals_24, X6_meals_27, X6_meals_28, X6_meals_29, X6_meals_32, X6_meals_33, X6_meals_36, X6_meals_37, X6_meals_38, X6_meals_39, X6_meals_40, X6_meals_43, X6_meals_46, X6_meals_49, X6_meals_50, X6_meals_51, X6_meals_52, X6_meals_53, X6_meals_56, X6_meals_59, X6_meals_60, X6_meals_63, X6_meals_66, X6_meals_67, gm0, gn0, hN, z, Option.some.injEq, exists_eq_left', eq_self, okz0, okz1, ht, if_true]
    rw [X6_meals_22]
    simp only [X6_meals_0, X6_meals_1, X6_meals_4, X6_meals_5, X6_meals_6, X6_meals_9, X6_meals_10, X6_meals_13, X6_meals_14, X6_meals_15, X6_meals_16, X6_meals_19, X6_meals_20, X6_meals_21, X6_meals_22, X6_meals_23, X6_meals_24, X6_meals_27, X6_meals_28, X6_meals_29, X6_meals_32, X6_meals_33, X6_meals_36, X6_meals_37, X6_meals_38, X6_meals_39, X6_meals_40, X6_meals_43, X6_meals_46, X6_meals_49, X6_meals_50, X6_meals_51, X6_meals_52, X6_meals_53, X6_meals_56, X6_meals_59, X6_meals_60, X6_meals_63, X6_meals_66, X6_meals_67, gm0, gn0, hN, z, Option.some.injEq, exists_eq_left', eq_self, okz0, okz1, ht, hl, if_false]
  · have of5 : ∀ {w V n Q}, Ev X 42 0 [some (.ref m), some (.int 0), some (.int 5)] [] (MW w m V N A) n 0 0 Q ↔ Q (.inl (some (.int (N (ix 0 5))))) (MW w m V N A) n := mw_of5 (s := 0) (by decide)
    have hn : nI cnt = 0 ↔ False := ⟨fun q => nI_ne0 h0 (by omega) q, False.elim⟩
    have hL := loop_up (P := fun k a => Ev X 152 22 [some (.ref m), some (.int (if b then 1 else 0)), some (.int a), some (.int (nI (k + 1)))] [] (MW w m V N A) n 0 0 Q) (f := fun k a => if b then imx a (N (ix (k + 1) 5)) else imn a (N (ix (k + 1) 5))) (n := cnt - 1) (a0 := N (ix 0 5)) (fun k a hk => by
      have hlt : nI (k + 1) < nI cnt := nI_lt (by omega) (by omega)
      rw [X6_meals_22]
      cases b with
      | true => simp only [X6_meals_0, X6_meals_1, X6_meals_4, X6_meals_5, X6_meals_6, X6_meals_9, X6_meals_10, X6_meals_13, X6_meals_14, X6_meals_15, X6_meals_16, X6_meals_19, X6_meals_20, X6_meals_21, X6_meals_23, X6_meals_24, X6_meals_27, X6_meals_28, X6_meals_29, X6_meals_32, X6_meals_33, X6_meals_36, X6_meals_37, X6_meals_38, X6_meals_39, X6_meals_40, X6_meals_43, X6_meals_46, X6_meals_49, X6_meals_50, X6_meals_51, X6_meals_52, X6_meals_53, X6_meals_56, X6_meals_59, X6_meals_60, X6_meals_63, X6_meals_66, X6_meals_67, gm0, gn0, hN, Option.some.injEq, exists_eq_left', eq_self, okz0, okz1, ht, hlt, if_true, e1, if_false, cm, mw_of5 (show k + 1 < 8 by omega), Kr_v, nI_1]
      | false => simp only [X6_meals_0, X6_meals_1, X6_meals_4, X6_meals_5, X6_meals_6, X6_meals_9, X6_meals_10, X6_meals_13, X6_meals_14, X6_meals_15, X6_meals_16, X6_meals_19, X6_meals_20, X6_meals_21, X6_meals_23, X6_meals_24, X6_meals_27, X6_meals_28, X6_meals_29, X6_meals_32, X6_meals_33, X6_meals_36, X6_meals_37, X6_meals_38, X6_meals_39, X6_meals_40, X6_meals_43, X6_meals_46, X6_meals_49, X6_meals_50, X6_meals_51, X6_meals_52, X6_meals_53, X6_meals_56, X6_meals_59, X6_meals_60, X6_meals_63, X6_meals_66, X6_meals_67, gm0, gn0, hN, Option.some.injEq, exists_eq_left', eq_self, okz0, okz1, ht, hlt, if_true, Bool.false_eq_true, if_false, cm, mw_of5 (show k + 1 < 8 by omega), Kr_v, nI_1])
    rw [show nI (0 + 1) = 1 from rfl, Nat.sub_add_cancel h0] at hL
    rw [if_neg (show ¬ cnt = 0 by omega)]
    simp only [X6_meals_0, X6_meals_1, X6_meals_4, X6_meals_5, X6_meals_6, gm0, gn0, hN, Option.some.injEq, exists_eq_left', eq_self, okz0, okz1, ht, hn, if_false, X6_meals_13, X6_meals_14, X6_meals_15, X6_meals_16 cm, of5, Kr_v, X6_meals_19, X6_meals_20, X6_meals_21]
    refine hL.trans ?_
    rw [X6_meals_22]
    simp only [X6_meals_23, X6_meals_24, X6_meals_27, X6_meals_28, X6_meals_29, gm0, gn0, hN, Option.some.injEq, exists_eq_left', eq_self, okz0, okz1, ht, Int32.lt_irrefl, if_false, X6_meals_66, X6_meals_67]
theorem mw_meals0 (hN : N 0 = nI cnt) (h8 : cnt ≤ 8) : Ev X 152 0 [some (.ref m), some (.int 0), none, none] [] (MW w m V N A) n 0 0 Q ↔ Q (.inl (some (.int (mmM cnt N false)))) (MW w m V N A) n := mw_meals (b := false) hN h8
theorem mw_meals1 (hN : N 0 = nI cnt) (h8 : cnt ≤ 8) : Ev X 152 0 [some (.ref m), some (.int 1), none, none] [] (MW w m V N A) n 0 0 Q ↔ Q (.inl (some (.int (mmM cnt N true)))) (MW w m V N A) n := mw_meals (b := true) hN h8
theorem mw_rounds (hN : N 0 = nI cnt) (h8 : cnt ≤ 8) : Ev X 153 0 [some (.ref m)] [] (MW w m V N A) n 0 0 Q ↔ Q (.inl (some (.int (mmM cnt N false)))) (MW w m (upd V 19 0) N A) n := by
  simp only [X6_rounds_0, X6_rounds_1, X6_rounds_2, X6_rounds_5, X6_rounds_6, X6_rounds_7, X6_rounds_10, p19, Option.some.injEq, exists_eq_left', eq_self, okz0, okz1, ht, cm, mw_meals0 hN h8, Kr_v]
theorem mw_areNeighbours_out (hN : N 0 = nI cnt) (h8 : cnt ≤ 8) {y z : Int32} (h : hasS (nI cnt) y = 0 ∨ hasS (nI cnt) z = 0) : Ev X 157 0 [some (.ref m), some (.int y), some (.int z)] [] (MW w m V N A) n 0 0 Q ↔ Q (.inl (some (.int 0))) (MW w m (upd V 19 1) N A) n := by
  have e1 : (1 : Int32) = 0 ↔ False := by decide
  by_cases h1 : hasS (nI cnt) y = 0
  · simp only [X6_areNeighbours_0, X6_areNeighbours_1, X6_areNeighbours_2, X6_areNeighbours_3, X6_areNeighbours_6, X6_areNeighbours_9, X6_areNeighbours_10, X6_areNeighbours_11, X6_areNeighbours_14, X6_areNeighbours_17, X6_areNeighbours_18, X6_areNeighbours_21, X6_areNeighbours_22, X6_areNeighbours_25, X6_areNeighbours_26, X6_areNeighbours_29, X6_areNeighbours_32, X6_areNeighbours_33, X6_areNeighbours_34, X6_areNeighbours_37, X6_areNeighbours_38, X6_areNeighbours_39, X6_areNeighbours_42, X6_areNeighbours_43, X6_areNeighbours_46, X6_areNeighbours_47, X6_areNeighbours_48, X6_areNeighbours_51, X6_areNeighbours_52, X6_areNeighbours_55, X6_areNeighbours_56, X6_areNeighbours_59, X6_areNeighbours_60 okz0, X6_areNeighbours_60 okz1, p19, gm19, upd_same, Option.some.injEq, exists_eq_left', eq_self, okz0, okz1, ht, cm, mw_isSeat hN h8, Kr_v, h1, if_true, e1, if_false]
  · have h2 := h.resolve_left h1
    simp only [X6_areNeighbours_0, X6_areNeighbours_1, X6_areNeighbours_2, X6_areNeighbours_3, X6_areNeighbours_6, X6_areNeighbours_9, X6_areNeighbours_10, X6_areNeighbours_11, X6_areNeighbours_14, X6_areNeighbours_17, X6_areNeighbours_18, X6_areNeighbours_21, X6_areNeighbours_22, X6_areNeighbours_25, X6_areNeighbours_26, X6_areNeighbours_29, X6_areNeighbours_32, X6_areNeighbours_33, X6_areNeighbours_34, X6_areNeighbours_37, X6_areNeighbours_38, X6_areNeighbours_39, X6_areNeighbours_42, X6_areNeighbours_43, X6_areNeighbours_46, X6_areNeighbours_47, X6_areNeighbours_48, X6_areNeighbours_51, X6_areNeighbours_52, X6_areNeighbours_55, X6_areNeighbours_56, X6_areNeighbours_59, X6_areNeighbours_60 okz0, X6_areNeighbours_60 okz1, p19, gm19, upd_same, Option.some.injEq, exists_eq_left', eq_self, okz0, okz1, ht, cm, mw_isSeat hN h8, Kr_v, h1, h2, if_true, e1, if_false]
def neM (cnt a b : Nat) : Int32 := if nI a = nI b then 0 else if nI (lfN cnt a) = nI b then 1 else if nI (lfN cnt b) = nI a then 1 else 0
theorem mw_areNeighbours (hN : N 0 = nI cnt) (h8 : cnt ≤ 8) {a b : Nat} (ha : a < cnt) (hb : b < cnt) : Ev X 157 0 [some (.ref m), some (.int (nI a)), some (.int (nI b))] [] (MW w m V N A) n 0 0 Q ↔ Q (.inl (some (.int (neM cnt a b)))) (MW w m (upd V 19 0) N A) n := by
  have e1 : (1 : Int32) = 0 ↔ False := by decide
  have h1 : ¬ hasS (nI cnt) (nI a) = 0 := by rw [hasS_in h8 ha]; decide
  have h2 : ¬ hasS (nI cnt) (nI b) = 0 := by rw [hasS_in h8 hb]; decide
  unfold neM
  by_cases q : nI a = nI b
  · rw [if_pos q]
    have q2 := (nI_eq (by omega) (by omega)).mp q
    subst q2
    simp only [X6_areNeighbours_0, X6_areNeighbours_1, X6_areNeighbours_2, X6_areNeighbours_3, X6_areNeighbours_6, X6_areNeighbours_9, X6_areNeighbours_10, X6_areNeighbours_11, X6_areNeighbours_14, X6_areNeighbours_17, X6_areNeighbours_18, X6_areNeighbours_21, X6_areNeighbours_22, X6_areNeighbours_25, X6_areNeighbours_26, X6_areNeighbours_29, X6_areNeighbours_32, X6_areNeighbours_33, X6_areNeighbours_34, X6_areNeighbours_37, X6_areNeighbours_38, X6_areNeighbours_39, X6_areNeighbours_42, X6_areNeighbours_43, X6_areNeighbours_46, X6_areNeighbours_47, X6_areNeighbours_48, X6_areNeighbours_51, X6_areNeighbours_52, X6_areNeighbours_55, X6_areNeighbours_56, X6_areNeighbours_59, X6_areNeighbours_60 okz0, X6_areNeighbours_60 okz1, p19, gm19, upd_same, Option.some.injEq, exists_eq_left', eq_self, okz0, okz1, ht, cm, mw_isSeat hN h8, Kr_v, h1, if_true, if_false]
  rw [if_neg q]
  by_cases q2 : nI (lfN cnt a) = nI b
  · rw [if_pos q2]
    simp only [X6_areNeighbours_0, X6_areNeighbours_1, X6_areNeighbours_2, X6_areNeighbours_3, X6_areNeighbours_6, X6_areNeighbours_9, X6_areNeighbours_10, X6_areNeighbours_11, X6_areNeighbours_14, X6_areNeighbours_17, X6_areNeighbours_18, X6_areNeighbours_21, X6_areNeighbours_22, X6_areNeighbours_25, X6_areNeighbours_26, X6_areNeighbours_29, X6_areNeighbours_32, X6_areNeighbours_33, X6_areNeighbours_34, X6_areNeighbours_37, X6_areNeighbours_38, X6_areNeighbours_39, X6_areNeighbours_42, X6_areNeighbours_43, X6_areNeighbours_46, X6_areNeighbours_47, X6_areNeighbours_48, X6_areNeighbours_51, X6_areNeighbours_52, X6_areNeighbours_55, X6_areNeighbours_56, X6_areNeighbours_59, X6_areNeighbours_60 okz0, X6_areNeighbours_60 okz1, p19, gm19, upd_same, Option.some.injEq, exists_eq_left', eq_self, okz0, okz1, ht, cm, mw_isSeat hN h8, Kr_v, h1, h2, if_true, if_false, q, mw_left hN h8 ha, q2]
  rw [if_neg q2]
  by_cases q3 : nI (lfN cnt b) = nI a
  · rw [if_pos q3]
    simp only [X6_areNeighbours_0, X6_areNeighbours_1, X6_areNeighbours_2, X6_areNeighbours_3, X6_areNeighbours_6, X6_areNeighbours_9, X6_areNeighbours_10, X6_areNeighbours_11, X6_areNeighbours_14, X6_areNeighbours_17, X6_areNeighbours_18, X6_areNeighbours_21, X6_areNeighbours_22, X6_areNeighbours_25, X6_areNeighbours_26, X6_areNeighbours_29, X6_areNeighbours_32, X6_areNeighbours_33, X6_areNeighbours_34, X6_areNeighbours_37, X6_areNeighbours_38, X6_areNeighbours_39, X6_areNeighbours_42, X6_areNeighbours_43, X6_areNeighbours_46, X6_areNeighbours_47, X6_areNeighbours_48, X6_areNeighbours_51, X6_areNeighbours_52, X6_areNeighbours_55, X6_areNeighbours_56, X6_areNeighbours_59, X6_areNeighbours_60 okz0, X6_areNeighbours_60 okz1, p19, gm19, upd_same, Option.some.injEq, exists_eq_left', eq_self, okz0, okz1, ht, cm, mw_isSeat hN h8, Kr_v, h1, h2, if_true, if_false, q, mw_left hN h8 ha, mw_left hN h8 hb, q2, q3]
  · rw [if_neg q3]
    simp only [X6_areNeighbours_0, X6_areNeighbours_1, X6_areNeighbours_2, X6_areNeighbours_3, X6_areNeighbours_6, X6_areNeighbours_9, X6_areNeighbours_10, X6_areNeighbours_11, X6_areNeighbours_14, X6_areNeighbours_17, X6_areNeighbours_18, X6_areNeighbours_21, X6_areNeighbours_22, X6_areNeighbours_25, X6_areNeighbours_26, X6_areNeighbours_29, X6_areNeighbours_32, X6_areNeighbours_33, X6_areNeighbours_34, X6_areNeighbours_37, X6_areNeighbours_38, X6_areNeighbours_39, X6_areNeighbours_42, X6_areNeighbours_43, X6_areNeighbours_46, X6_areNeighbours_47, X6_areNeighbours_48, X6_areNeighbours_51, X6_areNeighbours_52, X6_areNeighbours_55, X6_areNeighbours_56, X6_areNeighbours_59, X6_areNeighbours_60 okz0, X6_areNeighbours_60 okz1, p19, gm19, upd_same, Option.some.injEq, exists_eq_left', eq_self, okz0, okz1, ht, cm, mw_isSeat hN h8, Kr_v, h1, h2, if_true, if_false, q, mw_left hN h8 ha, mw_left hN h8 hb, q2, q3]
end MQ2
