/-! ===== the reference reads a text ===== -/
def fvI (form : Int32) : Int32 := if form = 104 then 1 else 0
/-- as numsN, with what the reference leaves behind at a fault -/
def numsM (L : Nat) (C : Nat → Int32) : List Int32 → Nat → Nat → (Nat → Int32) → Bool × Nat × (Nat → Int32)
  | [], _, p, D => (true, p, D)
  | f :: fs, i, p, D => match numN L C f p with
    | none => (false, p, upd D i (fvI f))
    | some (v, q) => numsM L C fs (i + 1) q (upd D i v)
theorem sub48 (a b : Int32) : 10 * a + b - 48 = 10 * a + (b - 48) := by
  rw [Int32.sub_eq_add_neg, Int32.add_assoc, ← Int32.sub_eq_add_neg]
theorem in_dg {c : Int32} : inF c 48 57 = if isDg c then 1 else 0 := by
  unfold inF isDg
  by_cases a : c < 48
  · rw [if_pos a, if_neg (by simp [a])]
  · by_cases b : 57 < c
    · rw [if_neg a, if_pos b, if_neg (by simp [b])]
    · rw [if_neg a, if_neg b, if_pos (by simp [a, b])]
section RDM
variable {X : Cxt} {w : Wld} {n : Option Nat} {Q : (Option Value ⊕ String) → Wld → Option Nat → Prop} {m L p : Nat} {V N : Nat → Int32} {A : Nat → Nat → Int32}
theorem pq_eq (hL : L ≤ 60) (hp : p ≤ L) : nI p = nI L ↔ p = L := nI_eq (by omega) (by omega)
theorem mw_sign (hV : V 10 = nI L) (hp : V 11 = nI p) (hL : L ≤ 60) (hpL : p ≤ L) {y : Int32} : Ev X 183 0 [some (.ref m), some (.int y)] [] (MW w m V N A) n 0 0 Q ↔ if p < L ∧ A 7 p = y then Q (.inl (some (.int 1))) (MW w m (upd V 11 (nI (p + 1))) N A) n else Q (.inl (some (.int 0))) (MW w m V N A) n := by
  by_cases a : p < L
  · have a' : nI p = nI L ↔ False := ⟨fun q => by have := (pq_eq hL hpL).mp q; omega, False.elim⟩
    by_cases b : A 7 p = y
    · rw [if_pos ⟨a, b⟩]
      simp only [X6_sign_0, X6_sign_1, X6_sign_4, X6_sign_5, X6_sign_8, X6_sign_11, X6_sign_12, X6_sign_15, X6_sign_16, X6_sign_19, X6_sign_20, X6_sign_21, X6_sign_24, X6_sign_25 okz0, X6_sign_25 okz1, X6_sign_26, X6_sign_27, X6_sign_28, X6_sign_31, X6_sign_32, X6_sign_33, X6_sign_36, X6_sign_37 okz0, X6_sign_37 okz1, gm9, gm10, gm11, hV, hp, Option.some.injEq, exists_eq_left', eq_self, okz0, okz1, ht, a', if_false, gax (show p < 60 by omega), b, if_true, nI_1, p11]
    · rw [if_neg (fun q => b q.2)]
      simp only [X6_sign_0, X6_sign_1, X6_sign_4, X6_sign_5, X6_sign_8, X6_sign_11, X6_sign_12, X6_sign_15, X6_sign_16, X6_sign_19, X6_sign_20, X6_sign_21, X6_sign_24, X6_sign_25 okz0, X6_sign_25 okz1, X6_sign_26, X6_sign_27, X6_sign_28, X6_sign_31, X6_sign_32, X6_sign_33, X6_sign_36, X6_sign_37 okz0, X6_sign_37 okz1, gm9, gm10, gm11, hV, hp, Option.some.injEq, exists_eq_left', eq_self, okz0, okz1, ht, a', if_false, gax (show p < 60 by omega), b]
  · obtain rfl : p = L := by omega
    rw [if_neg (fun q => a q.1)]
    simp only [X6_sign_0, X6_sign_1, X6_sign_4, X6_sign_5, X6_sign_8, X6_sign_11, X6_sign_12, X6_sign_15, X6_sign_16, X6_sign_19, X6_sign_20, X6_sign_21, X6_sign_24, X6_sign_25 okz0, X6_sign_25 okz1, X6_sign_26, X6_sign_27, X6_sign_28, X6_sign_31, X6_sign_32, X6_sign_33, X6_sign_36, X6_sign_37 okz0, X6_sign_37 okz1, gm10, gm11, hV, hp, Option.some.injEq, exists_eq_left', eq_self, okz0, okz1, ht, if_true]
theorem mw_manners (hV : V 10 = nI L) (hp : V 11 = nI p) (hL : L ≤ 60) (hpL : p ≤ L) {k : Nat} (hk : k < 3) : Ev X 184 0 [some (.ref m), some (.int (nI k))] [] (MW w m V N A) n 0 0 Q ↔ match numN L (A 7) 104 p with | none => Q (.inl (some (.int 0))) (MW w m V N (updT A 8 (upd (A 8) k 1))) n | some (v, q) => Q (.inl (some (.int 1))) (MW w m (upd V 11 (nI q)) N (updT A 8 (upd (A 8) k v))) n := by
  have e1 : (1 : Int32) = 0 ↔ False := by decide
  have u7 : ∀ f, updT A 8 f 7 = A 7 := fun f => updT_o (by decide)
  unfold numN
  rw [if_pos rfl]
  by_cases a : p < L
  · rw [if_pos a]
    by_cases b : A 7 p = 108
    · rw [if_pos b]
      simp only [X6_manners_0, X6_manners_1, X6_manners_4, X6_manners_5, X6_manners_6, X6_manners_7, X6_manners_8, X6_manners_10, X6_manners_13, X6_manners_16, X6_manners_17 okz0, X6_manners_17 okz1, X6_manners_18, X6_manners_19, X6_manners_22, X6_manners_23, X6_manners_24, X6_manners_25, X6_manners_26, X6_manners_28, X6_manners_31 okz0, X6_manners_31 okz1, gm13, Option.some.injEq, exists_eq_left', eq_self, okz0, okz1, ht, sao hk, cm, mw_sign hV hp hL hpL, u7, a, b, and_self, if_true, Kr_v, e1, if_false]
    · rw [if_neg b]
      by_cases d : A 7 p = 114
      · rw [if_pos d]
        have d' : A 7 p = 108 ↔ False := ⟨b, False.elim⟩
        simp only [X6_manners_0, X6_manners_1, X6_manners_4, X6_manners_5, X6_manners_6, X6_manners_7, X6_manners_8, X6_manners_10, X6_manners_13, X6_manners_16, X6_manners_17 okz0, X6_manners_17 okz1, X6_manners_18, X6_manners_19, X6_manners_22, X6_manners_23, X6_manners_24, X6_manners_25, X6_manners_26, X6_manners_28, X6_manners_31 okz0, X6_manners_31 okz1, gm13, Option.some.injEq, exists_eq_left', eq_self, okz0, okz1, ht, sao hk, cm, mw_sign hV hp hL hpL, u7, a, d', d, and_false, if_true, Kr_v, if_false, and_self, updT_s, updT_T, upd_upd, show ((114 : Int32) = 108) = False by decide]
      · rw [if_neg d]
        simp only [X6_manners_0, X6_manners_1, X6_manners_4, X6_manners_5, X6_manners_6, X6_manners_7, X6_manners_8, X6_manners_10, X6_manners_13, X6_manners_16, X6_manners_17 okz0, X6_manners_17 okz1, X6_manners_18, X6_manners_19, X6_manners_22, X6_manners_23, X6_manners_24, X6_manners_25, X6_manners_26, X6_manners_28, X6_manners_31 okz0, X6_manners_31 okz1, gm13, Option.some.injEq, exists_eq_left', eq_self, okz0, okz1, ht, sao hk, cm, mw_sign hV hp hL hpL, u7, a, b, d, and_false, if_true, Kr_v, if_false, updT_s, updT_T, upd_upd]
  · rw [if_neg a]
    simp only [X6_manners_0, X6_manners_1, X6_manners_4, X6_manners_5, X6_manners_6, X6_manners_7, X6_manners_8, X6_manners_10, X6_manners_13, X6_manners_16, X6_manners_17 okz0, X6_manners_17 okz1, X6_manners_18, X6_manners_19, X6_manners_22, X6_manners_23, X6_manners_24, X6_manners_25, X6_manners_26, X6_manners_28, X6_manners_31 okz0, X6_manners_31 okz1, gm13, Option.some.injEq, exists_eq_left', eq_self, okz0, okz1, ht, sao hk, cm, mw_sign hV hp hL hpL, u7, a, false_and, if_true, Kr_v, if_false, updT_s, updT_T, upd_upd]
theorem mw_digits (hV : V 10 = nI L) (hp : V 11 = nI p) (hL : L ≤ 60) (hpL : p ≤ L) {k : Nat} (hk : k < 3) {mo : Nat} (hm : mo = 1 ∨ mo = 2) : Ev X 185 0 [some (.ref m), some (.int (nI k)), some (.int (nI mo)), none] [] (MW w m V N A) n 0 0 Q ↔ match numN L (A 7) (if mo = 2 then 110 else 100) p with | none => Q (.inl (some (.int 0))) (MW w m V N (updT A 8 (upd (A 8) k 0))) n | some (v, q) => Q (.inl (some (.int 1))) (MW w m (upd V 11 (nI q)) N (updT A 8 (upd (A 8) k v))) n := by
  have e1 : (1 : Int32) = 0 ↔ False := by decide
  have z0 : nI 0 = 0 := rfl
  have u7 : ∀ f, updT A 8 f 7 = A 7 := fun f => updT_o (by decide)
  -- one more digit, or the end
  have stay : ∀ (c : Nat) (v : Int32) (p : Nat) (V : Nat → Int32), V 10 = nI L → V 11 = nI p → p ≤ L → c ≤ mo → ¬ (c < mo ∧ p < L ∧ isDg (A 7 p) = true) → (Ev X 185 9 [some (.ref m), some (.int (nI k)), some (.int (nI mo)), some (.int (nI c))] [] (MW w m V N (updT A 8 (upd (A 8) k v))) n 0 0 Q ↔ Q (.inl (some (.int (if 0 < c then 1 else 0)))) (MW w m V N (updT A 8 (upd (A 8) k v))) n) := by
    intro c v p V hV hp hpL hc hn
    have fin : Ev X 185 85 [some (.ref m), some (.int (nI k)), some (.int (nI mo)), some (.int (nI c))] [] (MW w m V N (updT A 8 (upd (A 8) k v))) n 0 0 Q ↔ Q (.inl (some (.int (if 0 < c then 1 else 0)))) (MW w m V N (updT A 8 (upd (A 8) k v))) n := by
      by_cases q : 0 < c
      · have q' : 0 < nI c := show nI 0 < nI c from nI_lt q (by omega)
        simp only [X6_digits_85, X6_digits_86, q', if_true, X6_digits_89, X6_digits_90, X6_digits_94 okz1, q]
      · obtain rfl : c = 0 := by omega
        have q' : 0 < nI 0 ↔ False := by decide
        simp only [X6_digits_85, X6_digits_86, q', if_false, X6_digits_93, X6_digits_94 okz0, Nat.lt_irrefl]
    by_cases a : c < mo
    · have a' : nI c < nI mo := nI_lt a (by omega)
      by_cases b : p < L
      · have b' : nI p < nI L := nI_lt b (by omega)
        have d : ¬ isDg (A 7 p) = true := fun q => hn ⟨a, b, q⟩
        rw [X6_digits_9]
        simp only [X6_digits_10, X6_digits_11, a', if_true, X6_digits_14, X6_digits_15, X6_digits_18, X6_digits_19, gm9, gm10, gm11, hV, hp, Option.some.injEq, exists_eq_left', eq_self, okz0, okz1, ht, X6_digits_22, b', X6_digits_25, X6_digits_26, X6_digits_29, X6_digits_30, X6_digits_33, gax (show p < 60 by omega), u7, X6_digits_34, X6_digits_36, X6_digits_38, mw_in, in_dg, d, Bool.false_eq_true, if_false, Kr_v, X6_digits_41]
        exact fin
      · have b' : ¬ nI p < nI L := nI_nlt (by omega) (by omega)
        rw [X6_digits_9]
        simp only [X6_digits_10, X6_digits_11, a', if_true, X6_digits_14, X6_digits_15, X6_digits_18, X6_digits_19, gm10, gm11, hV, hp, Option.some.injEq, exists_eq_left', eq_self, okz0, okz1, ht, X6_digits_22, b', if_false]
        exact fin
    · have a' : ¬ nI c < nI mo := nI_nlt (by omega) (by omega)
      rw [X6_digits_9]
      simp only [X6_digits_10, X6_digits_11, a', if_false]
      exact fin
  have go : ∀ (c : Nat) (v : Int32) (p : Nat) (V : Nat → Int32), V 10 = nI L → V 11 = nI p → c < mo → p < L → isDg (A 7 p) = true → (Ev X 185 9 [some (.ref m), some (.int (nI k)), some (.int (nI mo)), some (.int (nI c))] [] (MW w m V N (updT A 8 (upd (A 8) k v))) n 0 0 Q ↔ Ev X 185 9 [some (.ref m), some (.int (nI k)), some (.int (nI mo)), some (.int (nI (c + 1)))] [] (MW w m (upd V 11 (nI (p + 1))) N (updT A 8 (upd (A 8) k (10 * v + (A 7 p - 48))))) n 0 0 Q) := by
    intro c v p V hV hp a b d
    have a' : nI c < nI mo := nI_lt a (by omega)
    have b' : nI p < nI L := nI_lt b (by omega)
    rw [X6_digits_9]
    simp only [X6_digits_10, X6_digits_11, a', if_true, X6_digits_14, X6_digits_15, X6_digits_18, X6_digits_19, gm9, gm10, gm11, gm13, hV, hp, Option.some.injEq, exists_eq_left', eq_self, okz0, okz1, ht, X6_digits_22, b', X6_digits_25, X6_digits_26, X6_digits_29, X6_digits_30, X6_digits_33, gax (show p < 60 by omega), u7, X6_digits_34, X6_digits_36, X6_digits_38, mw_in, in_dg, d, Kr_v, X6_digits_41, e1, if_false, X6_digits_44, X6_digits_45, X6_digits_48, X6_digits_49, X6_digits_51, X6_digits_52, X6_digits_55, X6_digits_56, gao hk, updT_s, upd_same, X6_digits_57, X6_digits_58, X6_digits_59, X6_digits_62, X6_digits_63, X6_digits_64, X6_digits_67, X6_digits_68, X6_digits_69, nI_1, X6_digits_70, p11, X6_digits_73, X6_digits_74, X6_digits_75, X6_digits_77, sub48, X6_digits_78, sao hk, updT_T, upd_upd, X6_digits_79, X6_digits_82]
  have m0 : 0 < mo := by omega
  simp only [X6_digits_0, X6_digits_1, X6_digits_2, X6_digits_3, X6_digits_6, X6_digits_7, gm13, Option.some.injEq, exists_eq_left', eq_self, okz0, okz1, ht, X6_digits_8, sao hk]
  rw [show (0 : Int32) = nI 0 from rfl]
  have s10 : (10 : Int32) * nI 0 = 0 := by decide
  have sz : ∀ x : Int32, (0 : Int32) + x = x := fun x => Int32.zero_add x
  unfold numN
  have f1 : ¬ (if mo = 2 then (110 : Int32) else 100) = 104 := by
    split <;> decide
  rw [if_neg f1]
  by_cases a : p < L
  · rw [if_pos a]
    by_cases b : isDg (A 7 p) = true
    · rw [if_pos b, go 0 (nI 0) p V hV hp m0 a b, s10, sz]
      have w10 : upd V 11 (nI (p + 1)) 10 = nI L := hV
      by_cases d : mo = 2
      · have f2 : (if mo = 2 then (110 : Int32) else 100) = 110 := if_pos d
        rw [if_pos f2]
        by_cases e : p + 1 < L
        · rw [if_pos e]
          by_cases f : isDg (A 7 (p + 1)) = true
          · rw [if_pos f, go 1 _ (p + 1) _ w10 upd_same (by omega) e f, upd_upd, stay 2 _ (p + 2) (upd V 11 (nI (p + 2))) hV upd_same (by omega) (by omega) (fun q => by omega)]
            exact Iff.rfl
          · rw [if_neg f, stay 1 _ (p + 1) _ w10 upd_same (by omega) (by omega) (fun q => f q.2.2)]
            exact Iff.rfl
        · rw [if_neg e, stay 1 _ (p + 1) _ w10 upd_same (by omega) (by omega) (fun q => e q.2.1)]
          exact Iff.rfl
      · have f2 : ¬ (if mo = 2 then (110 : Int32) else 100) = 110 := by rw [if_neg d]; decide
        rw [if_neg f2, stay 1 _ (p + 1) _ w10 upd_same (by omega) (by omega) (fun q => by omega)]
        exact Iff.rfl
    · rw [if_neg b, stay 0 _ p V hV hp hpL (Nat.zero_le _) (fun q => b q.2.2)]
      exact Iff.rfl
  · rw [if_neg a, stay 0 _ p V hV hp hpL (Nat.zero_le _) (fun q => a q.2.1)]
    exact Iff.rfl
theorem mw_dig1 (hV : V 10 = nI L) (hp : V 11 = nI p) (hL : L ≤ 60) (hpL : p ≤ L) {k : Nat} (hk : k < 3) : Ev X 185 0 [some (.ref m), some (.int (nI k)), some (.int 1), none] [] (MW w m V N A) n 0 0 Q ↔ match numN L (A 7) 100 p with | none => Q (.inl (some (.int 0))) (MW w m V N (updT A 8 (upd (A 8) k 0))) n | some (v, q) => Q (.inl (some (.int 1))) (MW w m (upd V 11 (nI q)) N (updT A 8 (upd (A 8) k v))) n := mw_digits (mo := 1) hV hp hL hpL hk (Or.inl rfl)
theorem mw_dig2 (hV : V 10 = nI L) (hp : V 11 = nI p) (hL : L ≤ 60) (hpL : p ≤ L) {k : Nat} (hk : k < 3) : Ev X 185 0 [some (.ref m), some (.int (nI k)), some (.int 2), none] [] (MW w m V N A) n 0 0 Q ↔ match numN L (A 7) 110 p with | none => Q (.inl (some (.int 0))) (MW w m V N (updT A 8 (upd (A 8) k 0))) n | some (v, q) => Q (.inl (some (.int 1))) (MW w m (upd V 11 (nI q)) N (updT A 8 (upd (A 8) k v))) n := mw_digits (mo := 2) hV hp hL hpL hk (Or.inr rfl)
/-- the numbers' methods for the first three places, in the forms in which they are called -/
theorem dg_0 (hV : V 10 = nI L) (hp : V 11 = nI p) (hL : L ≤ 60) (hpL : p ≤ L) : Ev X 185 0 [some (.ref m), some (.int 0), some (.int 1), none] [] (MW w m V N A) n 0 0 Q ↔ match numN L (A 7) 100 p with | none => Q (.inl (some (.int 0))) (MW w m V N (updT A 8 (upd (A 8) 0 0))) n | some (v, q) => Q (.inl (some (.int 1))) (MW w m (upd V 11 (nI q)) N (updT A 8 (upd (A 8) 0 v))) n := mw_dig1 (k := 0) hV hp hL hpL (by decide)
theorem dg_1 (hV : V 10 = nI L) (hp : V 11 = nI p) (hL : L ≤ 60) (hpL : p ≤ L) : Ev X 185 0 [some (.ref m), some (.int 1), some (.int 1), none] [] (MW w m V N A) n 0 0 Q ↔ match numN L (A 7) 100 p with | none => Q (.inl (some (.int 0))) (MW w m V N (updT A 8 (upd (A 8) 1 0))) n | some (v, q) => Q (.inl (some (.int 1))) (MW w m (upd V 11 (nI q)) N (updT A 8 (upd (A 8) 1 v))) n := mw_dig1 (k := 1) hV hp hL hpL (by decide)
theorem dg_2 (hV : V 10 = nI L) (hp : V 11 = nI p) (hL : L ≤ 60) (hpL : p ≤ L) : Ev X 185 0 [some (.ref m), some (.int 2), some (.int 1), none] [] (MW w m V N A) n 0 0 Q ↔ match numN L (A 7) 100 p with | none => Q (.inl (some (.int 0))) (MW w m V N (updT A 8 (upd (A 8) 2 0))) n | some (v, q) => Q (.inl (some (.int 1))) (MW w m (upd V 11 (nI q)) N (updT A 8 (upd (A 8) 2 v))) n := mw_dig1 (k := 2) hV hp hL hpL (by decide)
theorem dh_0 (hV : V 10 = nI L) (hp : V 11 = nI p) (hL : L ≤ 60) (hpL : p ≤ L) : Ev X 185 0 [some (.ref m), some (.int 0), some (.int 2), none] [] (MW w m V N A) n 0 0 Q ↔ match numN L (A 7) 110 p with | none => Q (.inl (some (.int 0))) (MW w m V N (updT A 8 (upd (A 8) 0 0))) n | some (v, q) => Q (.inl (some (.int 1))) (MW w m (upd V 11 (nI q)) N (updT A 8 (upd (A 8) 0 v))) n := mw_dig2 (k := 0) hV hp hL hpL (by decide)
theorem mn_0 (hV : V 10 = nI L) (hp : V 11 = nI p) (hL : L ≤ 60) (hpL : p ≤ L) : Ev X 184 0 [some (.ref m), some (.int 0)] [] (MW w m V N A) n 0 0 Q ↔ match numN L (A 7) 104 p with | none => Q (.inl (some (.int 0))) (MW w m V N (updT A 8 (upd (A 8) 0 1))) n | some (v, q) => Q (.inl (some (.int 1))) (MW w m (upd V 11 (nI q)) N (updT A 8 (upd (A 8) 0 v))) n := mw_manners (k := 0) hV hp hL hpL (by decide)
theorem mn_1 (hV : V 10 = nI L) (hp : V 11 = nI p) (hL : L ≤ 60) (hpL : p ≤ L) : Ev X 184 0 [some (.ref m), some (.int 1)] [] (MW w m V N A) n 0 0 Q ↔ match numN L (A 7) 104 p with | none => Q (.inl (some (.int 0))) (MW w m V N (updT A 8 (upd (A 8) 1 1))) n | some (v, q) => Q (.inl (some (.int 1))) (MW w m (upd V 11 (nI q)) N (updT A 8 (upd (A 8) 1 v))) n := mw_manners (k := 1) hV hp hL hpL (by decide)
theorem kndF_inv {c : Int32} {k : Nat} (h : kndF c = some k) : (k = 0 ∧ c = 43) ∨ (k = 1 ∧ c = 45) ∨ (k = 2 ∧ c = 109) ∨ (k = 3 ∧ c = 107) ∨ (k = 4 ∧ c = 119) ∨ (k = 5 ∧ c = 112) ∨ (k = 6 ∧ c = 100) ∨ (k = 7 ∧ c = 116) := by
  unfold kndF at h
  by_cases a : c = 43
  · rw [if_pos a] at h; cases h; exact Or.inl ⟨rfl, a⟩
  rw [if_neg a] at h
  by_cases a : c = 45
  · rw [if_pos a] at h; cases h; exact Or.inr (Or.inl ⟨rfl, a⟩)
  rw [if_neg a] at h
  by_cases a : c = 109
  · rw [if_pos a] at h; cases h; exact Or.inr (Or.inr (Or.inl ⟨rfl, a⟩))
  rw [if_neg a] at h
  by_cases a : c = 107
  · rw [if_pos a] at h; cases h; exact Or.inr (Or.inr (Or.inr (Or.inl ⟨rfl, a⟩)))
  rw [if_neg a] at h
  by_cases a : c = 119
  · rw [if_pos a] at h; cases h; exact Or.inr (Or.inr (Or.inr (Or.inr (Or.inl ⟨rfl, a⟩))))
  rw [if_neg a] at h
  by_cases a : c = 112
  · rw [if_pos a] at h; cases h; exact Or.inr (Or.inr (Or.inr (Or.inr (Or.inr (Or.inl ⟨rfl, a⟩)))))
  rw [if_neg a] at h
  by_cases a : c = 100
  · rw [if_pos a] at h; cases h; exact Or.inr (Or.inr (Or.inr (Or.inr (Or.inr (Or.inr (Or.inl ⟨rfl, a⟩))))))
  rw [if_neg a] at h
  by_cases a : c = 116
  · rw [if_pos a] at h; cases h; exact Or.inr (Or.inr (Or.inr (Or.inr (Or.inr (Or.inr (Or.inr ⟨rfl, a⟩))))))
  rw [if_neg a] at h
  cases h
theorem kndF_no {c : Int32} (h : kndF c = none) : c ≠ 43 ∧ c ≠ 45 ∧ c ≠ 109 ∧ c ≠ 107 ∧ c ≠ 119 ∧ c ≠ 112 ∧ c ≠ 100 ∧ c ≠ 116 := by
  refine ⟨?_, ?_, ?_, ?_, ?_, ?_, ?_, ?_⟩ <;> (intro q; subst q; exact absurd h (by decide))
theorem ne_toInt {c d : Int32} (h : c ≠ d) : ¬ d.toInt = c.toInt := fun q => h (Int32.toInt_inj.mp q.symm)
theorem pst_look {pc len : Nat} {ls : Lcs} {y : Int32} {r : Stk} {d o : Int} {ps : Array (Int × Int)} {t : Nat} (h0 : ((ps.toList.zip (ps.toList.drop 1)).all (fun (a, next) => a.1 < next.1)) = true) (h : Op.lookupswitch.offset ps.toList d y.toInt = o) (ht : tgt pc o = some t) : pst false (.lookupswitch d ps) len pc ls (.int y :: r) = some (t, ls, r) := by
  show gc ((ps.toList.zip (ps.toList.drop 1)).all (fun (a, next) => a.1 < next.1)) (gt pc (Op.lookupswitch.offset ps.toList d y.toInt) fun t => some (t, ls, r)) = _
  rw [h0, h]
  show gt pc o (fun t => some (t, ls, r)) = _
  unfold gt
  rw [ht]
theorem X6_isCommand_30_no {l0 : Option Value} {st : Stk} {w : Wld} {c : Int32} (h : kndF c = none) : Ev X 186 30 [l0] (.int c :: st) w n 0 0 Q ↔ Ev X 186 268 [l0] st w n 0 0 Q := by
  obtain ⟨h1, h2, h3, h4, h5, h6, h7, h8⟩ := kndF_no h
  have e : Op.lookupswitch.offset [(43, 74), (45, 116), (100, 204), (107, 161), (109, 128), (112, 221), (116, 221), (119, 204)] 238 c.toInt = 238 := by
    simp only [Op.lookupswitch.offset_cons, Op.lookupswitch.offset_nil]
    rw [if_neg (show ¬ (43 : Int) = c.toInt from ne_toInt (d := 43) h1), if_neg (show ¬ (45 : Int) = c.toInt from ne_toInt (d := 45) h2), if_neg (show ¬ (100 : Int) = c.toInt from ne_toInt (d := 100) h7), if_neg (show ¬ (107 : Int) = c.toInt from ne_toInt (d := 107) h4), if_neg (show ¬ (109 : Int) = c.toInt from ne_toInt (d := 109) h3), if_neg (show ¬ (112 : Int) = c.toInt from ne_toInt (d := 112) h6), if_neg (show ¬ (116 : Int) = c.toInt from ne_toInt (d := 116) h8), if_neg (show ¬ (119 : Int) = c.toInt from ne_toInt (d := 119) h5)]
  exact E_p ok_X6_isCommand (show decode (mB 186) 30 = .ok (.lookupswitch 238 #[(43, 74), (45, 116), (100, 204), (107, 161), (109, 128), (112, 221), (116, 221), (119, 204)], 74) by decide +kernel) rfl (pst_look rfl e rfl)
theorem X6_carries_4_116 {l0 : Option Value} {st : Stk} {w : Wld} : Ev X 187 4 [l0] (.int 116 :: st) w n 0 0 Q ↔ Ev X 187 173 [l0] st w n 0 0 Q := E_p ok_X6_carries (show decode (mB 187) 4 = .ok (.lookupswitch 169 #[(43, 68), (45, 91), (100, 147), (107, 113), (109, 96), (112, 158), (119, 136)], 68) by decide +kernel) rfl rfl
/-- a command at the place p, as the reference reads it -/
def cmdM (L : Nat) (C : Nat → Int32) (p : Nat) (D : Nat → Int32) : Option (Nat × Bool × Nat × (Nat → Int32)) :=
  if p < L then (kndF (C p)).map fun k => (k, numsM L C (LBY.getD (shN k) []) 0 (p + 1) D) else none
theorem mw_isCommand (hV : V 10 = nI L) (hp : V 11 = nI p) (hL : L ≤ 60) (hpL : p ≤ L) (hC : ∀ i, i < L → okv .char (.int (A 7 i)) = true) (hQ : match cmdM L (A 7) p (A 8) with
    | none => ∀ v12, Q (.inl (some (.int 0))) (MW w m (upd V 12 v12) N A) n
    | some (_, b, q, D2) => Q (.inl (some (.int (if b then 1 else 0)))) (MW w m (upd (upd V 12 (A 7 p)) 11 (nI q)) N (updT A 8 D2)) n) : Ev X 186 0 [some (.ref m)] [] (MW w m V N A) n 0 0 Q := by
  have e1 : (1 : Int32) = 0 ↔ False := by decide
  unfold cmdM at hQ
  by_cases a : p < L
  · have a' : nI p = nI L ↔ False := ⟨fun q => by have := (pq_eq hL hpL).mp q; omega, False.elim⟩
    rw [if_pos a] at hQ
    have v11 : upd V 12 (A 7 p) 11 = nI p := hp
    have v10 : upd (upd V 12 (A 7 p)) 11 (nI (p + 1)) 10 = nI L := hV
    have u7 : ∀ f, updT A 8 f 7 = A 7 := fun f => updT_o (by decide)
    have uu : ∀ q, upd (upd (upd V 12 (A 7 p)) 11 (nI (p + 1))) 11 (nI q) = upd (upd V 12 (A 7 p)) 11 (nI q) := fun q => upd_upd
    simp only [X6_isCommand_0, X6_isCommand_1, X6_isCommand_4, X6_isCommand_5, gm10, gm11, hV, hp, Option.some.injEq, exists_eq_left', eq_self, okz0, okz1, ht, X6_isCommand_8, a', if_false, X6_isCommand_13, X6_isCommand_14, X6_isCommand_15, gm9, X6_isCommand_18, X6_isCommand_19, X6_isCommand_22, gax (show p < 60 by omega), X6_isCommand_23, pm12 (hC p a), X6_isCommand_26, X6_isCommand_27, gm12, upd_same]
    cases hk : kndF (A 7 p) with
    | none =>
      rw [hk] at hQ
      have hq := hQ (A 7 p)
      rw [X6_isCommand_30_no hk, X6_isCommand_268, X6_isCommand_269 okz0]
      exact hq
    | some k =>
      rw [hk] at hQ
      have hV2 := v10
      generalize hV3 : upd (upd V 12 (A 7 p)) 11 (nI (p + 1)) = V3 at hV2 uu
      have hp3 : V3 11 = nI (p + 1) := by rw [← hV3]; exact upd_same
      have p1L : p + 1 ≤ L := by omega
      rcases kndF_inv hk with ⟨rfl, hc⟩ | ⟨rfl, hc⟩ | ⟨rfl, hc⟩ | ⟨rfl, hc⟩ | ⟨rfl, hc⟩ | ⟨rfl, hc⟩ | ⟨rfl, hc⟩ | ⟨rfl, hc⟩
      · -- join: hdd
        have es : LBY.getD (shN 0) [] = [104, 100, 100] := rfl
        simp only [Option.map_some, es, numsM] at hQ
        rw [hc] at hQ hV3 uu ⊢
        simp only [X6_isCommand_30_43, X6_isCommand_104, X6_isCommand_105, X6_isCommand_106, gm11, hp, upd_ne (show 11 ≠ 12 by decide), Option.some.injEq, exists_eq_left', eq_self, okz0, okz1, ht, X6_isCommand_109, X6_isCommand_110, nI_1, X6_isCommand_111, p11, hV3, X6_isCommand_114, X6_isCommand_115, X6_isCommand_116 cm, mn_0 hV2 hp3 hL p1L]
        cases h0 : numN L (A 7) 104 (p + 1) with
        | none =>
          simp only [h0] at hQ
          simp only [Kr_v, X6_isCommand_119, if_true, X6_isCommand_144, X6_isCommand_145 okz0]
          simp only [hV3, Bool.false_eq_true, if_false] at hQ
          exact hQ
        | some r =>
          obtain ⟨v0, q0⟩ := r
          obtain ⟨-, l0⟩ := numN_le h0
          have hV4 : upd V3 11 (nI q0) 10 = nI L := hV2
          simp only [h0] at hQ
          (try dsimp only at hQ)
          simp only [Kr_v, X6_isCommand_119, e1, if_false, X6_isCommand_122, X6_isCommand_123, X6_isCommand_124, X6_isCommand_125 cm, dg_1 hV4 upd_same hL l0, u7, updT_s, updT_T]
          cases h1 : numN L (A 7) 100 q0 with
          | none =>
            simp only [h1] at hQ
            simp only [Kr_v, X6_isCommand_128, if_true, X6_isCommand_144, X6_isCommand_145 okz0, uu]
            simp only [Bool.false_eq_true, if_false] at hQ
            exact hQ
          | some r =>
            obtain ⟨v1, q1⟩ := r
            obtain ⟨-, l1⟩ := numN_le h1
            have hV5 : upd (upd V3 11 (nI q0)) 11 (nI q1) 10 = nI L := hV2
            simp only [h1] at hQ
            (try dsimp only at hQ)
            simp only [Kr_v, X6_isCommand_128, e1, if_false, X6_isCommand_131, X6_isCommand_132, X6_isCommand_133, X6_isCommand_134 cm, dg_2 hV5 upd_same hL l1, u7, updT_s, updT_T]
            cases h2 : numN L (A 7) 100 q1 with
            | none =>
              simp only [h2] at hQ
              simp only [Kr_v, X6_isCommand_137, if_true, X6_isCommand_144, X6_isCommand_145 okz0, upd_upd, uu]
              simp only [Bool.false_eq_true, if_false] at hQ
              exact hQ
            | some r =>
              obtain ⟨v2, q2⟩ := r
              simp only [h2] at hQ
              simp only [Kr_v, X6_isCommand_137, e1, if_false, X6_isCommand_140, X6_isCommand_141, X6_isCommand_145 okz1, upd_upd, uu]
              simp only [if_true] at hQ
              exact hQ
      · -- leave
        have es : LBY.getD (shN 1) [] = [] := rfl
        simp only [Option.map_some, es, numsM, if_true] at hQ
        rw [hc] at hQ hV3 uu ⊢
        simp only [X6_isCommand_30_45, X6_isCommand_146, X6_isCommand_147, X6_isCommand_148, gm11, hp, upd_ne (show 11 ≠ 12 by decide), Option.some.injEq, exists_eq_left', eq_self, okz0, okz1, ht, X6_isCommand_151, X6_isCommand_152, nI_1, X6_isCommand_153, p11, hV3, X6_isCommand_156, X6_isCommand_157 okz1]
        rw [hV3, updT_id] at hQ
        exact hQ
      · -- manner: dh
        have es : LBY.getD (shN 2) [] = [100, 104] := rfl
        simp only [Option.map_some, es, numsM] at hQ
        rw [hc] at hQ hV3 uu ⊢
        simp only [X6_isCommand_30_109, X6_isCommand_158, X6_isCommand_159, X6_isCommand_160, gm11, hp, upd_ne (show 11 ≠ 12 by decide), Option.some.injEq, exists_eq_left', eq_self, okz0, okz1, ht, X6_isCommand_163, X6_isCommand_164, nI_1, X6_isCommand_165, p11, hV3, X6_isCommand_168, X6_isCommand_169, X6_isCommand_170, X6_isCommand_171 cm, dg_0 hV2 hp3 hL p1L]
        cases h0 : numN L (A 7) 100 (p + 1) with
        | none =>
          simp only [h0] at hQ
          simp only [Kr_v, X6_isCommand_174, if_true, X6_isCommand_189, X6_isCommand_190 okz0]
          simp only [hV3, Bool.false_eq_true, if_false] at hQ
          exact hQ
        | some r =>
          obtain ⟨v0, q0⟩ := r
          obtain ⟨-, l0⟩ := numN_le h0
          have hV4 : upd V3 11 (nI q0) 10 = nI L := hV2
          simp only [h0] at hQ
          (try dsimp only at hQ)
          simp only [Kr_v, X6_isCommand_174, e1, if_false, X6_isCommand_177, X6_isCommand_178, X6_isCommand_179 cm, mn_1 hV4 upd_same hL l0, u7, updT_s, updT_T]
          cases h1 : numN L (A 7) 104 q0 with
          | none =>
            simp only [h1] at hQ
            simp only [Kr_v, X6_isCommand_182, if_true, X6_isCommand_189, X6_isCommand_190 okz0, uu]
            simp only [Bool.false_eq_true, if_false] at hQ
            exact hQ
          | some r =>
            obtain ⟨v1, q1⟩ := r
            simp only [h1] at hQ
            simp only [Kr_v, X6_isCommand_182, e1, if_false, X6_isCommand_185, X6_isCommand_186, X6_isCommand_190 okz1, upd_upd, uu]
            simp only [if_true] at hQ
            exact hQ
      · -- clocks: ddd
        have es : LBY.getD (shN 3) [] = [100, 100, 100] := rfl
        simp only [Option.map_some, es, numsM] at hQ
        rw [hc] at hQ hV3 uu ⊢
        simp only [X6_isCommand_30_107, X6_isCommand_191, X6_isCommand_192, X6_isCommand_193, gm11, hp, upd_ne (show 11 ≠ 12 by decide), Option.some.injEq, exists_eq_left', eq_self, okz0, okz1, ht, X6_isCommand_196, X6_isCommand_197, nI_1, X6_isCommand_198, p11, hV3, X6_isCommand_201, X6_isCommand_202, X6_isCommand_203, X6_isCommand_204 cm, dg_0 hV2 hp3 hL p1L]
        cases h0 : numN L (A 7) 100 (p + 1) with
        | none =>
          simp only [h0] at hQ
          simp only [Kr_v, X6_isCommand_207, if_true, X6_isCommand_232, X6_isCommand_233 okz0]
          simp only [hV3, Bool.false_eq_true, if_false] at hQ
          exact hQ
        | some r =>
          obtain ⟨v0, q0⟩ := r
          obtain ⟨-, l0⟩ := numN_le h0
          have hV4 : upd V3 11 (nI q0) 10 = nI L := hV2
          simp only [h0] at hQ
          (try dsimp only at hQ)
          simp only [Kr_v, X6_isCommand_207, e1, if_false, X6_isCommand_210, X6_isCommand_211, X6_isCommand_212, X6_isCommand_213 cm, dg_1 hV4 upd_same hL l0, u7, updT_s, updT_T]
          cases h1 : numN L (A 7) 100 q0 with
          | none =>
            simp only [h1] at hQ
            simp only [Kr_v, X6_isCommand_216, if_true, X6_isCommand_232, X6_isCommand_233 okz0, uu]
            simp only [Bool.false_eq_true, if_false] at hQ
            exact hQ
          | some r =>
            obtain ⟨v1, q1⟩ := r
            obtain ⟨-, l1⟩ := numN_le h1
            have hV5 : upd (upd V3 11 (nI q0)) 11 (nI q1) 10 = nI L := hV2
            simp only [h1] at hQ
            (try dsimp only at hQ)
            simp only [Kr_v, X6_isCommand_216, e1, if_false, X6_isCommand_219, X6_isCommand_220, X6_isCommand_221, X6_isCommand_222 cm, dg_2 hV5 upd_same hL l1, u7, updT_s, updT_T]
            cases h2 : numN L (A 7) 100 q1 with
            | none =>
              simp only [h2] at hQ
              simp only [Kr_v, X6_isCommand_225, if_true, X6_isCommand_232, X6_isCommand_233 okz0, upd_upd, uu]
              simp only [Bool.false_eq_true, if_false] at hQ
              exact hQ
            | some r =>
              obtain ⟨v2, q2⟩ := r
              simp only [h2] at hQ
              simp only [Kr_v, X6_isCommand_225, e1, if_false, X6_isCommand_228, X6_isCommand_229, X6_isCommand_233 okz1, upd_upd, uu]
              simp only [if_true] at hQ
              exact hQ
      · -- waiter: d
        have es : LBY.getD (shN 4) [] = [100] := rfl
        simp only [Option.map_some, es, numsM] at hQ
        rw [hc] at hQ hV3 uu ⊢
        simp only [X6_isCommand_30_119, X6_isCommand_234, X6_isCommand_235, X6_isCommand_236, gm11, hp, upd_ne (show 11 ≠ 12 by decide), Option.some.injEq, exists_eq_left', eq_self, okz0, okz1, ht, X6_isCommand_239, X6_isCommand_240, nI_1, X6_isCommand_241, p11, hV3, X6_isCommand_244, X6_isCommand_245, X6_isCommand_246, X6_isCommand_247 cm, dg_0 hV2 hp3 hL p1L]
        cases h0 : numN L (A 7) 100 (p + 1) with
        | none =>
          simp only [h0] at hQ
          simp only [Kr_v, X6_isCommand_250 okz0]
          simp only [hV3, Bool.false_eq_true, if_false] at hQ
          exact hQ
        | some r =>
          obtain ⟨v0, q0⟩ := r
          simp only [h0] at hQ
          simp only [Kr_v, X6_isCommand_250 okz1, uu]
          simp only [if_true] at hQ
          exact hQ
      · -- bring: n
        have es : LBY.getD (shN 5) [] = [110] := rfl
        simp only [Option.map_some, es, numsM] at hQ
        rw [hc] at hQ hV3 uu ⊢
        simp only [X6_isCommand_30_112, X6_isCommand_251, X6_isCommand_252, X6_isCommand_253, gm11, hp, upd_ne (show 11 ≠ 12 by decide), Option.some.injEq, exists_eq_left', eq_self, okz0, okz1, ht, X6_isCommand_256, X6_isCommand_257, nI_1, X6_isCommand_258, p11, hV3, X6_isCommand_261, X6_isCommand_262, X6_isCommand_263, X6_isCommand_264 cm, dh_0 hV2 hp3 hL p1L]
        cases h0 : numN L (A 7) 110 (p + 1) with
        | none =>
          simp only [h0] at hQ
          simp only [Kr_v, X6_isCommand_267 okz0]
          simp only [hV3, Bool.false_eq_true, if_false] at hQ
          exact hQ
        | some r =>
          obtain ⟨v0, q0⟩ := r
          simp only [h0] at hQ
          simp only [Kr_v, X6_isCommand_267 okz1, uu]
          simp only [if_true] at hQ
          exact hQ
      · -- take: d
        have es : LBY.getD (shN 6) [] = [100] := rfl
        simp only [Option.map_some, es, numsM] at hQ
        rw [hc] at hQ hV3 uu ⊢
        simp only [X6_isCommand_30_100, X6_isCommand_234, X6_isCommand_235, X6_isCommand_236, gm11, hp, upd_ne (show 11 ≠ 12 by decide), Option.some.injEq, exists_eq_left', eq_self, okz0, okz1, ht, X6_isCommand_239, X6_isCommand_240, nI_1, X6_isCommand_241, p11, hV3, X6_isCommand_244, X6_isCommand_245, X6_isCommand_246, X6_isCommand_247 cm, dg_0 hV2 hp3 hL p1L]
        cases h0 : numN L (A 7) 100 (p + 1) with
        | none =>
          simp only [h0] at hQ
          simp only [Kr_v, X6_isCommand_250 okz0]
          simp only [hV3, Bool.false_eq_true, if_false] at hQ
          exact hQ
        | some r =>
          obtain ⟨v0, q0⟩ := r
          simp only [h0] at hQ
          simp only [Kr_v, X6_isCommand_250 okz1, uu]
          simp only [if_true] at hQ
          exact hQ
      · -- ticks: n
        have es : LBY.getD (shN 7) [] = [110] := rfl
        simp only [Option.map_some, es, numsM] at hQ
        rw [hc] at hQ hV3 uu ⊢
        simp only [X6_isCommand_30_116, X6_isCommand_251, X6_isCommand_252, X6_isCommand_253, gm11, hp, upd_ne (show 11 ≠ 12 by decide), Option.some.injEq, exists_eq_left', eq_self, okz0, okz1, ht, X6_isCommand_256, X6_isCommand_257, nI_1, X6_isCommand_258, p11, hV3, X6_isCommand_261, X6_isCommand_262, X6_isCommand_263, X6_isCommand_264 cm, dh_0 hV2 hp3 hL p1L]
        cases h0 : numN L (A 7) 110 (p + 1) with
        | none =>
          simp only [h0] at hQ
          simp only [Kr_v, X6_isCommand_267 okz0]
          simp only [hV3, Bool.false_eq_true, if_false] at hQ
          exact hQ
        | some r =>
          obtain ⟨v0, q0⟩ := r
          simp only [h0] at hQ
          simp only [Kr_v, X6_isCommand_267 okz1, uu]
          simp only [if_true] at hQ
          exact hQ
  · obtain rfl : p = L := by omega
    rw [if_neg a] at hQ
    have hq := hQ (V 12)
    have hv : upd V 12 (V 12) = V := by
      funext j
      unfold upd
      split
      · rename_i hj; rw [hj]
      · rfl
    rw [hv] at hq
    simp only [X6_isCommand_0, X6_isCommand_1, X6_isCommand_4, X6_isCommand_5, gm10, gm11, hV, hp, Option.some.injEq, exists_eq_left', eq_self, okz0, okz1, ht, X6_isCommand_8, if_true, X6_isCommand_11, X6_isCommand_12 okz0]
    exact hq
end RDM
