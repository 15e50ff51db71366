/-! ===== the reference's public changes ===== -/
section MPU
variable {X : Cxt} {w : Wld} {n : Option Nat} {Q : (Option Value ⊕ String) → Wld → Option Nat → Prop} {m cnt c : Nat} {V N : Nat → Int32} {A : Nat → Nat → Int32}
def tksN (cnt k : Nat) (N : Nat → Int32) : Nm := itr (fun _ (z : Nm) => ((tgN cnt z.1).1, z.2 + (tgN cnt z.1).2)) k (N, 0)
/-- what must hold for ticks to go by, and goes on to hold -/
def TI (cnt : Nat) (I : Nat → (Nat → Int32) → Prop) : Prop := ∀ d N, I (d + 1) N → (N 0 = nI cnt ∧ (∃ a0, a0 ≤ 8 ∧ N 6 = nI a0) ∧ ∃ a, QV cnt a (ph1 cnt N).1) ∧ I d (tgN cnt N).1
theorem mw_ticks {I : Nat → (Nat → Int32) → Prop} (hT : TI cnt I) {k : Nat} (hI : I k N) (h8 : cnt ≤ 8) (hk : k < 100) : Ev X 94 0 [some (.ref m), some (.int (nI k)), none, none] [] (MW w m V N A) n 0 0 Q ↔ Q (.inl (some (.int (tksN cnt k N).2))) (MW w m V (tksN cnt k N).1 A) n := by
  have h := loop_upI (α := Nm) (P := fun j z => Ev X 94 4 [some (.ref m), some (.int (nI k)), some (.int z.2), some (.int (nI j))] [] (MW w m V z.1 A) n 0 0 Q) (f := fun _ (z : Nm) => ((tgN cnt z.1).1, z.2 + (tgN cnt z.1).2)) (n := k) (a0 := (N, 0)) (I := fun j z => I (k - j) z.1) hI (fun j z hj hz => by
    rw [show k - j = (k - (j + 1)) + 1 by omega] at hz
    exact (hT _ _ hz).2) (fun j z hj hz => by
    rw [show k - j = (k - (j + 1)) + 1 by omega] at hz
    obtain ⟨⟨h0, ⟨a0, ha0, h6⟩, a, hq⟩, -⟩ := hT _ _ hz
    have hlt : nI j < nI k := nI_lt hj (by omega)
    rw [X6_ticks_4]
    simp only [X6_ticks_0, X6_ticks_1, X6_ticks_2, X6_ticks_3, X6_ticks_5, X6_ticks_6, X6_ticks_9, X6_ticks_10, X6_ticks_11, X6_ticks_14, X6_ticks_15, X6_ticks_16, X6_ticks_19, X6_ticks_22, X6_ticks_23, hlt, if_true, cm, mw_tickGoes h0 h8 h6 ha0 hq, Kr_v, nI_1])
  obtain ⟨h, -⟩ := h
  simp only [X6_ticks_0, X6_ticks_1, X6_ticks_2, X6_ticks_3]
  refine h.trans ?_
  simp only [X6_ticks_0, X6_ticks_1, X6_ticks_2, X6_ticks_3, X6_ticks_4, X6_ticks_5, X6_ticks_6, X6_ticks_9, X6_ticks_10, X6_ticks_11, X6_ticks_14, X6_ticks_15, X6_ticks_16, X6_ticks_19, X6_ticks_22, X6_ticks_23, Int32.lt_irrefl, if_false]
  exact Iff.rfl
def passM (cnt : Nat) (y : Int32) (N : Nat → Int32) : (Int32 × Int32) ⊕ (Int32 × (Nat → Int32)) := if inF y 1 99 = 0 then .inl (1, 0) else if N 0 < 2 then .inl (5, N 0) else .inr ((tksN cnt y.toNatClampNeg N).2, (tksN cnt y.toNatClampNeg N).1)
theorem mw_passes {I : Nat → (Nat → Int32) → Prop} (hT : TI cnt I) (hN : N 0 = nI cnt) (h8 : cnt ≤ 8) (hI : 2 ≤ cnt → ∀ k, k < 100 → I k N) {y : Int32} : Ev X 95 0 [some (.ref m), some (.int y)] [] (MW w m V N A) n 0 0 Q ↔ mIn Q w m V N A n (passM cnt y N) := by
  unfold passM
  by_cases h1 : inF y 1 99 = 0
  · rw [if_pos h1]
    simp only [X6_passes_0, X6_passes_1, X6_passes_2, X6_passes_4, X6_passes_7, X6_passes_10, X6_passes_11, X6_passes_12, X6_passes_13, X6_passes_16 okz0, X6_passes_16 okz1, X6_passes_17, X6_passes_18, X6_passes_21, X6_passes_22, X6_passes_23, X6_passes_24, X6_passes_27, X6_passes_28, X6_passes_29, X6_passes_30, X6_passes_33, X6_passes_34, X6_passes_35, X6_passes_38 okz0, X6_passes_38 okz1, X6_passes_39, X6_passes_40, X6_passes_41, X6_passes_42, X6_passes_45, X6_passes_48 okz0, X6_passes_48 okz1, cm, mw_in, Kr_v, h1, if_true, mw_refuses, mIn]
  rw [if_neg h1]
  by_cases h2 : N 0 < 2
  · rw [if_pos h2]
    simp only [X6_passes_0, X6_passes_1, X6_passes_2, X6_passes_4, X6_passes_7, X6_passes_10, X6_passes_11, X6_passes_12, X6_passes_13, X6_passes_16 okz0, X6_passes_16 okz1, X6_passes_17, X6_passes_18, X6_passes_21, X6_passes_22, X6_passes_23, X6_passes_24, X6_passes_27, X6_passes_28, X6_passes_29, X6_passes_30, X6_passes_33, X6_passes_34, X6_passes_35, X6_passes_38 okz0, X6_passes_38 okz1, X6_passes_39, X6_passes_40, X6_passes_41, X6_passes_42, X6_passes_45, X6_passes_48 okz0, X6_passes_48 okz1, cm, mw_in, gm0, gn0, Option.some.injEq, exists_eq_left', eq_self, okz0, okz1, ht, Kr_v, h1, h2, if_true, if_false, mw_refuses, mIn]
  rw [if_neg h2]
  have hc2 : 2 ≤ cnt := by
    rcases Nat.lt_or_ge cnt 2 with q | q
    · exfalso; apply h2; rw [hN]; exact show nI cnt < nI 2 from nI_lt q (by decide)
    · exact q
  have hy : ¬ y < 1 ∧ ¬ 99 < y := by
    unfold inF at h1
    by_cases a : y < 1
    · rw [if_pos a] at h1; exact absurd rfl h1
    · rw [if_neg a] at h1
      by_cases b : 99 < y
      · rw [if_pos b] at h1; exact absurd rfl h1
      · exact ⟨a, b⟩
  have h0 : ¬ y < 0 := fun q => hy.1 (Int32.lt_trans q (by decide))
  obtain ⟨k, hk, rfl⟩ := nI_of h0
  have hk100 : k < 100 := by
    rcases Nat.lt_or_ge k 100 with q | q
    · exact q
    · exact absurd (show nI 99 < nI k from nI_lt (by omega) hk) hy.2
  rw [nI_clamp hk]
  simp only [X6_passes_0, X6_passes_1, X6_passes_2, X6_passes_4, X6_passes_7, X6_passes_10, X6_passes_11, X6_passes_12, X6_passes_13, X6_passes_16 okz0, X6_passes_16 okz1, X6_passes_17, X6_passes_18, X6_passes_21, X6_passes_22, X6_passes_23, X6_passes_24, X6_passes_27, X6_passes_28, X6_passes_29, X6_passes_30, X6_passes_33, X6_passes_34, X6_passes_35, X6_passes_38 okz0, X6_passes_38 okz1, X6_passes_39, X6_passes_40, X6_passes_41, X6_passes_42, X6_passes_45, X6_passes_48 okz0, X6_passes_48 okz1, cm, mw_in, gm0, gn0, Option.some.injEq, exists_eq_left', eq_self, okz0, okz1, ht, Kr_v, h1, h2, if_false, mw_ticks hT (hI hc2 k hk100) h8 hk100, mw_does, mIn]
theorem mEn_Kr {M pc : Nat} {ls : Lcs} {r : (Int32 × Int32) ⊕ (Int32 × (Nat → Int32))} (h : ∀ (v : Int32) (w2 : Wld), Ev X M pc ls [.int v] w2 n 0 0 Q ↔ Q (.inl (some (.int v))) w2 n) : mEn (Kr X M pc ls [] 0 0 Q) w m V N A c n r ↔ mEn Q w m V N A c n r := by
  cases r with
  | inl q => obtain ⟨a, b⟩ := q; exact h _ _
  | inr q => obtain ⟨v, N2⟩ := q; exact h _ _
/-- tries, an inner method, ends -/
theorem mEn_to {M pc pc2 : Nat} {ls : Lcs} {r : (Int32 × Int32) ⊕ (Int32 × (Nat → Int32))} (hV : V 4 = nI c) (hc : c ≤ 8) (h : ∀ (b : Int32) (w2 : Wld), hasc w2 m 5 = true → (Ev X M pc ls [.int b, .ref m] w2 n 0 0 Q ↔ Ev X 28 0 [some (.ref m), some (.int b)] [] w2 n 0 0 (Kr X M pc2 ls [] 0 0 Q))) (h2 : ∀ (v : Int32) (w2 : Wld), Ev X M pc2 ls [.int v] w2 n 0 0 Q ↔ Q (.inl (some (.int v))) w2 n) : mIn (Kr X M pc ls [.ref m] 0 0 Q) w m (upd V 19 0) N (updT A 2 (cpN N (A 2))) n r ↔ mEn Q w m V N A c n r := by
  have key : mIn (Kr X M pc ls [.ref m] 0 0 Q) w m (upd V 19 0) N (updT A 2 (cpN N (A 2))) n r ↔ mEn (Kr X M pc2 ls [] 0 0 Q) w m V N A c n r := by
    cases r with
    | inl q =>
      obtain ⟨a, b⟩ := q
      show Ev X M pc ls [.int 0, .ref m] _ n 0 0 Q ↔ _
      rw [h 0 _ cm, mw_ends_no]
      exact Iff.rfl
    | inr q =>
      obtain ⟨v, N2⟩ := q
      show Ev X M pc ls [.int 1, .ref m] _ n 0 0 Q ↔ _
      rw [h 1 _ cm, mw_ends_ok (c := c) (by exact hV) hc]
      have u4 : updT A 2 (cpN N (A 2)) 4 = A 4 := updT_o (by decide)
      rw [u4, updT_s]
      exact Iff.rfl
  exact key.trans (mEn_Kr h2)
theorem mw_join (hV : V 4 = nI c) (hc : c ≤ 8) (hN : N 0 = nI cnt) (h8 : cnt ≤ 8) {a b d : Int32} : Ev X 29 0 [some (.ref m), some (.int a), some (.int b), some (.int d)] [] (MW w m V N A) n 0 0 Q ↔ mEn Q w m V N A c n (joinM cnt a b d N) := by
  simp only [X6_join_0, X6_join_1, X6_join_4, X6_join_5, X6_join_6, X6_join_7, X6_join_8, X6_join_9, cm, mw_tries, Kr_n, mw_joins hN h8]
  exact mEn_to hV hc (fun b w2 hm => X6_join_12 hm) (fun v w2 => X6_join_15)
theorem mw_leave (hV : V 4 = nI c) (hc : c ≤ 8) (hN : N 0 = nI cnt) (h8 : cnt ≤ 8) {q : Nat} (hA : N 6 = nI q) (ha : q ≤ 8) : Ev X 36 0 [some (.ref m)] [] (MW w m V N A) n 0 0 Q ↔ mEn Q w m V N A c n (leavM cnt q N) := by
  simp only [X6_leave_0, X6_leave_1, X6_leave_4, X6_leave_5, X6_leave_6, cm, mw_tries, Kr_n, mw_leaves hN h8 hA ha]
  exact mEn_to hV hc (fun b w2 hm => X6_leave_9 hm) (fun v w2 => X6_leave_12)
theorem mw_manner (hV : V 4 = nI c) (hc : c ≤ 8) (hN : N 0 = nI cnt) (h8 : cnt ≤ 8) {y d : Int32} : Ev X 45 0 [some (.ref m), some (.int y), some (.int d)] [] (MW w m V N A) n 0 0 Q ↔ mEn Q w m V N A c n (turnX cnt y d N) := by
  simp only [X6_manner_0, X6_manner_1, X6_manner_4, X6_manner_5, X6_manner_6, X6_manner_7, X6_manner_8, cm, mw_tries, Kr_n, mw_turns hN h8]
  exact mEn_to hV hc (fun b w2 hm => X6_manner_11 hm) (fun v w2 => X6_manner_14)
theorem mw_clocks (hV : V 4 = nI c) (hc : c ≤ 8) (hN : N 0 = nI cnt) (h8 : cnt ≤ 8) {y a b : Int32} : Ev X 50 0 [some (.ref m), some (.int y), some (.int a), some (.int b)] [] (MW w m V N A) n 0 0 Q ↔ mEn Q w m V N A c n (timeX cnt y a b N) := by
  simp only [X6_clocks_0, X6_clocks_1, X6_clocks_4, X6_clocks_5, X6_clocks_6, X6_clocks_7, X6_clocks_8, X6_clocks_9, cm, mw_tries, Kr_n, mw_times hN h8]
  exact mEn_to hV hc (fun b w2 hm => X6_clocks_12 hm) (fun v w2 => X6_clocks_15)
theorem mw_waiter (hV : V 4 = nI c) (hc : c ≤ 8)  {y : Int32} : Ev X 55 0 [some (.ref m), some (.int y)] [] (MW w m V N A) n 0 0 Q ↔ mEn Q w m V N A c n (tellM y N) := by
  simp only [X6_waiter_0, X6_waiter_1, X6_waiter_4, X6_waiter_5, X6_waiter_6, X6_waiter_7, cm, mw_tries, Kr_n, mw_tells]
  exact mEn_to hV hc (fun b w2 hm => X6_waiter_10 hm) (fun v w2 => X6_waiter_13)
theorem mw_bring (hV : V 4 = nI c) (hc : c ≤ 8)  {y : Int32} : Ev X 60 0 [some (.ref m), some (.int y)] [] (MW w m V N A) n 0 0 Q ↔ mEn Q w m V N A c n (brinM y N) := by
  simp only [X6_bring_0, X6_bring_1, X6_bring_4, X6_bring_5, X6_bring_6, X6_bring_7, cm, mw_tries, Kr_n, mw_brings]
  exact mEn_to hV hc (fun b w2 hm => X6_bring_10 hm) (fun v w2 => X6_bring_13)
theorem mw_take (hV : V 4 = nI c) (hc : c ≤ 8) (hN : N 0 = nI cnt) (h8 : cnt ≤ 8) {y : Int32} : Ev X 68 0 [some (.ref m), some (.int y)] [] (MW w m V N A) n 0 0 Q ↔ mEn Q w m V N A c n (takeX cnt y N) := by
  simp only [X6_take_0, X6_take_1, X6_take_4, X6_take_5, X6_take_6, X6_take_7, cm, mw_tries, Kr_n, mw_takes hN h8]
  exact mEn_to hV hc (fun b w2 hm => X6_take_10 hm) (fun v w2 => X6_take_13)
theorem mw_pass (hV : V 4 = nI c) (hc : c ≤ 8) {I : Nat → (Nat → Int32) → Prop} (hT : TI cnt I) (hN : N 0 = nI cnt) (h8 : cnt ≤ 8) (hI : 2 ≤ cnt → ∀ k, k < 100 → I k N) {y : Int32} : Ev X 96 0 [some (.ref m), some (.int y)] [] (MW w m V N A) n 0 0 Q ↔ mEn Q w m V N A c n (passM cnt y N) := by
  simp only [X6_pass_0, X6_pass_1, X6_pass_4, X6_pass_5, X6_pass_6, X6_pass_7, cm, mw_tries, Kr_n, mw_passes hT hN h8 hI]
  exact mEn_to hV hc (fun b w2 hm => X6_pass_10 hm) (fun v w2 => X6_pass_13)
end MPU
