/-! ===== the world of the reference ===== -/
def mob (m : Nat) (V : Nat → Int32) : List Value := [.ref (m + 1), .ref (m + 2), .ref (m + 3), .ref (m + 4), .int (V 4), .ref (m + 5), .int (V 6), .ref (m + 6), .int (V 8), .ref (m + 7), .int (V 10), .int (V 11), .int (V 12), .ref (m + 8), .int (V 14), .int (V 15), .int (V 16), .int (V 17), .int (V 18), .int (V 19)]
/-- the arrays' kinds and lengths: 1 now, 2 tried, 3 thought, 4 kept, 5 saved, 6 line, 7 text, 8 told -/
def mln (i : Nat) : Nat × Nat := match i with
  | 4 => (0, 824)
  | 6 => (1, 60)
  | 7 => (1, 60)
  | 8 => (0, 3)
  | _ => (0, 103)
/-- the reference at m: its numbers V by field, what now holds, the other arrays -/
def MW (w : Wld) (m : Nat) (V N : Nat → Int32) (A : Nat → Nat → Int32) : Wld := fun a =>
  if a = m then some (.inr (5, mob m V)) else if a = m + 1 then some (.inl (0, 103, fun j => .int (N j))) else if m + 2 ≤ a ∧ a < m + 9 then some (.inl ((mln (a - m)).1, (mln (a - m)).2, fun j => .int (A (a - m) j))) else w a
section MWS
variable {w : Wld} {m : Nat} {V N : Nat → Int32} {A : Nat → Nat → Int32}
theorem MW_m : MW w m V N A m = some (.inr (5, mob m V)) := if_pos rfl
theorem MW_1 : MW w m V N A (m + 1) = some (.inl (0, 103, fun j => .int (N j))) := by unfold MW; rw [if_neg (by omega), if_pos rfl]
theorem MW_a {i : Nat} (h1 : 2 ≤ i) (h2 : i < 9) : MW w m V N A (m + i) = some (.inl ((mln i).1, (mln i).2, fun j => .int (A i j))) := by
  unfold MW
  rw [if_neg (by omega), if_neg (by omega), if_pos (by omega), show m + i - m = i by omega]
theorem cm : hasc (MW w m V N A) m 5 = true := by unfold hasc; rw [MW_m]; rfl
theorem gm0 : gf (MW w m V N A) m 5 0 = some (.ref (m + 1)) := by unfold gf; rw [MW_m]; rfl
theorem gm1 : gf (MW w m V N A) m 5 1 = some (.ref (m + 2)) := by unfold gf; rw [MW_m]; rfl
theorem gm2 : gf (MW w m V N A) m 5 2 = some (.ref (m + 3)) := by unfold gf; rw [MW_m]; rfl
theorem gm3 : gf (MW w m V N A) m 5 3 = some (.ref (m + 4)) := by unfold gf; rw [MW_m]; rfl
theorem gm5 : gf (MW w m V N A) m 5 5 = some (.ref (m + 5)) := by unfold gf; rw [MW_m]; rfl
theorem gm7 : gf (MW w m V N A) m 5 7 = some (.ref (m + 6)) := by unfold gf; rw [MW_m]; rfl
theorem gm9 : gf (MW w m V N A) m 5 9 = some (.ref (m + 7)) := by unfold gf; rw [MW_m]; rfl
theorem gm13 : gf (MW w m V N A) m 5 13 = some (.ref (m + 8)) := by unfold gf; rw [MW_m]; rfl
theorem gm4 : gf (MW w m V N A) m 5 4 = some (.int (V 4)) := by unfold gf; rw [MW_m]; rfl
theorem gm6 : gf (MW w m V N A) m 5 6 = some (.int (V 6)) := by unfold gf; rw [MW_m]; rfl
theorem gm8 : gf (MW w m V N A) m 5 8 = some (.int (V 8)) := by unfold gf; rw [MW_m]; rfl
theorem gm10 : gf (MW w m V N A) m 5 10 = some (.int (V 10)) := by unfold gf; rw [MW_m]; rfl
theorem gm11 : gf (MW w m V N A) m 5 11 = some (.int (V 11)) := by unfold gf; rw [MW_m]; rfl
theorem gm12 : gf (MW w m V N A) m 5 12 = some (.int (V 12)) := by unfold gf; rw [MW_m]; rfl
theorem gm14 : gf (MW w m V N A) m 5 14 = some (.int (V 14)) := by unfold gf; rw [MW_m]; rfl
theorem gm15 : gf (MW w m V N A) m 5 15 = some (.int (V 15)) := by unfold gf; rw [MW_m]; rfl
theorem gm16 : gf (MW w m V N A) m 5 16 = some (.int (V 16)) := by unfold gf; rw [MW_m]; rfl
theorem gm17 : gf (MW w m V N A) m 5 17 = some (.int (V 17)) := by unfold gf; rw [MW_m]; rfl
theorem gm18 : gf (MW w m V N A) m 5 18 = some (.int (V 18)) := by unfold gf; rw [MW_m]; rfl
theorem gm19 : gf (MW w m V N A) m 5 19 = some (.int (V 19)) := by unfold gf; rw [MW_m]; rfl
/-- a number written -/
theorem pm {j : Nat} (hj : j = 4 ∨ j = 8 ∨ j = 10 ∨ j = 11 ∨ j = 14 ∨ j = 15 ∨ j = 16 ∨ j = 17 ∨ j = 18 ∨ j = 19) {v : Int32} : pf (MW w m V N A) m 5 j (.int v) = some (MW w m (upd V j v) N A) := by
  have hty : okv (fty 5 j) (.int v) = true := by
    rcases hj with rfl | rfl | rfl | rfl | rfl | rfl | rfl | rfl | rfl | rfl <;> rfl
  unfold pf
  rw [MW_m]
  dsimp only
  rw [if_pos ⟨rfl, by show j < 20; omega, hty⟩]
  congr 1
  refine wset_same ?_ (fun b hb => ?_)
  · rw [MW_m]
    rcases hj with rfl | rfl | rfl | rfl | rfl | rfl | rfl | rfl | rfl | rfl <;> rfl
  · unfold MW
    rw [if_neg hb, if_neg hb]
theorem pm6 {v : Int32} (hv : okv .boolean (.int v) = true) : pf (MW w m V N A) m 5 6 (.int v) = some (MW w m (upd V 6 v) N A) := by
  unfold pf
  rw [MW_m]
  dsimp only
  rw [if_pos ⟨rfl, by show 6 < 20; decide, hv⟩]
  congr 1
  refine wset_same ?_ (fun b hb => ?_)
  · rw [MW_m]; rfl
  · unfold MW
    rw [if_neg hb, if_neg hb]
theorem pm12 {v : Int32} (hv : okv .char (.int v) = true) : pf (MW w m V N A) m 5 12 (.int v) = some (MW w m (upd V 12 v) N A) := by
  unfold pf
  rw [MW_m]
  dsimp only
  rw [if_pos ⟨rfl, by show 12 < 20; decide, hv⟩]
  congr 1
  refine wset_same ?_ (fun b hb => ?_)
  · rw [MW_m]; rfl
  · unfold MW
    rw [if_neg hb, if_neg hb]
theorem gn {k : Nat} (h : k < 103) : ga (MW w m V N A) (m + 1) 0 (nI k) = some (.int (N k)) := by
  unfold ga
  rw [MW_1]
  dsimp only
  rw [if_pos ⟨rfl, inr_nI h (by decide)⟩, nI_clamp (by omega)]
theorem sn {k : Nat} (h : k < 103) {v : Int32} : sa (MW w m V N A) (m + 1) 0 (nI k) (.int v) = some (MW w m V (upd N k v) A) := by
  unfold sa
  rw [MW_1]
  dsimp only
  rw [if_pos ⟨rfl, inr_nI h (by decide)⟩, nI_clamp (by omega)]
  congr 1
  refine wset_same ?_ (fun b hb => ?_)
  · rw [MW_1]
    congr 4
    funext q
    unfold updV upd
    split <;> rfl
  · unfold MW
    by_cases a1 : b = m
    · rw [if_pos a1, if_pos a1]
    · rw [if_neg a1, if_neg hb, if_neg a1, if_neg hb]
theorem gma {i k : Nat} (h1 : 2 ≤ i) (h2 : i < 9) (h : k < (mln i).2) : ga (MW w m V N A) (m + i) (mln i).1 (nI k) = some (.int (A i k)) := by
  have hl : (mln i).2 ≤ 824 := by
    rcases (show i = 2 ∨ i = 3 ∨ i = 4 ∨ i = 5 ∨ i = 6 ∨ i = 7 ∨ i = 8 by omega) with rfl | rfl | rfl | rfl | rfl | rfl | rfl <;> decide
  unfold ga
  rw [MW_a h1 h2]
  dsimp only
  rw [if_pos ⟨rfl, inr_nI h (by omega)⟩, nI_clamp (by omega)]
theorem sma {i k : Nat} (h1 : 2 ≤ i) (h2 : i < 9) (h : k < (mln i).2) {v : Int32} : sa (MW w m V N A) (m + i) (mln i).1 (nI k) (.int v) = some (MW w m V N (updT A i (upd (A i) k v))) := by
  have hl : (mln i).2 ≤ 824 := by
    rcases (show i = 2 ∨ i = 3 ∨ i = 4 ∨ i = 5 ∨ i = 6 ∨ i = 7 ∨ i = 8 by omega) with rfl | rfl | rfl | rfl | rfl | rfl | rfl <;> decide
  unfold sa
  rw [MW_a h1 h2]
  dsimp only
  rw [if_pos ⟨rfl, inr_nI h (by omega)⟩, nI_clamp (by omega)]
  congr 1
  refine wset_same ?_ (fun b hb => ?_)
  · rw [MW_a h1 h2, updT_s]
    congr 4
    funext q
    unfold updV upd
    split <;> rfl
  · unfold MW
    by_cases a1 : b = m
    · rw [if_pos a1, if_pos a1]
    by_cases a2 : b = m + 1
    · rw [if_neg a1, if_pos a2, if_neg a1, if_pos a2]
    rw [if_neg a1, if_neg a2, if_neg a1, if_neg a2]
    by_cases a3 : m + 2 ≤ b ∧ b < m + 9
    · rw [if_pos a3, if_pos a3, updT_o (by omega)]
    · rw [if_neg a3, if_neg a3]
theorem gat {k : Nat} (h : k < 103) : ga (MW w m V N A) (m + 2) 0 (nI k) = some (.int (A 2 k)) := gma (i := 2) (by decide) (by decide) h
theorem sat {k : Nat} (h : k < 103) {v : Int32} : sa (MW w m V N A) (m + 2) 0 (nI k) (.int v) = some (MW w m V N (updT A 2 (upd (A 2) k v))) := sma (i := 2) (by decide) (by decide) h
theorem gah {k : Nat} (h : k < 103) : ga (MW w m V N A) (m + 3) 0 (nI k) = some (.int (A 3 k)) := gma (i := 3) (by decide) (by decide) h
theorem sah {k : Nat} (h : k < 103) {v : Int32} : sa (MW w m V N A) (m + 3) 0 (nI k) (.int v) = some (MW w m V N (updT A 3 (upd (A 3) k v))) := sma (i := 3) (by decide) (by decide) h
theorem gak {k : Nat} (h : k < 824) : ga (MW w m V N A) (m + 4) 0 (nI k) = some (.int (A 4 k)) := gma (i := 4) (by decide) (by decide) h
theorem sak {k : Nat} (h : k < 824) {v : Int32} : sa (MW w m V N A) (m + 4) 0 (nI k) (.int v) = some (MW w m V N (updT A 4 (upd (A 4) k v))) := sma (i := 4) (by decide) (by decide) h
theorem gas {k : Nat} (h : k < 103) : ga (MW w m V N A) (m + 5) 0 (nI k) = some (.int (A 5 k)) := gma (i := 5) (by decide) (by decide) h
theorem sas {k : Nat} (h : k < 103) {v : Int32} : sa (MW w m V N A) (m + 5) 0 (nI k) (.int v) = some (MW w m V N (updT A 5 (upd (A 5) k v))) := sma (i := 5) (by decide) (by decide) h
theorem gal {k : Nat} (h : k < 60) : ga (MW w m V N A) (m + 6) 1 (nI k) = some (.int (A 6 k)) := gma (i := 6) (by decide) (by decide) h
theorem sal {k : Nat} (h : k < 60) {v : Int32} : sa (MW w m V N A) (m + 6) 1 (nI k) (.int v) = some (MW w m V N (updT A 6 (upd (A 6) k v))) := sma (i := 6) (by decide) (by decide) h
theorem gax {k : Nat} (h : k < 60) : ga (MW w m V N A) (m + 7) 1 (nI k) = some (.int (A 7 k)) := gma (i := 7) (by decide) (by decide) h
theorem sax {k : Nat} (h : k < 60) {v : Int32} : sa (MW w m V N A) (m + 7) 1 (nI k) (.int v) = some (MW w m V N (updT A 7 (upd (A 7) k v))) := sma (i := 7) (by decide) (by decide) h
theorem gao {k : Nat} (h : k < 3) : ga (MW w m V N A) (m + 8) 0 (nI k) = some (.int (A 8 k)) := gma (i := 8) (by decide) (by decide) h
theorem sao {k : Nat} (h : k < 3) {v : Int32} : sa (MW w m V N A) (m + 8) 0 (nI k) (.int v) = some (MW w m V N (updT A 8 (upd (A 8) k v))) := sma (i := 8) (by decide) (by decide) h
end MWS
section MSM
variable {X : Cxt} {w : Wld} {n : Option Nat} {Q : (Option Value ⊕ String) → Wld → Option Nat → Prop} {m cnt : Nat} {V N : Nat → Int32} {A : Nat → Nat → Int32}
theorem mw_thrown : Ev X 30 0 [some (.ref m)] [] (MW w m V N A) n 0 0 Q ↔ Q (.inl (some (.int (V 19)))) (MW w m V N A) n := by
  simp only [X6_thrown_0, X6_thrown_1, X6_thrown_4, gm19, Option.some.injEq, exists_eq_left', eq_self, okz0, okz1, ht]
theorem mw_raises {y : Int32} : Ev X 27 0 [some (.ref m), some (.int y)] [] (MW w m V N A) n 0 0 Q ↔ Q (.inl (some (.int 0))) (MW w m (upd V 19 y) N A) n := by
  simp only [X6_raises_0, X6_raises_1, X6_raises_2, X6_raises_5, X6_raises_6, pm (show 19 = 4 ∨ 19 = 8 ∨ 19 = 10 ∨ 19 = 11 ∨ 19 = 14 ∨ 19 = 15 ∨ 19 = 16 ∨ 19 = 17 ∨ 19 = 18 ∨ 19 = 19 by decide), Option.some.injEq, exists_eq_left', eq_self, okz0, okz1, ht]
def inF (v a b : Int32) : Int32 := if v < a then 0 else if b < v then 0 else 1
theorem mw_in {w : Wld} {v a b : Int32} : Ev X 20 0 [some (.int v), some (.int a), some (.int b)] [] w n 0 0 Q ↔ Q (.inl (some (.int (inF v a b)))) w n := by
  simp only [X6_in_0, X6_in_1, X6_in_2, X6_in_5, X6_in_6, X6_in_7, X6_in_10, X6_in_11, X6_in_14, X6_in_15 okz0, X6_in_15 okz1, Option.some.injEq, exists_eq_left', eq_self, okz0, okz1, ht]
  unfold inF
  (repeat' split) <;> rfl
/-- the first 103 of another array -/
def cpN (N B : Nat → Int32) : Nat → Int32 := fun k => if k < 103 then N k else B k
theorem cpN_itr {N B : Nat → Int32} : itr (fun k (B : Nat → Int32) => upd B k (N k)) 103 B = cpN N B := by
  have h : ∀ d, d ≤ 103 → itr (fun k (B : Nat → Int32) => upd B k (N k)) d B = fun k => if k < d then N k else B k := by
    intro d
    induction d with
    | zero => intro _; funext k; exact (if_neg (Nat.not_lt_zero k)).symm
    | succ d ih =>
      intro hd
      rw [itr_s, ih (by omega)]
      funext k
      unfold upd
      by_cases a : k = d
      · rw [if_pos a, if_pos (by omega), a]
      · rw [if_neg a]
        dsimp only
        by_cases b : k < d
        · rw [if_pos b, if_pos (by omega)]
        · rw [if_neg b, if_neg (by omega)]
  exact h 103 (Nat.le_refl _)
theorem updT_T {α : Type} {T : Nat → α} {i : Nat} {a b : α} : updT (updT T i a) i b = updT T i b := by
  funext j
  unfold updT
  split <;> rfl
end MSM
