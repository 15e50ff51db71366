/-! ===== one table copied from another ===== -/
section CPY
variable {X : Cxt} {w : Wld} {n : Option Nat} {Q : (Option Value ⊕ String) → Wld → Option Nat → Prop} {t u : Nat} {F G F' G' : Nat → Int32} {S S' : Nat → Nat → Int32}
theorem blk_congr (hF : ∀ j, 2 ≤ j → j < 8 → F j = F' j) (hG : ∀ j, j < 8 → G j = G' j) (hS : ∀ k j, k < 8 → j < 9 → S k j = S' k j) : (∀ a, a ≠ t + 2 → blk w t F G S a = blk w t F' G' S' a) := by
  intro a ha
  unfold blk tfs sfs
  rw [hF 2 (by decide) (by decide), hF 3 (by decide) (by decide), hF 4 (by decide) (by decide), hF 5 (by decide) (by decide), hF 6 (by decide) (by decide), hF 7 (by decide) (by decide)]
  by_cases h : t + 3 ≤ a ∧ a < t + 11
  · have hk : a - (t + 3) < 8 := by omega
    rw [hS _ 0 hk (by decide), hS _ 1 hk (by decide), hS _ 2 hk (by decide), hS _ 3 hk (by decide), hS _ 4 hk (by decide), hS _ 5 hk (by decide), hS _ 6 hk (by decide), hS _ 7 hk (by decide), hS _ 8 hk (by decide), if_neg ha, if_neg ha]
  · rw [if_neg h, if_neg h, if_neg ha, if_neg ha]
/-- the cells of a table -/
def Tbl (w : Wld) (u : Nat) (s : Tb) : Prop := ∀ a, u ≤ a → a < u + 11 → w a = bk w u s a
theorem gf_o {a c j : Nat} (h : a < t ∨ t + 11 ≤ a) : gf (blk w t F G S) a c j = gf w a c j := by
  unfold gf
  rw [blk_out h]
theorem tb_gs (hu : Tbl w u (F', G', S')) {k j : Nat} (hk : k < 8) (hj : j < 9) : gf w (u + 3 + k) 1 j = some (.int (S' k j)) := by
  rw [← gs (w := w) (t := u) (F := F') (G := G') (S := S') hk hj]
  unfold gf
  rw [hu _ (by omega) (by omega)]
def cpS (S S' : Nat → Nat → Int32) (k : Nat) : Nat → Nat → Int32 := up2 (up2 (up2 (up2 (up2 (up2 (up2 (up2 (up2 S k 0 (S' k 0)) k 1 (S' k 1)) k 2 (S' k 2)) k 3 (S' k 3)) k 4 (S' k 4)) k 5 (S' k 5)) k 6 (S' k 6)) k 7 (S' k 7)) k 8 (S' k 8)
theorem sp_seatCopy (hd : u + 11 ≤ t ∨ t + 11 ≤ u) (hu : Tbl w u (F', G', S')) {k : Nat} (hk : k < 8) : Ev X 6 0 [some (.ref (t + 3 + k)), some (.ref (u + 3 + k))] [] (blk w t F G S) n 0 0 Q ↔ Q (.inl none) (blk w t F G (cpS S S' k)) n := by
  have ho : u + 3 + k < t ∨ t + 11 ≤ u + 3 + k := by omega
  simp only [X1_copyFrom_0, X1_copyFrom_1, X1_copyFrom_2, X1_copyFrom_5, X1_copyFrom_8, X1_copyFrom_9, X1_copyFrom_10, X1_copyFrom_13, X1_copyFrom_16, X1_copyFrom_17, X1_copyFrom_18, X1_copyFrom_21, X1_copyFrom_24, X1_copyFrom_25, X1_copyFrom_26, X1_copyFrom_29, X1_copyFrom_32, X1_copyFrom_33, X1_copyFrom_34, X1_copyFrom_37, X1_copyFrom_40, X1_copyFrom_41, X1_copyFrom_42, X1_copyFrom_45, X1_copyFrom_48, X1_copyFrom_49, X1_copyFrom_50, X1_copyFrom_53, X1_copyFrom_56, X1_copyFrom_57, X1_copyFrom_58, X1_copyFrom_61, X1_copyFrom_64, X1_copyFrom_65, X1_copyFrom_66, X1_copyFrom_69, X1_copyFrom_72, Option.some.injEq, exists_eq_left', eq_self, okz0, okz1, ht, ps (show k < 8 by omega) (show 0 < 9 by decide), ps (show k < 8 by omega) (show 1 < 9 by decide), ps (show k < 8 by omega) (show 2 < 9 by decide), ps (show k < 8 by omega) (show 3 < 9 by decide), ps (show k < 8 by omega) (show 4 < 9 by decide), ps (show k < 8 by omega) (show 5 < 9 by decide), ps (show k < 8 by omega) (show 6 < 9 by decide), ps (show k < 8 by omega) (show 7 < 9 by decide), ps (show k < 8 by omega) (show 8 < 9 by decide), gf_o ho, tb_gs hu hk (show 0 < 9 by decide), tb_gs hu hk (show 1 < 9 by decide), tb_gs hu hk (show 2 < 9 by decide), tb_gs hu hk (show 3 < 9 by decide), tb_gs hu hk (show 4 < 9 by decide), tb_gs hu hk (show 5 < 9 by decide), tb_gs hu hk (show 6 < 9 by decide), tb_gs hu hk (show 7 < 9 by decide), tb_gs hu hk (show 8 < 9 by decide)]
  exact Iff.rfl
end CPY
