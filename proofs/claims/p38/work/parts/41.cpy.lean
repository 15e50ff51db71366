/-! ===== one table copied from another ===== -/
section CPY
variable {X : Cxt} {w : Wld} {n : Option Nat} {Q : (Option Value ⊕ String) → Wld → Option Nat → Prop} {t u : Nat} {F G F' G' : Nat → Int32} {S S' : Nat → Nat → Int32}
theorem blk_congr (hF : ∀ j, 2 ≤ j → j < 8 → F j = F' j) (hG : ∀ j, j < 8 → G j = G' j) (hS : ∀ k j, k < 8 → j < 9 → S k j = S' k j) : (∀ a, a ≠ t + 2 → blk w t F G S a = blk w t F' G' S' a) := by
  intro a ha
  unfold blk tfs sfs
  rw [hF 2 (by decide) (by decide), hF 3 (by decide) (by decide), hF 4 (by decide) (by decide), hF 5 (by decide) (by decide), hF 6 (by decide) (by decide), hF 7 (by decide) (by decide)]
  by_cases h : t + 3 ≤ a ∧ a < t + 11
  · have hk : a - (t + 3) < 8 := by omega
    rw [hS _ 0 hk (by decide), hS _ 1 hk (by decide), hS _ 2 hk (by decide), hS _ 3 hk (by decide), hS _ 4 hk (by decide), hS _ 5 hk (by decide), hS _ 6 hk (by decide), hS _ 7 hk (by decide), hS _ 8 hk (by decide), if_neg ha, if_neg ha]
  · rw [if_neg h, if_neg h, if_neg ha, if_neg ha]
/-- the cells of a table -/
def Tbl (w : Wld) (u : Nat) (s : Tb) : Prop := ∀ a, u ≤ a → a < u + 11 → w a = bk w u s a
theorem gf_o {a c j : Nat} (h : a < t ∨ t + 11 ≤ a) : gf (blk w t F G S) a c j = gf w a c j := by
  unfold gf
  rw [blk_out h]
theorem tb_gs (hu : Tbl w u (F', G', S')) {k j : Nat} (hk : k < 8) (hj : j < 9) : gf w (u + 3 + k) 1 j = some (.int (S' k j)) := by
  rw [← gs (w := w) (t := u) (F := F') (G := G') (S := S') hk hj]
  unfold gf
  rw [hu _ (by omega) (by omega)]
def cpS (S S' : Nat → Nat → Int32) (k : Nat) : Nat → Nat → Int32 := up2 (up2 (up2 (up2 (up2 (up2 (up2 (up2 (up2 S k 0 (S' k 0)) k 1 (S' k 1)) k 2 (S' k 2)) k 3 (S' k 3)) k 4 (S' k 4)) k 5 (S' k 5)) k 6 (S' k 6)) k 7 (S' k 7)) k 8 (S' k 8)
theorem sp_seatCopy (hd : u + 11 ≤ t ∨ t + 11 ≤ u) (hu : Tbl w u (F', G', S')) {k : Nat} (hk : k < 8) : Ev X 5 0 [some (.ref (t + 3 + k)), some (.ref (u + 3 + k))] [] (blk w t F G S) n 0 0 Q ↔ Q (.inl none) (blk w t F G (cpS S S' k)) n := by
  have ho : u + 3 + k < t ∨ t + 11 ≤ u + 3 + k := by omega
  simp only [X1_copyFrom_0, X1_copyFrom_1, X1_copyFrom_2, X1_copyFrom_5, X1_copyFrom_8, X1_copyFrom_9, X1_copyFrom_10, X1_copyFrom_13, X1_copyFrom_16, X1_copyFrom_17, X1_copyFrom_18, X1_copyFrom_21, X1_copyFrom_24, X1_copyFrom_25, X1_copyFrom_26, X1_copyFrom_29, X1_copyFrom_32, X1_copyFrom_33, X1_copyFrom_34, X1_copyFrom_37, X1_copyFrom_40, X1_copyFrom_41, X1_copyFrom_42, X1_copyFrom_45, X1_copyFrom_48, X1_copyFrom_49, X1_copyFrom_50, X1_copyFrom_53, X1_copyFrom_56, X1_copyFrom_57, X1_copyFrom_58, X1_copyFrom_61, X1_copyFrom_64, X1_copyFrom_65, X1_copyFrom_66, X1_copyFrom_69, X1_copyFrom_72, Option.some.injEq, exists_eq_left', eq_self, okz0, okz1, ht, ps (show k < 8 by omega) (show 0 < 9 by decide), ps (show k < 8 by omega) (show 1 < 9 by decide), ps (show k < 8 by omega) (show 2 < 9 by decide), ps (show k < 8 by omega) (show 3 < 9 by decide), ps (show k < 8 by omega) (show 4 < 9 by decide), ps (show k < 8 by omega) (show 5 < 9 by decide), ps (show k < 8 by omega) (show 6 < 9 by decide), ps (show k < 8 by omega) (show 7 < 9 by decide), ps (show k < 8 by omega) (show 8 < 9 by decide), gf_o ho, tb_gs hu hk (show 0 < 9 by decide), tb_gs hu hk (show 1 < 9 by decide), tb_gs hu hk (show 2 < 9 by decide), tb_gs hu hk (show 3 < 9 by decide), tb_gs hu hk (show 4 < 9 by decide), tb_gs hu hk (show 5 < 9 by decide), tb_gs hu hk (show 6 < 9 by decide), tb_gs hu hk (show 7 < 9 by decide), tb_gs hu hk (show 8 < 9 by decide)]
  exact Iff.rfl
theorem ga_o {a c : Nat} {j : Int32} (h : a < t ∨ t + 11 ≤ a) : ga (blk w t F G S) a c j = ga w a c j := by
  unfold ga
  rw [blk_out h]
theorem tb_g {j : Nat} (hu : Tbl w u (F', G', S')) {v : Option Value} (h : gf (bk w u (F', G', S')) u 2 j = v) : gf w u 2 j = v := by
  rw [← h]
  unfold gf
  rw [hu u (Nat.le_refl _) (by omega)]
theorem tb_q (hu : Tbl w u (F', G', S')) {k : Nat} (hk : k < 8) : (ga w (u + 1) 4 (nI k)).or (ga w (u + 1) 5 (nI k)) = some (.ref (u + 3 + k)) := by
  rw [← gq (w := w) (t := u) (F := F') (G := G') (S := S') hk]
  unfold ga
  rw [hu (u + 1) (by omega) (by omega)]
theorem tb_h (hu : Tbl w u (F', G', S')) {k : Nat} (hk : k < 8) : ga w (u + 2) 0 (nI k) = some (.int (G' k)) := by
  rw [← gh (w := w) (t := u) (F := F') (G := G') (S := S') hk]
  unfold ga
  rw [hu (u + 2) (by omega) (by omega)]
def mixG (G G' : Nat → Int32) : Nat → Int32 := fun j => if j < 8 then G' j else G j
theorem sp_tableCopy (hd : u + 11 ≤ t ∨ t + 11 ≤ u) (hu : Tbl w u (F', G', S')) : Ev X 6 0 [some (.ref t), some (.ref u), none] [] (blk w t F G S) n 0 0 Q ↔ Q (.inl none) (blk w t F' (mixG G G') S') n := by
  have o0 : u < t ∨ t + 11 ≤ u := by omega
  have o1 : u + 1 < t ∨ t + 11 ≤ u + 1 := by omega
  have o2 : u + 2 < t ∨ t + 11 ≤ u + 2 := by omega
  have hL := loop_up (P := fun k (s : (Nat → Int32) × (Nat → Nat → Int32)) => Ev X 6 2 [some (.ref t), some (.ref u), some (.int (nI k))] [] (blk w t F s.1 s.2) n 0 0 Q) (f := fun k s => (upd s.1 k (G' k), cpS s.2 S' k)) (n := 8) (a0 := (G, S)) (fun k s hk => by
    have hlt : nI k < 8 := show nI k < nI 8 from nI_lt hk (by decide)
    rw [X2_copyFrom_2]
    simp only [X2_copyFrom_0, X2_copyFrom_1, X2_copyFrom_3, X2_copyFrom_5, X2_copyFrom_8, X2_copyFrom_9, X2_copyFrom_12, X2_copyFrom_13, X2_copyFrom_14, X2_copyFrom_15, X2_copyFrom_18, X2_copyFrom_19, X2_copyFrom_20, X2_copyFrom_23, X2_copyFrom_24, X2_copyFrom_27, X2_copyFrom_28, X2_copyFrom_29, X2_copyFrom_32, X2_copyFrom_33, X2_copyFrom_34, X2_copyFrom_35, X2_copyFrom_38, X2_copyFrom_41, X2_copyFrom_42, X2_copyFrom_43, X2_copyFrom_46, X2_copyFrom_49, X2_copyFrom_50, X2_copyFrom_51, X2_copyFrom_54, X2_copyFrom_57, X2_copyFrom_58, X2_copyFrom_59, X2_copyFrom_62, X2_copyFrom_65, X2_copyFrom_66, X2_copyFrom_67, X2_copyFrom_70, X2_copyFrom_73, X2_copyFrom_74, X2_copyFrom_75, X2_copyFrom_78, X2_copyFrom_81, X2_copyFrom_82, X2_copyFrom_83, X2_copyFrom_86, X2_copyFrom_89, gt0, gt1, Option.some.injEq, exists_eq_left', eq_self, okz0, okz1, ht, hlt, if_true, gq hk, gf_o o0, ga_o o1, ga_o o2, tb_g hu gt0, tb_g hu gt1, tb_q hu hk, tb_h hu hk, hs_ hk, sp_seatCopy hd hu hk, Kr_n, Kj_n, sh hk, nI_1]
    done)
  have hG : ∀ m, m ≤ 8 → ∀ j, (itr (fun k (s : (Nat → Int32) × (Nat → Nat → Int32)) => (upd s.1 k (G' k), cpS s.2 S' k)) m (G, S)).1 j = if j < m then G' j else G j := by
    intro m
    induction m with
    | zero => intro _ j; rfl
    | succ m ih =>
      intro hm j
      rw [itr_s]
      show upd _ m (G' m) j = _
      rw [upd_i, ih (by omega)]
      by_cases h : j = m
      · rw [if_pos h, if_pos (by omega), h]
      · rw [if_neg h]
        by_cases h2 : j < m
        · rw [if_pos h2, if_pos (by omega)]
        · rw [if_neg h2, if_neg (by omega)]
  have hS : ∀ m, m ≤ 8 → ∀ a b, a < m → b < 9 → (itr (fun k (s : (Nat → Int32) × (Nat → Nat → Int32)) => (upd s.1 k (G' k), cpS s.2 S' k)) m (G, S)).2 a b = S' a b := by
    intro m
    induction m with
    | zero => intro _ a b h; exact absurd h (Nat.not_lt_zero a)
    | succ m ih =>
      intro hm a b ha hb
      rw [itr_s]
      show cpS _ S' m a b = _
      by_cases h : a = m
      · subst h
        rcases (show b = 0 ∨ b = 1 ∨ b = 2 ∨ b = 3 ∨ b = 4 ∨ b = 5 ∨ b = 6 ∨ b = 7 ∨ b = 8 by omega) with rfl | rfl | rfl | rfl | rfl | rfl | rfl | rfl | rfl <;> simp [cpS, up2]
      · rw [← ih (by omega) a b (by omega) hb]
        simp [cpS, up2, h]
  simp only [X2_copyFrom_0, X2_copyFrom_1]
  refine hL.trans ?_
  have e8 : nI 8 = 8 := rfl
  simp only [X2_copyFrom_0, X2_copyFrom_1, X2_copyFrom_2, X2_copyFrom_3, X2_copyFrom_5, X2_copyFrom_8, X2_copyFrom_9, X2_copyFrom_12, X2_copyFrom_13, X2_copyFrom_14, X2_copyFrom_15, X2_copyFrom_18, X2_copyFrom_19, X2_copyFrom_20, X2_copyFrom_23, X2_copyFrom_24, X2_copyFrom_27, X2_copyFrom_28, X2_copyFrom_29, X2_copyFrom_32, X2_copyFrom_33, X2_copyFrom_34, X2_copyFrom_35, X2_copyFrom_38, X2_copyFrom_41, X2_copyFrom_42, X2_copyFrom_43, X2_copyFrom_46, X2_copyFrom_49, X2_copyFrom_50, X2_copyFrom_51, X2_copyFrom_54, X2_copyFrom_57, X2_copyFrom_58, X2_copyFrom_59, X2_copyFrom_62, X2_copyFrom_65, X2_copyFrom_66, X2_copyFrom_67, X2_copyFrom_70, X2_copyFrom_73, X2_copyFrom_74, X2_copyFrom_75, X2_copyFrom_78, X2_copyFrom_81, X2_copyFrom_82, X2_copyFrom_83, X2_copyFrom_86, X2_copyFrom_89, Option.some.injEq, exists_eq_left', eq_self, okz0, okz1, ht, e8, Int32.lt_irrefl, if_false, gf_o o0, tb_g hu gt2, tb_g hu gt3, tb_g hu gt4, tb_g hu gt5, tb_g hu gt6, tb_g hu gt7, pt (show 2 ≤ 2 by decide) (show 2 < 8 by decide), pt (show 2 ≤ 3 by decide) (show 3 < 8 by decide), pt (show 2 ≤ 4 by decide) (show 4 < 8 by decide), pt (show 2 ≤ 5 by decide) (show 5 < 8 by decide), pt (show 2 ≤ 6 by decide) (show 6 < 8 by decide), pt (show 2 ≤ 7 by decide) (show 7 < 8 by decide)]
  refine iff_of_eq (congrArg (fun v => Q (.inl none) v n) ?_)
  have eG : (itr (fun k (s : (Nat → Int32) × (Nat → Nat → Int32)) => (upd s.1 k (G' k), cpS s.2 S' k)) 8 (G, S)).1 = mixG G G' := funext (fun j => hG 8 (Nat.le_refl 8) j)
  rw [eG]
  funext a
  by_cases ha : a = t + 2
  · subst ha
    rw [blk_2, blk_2]
  · refine blk_congr (G' := mixG G G') (fun j h1 h2 => ?_) (fun j _ => rfl) (fun k j hk hj => hS 8 (Nat.le_refl 8) k j hk hj) a ha
    rcases (show j = 2 ∨ j = 3 ∨ j = 4 ∨ j = 5 ∨ j = 6 ∨ j = 7 by omega) with rfl | rfl | rfl | rfl | rfl | rfl <;> rfl
end CPY
