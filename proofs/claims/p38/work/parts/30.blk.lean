/-! ===== a table's block of cells, and what reading and writing it are ===== -/
def tfs (t : Nat) (F : Nat → Int32) : List Value := [.ref (t + 1), .ref (t + 2), .int (F 2), .int (F 3), .int (F 4), .int (F 5), .int (F 6), .int (F 7)]
def sfs (s : Nat → Int32) : List Value := [.int (s 0), .int (s 1), .int (s 2), .int (s 3), .int (s 4), .int (s 5), .int (s 6), .int (s 7), .int (s 8)]
def blk (w : Wld) (t : Nat) (F G : Nat → Int32) (S : Nat → Nat → Int32) : Wld := fun a =>
  if a = t then some (.inr (2, tfs t F)) else if a = t + 1 then some (.inl (4, 8, fun j => .ref (t + 3 + j))) else if a = t + 2 then some (.inl (0, 8, fun j => .int (G j))) else if t + 3 ≤ a ∧ a < t + 11 then some (.inr (1, sfs (S (a - (t + 3))))) else w a
def up2 (S : Nat → Nat → Int32) (k j : Nat) (x : Int32) : Nat → Nat → Int32 := fun a b => if a = k ∧ b = j then x else S a b
section BLK
variable {w : Wld} {t : Nat} {F G : Nat → Int32} {S : Nat → Nat → Int32}
theorem blk_t : blk w t F G S t = some (.inr (2, tfs t F)) := if_pos rfl
theorem blk_1 : blk w t F G S (t + 1) = some (.inl (4, 8, fun j => .ref (t + 3 + j))) := by unfold blk; rw [if_neg (by omega), if_pos rfl]
theorem blk_2 : blk w t F G S (t + 2) = some (.inl (0, 8, fun j => .int (G j))) := by unfold blk; rw [if_neg (by omega), if_neg (by omega), if_pos rfl]
theorem blk_s {k : Nat} (h : k < 8) : blk w t F G S (t + 3 + k) = some (.inr (1, sfs (S k))) := by
  unfold blk
  rw [if_neg (by omega), if_neg (by omega), if_neg (by omega), if_pos (by omega), show t + 3 + k - (t + 3) = k by omega]
theorem gt0 : gf (blk w t F G S) t 2 0 = some (.ref (t + 1)) := by unfold gf; rw [blk_t]; rfl
theorem gt1 : gf (blk w t F G S) t 2 1 = some (.ref (t + 2)) := by unfold gf; rw [blk_t]; rfl
theorem gt2 : gf (blk w t F G S) t 2 2 = some (.int (F 2)) := by unfold gf; rw [blk_t]; rfl
theorem gt3 : gf (blk w t F G S) t 2 3 = some (.int (F 3)) := by unfold gf; rw [blk_t]; rfl
theorem gt4 : gf (blk w t F G S) t 2 4 = some (.int (F 4)) := by unfold gf; rw [blk_t]; rfl
theorem gt5 : gf (blk w t F G S) t 2 5 = some (.int (F 5)) := by unfold gf; rw [blk_t]; rfl
theorem gt6 : gf (blk w t F G S) t 2 6 = some (.int (F 6)) := by unfold gf; rw [blk_t]; rfl
theorem gt7 : gf (blk w t F G S) t 2 7 = some (.int (F 7)) := by unfold gf; rw [blk_t]; rfl
theorem gs {k j : Nat} (h : k < 8) (hj : j < 9) : gf (blk w t F G S) (t + 3 + k) 1 j = some (.int (S k j)) := by
  unfold gf
  rw [blk_s h]
  rcases (show j = 0 ∨ j = 1 ∨ j = 2 ∨ j = 3 ∨ j = 4 ∨ j = 5 ∨ j = 6 ∨ j = 7 ∨ j = 8 by omega) with rfl | rfl | rfl | rfl | rfl | rfl | rfl | rfl | rfl <;> rfl
theorem inr_nI {k N : Nat} (h : k < N) (hN : N < 2 ^ 31) : inr_ (nI k) N = true := decide_eq_true (p := ¬ (nI k < 0 ∨ N ≤ (nI k).toNatClampNeg)) (vp_in_nI h hN)
theorem gq {k : Nat} (h : k < 8) : (ga (blk w t F G S) (t + 1) 4 (nI k)).or (ga (blk w t F G S) (t + 1) 5 (nI k)) = some (.ref (t + 3 + k)) := by
  unfold ga
  rw [blk_1]
  dsimp only
  rw [if_pos ⟨rfl, inr_nI h (by decide)⟩, nI_clamp (by omega)]
  rfl
theorem gh {k : Nat} (h : k < 8) : ga (blk w t F G S) (t + 2) 0 (nI k) = some (.int (G k)) := by
  unfold ga
  rw [blk_2]
  dsimp only
  rw [if_pos ⟨rfl, inr_nI h (by decide)⟩, nI_clamp (by omega)]
theorem ht : hasc (blk w t F G S) t 2 = true := by unfold hasc; rw [blk_t]; rfl
theorem hs_ {k : Nat} (h : k < 8) : hasc (blk w t F G S) (t + 3 + k) 1 = true := by unfold hasc; rw [blk_s h]; rfl
theorem wset_same {w : Wld} {a : Nat} {e : Cel} {w2 : Wld} (h1 : w2 a = some e) (h2 : ∀ b, b ≠ a → w2 b = w b) : wset w a e = w2 := by
  funext b
  unfold wset
  by_cases h : b = a
  · rw [if_pos h, h, h1]
  · rw [if_neg h, h2 b h]
theorem blk_far {w : Wld} {t a : Nat} {F G F2 G2 : Nat → Int32} {S S2 : Nat → Nat → Int32} (h : a < t ∨ t + 11 ≤ a) : blk w t F G S a = blk w t F2 G2 S2 a := by
  unfold blk
  rw [if_neg (by omega), if_neg (by omega), if_neg (by omega), if_neg (by omega), if_neg (by omega), if_neg (by omega), if_neg (by omega), if_neg (by omega)]
theorem pt {k : Nat} (hk : 2 ≤ k) (hk2 : k < 8) {x : Int32} : pf (blk w t F G S) t 2 k (.int x) = some (blk w t (upd F k x) G S) := by
  have hty : okv (fty 2 k) (.int x) = true := by
    rcases (show k = 2 ∨ k = 3 ∨ k = 4 ∨ k = 5 ∨ k = 6 ∨ k = 7 by omega) with rfl | rfl | rfl | rfl | rfl | rfl <;> rfl
  unfold pf
  rw [blk_t]
  dsimp only
  rw [if_pos ⟨rfl, by show k < 8; exact hk2, hty⟩]
  congr 1
  refine wset_same ?_ (fun b hb => ?_)
  · rw [blk_t]
    rcases (show k = 2 ∨ k = 3 ∨ k = 4 ∨ k = 5 ∨ k = 6 ∨ k = 7 by omega) with rfl | rfl | rfl | rfl | rfl | rfl <;> rfl
  · unfold blk
    rw [if_neg hb, if_neg hb]
theorem ps {k j : Nat} (h : k < 8) (hj : j < 9) {x : Int32} : pf (blk w t F G S) (t + 3 + k) 1 j (.int x) = some (blk w t F G (up2 S k j x)) := by
  have hty : okv (fty 1 j) (.int x) = true := by
    rcases (show j = 0 ∨ j = 1 ∨ j = 2 ∨ j = 3 ∨ j = 4 ∨ j = 5 ∨ j = 6 ∨ j = 7 ∨ j = 8 by omega) with rfl | rfl | rfl | rfl | rfl | rfl | rfl | rfl | rfl <;> rfl
  unfold pf
  rw [blk_s h]
  dsimp only
  rw [if_pos ⟨rfl, by show j < 9; exact hj, hty⟩]
  congr 1
  refine wset_same ?_ (fun b hb => ?_)
  · rw [blk_s h]
    congr 3
    unfold sfs up2
    rcases (show j = 0 ∨ j = 1 ∨ j = 2 ∨ j = 3 ∨ j = 4 ∨ j = 5 ∨ j = 6 ∨ j = 7 ∨ j = 8 by omega) with rfl | rfl | rfl | rfl | rfl | rfl | rfl | rfl | rfl <;> simp
  · unfold blk
    by_cases h1 : t + 3 ≤ b ∧ b < t + 11
    · rw [if_neg (by omega), if_neg (by omega), if_neg (by omega), if_pos h1, if_neg (by omega), if_neg (by omega), if_neg (by omega), if_pos h1]
      congr 3
      have : b - (t + 3) ≠ k := by omega
      unfold sfs up2
      simp [this]
    · by_cases a1 : b = t
      · rw [if_pos a1, if_pos a1]
      · by_cases a2 : b = t + 1
        · rw [if_neg a1, if_pos a2, if_neg a1, if_pos a2]
        · by_cases a3 : b = t + 2
          · rw [if_neg a1, if_neg a2, if_pos a3, if_neg a1, if_neg a2, if_pos a3]
          · rw [if_neg a1, if_neg a2, if_neg a3, if_neg h1, if_neg a1, if_neg a2, if_neg a3, if_neg h1]
theorem sh {k : Nat} (h : k < 8) {x : Int32} : sa (blk w t F G S) (t + 2) 0 (nI k) (.int x) = some (blk w t F (upd G k x) S) := by
  unfold sa
  rw [blk_2]
  dsimp only
  rw [if_pos ⟨rfl, inr_nI h (by decide)⟩, nI_clamp (by omega)]
  congr 1
  refine wset_same ?_ (fun b hb => ?_)
  · rw [blk_2]
    congr 4
    funext q
    unfold updV upd
    split <;> rfl
  · unfold blk
    by_cases a1 : b = t
    · rw [if_pos a1, if_pos a1]
    · by_cases a2 : b = t + 1
      · rw [if_neg a1, if_pos a2, if_neg a1, if_pos a2]
      · rw [if_neg a1, if_neg a2, if_neg hb, if_neg a1, if_neg a2, if_neg hb]
end BLK
