/-! ===== the text buffer ===== -/
def txt (w : Wld) (t : Nat) (P C D : Nat → Int32) : Wld := fun a =>
  if a = t then some (.inr (3, [.ref (t + 1), .int (P 1), .int (P 2), .int (P 3), .ref (t + 2)])) else if a = t + 1 then some (.inl (1, 60, fun j => .int (C j))) else if a = t + 2 then some (.inl (0, 3, fun j => .int (D j))) else w a
section TXT
variable {X : Cxt} {w : Wld} {n : Option Nat} {Q : (Option Value ⊕ String) → Wld → Option Nat → Prop} {t : Nat} {P C D : Nat → Int32}
theorem txt_t : txt w t P C D t = some (.inr (3, [.ref (t + 1), .int (P 1), .int (P 2), .int (P 3), .ref (t + 2)])) := if_pos rfl
theorem txt_1 : txt w t P C D (t + 1) = some (.inl (1, 60, fun j => .int (C j))) := by unfold txt; rw [if_neg (by omega), if_pos rfl]
theorem txt_2 : txt w t P C D (t + 2) = some (.inl (0, 3, fun j => .int (D j))) := by unfold txt; rw [if_neg (by omega), if_neg (by omega), if_pos rfl]
theorem gx0 : gf (txt w t P C D) t 3 0 = some (.ref (t + 1)) := by unfold gf; rw [txt_t]; rfl
theorem gx1 : gf (txt w t P C D) t 3 1 = some (.int (P 1)) := by unfold gf; rw [txt_t]; rfl
theorem gx2 : gf (txt w t P C D) t 3 2 = some (.int (P 2)) := by unfold gf; rw [txt_t]; rfl
theorem gx3 : gf (txt w t P C D) t 3 3 = some (.int (P 3)) := by unfold gf; rw [txt_t]; rfl
theorem gx4 : gf (txt w t P C D) t 3 4 = some (.ref (t + 2)) := by unfold gf; rw [txt_t]; rfl
theorem hx_ : hasc (txt w t P C D) t 3 = true := by unfold hasc; rw [txt_t]; rfl
theorem gcx {k : Nat} (h : k < 60) : ga (txt w t P C D) (t + 1) 1 (nI k) = some (.int (C k)) := by
  unfold ga
  rw [txt_1]
  dsimp only
  rw [if_pos ⟨rfl, inr_nI h (by decide)⟩, nI_clamp (by omega)]
theorem gdx {k : Nat} (h : k < 3) : ga (txt w t P C D) (t + 2) 0 (nI k) = some (.int (D k)) := by
  unfold ga
  rw [txt_2]
  dsimp only
  rw [if_pos ⟨rfl, inr_nI h (by decide)⟩, nI_clamp (by omega)]
theorem px {j : Nat} (h1 : 1 ≤ j) (h2 : j < 4) {x : Int32} : pf (txt w t P C D) t 3 j (.int x) = some (txt w t (upd P j x) C D) := by
  have hty : okv (fty 3 j) (.int x) = true := by
    rcases (show j = 1 ∨ j = 2 ∨ j = 3 by omega) with rfl | rfl | rfl <;> rfl
  unfold pf
  rw [txt_t]
  dsimp only
  rw [if_pos ⟨rfl, by show j < 5; omega, hty⟩]
  congr 1
  refine wset_same ?_ (fun b hb => ?_)
  · rw [txt_t]
    rcases (show j = 1 ∨ j = 2 ∨ j = 3 by omega) with rfl | rfl | rfl <;> rfl
  · unfold txt
    rw [if_neg hb, if_neg hb]
def skB (P C : Nat → Int32) (p : Nat) : Bool := decide (P 2 < P 1 ∧ C p = 59)
theorem sp_skipSemicolon {p : Nat} (hp : P 2 = nI p) (h60 : P 2 < P 1 → p < 60) : Ev X 47 0 [some (.ref t), none] [] (txt w t P C D) n 0 0 Q ↔ if skB P C p then Q (.inl (some (.int 1))) (txt w t (upd P 2 (P 2 + 1)) C D) n else Q (.inl (some (.int 0))) (txt w t P C D) n := by
  have e1 : (1 : Int32) = 0 ↔ False := by decide
  unfold skB
  by_cases a : P 2 < P 1
  · have a' : nI p < P 1 := hp ▸ a
    by_cases b : C p = 59
    · simp only [X3_skipSemicolon_0, X3_skipSemicolon_1, X3_skipSemicolon_4, X3_skipSemicolon_5, X3_skipSemicolon_8, X3_skipSemicolon_11, X3_skipSemicolon_12, X3_skipSemicolon_15, X3_skipSemicolon_16, X3_skipSemicolon_19, X3_skipSemicolon_20, X3_skipSemicolon_22, X3_skipSemicolon_25, X3_skipSemicolon_26, X3_skipSemicolon_29, X3_skipSemicolon_30, X3_skipSemicolon_31, X3_skipSemicolon_32, X3_skipSemicolon_35, X3_skipSemicolon_36, X3_skipSemicolon_37, X3_skipSemicolon_40, X3_skipSemicolon_41, X3_skipSemicolon_42, X3_skipSemicolon_45, X3_skipSemicolon_46 okz0, X3_skipSemicolon_46 okz1, gx0, gx1, gx2, Option.some.injEq, exists_eq_left', eq_self, okz0, okz1, ht, hp, gcx (h60 a), a', b, if_true, e1, if_false, px (show 1 ≤ 2 by decide) (show 2 < 4 by decide), and_self, decide_true]
      done
    · simp only [X3_skipSemicolon_0, X3_skipSemicolon_1, X3_skipSemicolon_4, X3_skipSemicolon_5, X3_skipSemicolon_8, X3_skipSemicolon_11, X3_skipSemicolon_12, X3_skipSemicolon_15, X3_skipSemicolon_16, X3_skipSemicolon_19, X3_skipSemicolon_20, X3_skipSemicolon_22, X3_skipSemicolon_25, X3_skipSemicolon_26, X3_skipSemicolon_29, X3_skipSemicolon_30, X3_skipSemicolon_31, X3_skipSemicolon_32, X3_skipSemicolon_35, X3_skipSemicolon_36, X3_skipSemicolon_37, X3_skipSemicolon_40, X3_skipSemicolon_41, X3_skipSemicolon_42, X3_skipSemicolon_45, X3_skipSemicolon_46 okz0, X3_skipSemicolon_46 okz1, gx0, gx1, gx2, Option.some.injEq, exists_eq_left', eq_self, okz0, okz1, ht, hp, gcx (h60 a), a', b, if_true, if_false, and_false, decide_false, Bool.false_eq_true]
      done
  · have a' : ¬ nI p < P 1 := hp ▸ a
    simp only [X3_skipSemicolon_0, X3_skipSemicolon_1, X3_skipSemicolon_4, X3_skipSemicolon_5, X3_skipSemicolon_8, X3_skipSemicolon_11, X3_skipSemicolon_12, X3_skipSemicolon_15, X3_skipSemicolon_16, X3_skipSemicolon_19, X3_skipSemicolon_20, X3_skipSemicolon_22, X3_skipSemicolon_25, X3_skipSemicolon_26, X3_skipSemicolon_29, X3_skipSemicolon_30, X3_skipSemicolon_31, X3_skipSemicolon_32, X3_skipSemicolon_35, X3_skipSemicolon_36, X3_skipSemicolon_37, X3_skipSemicolon_40, X3_skipSemicolon_41, X3_skipSemicolon_42, X3_skipSemicolon_45, X3_skipSemicolon_46 okz0, X3_skipSemicolon_46 okz1, gx0, gx1, gx2, Option.some.injEq, exists_eq_left', eq_self, okz0, okz1, ht, hp, a', if_true, if_false, false_and, decide_false, Bool.false_eq_true]
    done
def hdF (P C : Nat → Int32) (p : Nat) : Int32 := if P 2 < P 1 then (if C p = 108 then 0 else if C p = 114 then 1 else -1) else -1
theorem sp_handHere {p : Nat} (hp : P 2 = nI p) (h60 : P 2 < P 1 → p < 60) : Ev X 43 0 [some (.ref t)] [] (txt w t P C D) n 0 0 Q ↔ Q (.inl (some (.int (hdF P C p)))) (txt w t P C D) n := by
  unfold hdF
  by_cases a : P 2 < P 1
  · have a' : nI p < P 1 := hp ▸ a
    rw [if_pos a]
    by_cases b : C p = 108
    · simp only [X3_handHere_0, X3_handHere_1, X3_handHere_4, X3_handHere_5, X3_handHere_8, X3_handHere_11, X3_handHere_12, X3_handHere_15, X3_handHere_16, X3_handHere_19, X3_handHere_20, X3_handHere_22, X3_handHere_25, X3_handHere_26, X3_handHere_27, X3_handHere_28, X3_handHere_31, X3_handHere_32, X3_handHere_35, X3_handHere_38, X3_handHere_39, X3_handHere_42, X3_handHere_43, X3_handHere_46, X3_handHere_47, X3_handHere_49, X3_handHere_52, X3_handHere_53, X3_handHere_56, X3_handHere_57, gx0, gx1, gx2, Option.some.injEq, exists_eq_left', eq_self, okz0, okz1, ht, hp, gcx (h60 a), a', b, if_true]
      done
    · by_cases d : C p = 114
      · simp only [X3_handHere_0, X3_handHere_1, X3_handHere_4, X3_handHere_5, X3_handHere_8, X3_handHere_11, X3_handHere_12, X3_handHere_15, X3_handHere_16, X3_handHere_19, X3_handHere_20, X3_handHere_22, X3_handHere_25, X3_handHere_26, X3_handHere_27, X3_handHere_28, X3_handHere_31, X3_handHere_32, X3_handHere_35, X3_handHere_38, X3_handHere_39, X3_handHere_42, X3_handHere_43, X3_handHere_46, X3_handHere_47, X3_handHere_49, X3_handHere_52, X3_handHere_53, X3_handHere_56, X3_handHere_57, gx0, gx1, gx2, Option.some.injEq, exists_eq_left', eq_self, okz0, okz1, ht, hp, gcx (h60 a), a', b, if_true, if_false, d, show ((114 : Int32) = 108) = False by decide]
        done
      · simp only [X3_handHere_0, X3_handHere_1, X3_handHere_4, X3_handHere_5, X3_handHere_8, X3_handHere_11, X3_handHere_12, X3_handHere_15, X3_handHere_16, X3_handHere_19, X3_handHere_20, X3_handHere_22, X3_handHere_25, X3_handHere_26, X3_handHere_27, X3_handHere_28, X3_handHere_31, X3_handHere_32, X3_handHere_35, X3_handHere_38, X3_handHere_39, X3_handHere_42, X3_handHere_43, X3_handHere_46, X3_handHere_47, X3_handHere_49, X3_handHere_52, X3_handHere_53, X3_handHere_56, X3_handHere_57, gx0, gx1, gx2, Option.some.injEq, exists_eq_left', eq_self, okz0, okz1, ht, hp, gcx (h60 a), a', b, if_true, if_false, d]
        done
  · have a' : ¬ nI p < P 1 := hp ▸ a
    rw [if_neg a]
    simp only [X3_handHere_0, X3_handHere_1, X3_handHere_4, X3_handHere_5, X3_handHere_8, X3_handHere_11, X3_handHere_12, X3_handHere_15, X3_handHere_16, X3_handHere_19, X3_handHere_20, X3_handHere_22, X3_handHere_25, X3_handHere_26, X3_handHere_27, X3_handHere_28, X3_handHere_31, X3_handHere_32, X3_handHere_35, X3_handHere_38, X3_handHere_39, X3_handHere_42, X3_handHere_43, X3_handHere_46, X3_handHere_47, X3_handHere_49, X3_handHere_52, X3_handHere_53, X3_handHere_56, X3_handHere_57, gx0, gx1, gx2, Option.some.injEq, exists_eq_left', eq_self, okz0, okz1, ht, hp, a', if_true, if_false]
    done
def dgF (P C : Nat → Int32) (p : Nat) : Int32 := if P 2 < P 1 then (if C p < 48 then -1 else if 57 < C p then -1 else C p - 48) else -1
theorem sp_digitHere {p : Nat} (hp : P 2 = nI p) (h60 : P 2 < P 1 → p < 60) : Ev X 44 0 [some (.ref t), none] [] (txt w t P C D) n 0 0 Q ↔ Q (.inl (some (.int (dgF P C p)))) (txt w t P C D) n := by
  have e1 : (1 : Int32) = 0 ↔ False := by decide
  unfold dgF
  by_cases a : P 2 < P 1
  · have a' : nI p < P 1 := hp ▸ a
    rw [if_pos a]
    by_cases b : C p < 48
    · simp only [X3_digitHere_0, X3_digitHere_1, X3_digitHere_4, X3_digitHere_5, X3_digitHere_8, X3_digitHere_11, X3_digitHere_12, X3_digitHere_15, X3_digitHere_16, X3_digitHere_19, X3_digitHere_20, X3_digitHere_22, X3_digitHere_25, X3_digitHere_26, X3_digitHere_29, X3_digitHere_30, X3_digitHere_33, X3_digitHere_34, X3_digitHere_36, X3_digitHere_39, X3_digitHere_40, X3_digitHere_43, X3_digitHere_44, X3_digitHere_45, X3_digitHere_46, X3_digitHere_49, X3_digitHere_50, X3_digitHere_53, X3_digitHere_54, X3_digitHere_57, X3_digitHere_58, X3_digitHere_60, X3_digitHere_61, X3_digitHere_64, X3_digitHere_65, gx0, gx1, gx2, Option.some.injEq, exists_eq_left', eq_self, okz0, okz1, ht, hp, gcx (h60 a), a', b, if_true]
      done
    · by_cases d : 57 < C p
      · simp only [X3_digitHere_0, X3_digitHere_1, X3_digitHere_4, X3_digitHere_5, X3_digitHere_8, X3_digitHere_11, X3_digitHere_12, X3_digitHere_15, X3_digitHere_16, X3_digitHere_19, X3_digitHere_20, X3_digitHere_22, X3_digitHere_25, X3_digitHere_26, X3_digitHere_29, X3_digitHere_30, X3_digitHere_33, X3_digitHere_34, X3_digitHere_36, X3_digitHere_39, X3_digitHere_40, X3_digitHere_43, X3_digitHere_44, X3_digitHere_45, X3_digitHere_46, X3_digitHere_49, X3_digitHere_50, X3_digitHere_53, X3_digitHere_54, X3_digitHere_57, X3_digitHere_58, X3_digitHere_60, X3_digitHere_61, X3_digitHere_64, X3_digitHere_65, gx0, gx1, gx2, Option.some.injEq, exists_eq_left', eq_self, okz0, okz1, ht, hp, gcx (h60 a), a', b, if_true, if_false, d]
        done
      · simp only [X3_digitHere_0, X3_digitHere_1, X3_digitHere_4, X3_digitHere_5, X3_digitHere_8, X3_digitHere_11, X3_digitHere_12, X3_digitHere_15, X3_digitHere_16, X3_digitHere_19, X3_digitHere_20, X3_digitHere_22, X3_digitHere_25, X3_digitHere_26, X3_digitHere_29, X3_digitHere_30, X3_digitHere_33, X3_digitHere_34, X3_digitHere_36, X3_digitHere_39, X3_digitHere_40, X3_digitHere_43, X3_digitHere_44, X3_digitHere_45, X3_digitHere_46, X3_digitHere_49, X3_digitHere_50, X3_digitHere_53, X3_digitHere_54, X3_digitHere_57, X3_digitHere_58, X3_digitHere_60, X3_digitHere_61, X3_digitHere_64, X3_digitHere_65, gx0, gx1, gx2, Option.some.injEq, exists_eq_left', eq_self, okz0, okz1, ht, hp, gcx (h60 a), a', b, if_true, if_false, d, e1]
        done
  · have a' : ¬ nI p < P 1 := hp ▸ a
    rw [if_neg a]
    simp only [X3_digitHere_0, X3_digitHere_1, X3_digitHere_4, X3_digitHere_5, X3_digitHere_8, X3_digitHere_11, X3_digitHere_12, X3_digitHere_15, X3_digitHere_16, X3_digitHere_19, X3_digitHere_20, X3_digitHere_22, X3_digitHere_25, X3_digitHere_26, X3_digitHere_29, X3_digitHere_30, X3_digitHere_33, X3_digitHere_34, X3_digitHere_36, X3_digitHere_39, X3_digitHere_40, X3_digitHere_43, X3_digitHere_44, X3_digitHere_45, X3_digitHere_46, X3_digitHere_49, X3_digitHere_50, X3_digitHere_53, X3_digitHere_54, X3_digitHere_57, X3_digitHere_58, X3_digitHere_60, X3_digitHere_61, X3_digitHere_64, X3_digitHere_65, gx0, gx1, gx2, Option.some.injEq, exists_eq_left', eq_self, okz0, okz1, ht, hp, a', if_true, if_false]
    done
end TXT
