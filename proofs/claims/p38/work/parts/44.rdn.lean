/-! ===== reading a text ===== -/
def isDg (c : Int32) : Bool := decide (¬ c < 48 ∧ ¬ 57 < c)
/-- a number of a command at the place p: its value and the place behind it -/
def numN (L : Nat) (C : Nat → Int32) (form : Int32) (p : Nat) : Option (Int32 × Nat) :=
  if form = 104 then (if p < L then (if C p = 108 then some (0, p + 1) else if C p = 114 then some (1, p + 1) else none) else none)
  else if p < L then (if isDg (C p) then (if form = 110 then (if p + 1 < L then (if isDg (C (p + 1)) then some (10 * (C p - 48) + (C (p + 1) - 48), p + 2) else some (C p - 48, p + 1)) else some (C p - 48, p + 1)) else some (C p - 48, p + 1)) else none) else none
theorem numN_le {L : Nat} {C : Nat → Int32} {form : Int32} {p : Nat} {v : Int32} {q : Nat} (h : numN L C form p = some (v, q)) : p < q ∧ q ≤ L := by
  unfold numN at h
  (repeat' split at h) <;> first | (cases h; omega) | cases h
theorem dg_m1 {c : Int32} (h : isDg c = true) : c - 48 = -1 ↔ False := by
  refine ⟨fun q => ?_, False.elim⟩
  have h1 : c = 47 := by
    have h2 := congrArg (· + (48 : Int32)) q
    simp only [Int32.sub_add_cancel] at h2
    rw [h2]; decide
  rw [h1] at h
  exact absurd h (by decide)
section RDN
variable {X : Cxt} {w : Wld} {n : Option Nat} {Q : (Option Value ⊕ String) → Wld → Option Nat → Prop} {t L p : Nat} {P C D : Nat → Int32}
theorem dgF_t (hP1 : P 1 = nI L) (hp : P 2 = nI p) (hL : L ≤ 60) (h : p < L) (hd : isDg (C p) = true) : dgF P C p = C p - 48 := by
  unfold isDg at hd
  have hd := of_decide_eq_true hd
  unfold dgF
  rw [hP1, hp, if_pos (nI_lt h (by omega)), if_neg hd.1, if_neg hd.2]
theorem dgF_f (hP1 : P 1 = nI L) (hp : P 2 = nI p) (hL : L ≤ 60) (h : p < L) (hd : ¬ isDg (C p) = true) : dgF P C p = -1 := by
  unfold isDg at hd
  unfold dgF
  rw [hP1, hp, if_pos (nI_lt h (by omega))]
  by_cases a : C p < 48
  · rw [if_pos a]
  · rw [if_neg a]
    by_cases b : 57 < C p
    · rw [if_pos b]
    · exact absurd (decide_eq_true ⟨a, b⟩) hd
theorem dgF_o (hP1 : P 1 = nI L) (hp : P 2 = nI p) (h60 : p ≤ 60) (h : ¬ p < L) : dgF P C p = -1 := by
  unfold dgF
  rw [hP1, hp, if_neg (nI_nlt (by omega) (by omega))]
theorem upd_upd {F : Nat → Int32} {k : Nat} {x y : Int32} : upd (upd F k x) k y = upd F k y := by
  funext j
  unfold upd
  split <;> rfl
theorem upd_same {F : Nat → Int32} {k : Nat} {x : Int32} : upd F k x k = x := if_pos rfl
theorem upd_ne {F : Nat → Int32} {k j : Nat} {x : Int32} (h : j ≠ k) : upd F k x j = F j := if_neg h
theorem sdx {k : Nat} (h : k < 3) {x : Int32} : sa (txt w t P C D) (t + 2) 0 (nI k) (.int x) = some (txt w t P C (upd D k x)) := by
  unfold sa
  rw [txt_2]
  dsimp only
  rw [if_pos ⟨rfl, inr_nI h (by decide)⟩, nI_clamp (by omega)]
  congr 1
  refine wset_same ?_ (fun b hb => ?_)
  · rw [txt_2]
    congr 4
    funext q
    unfold updV upd
    split <;> rfl
  · unfold txt
    by_cases a1 : b = t
    · rw [if_pos a1, if_pos a1]
    · by_cases a2 : b = t + 1
      · rw [if_neg a1, if_pos a2, if_neg a1, if_pos a2]
      · rw [if_neg a1, if_neg a2, if_neg hb, if_neg a1, if_neg a2, if_neg hb]
theorem sp_readsNumber (hP1 : P 1 = nI L) (hp : P 2 = nI p) (hL : L ≤ 60) (hpL : p ≤ L) {form : Int32} {k : Nat} (hk : k < 3) : Ev X 45 0 [some (.ref t), some (.int form), some (.int (nI k)), none, none] [] (txt w t P C D) n 0 0 Q ↔ match numN L C form p with | none => Q (.inl (some (.int 0))) (txt w t P C D) n | some (v, q) => Q (.inl (some (.int 1))) (txt w t (upd P 2 (nI q)) C (upd D k v)) n := by
  have e0 : (0 : Int32) = -1 ↔ False := by decide
  have e1 : (1 : Int32) = -1 ↔ False := by decide
  have m1 : (-1 : Int32) = -1 ↔ True := by decide
  have i60 : P 2 < P 1 → p < 60 := fun q => by
    rw [hP1, hp] at q
    have : p < L := Nat.lt_of_not_le (fun z => nI_nlt z (by omega) q)
    omega
  have hP1' : ∀ x, upd P 2 x 1 = nI L := fun x => hP1
  have hp' : upd P 2 (nI (p + 1)) 2 = nI (p + 1) := upd_same
  have i60' : upd P 2 (nI (p + 1)) 2 < upd P 2 (nI (p + 1)) 1 → p + 1 < 60 := fun q => by
    rw [hP1', hp'] at q
    by_cases z : p + 1 < L
    · omega
    · exact absurd q (nI_nlt (by omega) (by omega))
  unfold numN
  by_cases f1 : form = 104
  · have f2 : (104 : Int32) = 110 ↔ False := by decide
    rw [if_pos f1]
    by_cases a : p < L
    · have a' : P 2 < P 1 := by rw [hP1, hp]; exact nI_lt a (by omega)
      rw [if_pos a]
      by_cases b : C p = 108
      · have hh : hdF P C p = 0 := by unfold hdF; rw [if_pos a', if_pos b]
        rw [if_pos b]
        simp only [X3_readsNumber_0, X3_readsNumber_1, X3_readsNumber_3, X3_readsNumber_6, X3_readsNumber_7, X3_readsNumber_10, X3_readsNumber_13, X3_readsNumber_14, X3_readsNumber_17, X3_readsNumber_18, X3_readsNumber_19, X3_readsNumber_20, X3_readsNumber_23, X3_readsNumber_24 okz0, X3_readsNumber_24 okz1, X3_readsNumber_25, X3_readsNumber_26, X3_readsNumber_27, X3_readsNumber_30, X3_readsNumber_31, X3_readsNumber_32, X3_readsNumber_35, X3_readsNumber_36, X3_readsNumber_38, X3_readsNumber_41, X3_readsNumber_42, X3_readsNumber_45, X3_readsNumber_48, X3_readsNumber_49, X3_readsNumber_51, X3_readsNumber_53, X3_readsNumber_54, X3_readsNumber_57, X3_readsNumber_59, X3_readsNumber_60, X3_readsNumber_61, X3_readsNumber_63, X3_readsNumber_64, X3_readsNumber_65, X3_readsNumber_66, X3_readsNumber_67, X3_readsNumber_70, X3_readsNumber_71, X3_readsNumber_72, X3_readsNumber_75, X3_readsNumber_76, X3_readsNumber_79, X3_readsNumber_80, X3_readsNumber_81, X3_readsNumber_82, X3_readsNumber_83 okz0, X3_readsNumber_83 okz1, f1, f2, if_true, hx_, sp_handHere hp i60, hh, Kr_v, Kj_v, e0, m1, if_false, gx2, gx4, Option.some.injEq, exists_eq_left', eq_self, okz0, okz1, ht, px (show 1 ≤ 2 by decide) (show 2 < 4 by decide), hp, nI_1, sdx hk]
        done
      · rw [if_neg b]
        by_cases d : C p = 114
        · have hh : hdF P C p = 1 := by unfold hdF; rw [if_pos a', if_neg b, if_pos d]
          rw [if_pos d]
          simp only [X3_readsNumber_0, X3_readsNumber_1, X3_readsNumber_3, X3_readsNumber_6, X3_readsNumber_7, X3_readsNumber_10, X3_readsNumber_13, X3_readsNumber_14, X3_readsNumber_17, X3_readsNumber_18, X3_readsNumber_19, X3_readsNumber_20, X3_readsNumber_23, X3_readsNumber_24 okz0, X3_readsNumber_24 okz1, X3_readsNumber_25, X3_readsNumber_26, X3_readsNumber_27, X3_readsNumber_30, X3_readsNumber_31, X3_readsNumber_32, X3_readsNumber_35, X3_readsNumber_36, X3_readsNumber_38, X3_readsNumber_41, X3_readsNumber_42, X3_readsNumber_45, X3_readsNumber_48, X3_readsNumber_49, X3_readsNumber_51, X3_readsNumber_53, X3_readsNumber_54, X3_readsNumber_57, X3_readsNumber_59, X3_readsNumber_60, X3_readsNumber_61, X3_readsNumber_63, X3_readsNumber_64, X3_readsNumber_65, X3_readsNumber_66, X3_readsNumber_67, X3_readsNumber_70, X3_readsNumber_71, X3_readsNumber_72, X3_readsNumber_75, X3_readsNumber_76, X3_readsNumber_79, X3_readsNumber_80, X3_readsNumber_81, X3_readsNumber_82, X3_readsNumber_83 okz0, X3_readsNumber_83 okz1, f1, f2, if_true, hx_, sp_handHere hp i60, hh, Kr_v, Kj_v, e1, m1, if_false, gx2, gx4, Option.some.injEq, exists_eq_left', eq_self, okz0, okz1, ht, px (show 1 ≤ 2 by decide) (show 2 < 4 by decide), hp, nI_1, sdx hk]
          done
        · have hh : hdF P C p = -1 := by unfold hdF; rw [if_pos a', if_neg b, if_neg d]
          rw [if_neg d]
          simp only [X3_readsNumber_0, X3_readsNumber_1, X3_readsNumber_3, X3_readsNumber_6, X3_readsNumber_7, X3_readsNumber_10, X3_readsNumber_13, X3_readsNumber_14, X3_readsNumber_17, X3_readsNumber_18, X3_readsNumber_19, X3_readsNumber_20, X3_readsNumber_23, X3_readsNumber_24 okz0, X3_readsNumber_24 okz1, X3_readsNumber_25, X3_readsNumber_26, X3_readsNumber_27, X3_readsNumber_30, X3_readsNumber_31, X3_readsNumber_32, X3_readsNumber_35, X3_readsNumber_36, X3_readsNumber_38, X3_readsNumber_41, X3_readsNumber_42, X3_readsNumber_45, X3_readsNumber_48, X3_readsNumber_49, X3_readsNumber_51, X3_readsNumber_53, X3_readsNumber_54, X3_readsNumber_57, X3_readsNumber_59, X3_readsNumber_60, X3_readsNumber_61, X3_readsNumber_63, X3_readsNumber_64, X3_readsNumber_65, X3_readsNumber_66, X3_readsNumber_67, X3_readsNumber_70, X3_readsNumber_71, X3_readsNumber_72, X3_readsNumber_75, X3_readsNumber_76, X3_readsNumber_79, X3_readsNumber_80, X3_readsNumber_81, X3_readsNumber_82, X3_readsNumber_83 okz0, X3_readsNumber_83 okz1, f1, if_true, hx_, sp_handHere hp i60, hh, Kr_v, Kj_v, Option.some.injEq, exists_eq_left', eq_self, okz0, okz1, ht]
          done
    · have hh : hdF P C p = -1 := by unfold hdF; rw [hP1, hp, if_neg (nI_nlt (by omega) (by omega))]
      rw [if_neg a]
      simp only [X3_readsNumber_0, X3_readsNumber_1, X3_readsNumber_3, X3_readsNumber_6, X3_readsNumber_7, X3_readsNumber_10, X3_readsNumber_13, X3_readsNumber_14, X3_readsNumber_17, X3_readsNumber_18, X3_readsNumber_19, X3_readsNumber_20, X3_readsNumber_23, X3_readsNumber_24 okz0, X3_readsNumber_24 okz1, X3_readsNumber_25, X3_readsNumber_26, X3_readsNumber_27, X3_readsNumber_30, X3_readsNumber_31, X3_readsNumber_32, X3_readsNumber_35, X3_readsNumber_36, X3_readsNumber_38, X3_readsNumber_41, X3_readsNumber_42, X3_readsNumber_45, X3_readsNumber_48, X3_readsNumber_49, X3_readsNumber_51, X3_readsNumber_53, X3_readsNumber_54, X3_readsNumber_57, X3_readsNumber_59, X3_readsNumber_60, X3_readsNumber_61, X3_readsNumber_63, X3_readsNumber_64, X3_readsNumber_65, X3_readsNumber_66, X3_readsNumber_67, X3_readsNumber_70, X3_readsNumber_71, X3_readsNumber_72, X3_readsNumber_75, X3_readsNumber_76, X3_readsNumber_79, X3_readsNumber_80, X3_readsNumber_81, X3_readsNumber_82, X3_readsNumber_83 okz0, X3_readsNumber_83 okz1, f1, if_true, hx_, sp_handHere hp i60, hh, Kr_v, Kj_v, Option.some.injEq, exists_eq_left', eq_self, okz0, okz1, ht]
      done
  · rw [if_neg f1]
    by_cases a : p < L
    · rw [if_pos a]
      by_cases b : isDg (C p) = true
      · rw [if_pos b]
        have h1 := dgF_t hP1 hp hL a b
        have z1 := dg_m1 b
        by_cases f2 : form = 110
        · have f3 : (110 : Int32) = 104 ↔ False := by decide
          rw [if_pos f2]
          by_cases a2 : p + 1 < L
          · rw [if_pos a2]
            by_cases b2 : isDg (C (p + 1)) = true
            · have h2 := dgF_t (hP1' (nI (p + 1))) hp' hL a2 b2
              have z2 := dg_m1 b2
              have hp2 : upd (upd P 2 (nI (p + 1))) 2 (nI (p + 1 + 1)) = upd P 2 (nI (p + 2)) := upd_upd
              rw [if_pos b2]
              simp only [X3_readsNumber_0, X3_readsNumber_1, X3_readsNumber_3, X3_readsNumber_6, X3_readsNumber_7, X3_readsNumber_10, X3_readsNumber_13, X3_readsNumber_14, X3_readsNumber_17, X3_readsNumber_18, X3_readsNumber_19, X3_readsNumber_20, X3_readsNumber_23, X3_readsNumber_24 okz0, X3_readsNumber_24 okz1, X3_readsNumber_25, X3_readsNumber_26, X3_readsNumber_27, X3_readsNumber_30, X3_readsNumber_31, X3_readsNumber_32, X3_readsNumber_35, X3_readsNumber_36, X3_readsNumber_38, X3_readsNumber_41, X3_readsNumber_42, X3_readsNumber_45, X3_readsNumber_48, X3_readsNumber_49, X3_readsNumber_51, X3_readsNumber_53, X3_readsNumber_54, X3_readsNumber_57, X3_readsNumber_59, X3_readsNumber_60, X3_readsNumber_61, X3_readsNumber_63, X3_readsNumber_64, X3_readsNumber_65, X3_readsNumber_66, X3_readsNumber_67, X3_readsNumber_70, X3_readsNumber_71, X3_readsNumber_72, X3_readsNumber_75, X3_readsNumber_76, X3_readsNumber_79, X3_readsNumber_80, X3_readsNumber_81, X3_readsNumber_82, X3_readsNumber_83 okz0, X3_readsNumber_83 okz1, f2, f3, if_true, if_false, hx_, sp_digitHere hp i60, sp_digitHere hp' i60', h1, h2, z1, z2, Kr_v, Kj_v, gx2, gx4, Option.some.injEq, exists_eq_left', eq_self, okz0, okz1, ht, px (show 1 ≤ 2 by decide) (show 2 < 4 by decide), hp, hp', nI_1, hp2, sdx hk]
              done
            · have h2 := dgF_f (hP1' (nI (p + 1))) hp' hL a2 b2
              rw [if_neg b2]
              simp only [X3_readsNumber_0, X3_readsNumber_1, X3_readsNumber_3, X3_readsNumber_6, X3_readsNumber_7, X3_readsNumber_10, X3_readsNumber_13, X3_readsNumber_14, X3_readsNumber_17, X3_readsNumber_18, X3_readsNumber_19, X3_readsNumber_20, X3_readsNumber_23, X3_readsNumber_24 okz0, X3_readsNumber_24 okz1, X3_readsNumber_25, X3_readsNumber_26, X3_readsNumber_27, X3_readsNumber_30, X3_readsNumber_31, X3_readsNumber_32, X3_readsNumber_35, X3_readsNumber_36, X3_readsNumber_38, X3_readsNumber_41, X3_readsNumber_42, X3_readsNumber_45, X3_readsNumber_48, X3_readsNumber_49, X3_readsNumber_51, X3_readsNumber_53, X3_readsNumber_54, X3_readsNumber_57, X3_readsNumber_59, X3_readsNumber_60, X3_readsNumber_61, X3_readsNumber_63, X3_readsNumber_64, X3_readsNumber_65, X3_readsNumber_66, X3_readsNumber_67, X3_readsNumber_70, X3_readsNumber_71, X3_readsNumber_72, X3_readsNumber_75, X3_readsNumber_76, X3_readsNumber_79, X3_readsNumber_80, X3_readsNumber_81, X3_readsNumber_82, X3_readsNumber_83 okz0, X3_readsNumber_83 okz1, f2, f3, if_true, if_false, hx_, sp_digitHere hp i60, sp_digitHere hp' i60', h1, h2, z1, Kr_v, Kj_v, gx2, gx4, Option.some.injEq, exists_eq_left', eq_self, okz0, okz1, ht, px (show 1 ≤ 2 by decide) (show 2 < 4 by decide), hp, nI_1, sdx hk]
              done
          · have h2 := dgF_o (C := C) (hP1' (nI (p + 1))) hp' (by omega) a2
            rw [if_neg a2]
            simp only [X3_readsNumber_0, X3_readsNumber_1, X3_readsNumber_3, X3_readsNumber_6, X3_readsNumber_7, X3_readsNumber_10, X3_readsNumber_13, X3_readsNumber_14, X3_readsNumber_17, X3_readsNumber_18, X3_readsNumber_19, X3_readsNumber_20, X3_readsNumber_23, X3_readsNumber_24 okz0, X3_readsNumber_24 okz1, X3_readsNumber_25, X3_readsNumber_26, X3_readsNumber_27, X3_readsNumber_30, X3_readsNumber_31, X3_readsNumber_32, X3_readsNumber_35, X3_readsNumber_36, X3_readsNumber_38, X3_readsNumber_41, X3_readsNumber_42, X3_readsNumber_45, X3_readsNumber_48, X3_readsNumber_49, X3_readsNumber_51, X3_readsNumber_53, X3_readsNumber_54, X3_readsNumber_57, X3_readsNumber_59, X3_readsNumber_60, X3_readsNumber_61, X3_readsNumber_63, X3_readsNumber_64, X3_readsNumber_65, X3_readsNumber_66, X3_readsNumber_67, X3_readsNumber_70, X3_readsNumber_71, X3_readsNumber_72, X3_readsNumber_75, X3_readsNumber_76, X3_readsNumber_79, X3_readsNumber_80, X3_readsNumber_81, X3_readsNumber_82, X3_readsNumber_83 okz0, X3_readsNumber_83 okz1, f2, f3, if_true, if_false, hx_, sp_digitHere hp i60, sp_digitHere hp' i60', h1, h2, z1, Kr_v, Kj_v, gx2, gx4, Option.some.injEq, exists_eq_left', eq_self, okz0, okz1, ht, px (show 1 ≤ 2 by decide) (show 2 < 4 by decide), hp, nI_1, sdx hk]
            done
        · rw [if_neg f2]
          simp only [X3_readsNumber_0, X3_readsNumber_1, X3_readsNumber_3, X3_readsNumber_6, X3_readsNumber_7, X3_readsNumber_10, X3_readsNumber_13, X3_readsNumber_14, X3_readsNumber_17, X3_readsNumber_18, X3_readsNumber_19, X3_readsNumber_20, X3_readsNumber_23, X3_readsNumber_24 okz0, X3_readsNumber_24 okz1, X3_readsNumber_25, X3_readsNumber_26, X3_readsNumber_27, X3_readsNumber_30, X3_readsNumber_31, X3_readsNumber_32, X3_readsNumber_35, X3_readsNumber_36, X3_readsNumber_38, X3_readsNumber_41, X3_readsNumber_42, X3_readsNumber_45, X3_readsNumber_48, X3_readsNumber_49, X3_readsNumber_51, X3_readsNumber_53, X3_readsNumber_54, X3_readsNumber_57, X3_readsNumber_59, X3_readsNumber_60, X3_readsNumber_61, X3_readsNumber_63, X3_readsNumber_64, X3_readsNumber_65, X3_readsNumber_66, X3_readsNumber_67, X3_readsNumber_70, X3_readsNumber_71, X3_readsNumber_72, X3_readsNumber_75, X3_readsNumber_76, X3_readsNumber_79, X3_readsNumber_80, X3_readsNumber_81, X3_readsNumber_82, X3_readsNumber_83 okz0, X3_readsNumber_83 okz1, f1, f2, m1, if_true, if_false, hx_, sp_digitHere hp i60, h1, z1, Kr_v, Kj_v, gx2, gx4, Option.some.injEq, exists_eq_left', eq_self, okz0, okz1, ht, px (show 1 ≤ 2 by decide) (show 2 < 4 by decide), hp, nI_1, sdx hk]
          done
      · rw [if_neg b]
        have h1 := dgF_f hP1 hp hL a b
        simp only [X3_readsNumber_0, X3_readsNumber_1, X3_readsNumber_3, X3_readsNumber_6, X3_readsNumber_7, X3_readsNumber_10, X3_readsNumber_13, X3_readsNumber_14, X3_readsNumber_17, X3_readsNumber_18, X3_readsNumber_19, X3_readsNumber_20, X3_readsNumber_23, X3_readsNumber_24 okz0, X3_readsNumber_24 okz1, X3_readsNumber_25, X3_readsNumber_26, X3_readsNumber_27, X3_readsNumber_30, X3_readsNumber_31, X3_readsNumber_32, X3_readsNumber_35, X3_readsNumber_36, X3_readsNumber_38, X3_readsNumber_41, X3_readsNumber_42, X3_readsNumber_45, X3_readsNumber_48, X3_readsNumber_49, X3_readsNumber_51, X3_readsNumber_53, X3_readsNumber_54, X3_readsNumber_57, X3_readsNumber_59, X3_readsNumber_60, X3_readsNumber_61, X3_readsNumber_63, X3_readsNumber_64, X3_readsNumber_65, X3_readsNumber_66, X3_readsNumber_67, X3_readsNumber_70, X3_readsNumber_71, X3_readsNumber_72, X3_readsNumber_75, X3_readsNumber_76, X3_readsNumber_79, X3_readsNumber_80, X3_readsNumber_81, X3_readsNumber_82, X3_readsNumber_83 okz0, X3_readsNumber_83 okz1, f1, if_true, if_false, hx_, sp_digitHere hp i60, h1, Kr_v, Kj_v, Option.some.injEq, exists_eq_left', eq_self, okz0, okz1, ht]
        done
    · rw [if_neg a]
      have h1 := dgF_o (C := C) hP1 hp (by omega) a
      simp only [X3_readsNumber_0, X3_readsNumber_1, X3_readsNumber_3, X3_readsNumber_6, X3_readsNumber_7, X3_readsNumber_10, X3_readsNumber_13, X3_readsNumber_14, X3_readsNumber_17, X3_readsNumber_18, X3_readsNumber_19, X3_readsNumber_20, X3_readsNumber_23, X3_readsNumber_24 okz0, X3_readsNumber_24 okz1, X3_readsNumber_25, X3_readsNumber_26, X3_readsNumber_27, X3_readsNumber_30, X3_readsNumber_31, X3_readsNumber_32, X3_readsNumber_35, X3_readsNumber_36, X3_readsNumber_38, X3_readsNumber_41, X3_readsNumber_42, X3_readsNumber_45, X3_readsNumber_48, X3_readsNumber_49, X3_readsNumber_51, X3_readsNumber_53, X3_readsNumber_54, X3_readsNumber_57, X3_readsNumber_59, X3_readsNumber_60, X3_readsNumber_61, X3_readsNumber_63, X3_readsNumber_64, X3_readsNumber_65, X3_readsNumber_66, X3_readsNumber_67, X3_readsNumber_70, X3_readsNumber_71, X3_readsNumber_72, X3_readsNumber_75, X3_readsNumber_76, X3_readsNumber_79, X3_readsNumber_80, X3_readsNumber_81, X3_readsNumber_82, X3_readsNumber_83 okz0, X3_readsNumber_83 okz1, f1, if_true, if_false, hx_, sp_digitHere hp i60, h1, Kr_v, Kj_v, Option.some.injEq, exists_eq_left', eq_self, okz0, okz1, ht]
      done
/-- the numbers of a command, one after the other -/
def numsN (L : Nat) (C : Nat → Int32) : List Int32 → Nat → Nat → (Nat → Int32) → Bool × Nat × (Nat → Int32)
  | [], _, p, D => (true, p, D)
  | f :: fs, i, p, D => match numN L C f p with
    | none => (false, p, D)
    | some (v, q) => numsN L C fs (i + 1) q (upd D i v)
theorem numsN_le {L : Nat} {C : Nat → Int32} : ∀ (fs : List Int32) (i p : Nat) (D : Nat → Int32), p ≤ L → p ≤ (numsN L C fs i p D).2.1 ∧ (numsN L C fs i p D).2.1 ≤ L := by
  intro fs
  induction fs with
  | nil => intro i p D h; exact ⟨Nat.le_refl p, h⟩
  | cons f fs ih =>
    intro i p D h
    unfold numsN
    split
    · exact ⟨Nat.le_refl p, h⟩
    · rename_i v q hq
      obtain ⟨a, b⟩ := numN_le hq
      obtain ⟨c, d⟩ := ih (i + 1) q (upd D i v) b
      exact ⟨by omega, d⟩
def shN (k : Nat) : Nat := match k with
  | 0 => 2
  | 1 => 3
  | 2 => 4
  | 3 => 5
  | 4 => 7
  | 5 => 6
  | 6 => 7
  | _ => 6
theorem shN_tab : ∀ k, k < 8 → shN k < 8 ∧ (LBY.getD (shN k) []).length ≤ 3 := by decide
theorem sh_chr : ∀ k, k < 8 → ∀ i, i < (LBY.getD (shN k) []).length → ((((LBY.getD (shN k) []).getD i 0) &&& 255).toUInt32 % 65536).toInt32 = (LBY.getD (shN k) []).getD i 0 ∧ okr (some .char) ((LBY.getD (shN k) []).getD i 0) = true := by decide +kernel
theorem sp_shapeOf {w : Wld} {k : Nat} (hk : k < 8) : Ev X 38 0 [some (.int (nI k))] [] w n 0 0 Q ↔ Q (.inl (some (.ref (X.1 (shN k))))) w n := by
  have d0 : nI 0 = 0 := rfl
  have d1 : nI 1 = 1 := rfl
  have d2 : nI 2 = 2 := rfl
  have d3 : nI 3 = 3 := rfl
  have d4 : nI 4 = 4 := rfl
  have d5 : nI 5 = 5 := rfl
  have d6 : nI 6 = 6 := rfl
  have d7 : nI 7 = 7 := rfl
  rcases (show k = 0 ∨ k = 1 ∨ k = 2 ∨ k = 3 ∨ k = 4 ∨ k = 5 ∨ k = 6 ∨ k = 7 by omega) with rfl | rfl | rfl | rfl | rfl | rfl | rfl | rfl
  · simp only [d0, X3_shapeOf_0, X3_shapeOf_1_0, X3_shapeOf_1_1, X3_shapeOf_1_2, X3_shapeOf_1_3, X3_shapeOf_1_4, X3_shapeOf_1_5, X3_shapeOf_1_6, X3_shapeOf_1_7, X3_shapeOf_48, X3_shapeOf_50, X3_shapeOf_51, X3_shapeOf_53, X3_shapeOf_54, X3_shapeOf_56, X3_shapeOf_57, X3_shapeOf_59, X3_shapeOf_60, X3_shapeOf_62, X3_shapeOf_63, X3_shapeOf_65, X3_shapeOf_66, X3_shapeOf_68]; exact Iff.rfl
  · simp only [d1, X3_shapeOf_0, X3_shapeOf_1_0, X3_shapeOf_1_1, X3_shapeOf_1_2, X3_shapeOf_1_3, X3_shapeOf_1_4, X3_shapeOf_1_5, X3_shapeOf_1_6, X3_shapeOf_1_7, X3_shapeOf_48, X3_shapeOf_50, X3_shapeOf_51, X3_shapeOf_53, X3_shapeOf_54, X3_shapeOf_56, X3_shapeOf_57, X3_shapeOf_59, X3_shapeOf_60, X3_shapeOf_62, X3_shapeOf_63, X3_shapeOf_65, X3_shapeOf_66, X3_shapeOf_68]; exact Iff.rfl
  · simp only [d2, X3_shapeOf_0, X3_shapeOf_1_0, X3_shapeOf_1_1, X3_shapeOf_1_2, X3_shapeOf_1_3, X3_shapeOf_1_4, X3_shapeOf_1_5, X3_shapeOf_1_6, X3_shapeOf_1_7, X3_shapeOf_48, X3_shapeOf_50, X3_shapeOf_51, X3_shapeOf_53, X3_shapeOf_54, X3_shapeOf_56, X3_shapeOf_57, X3_shapeOf_59, X3_shapeOf_60, X3_shapeOf_62, X3_shapeOf_63, X3_shapeOf_65, X3_shapeOf_66, X3_shapeOf_68]; exact Iff.rfl
  · simp only [d3, X3_shapeOf_0, X3_shapeOf_1_0, X3_shapeOf_1_1, X3_shapeOf_1_2, X3_shapeOf_1_3, X3_shapeOf_1_4, X3_shapeOf_1_5, X3_shapeOf_1_6, X3_shapeOf_1_7, X3_shapeOf_48, X3_shapeOf_50, X3_shapeOf_51, X3_shapeOf_53, X3_shapeOf_54, X3_shapeOf_56, X3_shapeOf_57, X3_shapeOf_59, X3_shapeOf_60, X3_shapeOf_62, X3_shapeOf_63, X3_shapeOf_65, X3_shapeOf_66, X3_shapeOf_68]; exact Iff.rfl
  · simp only [d4, X3_shapeOf_0, X3_shapeOf_1_0, X3_shapeOf_1_1, X3_shapeOf_1_2, X3_shapeOf_1_3, X3_shapeOf_1_4, X3_shapeOf_1_5, X3_shapeOf_1_6, X3_shapeOf_1_7, X3_shapeOf_48, X3_shapeOf_50, X3_shapeOf_51, X3_shapeOf_53, X3_shapeOf_54, X3_shapeOf_56, X3_shapeOf_57, X3_shapeOf_59, X3_shapeOf_60, X3_shapeOf_62, X3_shapeOf_63, X3_shapeOf_65, X3_shapeOf_66, X3_shapeOf_68]; exact Iff.rfl
  · simp only [d5, X3_shapeOf_0, X3_shapeOf_1_0, X3_shapeOf_1_1, X3_shapeOf_1_2, X3_shapeOf_1_3, X3_shapeOf_1_4, X3_shapeOf_1_5, X3_shapeOf_1_6, X3_shapeOf_1_7, X3_shapeOf_48, X3_shapeOf_50, X3_shapeOf_51, X3_shapeOf_53, X3_shapeOf_54, X3_shapeOf_56, X3_shapeOf_57, X3_shapeOf_59, X3_shapeOf_60, X3_shapeOf_62, X3_shapeOf_63, X3_shapeOf_65, X3_shapeOf_66, X3_shapeOf_68]; exact Iff.rfl
  · simp only [d6, X3_shapeOf_0, X3_shapeOf_1_0, X3_shapeOf_1_1, X3_shapeOf_1_2, X3_shapeOf_1_3, X3_shapeOf_1_4, X3_shapeOf_1_5, X3_shapeOf_1_6, X3_shapeOf_1_7, X3_shapeOf_48, X3_shapeOf_50, X3_shapeOf_51, X3_shapeOf_53, X3_shapeOf_54, X3_shapeOf_56, X3_shapeOf_57, X3_shapeOf_59, X3_shapeOf_60, X3_shapeOf_62, X3_shapeOf_63, X3_shapeOf_65, X3_shapeOf_66, X3_shapeOf_68]; exact Iff.rfl
  · simp only [d7, X3_shapeOf_0, X3_shapeOf_1_0, X3_shapeOf_1_1, X3_shapeOf_1_2, X3_shapeOf_1_3, X3_shapeOf_1_4, X3_shapeOf_1_5, X3_shapeOf_1_6, X3_shapeOf_1_7, X3_shapeOf_48, X3_shapeOf_50, X3_shapeOf_51, X3_shapeOf_53, X3_shapeOf_54, X3_shapeOf_56, X3_shapeOf_57, X3_shapeOf_59, X3_shapeOf_60, X3_shapeOf_62, X3_shapeOf_63, X3_shapeOf_65, X3_shapeOf_66, X3_shapeOf_68]; exact Iff.rfl
/-- a command at the place p: which, whether it is one, the place behind it or of the fault, the numbers -/
def cmdN (L : Nat) (C : Nat → Int32) (p : Nat) (D : Nat → Int32) : Option (Nat × Bool × Nat × (Nat → Int32)) :=
  if p < L then (kndF (C p)).map fun k => (k, numsN L C (LBY.getD (shN k) []) 0 (p + 1) D) else none
theorem kndF_lt {c : Int32} {k : Nat} (h : kndF c = some k) : k < 8 := by
  unfold kndF at h
  (repeat' split at h) <;> first | (cases h; decide) | cases h
theorem cmdN_inv {D D2 : Nat → Int32} {k q : Nat} {b : Bool} (h : cmdN L C p D = some (k, b, q, D2)) : p < L ∧ k < 8 ∧ p < q ∧ q ≤ L := by
  unfold cmdN at h
  split at h
  · rename_i hp
    cases hk : kndF (C p) with
    | none => rw [hk] at h; cases h
    | some k9 =>
      rw [hk] at h
      have h : some (k9, numsN L C (LBY.getD (shN k9) []) 0 (p + 1) D) = some (k, b, q, D2) := h
      have h := Option.some.inj h
      obtain ⟨rfl, h2⟩ := Prod.mk.inj h
      have h3 := numsN_le (L := L) (C := C) (LBY.getD (shN k9) []) 0 (p + 1) D (by omega)
      rw [h2] at h3
      dsimp only at h3
      exact ⟨hp, kndF_lt hk, by omega, h3.2⟩
  · cases h
theorem sp_readNums (hX : LitX X) {k : Nat} (hk : k < 8) (hL : L ≤ 60) {a : Option Value} : ∀ (fs : List Int32) (i p : Nat) (P D : Nat → Int32), (LBY.getD (shN k) []).drop i = fs → P 1 = nI L → P 2 = nI p → p ≤ L → i ≤ (LBY.getD (shN k) []).length →
    (Ev X 46 63 [some (.ref t), some (.ref (X.1 (shN k))), some (.int (nI i))] [] (txt w t P C D) n 0 0 Q ↔ Q (.inl (some (.int (if (numsN L C fs i p D).1 then 1 else 0)))) (txt w t (upd P 2 (nI (numsN L C fs i p D).2.1)) C (numsN L C fs i p D).2.2) n) := by
  obtain ⟨s8, s3⟩ := shN_tab k hk
  have ls := lit_some hX s8
  intro fs
  induction fs with
  | nil =>
    intro i p P D hd h1 h2 hpL hi
    have hi2 : (LBY.getD (shN k) []).length ≤ i := by
      have := congrArg List.length hd
      rw [List.length_drop] at this
      rw [List.length_nil] at this
      omega
    have hlt : ¬ nI i < nI (LBY.getD (shN k) []).length := nI_nlt hi2 (by omega)
    have hu : upd P 2 (nI p) = P := by rw [← h2]; funext j; unfold upd; split <;> simp_all
    unfold numsN
    simp only [X3_readsCommand_63, X3_readsCommand_64, X3_readsCommand_65 ls, sp_litLen hX s8, Kr_v, Kj_v, X3_readsCommand_68, hlt, if_false, X3_readsCommand_97, X3_readsCommand_98 okz1, hu, if_true]
    done
  | cons f fs ih =>
    intro i p P D hd h1 h2 hpL hi
    have hi2 : i < (LBY.getD (shN k) []).length := by
      have := congrArg List.length hd
      rw [List.length_drop] at this
      rw [List.length_cons] at this
      omega
    have hf : (LBY.getD (shN k) []).getD i 0 = f := by
      have e := List.drop_eq_getElem_cons hi2
      rw [hd] at e
      have e2 := (List.cons.inj e).1
      rw [List.getD_eq_getElem?_getD, List.getElem?_eq_getElem hi2, e2]
      rfl
    have hd2 : (LBY.getD (shN k) []).drop (i + 1) = fs := by
      have e := List.drop_eq_getElem_cons hi2
      rw [hd] at e
      exact (List.cons.inj e).2.symm
    obtain ⟨c1, c2⟩ := sh_chr k hk i hi2
    rw [hf] at c2
    have hch : (((LBY.getD (shN k) []).getD i 0 &&& 255).toUInt32 % 65536).toInt32 = f := c1.trans hf
    have hlt : nI i < nI (LBY.getD (shN k) []).length := nI_lt hi2 (by omega)
    have hlt3 : nI i < 3 := show nI i < nI 3 from nI_lt (by omega) (by decide)
    have i3 : i < 3 := by omega
    unfold numsN
    simp only [X3_readsCommand_63, X3_readsCommand_64, X3_readsCommand_65 ls, sp_litLen hX s8, Kr_v, Kj_v, X3_readsCommand_68, hlt, if_true, X3_readsCommand_71, X3_readsCommand_72, X3_readsCommand_73, hlt3, X3_readsCommand_76, X3_readsCommand_77, X3_readsCommand_78, X3_readsCommand_79 ls, sp_litAt hX s8 hi2 hch c2, X3_readsCommand_82, X3_readsCommand_83 hx_, sp_readsNumber h1 h2 hL hpL i3]
    cases hn : numN L C f p with
    | none =>
      have hu : upd P 2 (nI p) = P := by rw [← h2]; funext j; unfold upd; split <;> simp_all
      simp only [Kr_v, Kj_v, X3_readsCommand_86, if_true, X3_readsCommand_89, X3_readsCommand_90 okz0, hu, Bool.false_eq_true, if_false]
      done
    | some q =>
      obtain ⟨v, q⟩ := q
      obtain ⟨l1, l2⟩ := numN_le hn
      have e1 : (1 : Int32) = 0 ↔ False := by decide
      simp only [Kr_v, Kj_v, X3_readsCommand_86, e1, if_false, X3_readsCommand_91, X3_readsCommand_94, nI_1]
      rw [ih (i + 1) q (upd P 2 (nI q)) (upd D i v) hd2 (by rw [upd_ne (by decide)]; exact h1) upd_same l2 (by omega), upd_upd]
theorem sp_readsCommand (hX : LitX X) (hP1 : P 1 = nI L) (hp : P 2 = nI p) (hL : L ≤ 60) (hpL : p ≤ L) (hC : ∀ i, i < L → ∃ j : Nat, j < 65536 ∧ C i = nI j) : Ev X 46 0 [some (.ref t), none, none] [] (txt w t P C D) n 0 0 Q ↔ match cmdN L C p D with
    | none => Q (.inl (some (.int 0))) (txt w t (upd P 3 (-1)) C D) n
    | some (k, b, q, D2) => Q (.inl (some (.int (if b then 1 else 0)))) (txt w t (upd (upd P 3 (nI k)) 2 (nI q)) C D2) n := by
  unfold cmdN
  have m1 : (-1 : Int32) = -1 ↔ True := by decide
  have ls0 := lit_some hX (show 0 < 8 by decide)
  by_cases a : p < L
  · have a' : nI p < nI L := nI_lt a (by omega)
    obtain ⟨j, hj, hc⟩ := hC p a
    rw [if_pos a]
    cases hk : kndF (C p) with
    | none =>
      have hk' : kndF (nI j) = none := by rw [← hc]; exact hk
      simp only [X3_readsCommand_0, X3_readsCommand_1, X3_readsCommand_2, X3_readsCommand_5, X3_readsCommand_6, X3_readsCommand_9, gx0, gx1, gx2, gx3, Option.some.injEq, exists_eq_left', eq_self, okz0, okz1, ht, hP1, hp, a', if_true, X3_readsCommand_12, X3_readsCommand_14, X3_readsCommand_15, X3_readsCommand_18, X3_readsCommand_19, X3_readsCommand_22, gcx (show p < 60 by omega), hc, X3_readsCommand_23 ls0, sp_litIndex hX hj, hk', oI, Kr_v, Kj_v, X3_readsCommand_26, X3_readsCommand_30, px (show 1 ≤ 3 by decide) (show 3 < 4 by decide), X3_readsCommand_33, X3_readsCommand_34, X3_readsCommand_37, X3_readsCommand_38, upd_same, X3_readsCommand_41, X3_readsCommand_42 okz0, Option.map_none]
      done
    | some k =>
      have hk' : kndF (nI j) = some k := by rw [← hc]; exact hk
      have k8 := kndF_lt hk
      have km : nI k = -1 ↔ False := nI_m1 (by omega)
      have h2 : upd P 3 (nI k) 2 = nI p := hp
      have hu : upd (upd P 3 (nI k)) 2 (nI (p + 1)) 3 = nI k := by rw [upd_ne (by decide)]; exact upd_same
      have hN := sp_readNums (X := X) (w := w) (n := n) (Q := Q) (t := t) (C := C) (a := none) hX k8 hL (LBY.getD (shN k) []) 0 (p + 1) (upd (upd P 3 (nI k)) 2 (nI (p + 1))) D rfl hP1 upd_same (by omega) (Nat.zero_le _)
      rw [upd_upd] at hN
      have z0 : nI 0 = 0 := rfl
      rw [z0] at hN
      simp only [X3_readsCommand_0, X3_readsCommand_1, X3_readsCommand_2, X3_readsCommand_5, X3_readsCommand_6, X3_readsCommand_9, gx0, gx1, gx2, gx3, Option.some.injEq, exists_eq_left', eq_self, okz0, okz1, ht, hP1, hp, a', if_true, X3_readsCommand_12, X3_readsCommand_14, X3_readsCommand_15, X3_readsCommand_18, X3_readsCommand_19, X3_readsCommand_22, gcx (show p < 60 by omega), hc, X3_readsCommand_23 ls0, sp_litIndex hX hj, hk', oI, Kr_v, Kj_v, X3_readsCommand_26, X3_readsCommand_30, px (show 1 ≤ 3 by decide) (show 3 < 4 by decide), X3_readsCommand_33, X3_readsCommand_34, X3_readsCommand_37, X3_readsCommand_38, upd_same, km, if_false, X3_readsCommand_43, X3_readsCommand_44, X3_readsCommand_45, h2, X3_readsCommand_48, X3_readsCommand_49, nI_1, X3_readsCommand_50, px (show 1 ≤ 2 by decide) (show 2 < 4 by decide), X3_readsCommand_53, X3_readsCommand_54, hu, X3_readsCommand_57, sp_shapeOf k8, X3_readsCommand_60, X3_readsCommand_61, X3_readsCommand_62, hN, Option.map_some]
      done
  · have a' : ¬ nI p < nI L := nI_nlt (by omega) (by omega)
    rw [if_neg a]
    simp only [X3_readsCommand_0, X3_readsCommand_1, X3_readsCommand_2, X3_readsCommand_5, X3_readsCommand_6, X3_readsCommand_9, gx1, gx2, gx3, Option.some.injEq, exists_eq_left', eq_self, okz0, okz1, ht, hP1, hp, a', if_false, if_true, X3_readsCommand_29, X3_readsCommand_30, px (show 1 ≤ 3 by decide) (show 3 < 4 by decide), X3_readsCommand_33, X3_readsCommand_34, X3_readsCommand_37, X3_readsCommand_38, upd_same, X3_readsCommand_41, X3_readsCommand_42 okz0]
    done
/-- the place of the first fault from p on, in at most d commands -/
def fltN (L : Nat) (C : Nat → Int32) : Nat → Nat → (Nat → Int32) → Option Nat
  | 0, p, _ => some p
  | d + 1, p, D => match cmdN L C p D with
    | none => some p
    | some (_, b, q, D2) => if b then (if q < L then (if C q = 59 then fltN L C d (q + 1) D2 else some q) else none) else some q
theorem sp_findFault (hX : LitX X) (hP1 : P 1 = nI L) (hL : L ≤ 60) (hC : ∀ i, i < L → ∃ j : Nat, j < 65536 ∧ C i = nI j) (hQ : ∀ P2 D2, P2 1 = nI L → Q (.inl (some (.int (oI (fltN L C 60 0 D))))) (txt w t P2 C D2) n) : Ev X 48 0 [some (.ref t), none] [] (txt w t P C D) n 0 0 Q := by
  have e1 : (1 : Int32) = 0 ↔ False := by decide
  have h : ∀ d i p P D, i + d = 60 → p ≤ L → P 1 = nI L → P 2 = nI p → (∀ P2 D2, P2 1 = nI L → Q (.inl (some (.int (oI (fltN L C d p D))))) (txt w t P2 C D2) n) → Ev X 48 7 [some (.ref t), some (.int (nI i))] [] (txt w t P C D) n 0 0 Q := by
    intro d
    induction d with
    | zero =>
      intro i p P D hi hp h1 h2 hq
      have hlt : nI i < 60 ↔ False := ⟨fun q => nI_nlt (show 60 ≤ i by omega) (by omega) (show nI i < nI 60 from q), False.elim⟩
      simp only [X3_findFault_7, X3_findFault_8, X3_findFault_10, hlt, if_false, X3_findFault_56, X3_findFault_57, X3_findFault_60, gx2, Option.some.injEq, exists_eq_left', eq_self, okz0, okz1, ht, h2]
      exact hq P D h1
    | succ d ih =>
      intro i p P D hi hp h1 h2 hq
      have hlt : nI i < 60 := show nI i < nI 60 from nI_lt (by omega) (by decide)
      simp only [X3_findFault_7, X3_findFault_8, X3_findFault_10, hlt, if_true, X3_findFault_13, X3_findFault_14 hx_, sp_readsCommand hX h1 h2 hL hp hC]
      cases hc : cmdN L C p D with
      | none =>
        have hq' : ∀ P2 D2, P2 1 = nI L → Q (.inl (some (.int (nI p)))) (txt w t P2 C D2) n := by
          intro P2 D2 z
          have := hq P2 D2 z
          unfold fltN at this
          rw [hc] at this
          exact this
        have h2' : upd P 3 (-1) 2 = nI p := h2
        simp only [Kr_v, Kj_v, X3_findFault_17, if_true, X3_findFault_20, X3_findFault_21, X3_findFault_24, gx2, Option.some.injEq, exists_eq_left', eq_self, okz0, okz1, ht, h2']
        exact hq' _ _ h1
      | some v =>
        obtain ⟨k, b, q, D2⟩ := v
        obtain ⟨v1, v2, v3, v4⟩ := cmdN_inv hc
        have u2 : upd (upd P 3 (nI k)) 2 (nI q) 2 = nI q := upd_same
        have u1 : upd (upd P 3 (nI k)) 2 (nI q) 1 = nI L := h1
        cases b with
        | false =>
          have hq' : ∀ P2 D2, P2 1 = nI L → Q (.inl (some (.int (nI q)))) (txt w t P2 C D2) n := by
            intro P2 D2 z
            have := hq P2 D2 z
            unfold fltN at this
            rw [hc] at this
            exact this
          simp only [Kr_v, Kj_v, Bool.false_eq_true, if_false, X3_findFault_17, if_true, X3_findFault_20, X3_findFault_21, X3_findFault_24, gx2, Option.some.injEq, exists_eq_left', eq_self, okz0, okz1, ht, u2]
          exact hq' _ _ h1
        | true =>
          by_cases a : q < L
          · have a' : nI q < nI L := nI_lt a (by omega)
            have i60 : upd (upd P 3 (nI k)) 2 (nI q) 2 < upd (upd P 3 (nI k)) 2 (nI q) 1 → q < 60 := fun _ => by omega
            by_cases s : C q = 59
            · have sk : skB (upd (upd P 3 (nI k)) 2 (nI q)) C q = true := by
                unfold skB
                rw [u2, u1]
                exact decide_eq_true ⟨a', s⟩
              have hq' : ∀ P2 D3, P2 1 = nI L → Q (.inl (some (.int (oI (fltN L C d (q + 1) D2))))) (txt w t P2 C D3) n := by
                intro P2 D3 z
                have := hq P2 D3 z
                rw [fltN, hc] at this
                dsimp only at this
                rw [if_pos rfl, if_pos a, if_pos s] at this
                exact this
              simp only [Kr_v, Kj_v, if_true, X3_findFault_17, e1, if_false, X3_findFault_25, X3_findFault_26, X3_findFault_29, X3_findFault_30, X3_findFault_33, gx1, gx2, Option.some.injEq, exists_eq_left', eq_self, okz0, okz1, ht, u2, u1, a', X3_findFault_38, X3_findFault_39 hx_, sp_skipSemicolon u2 i60, sk, X3_findFault_42, X3_findFault_50, X3_findFault_53, nI_1]
              exact ih (i + 1) (q + 1) _ _ (by omega) (by omega) h1 upd_same hq'
            · have sk : skB (upd (upd P 3 (nI k)) 2 (nI q)) C q = false := by
                unfold skB
                exact decide_eq_false (fun z => s z.2)
              have hq' : ∀ P2 D2, P2 1 = nI L → Q (.inl (some (.int (nI q)))) (txt w t P2 C D2) n := by
                intro P2 D3 z
                have := hq P2 D3 z
                rw [fltN, hc] at this
                dsimp only at this
                rw [if_pos rfl, if_pos a, if_neg s] at this
                exact this
              simp only [Kr_v, Kj_v, if_true, X3_findFault_17, e1, if_false, X3_findFault_25, X3_findFault_26, X3_findFault_29, X3_findFault_30, X3_findFault_33, gx1, gx2, Option.some.injEq, exists_eq_left', eq_self, okz0, okz1, ht, u2, u1, a', X3_findFault_38, X3_findFault_39 hx_, sp_skipSemicolon u2 i60, sk, Bool.false_eq_true, X3_findFault_42, X3_findFault_45, X3_findFault_46, X3_findFault_49]
              exact hq' _ _ h1
          · have a' : ¬ nI q < nI L := nI_nlt (by omega) (by omega)
            have hq' : ∀ P2 D2, P2 1 = nI L → Q (.inl (some (.int (-1)))) (txt w t P2 C D2) n := by
              intro P2 D3 z
              have := hq P2 D3 z
              rw [fltN, hc] at this
              dsimp only at this
              rw [if_pos rfl, if_neg a] at this
              exact this
            simp only [Kr_v, Kj_v, if_true, X3_findFault_17, e1, if_false, X3_findFault_25, X3_findFault_26, X3_findFault_29, X3_findFault_30, X3_findFault_33, gx1, gx2, Option.some.injEq, exists_eq_left', eq_self, okz0, okz1, ht, u2, u1, a', X3_findFault_36, X3_findFault_37]
            exact hq' _ _ h1
  have z0 : nI 0 = 0 := rfl
  have hz := h 60 0 0 (upd P 2 (nI 0)) D rfl (Nat.zero_le L) hP1 upd_same hQ
  rw [z0] at hz
  simp only [X3_findFault_0, X3_findFault_1, X3_findFault_2, px (show 1 ≤ 2 by decide) (show 2 < 4 by decide), Option.some.injEq, exists_eq_left', eq_self, okz0, okz1, ht, X3_findFault_5, X3_findFault_6]
  exact hz
end RDN
