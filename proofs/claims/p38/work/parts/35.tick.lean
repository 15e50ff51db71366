/-! ===== taking ladles, giving leave, ticks ===== -/
theorem upd_i {F : Nat → Int32} {k i : Nat} {x : Int32} : upd F k x i = if i = k then x else F i := rfl
abbrev Tb := (Nat → Int32) × (Nat → Int32) × (Nat → Nat → Int32)
section TBL5
variable {X : Cxt} {w : Wld} {n : Option Nat} {Q : (Option Value ⊕ String) → Wld → Option Nat → Prop} {t cnt : Nat} {F G : Nat → Int32} {S : Nat → Nat → Int32}
/-- the second ladle of a seat that holds one -/
def l2N (cnt : Nat) (G : Nat → Int32) (S : Nat → Nat → Int32) (k : Nat) : Nat := if G (ladN cnt S k 1) = nI k then ladN cnt S k 0 else ladN cnt S k 1
theorem l2N_lt {k : Nat} (hk : k < cnt) : l2N cnt G S k < cnt := by
  unfold l2N
  split <;> exact ladN_lt hk
def tkB (cnt k : Nat) (s : Tb) : Tb :=
  if s.2.2 k 3 = 3 then (if s.2.1 (l2N cnt s.2.1 s.2.2 k) = -1 then (if 0 < s.1 4 then (upd (upd s.1 4 (s.1 4 - 1)) 6 (s.1 6 + 1), upd s.2.1 (l2N cnt s.2.1 s.2.2 k) (nI k), beS s.2.2 k) else s) else s) else s
theorem sp_take2 (hc : F 2 = nI cnt) (h8 : cnt ≤ 8) {k : Nat} (hk : k < cnt) {l3 l4 : Option Value} : Ev X 70 41 [some (.ref t), some (.int (nI k)), some (.ref (t + 3 + k)), l3, l4] [] (blk w t F G S) n 0 0 Q ↔ Q (.inl none) (blk w t (tkB cnt k (F, G, S)).1 (tkB cnt k (F, G, S)).2.1 (tkB cnt k (F, G, S)).2.2) n := by
  have k8 : k < 8 := by omega
  have hl := l2N_lt (G := G) (S := S) hk
  have hl8 : l2N cnt G S k < 8 := by omega
  unfold tkB
  dsimp only
  by_cases a : S k 3 = 3
  · have ww : wantF cnt G S k = nI (l2N cnt G S k) := by
      unfold wantF l2N
      rw [if_neg (by rw [a]; decide), if_pos a]
      split <;> rfl
    rw [if_pos a]
    by_cases b : G (l2N cnt G S k) = -1
    · have e1 : (1 : Int32) = 0 ↔ False := by decide
      rw [if_pos b]
      by_cases d : 0 < F 4
      · rw [if_pos d]
        simp only [X2_takeLadles_0, X2_takeLadles_1, X2_takeLadles_4, X2_takeLadles_5, X2_takeLadles_6, X2_takeLadles_7, X2_takeLadles_8, X2_takeLadles_9, X2_takeLadles_12, X2_takeLadles_13, X2_takeLadles_14, X2_takeLadles_17, X2_takeLadles_18, X2_takeLadles_21, X2_takeLadles_22, X2_takeLadles_23, X2_takeLadles_26, X2_takeLadles_29, X2_takeLadles_30, X2_takeLadles_33, X2_takeLadles_34, X2_takeLadles_35, X2_takeLadles_36, X2_takeLadles_37, X2_takeLadles_38, X2_takeLadles_41, X2_takeLadles_42, X2_takeLadles_43, X2_takeLadles_46, X2_takeLadles_48, X2_takeLadles_49, X2_takeLadles_52, X2_takeLadles_53, X2_takeLadles_56, X2_takeLadles_57, X2_takeLadles_59, X2_takeLadles_62, X2_takeLadles_65, X2_takeLadles_66, X2_takeLadles_69, X2_takeLadles_72, X2_takeLadles_73, X2_takeLadles_76, X2_takeLadles_78, X2_takeLadles_79, X2_takeLadles_80, X2_takeLadles_81, X2_takeLadles_82, X2_takeLadles_85, X2_takeLadles_86, X2_takeLadles_87, X2_takeLadles_90, X2_takeLadles_91, X2_takeLadles_92, X2_takeLadles_95, X2_takeLadles_96, X2_takeLadles_97, X2_takeLadles_100, X2_takeLadles_101, X2_takeLadles_104, gt0, gt1, gt4, gt6, Option.some.injEq, exists_eq_left', eq_self, okz0, okz1, ht, gq (show k < 8 by omega), gh (show k < 8 by omega), gs (show k < 8 by omega) (show 0 < 9 by decide), gs (show k < 8 by omega) (show 1 < 9 by decide), gs (show k < 8 by omega) (show 2 < 9 by decide), gs (show k < 8 by omega) (show 3 < 9 by decide), gs (show k < 8 by omega) (show 4 < 9 by decide), gs (show k < 8 by omega) (show 5 < 9 by decide), gs (show k < 8 by omega) (show 6 < 9 by decide), gs (show k < 8 by omega) (show 7 < 9 by decide), gs (show k < 8 by omega) (show 8 < 9 by decide), ps (show k < 8 by omega) (show 0 < 9 by decide), ps (show k < 8 by omega) (show 1 < 9 by decide), ps (show k < 8 by omega) (show 2 < 9 by decide), ps (show k < 8 by omega) (show 3 < 9 by decide), ps (show k < 8 by omega) (show 4 < 9 by decide), ps (show k < 8 by omega) (show 5 < 9 by decide), ps (show k < 8 by omega) (show 6 < 9 by decide), ps (show k < 8 by omega) (show 7 < 9 by decide), ps (show k < 8 by omega) (show 8 < 9 by decide), sp_wantedLadle hc h8 hk, ww, Kr_v, Kj_v, Kr_n, Kj_n, a, if_true, sp_isFree hc h8 hl, b, e1, if_false, d, sh hl8, hs_ k8, sp_beginToEat k8, pt (show 2 ≤ 4 by decide) (show 4 < 8 by decide), pt (show 2 ≤ 6 by decide) (show 6 < 8 by decide), upd_i, Nat.reduceEqDiff, ↓reduceIte]
        done
      · rw [if_neg d]
        simp only [X2_takeLadles_0, X2_takeLadles_1, X2_takeLadles_4, X2_takeLadles_5, X2_takeLadles_6, X2_takeLadles_7, X2_takeLadles_8, X2_takeLadles_9, X2_takeLadles_12, X2_takeLadles_13, X2_takeLadles_14, X2_takeLadles_17, X2_takeLadles_18, X2_takeLadles_21, X2_takeLadles_22, X2_takeLadles_23, X2_takeLadles_26, X2_takeLadles_29, X2_takeLadles_30, X2_takeLadles_33, X2_takeLadles_34, X2_takeLadles_35, X2_takeLadles_36, X2_takeLadles_37, X2_takeLadles_38, X2_takeLadles_41, X2_takeLadles_42, X2_takeLadles_43, X2_takeLadles_46, X2_takeLadles_48, X2_takeLadles_49, X2_takeLadles_52, X2_takeLadles_53, X2_takeLadles_56, X2_takeLadles_57, X2_takeLadles_59, X2_takeLadles_62, X2_takeLadles_65, X2_takeLadles_66, X2_takeLadles_69, X2_takeLadles_72, X2_takeLadles_73, X2_takeLadles_76, X2_takeLadles_78, X2_takeLadles_79, X2_takeLadles_80, X2_takeLadles_81, X2_takeLadles_82, X2_takeLadles_85, X2_takeLadles_86, X2_takeLadles_87, X2_takeLadles_90, X2_takeLadles_91, X2_takeLadles_92, X2_takeLadles_95, X2_takeLadles_96, X2_takeLadles_97, X2_takeLadles_100, X2_takeLadles_101, X2_takeLadles_104, gt0, gt1, gt4, Option.some.injEq, exists_eq_left', eq_self, okz0, okz1, ht, gq (show k < 8 by omega), gh (show k < 8 by omega), gs (show k < 8 by omega) (show 0 < 9 by decide), gs (show k < 8 by omega) (show 1 < 9 by decide), gs (show k < 8 by omega) (show 2 < 9 by decide), gs (show k < 8 by omega) (show 3 < 9 by decide), gs (show k < 8 by omega) (show 4 < 9 by decide), gs (show k < 8 by omega) (show 5 < 9 by decide), gs (show k < 8 by omega) (show 6 < 9 by decide), gs (show k < 8 by omega) (show 7 < 9 by decide), gs (show k < 8 by omega) (show 8 < 9 by decide), sp_wantedLadle hc h8 hk, ww, Kr_v, Kj_v, Kr_n, Kj_n, a, if_true, sp_isFree hc h8 hl, b, e1, if_false, d]
        done
    · rw [if_neg b]
      simp only [X2_takeLadles_0, X2_takeLadles_1, X2_takeLadles_4, X2_takeLadles_5, X2_takeLadles_6, X2_takeLadles_7, X2_takeLadles_8, X2_takeLadles_9, X2_takeLadles_12, X2_takeLadles_13, X2_takeLadles_14, X2_takeLadles_17, X2_takeLadles_18, X2_takeLadles_21, X2_takeLadles_22, X2_takeLadles_23, X2_takeLadles_26, X2_takeLadles_29, X2_takeLadles_30, X2_takeLadles_33, X2_takeLadles_34, X2_takeLadles_35, X2_takeLadles_36, X2_takeLadles_37, X2_takeLadles_38, X2_takeLadles_41, X2_takeLadles_42, X2_takeLadles_43, X2_takeLadles_46, X2_takeLadles_48, X2_takeLadles_49, X2_takeLadles_52, X2_takeLadles_53, X2_takeLadles_56, X2_takeLadles_57, X2_takeLadles_59, X2_takeLadles_62, X2_takeLadles_65, X2_takeLadles_66, X2_takeLadles_69, X2_takeLadles_72, X2_takeLadles_73, X2_takeLadles_76, X2_takeLadles_78, X2_takeLadles_79, X2_takeLadles_80, X2_takeLadles_81, X2_takeLadles_82, X2_takeLadles_85, X2_takeLadles_86, X2_takeLadles_87, X2_takeLadles_90, X2_takeLadles_91, X2_takeLadles_92, X2_takeLadles_95, X2_takeLadles_96, X2_takeLadles_97, X2_takeLadles_100, X2_takeLadles_101, X2_takeLadles_104, gt0, gt1, gt4, Option.some.injEq, exists_eq_left', eq_self, okz0, okz1, ht, gq (show k < 8 by omega), gh (show k < 8 by omega), gs (show k < 8 by omega) (show 0 < 9 by decide), gs (show k < 8 by omega) (show 1 < 9 by decide), gs (show k < 8 by omega) (show 2 < 9 by decide), gs (show k < 8 by omega) (show 3 < 9 by decide), gs (show k < 8 by omega) (show 4 < 9 by decide), gs (show k < 8 by omega) (show 5 < 9 by decide), gs (show k < 8 by omega) (show 6 < 9 by decide), gs (show k < 8 by omega) (show 7 < 9 by decide), gs (show k < 8 by omega) (show 8 < 9 by decide), sp_wantedLadle hc h8 hk, ww, Kr_v, Kj_v, Kr_n, Kj_n, a, if_true, sp_isFree hc h8 hl, b, if_false]
      done
  · rw [if_neg a]
    simp only [X2_takeLadles_0, X2_takeLadles_1, X2_takeLadles_4, X2_takeLadles_5, X2_takeLadles_6, X2_takeLadles_7, X2_takeLadles_8, X2_takeLadles_9, X2_takeLadles_12, X2_takeLadles_13, X2_takeLadles_14, X2_takeLadles_17, X2_takeLadles_18, X2_takeLadles_21, X2_takeLadles_22, X2_takeLadles_23, X2_takeLadles_26, X2_takeLadles_29, X2_takeLadles_30, X2_takeLadles_33, X2_takeLadles_34, X2_takeLadles_35, X2_takeLadles_36, X2_takeLadles_37, X2_takeLadles_38, X2_takeLadles_41, X2_takeLadles_42, X2_takeLadles_43, X2_takeLadles_46, X2_takeLadles_48, X2_takeLadles_49, X2_takeLadles_52, X2_takeLadles_53, X2_takeLadles_56, X2_takeLadles_57, X2_takeLadles_59, X2_takeLadles_62, X2_takeLadles_65, X2_takeLadles_66, X2_takeLadles_69, X2_takeLadles_72, X2_takeLadles_73, X2_takeLadles_76, X2_takeLadles_78, X2_takeLadles_79, X2_takeLadles_80, X2_takeLadles_81, X2_takeLadles_82, X2_takeLadles_85, X2_takeLadles_86, X2_takeLadles_87, X2_takeLadles_90, X2_takeLadles_91, X2_takeLadles_92, X2_takeLadles_95, X2_takeLadles_96, X2_takeLadles_97, X2_takeLadles_100, X2_takeLadles_101, X2_takeLadles_104, gt0, gt1, gt4, Option.some.injEq, exists_eq_left', eq_self, okz0, okz1, ht, gq (show k < 8 by omega), gh (show k < 8 by omega), gs (show k < 8 by omega) (show 0 < 9 by decide), gs (show k < 8 by omega) (show 1 < 9 by decide), gs (show k < 8 by omega) (show 2 < 9 by decide), gs (show k < 8 by omega) (show 3 < 9 by decide), gs (show k < 8 by omega) (show 4 < 9 by decide), gs (show k < 8 by omega) (show 5 < 9 by decide), gs (show k < 8 by omega) (show 6 < 9 by decide), gs (show k < 8 by omega) (show 7 < 9 by decide), gs (show k < 8 by omega) (show 8 < 9 by decide), sp_wantedLadle hc h8 hk, Kr_v, Kj_v, Kr_n, Kj_n, a, if_false]
    done
def tkA (cnt k : Nat) (s : Tb) : Tb :=
  if s.2.2 k 3 = 2 then (if s.2.1 (ladN cnt s.2.2 k 1) = -1 then (s.1, upd s.2.1 (ladN cnt s.2.2 k 1) (nI k), up2 s.2.2 k 3 3) else s) else s
def tkF (cnt k : Nat) (s : Tb) : Tb := tkB cnt k (tkA cnt k s)
theorem sp_takeLadles (hc : F 2 = nI cnt) (h8 : cnt ≤ 8) {k : Nat} (hk : k < cnt) : Ev X 70 0 [some (.ref t), some (.int (nI k)), none, none, none] [] (blk w t F G S) n 0 0 Q ↔ Q (.inl none) (blk w t (tkF cnt k (F, G, S)).1 (tkF cnt k (F, G, S)).2.1 (tkF cnt k (F, G, S)).2.2) n := by
  have k8 : k < 8 := by omega
  have hl : ladN cnt S k 1 < cnt := ladN_lt hk
  have hl8 : ladN cnt S k 1 < 8 := by omega
  unfold tkF tkA
  dsimp only
  by_cases a : S k 3 = 2
  · have ww : wantF cnt G S k = nI (ladN cnt S k 1) := if_pos a
    rw [if_pos a]
    by_cases b : G (ladN cnt S k 1) = -1
    · have e1 : (1 : Int32) = 0 ↔ False := by decide
      rw [if_pos b]; refine Iff.trans ?_ (sp_take2 (X := X) hc h8 hk (l3 := some (.int (nI (ladN cnt S k 1)))) (l4 := none))
      simp only [X2_takeLadles_0, X2_takeLadles_1, X2_takeLadles_4, X2_takeLadles_5, X2_takeLadles_6, X2_takeLadles_7, X2_takeLadles_8, X2_takeLadles_9, X2_takeLadles_12, X2_takeLadles_13, X2_takeLadles_14, X2_takeLadles_17, X2_takeLadles_18, X2_takeLadles_21, X2_takeLadles_22, X2_takeLadles_23, X2_takeLadles_26, X2_takeLadles_29, X2_takeLadles_30, X2_takeLadles_33, X2_takeLadles_34, X2_takeLadles_35, X2_takeLadles_36, X2_takeLadles_37, X2_takeLadles_38, X2_takeLadles_42, X2_takeLadles_43, X2_takeLadles_46, X2_takeLadles_48, X2_takeLadles_49, X2_takeLadles_52, X2_takeLadles_53, X2_takeLadles_56, X2_takeLadles_57, X2_takeLadles_59, X2_takeLadles_62, X2_takeLadles_65, X2_takeLadles_66, X2_takeLadles_69, X2_takeLadles_72, X2_takeLadles_73, X2_takeLadles_76, X2_takeLadles_78, X2_takeLadles_79, X2_takeLadles_80, X2_takeLadles_81, X2_takeLadles_82, X2_takeLadles_85, X2_takeLadles_86, X2_takeLadles_87, X2_takeLadles_90, X2_takeLadles_91, X2_takeLadles_92, X2_takeLadles_95, X2_takeLadles_96, X2_takeLadles_97, X2_takeLadles_100, X2_takeLadles_101, X2_takeLadles_104, gt0, gt1, Option.some.injEq, exists_eq_left', eq_self, okz0, okz1, ht, gq (show k < 8 by omega), gh (show k < 8 by omega), gs (show k < 8 by omega) (show 0 < 9 by decide), gs (show k < 8 by omega) (show 1 < 9 by decide), gs (show k < 8 by omega) (show 2 < 9 by decide), gs (show k < 8 by omega) (show 3 < 9 by decide), gs (show k < 8 by omega) (show 4 < 9 by decide), gs (show k < 8 by omega) (show 5 < 9 by decide), gs (show k < 8 by omega) (show 6 < 9 by decide), gs (show k < 8 by omega) (show 7 < 9 by decide), gs (show k < 8 by omega) (show 8 < 9 by decide), ps (show k < 8 by omega) (show 0 < 9 by decide), ps (show k < 8 by omega) (show 1 < 9 by decide), ps (show k < 8 by omega) (show 2 < 9 by decide), ps (show k < 8 by omega) (show 3 < 9 by decide), ps (show k < 8 by omega) (show 4 < 9 by decide), ps (show k < 8 by omega) (show 5 < 9 by decide), ps (show k < 8 by omega) (show 6 < 9 by decide), ps (show k < 8 by omega) (show 7 < 9 by decide), ps (show k < 8 by omega) (show 8 < 9 by decide), sp_wantedLadle hc h8 hk, ww, Kr_v, Kj_v, Kr_n, Kj_n, a, if_true, sp_isFree hc h8 hl, b, e1, if_false, sh hl8]
      done
    · rw [if_neg b]; refine Iff.trans ?_ (sp_take2 (X := X) hc h8 hk (l3 := some (.int (nI (ladN cnt S k 1)))) (l4 := none))
      simp only [X2_takeLadles_0, X2_takeLadles_1, X2_takeLadles_4, X2_takeLadles_5, X2_takeLadles_6, X2_takeLadles_7, X2_takeLadles_8, X2_takeLadles_9, X2_takeLadles_12, X2_takeLadles_13, X2_takeLadles_14, X2_takeLadles_17, X2_takeLadles_18, X2_takeLadles_21, X2_takeLadles_22, X2_takeLadles_23, X2_takeLadles_26, X2_takeLadles_29, X2_takeLadles_30, X2_takeLadles_33, X2_takeLadles_34, X2_takeLadles_35, X2_takeLadles_36, X2_takeLadles_37, X2_takeLadles_38, X2_takeLadles_42, X2_takeLadles_43, X2_takeLadles_46, X2_takeLadles_48, X2_takeLadles_49, X2_takeLadles_52, X2_takeLadles_53, X2_takeLadles_56, X2_takeLadles_57, X2_takeLadles_59, X2_takeLadles_62, X2_takeLadles_65, X2_takeLadles_66, X2_takeLadles_69, X2_takeLadles_72, X2_takeLadles_73, X2_takeLadles_76, X2_takeLadles_78, X2_takeLadles_79, X2_takeLadles_80, X2_takeLadles_81, X2_takeLadles_82, X2_takeLadles_85, X2_takeLadles_86, X2_takeLadles_87, X2_takeLadles_90, X2_takeLadles_91, X2_takeLadles_92, X2_takeLadles_95, X2_takeLadles_96, X2_takeLadles_97, X2_takeLadles_100, X2_takeLadles_101, X2_takeLadles_104, gt0, gt1, Option.some.injEq, exists_eq_left', eq_self, okz0, okz1, ht, gq (show k < 8 by omega), gh (show k < 8 by omega), gs (show k < 8 by omega) (show 0 < 9 by decide), gs (show k < 8 by omega) (show 1 < 9 by decide), gs (show k < 8 by omega) (show 2 < 9 by decide), gs (show k < 8 by omega) (show 3 < 9 by decide), gs (show k < 8 by omega) (show 4 < 9 by decide), gs (show k < 8 by omega) (show 5 < 9 by decide), gs (show k < 8 by omega) (show 6 < 9 by decide), gs (show k < 8 by omega) (show 7 < 9 by decide), gs (show k < 8 by omega) (show 8 < 9 by decide), ps (show k < 8 by omega) (show 0 < 9 by decide), ps (show k < 8 by omega) (show 1 < 9 by decide), ps (show k < 8 by omega) (show 2 < 9 by decide), ps (show k < 8 by omega) (show 3 < 9 by decide), ps (show k < 8 by omega) (show 4 < 9 by decide), ps (show k < 8 by omega) (show 5 < 9 by decide), ps (show k < 8 by omega) (show 6 < 9 by decide), ps (show k < 8 by omega) (show 7 < 9 by decide), ps (show k < 8 by omega) (show 8 < 9 by decide), sp_wantedLadle hc h8 hk, ww, Kr_v, Kj_v, Kr_n, Kj_n, a, if_true, sp_isFree hc h8 hl, b, if_false]
      done
  · rw [if_neg a]; refine Iff.trans ?_ (sp_take2 (X := X) hc h8 hk (l3 := some (.int (wantF cnt G S k))) (l4 := none))
    simp only [X2_takeLadles_0, X2_takeLadles_1, X2_takeLadles_4, X2_takeLadles_5, X2_takeLadles_6, X2_takeLadles_7, X2_takeLadles_8, X2_takeLadles_9, X2_takeLadles_12, X2_takeLadles_13, X2_takeLadles_14, X2_takeLadles_17, X2_takeLadles_18, X2_takeLadles_21, X2_takeLadles_22, X2_takeLadles_23, X2_takeLadles_26, X2_takeLadles_29, X2_takeLadles_30, X2_takeLadles_33, X2_takeLadles_34, X2_takeLadles_35, X2_takeLadles_36, X2_takeLadles_37, X2_takeLadles_38, X2_takeLadles_42, X2_takeLadles_43, X2_takeLadles_46, X2_takeLadles_48, X2_takeLadles_49, X2_takeLadles_52, X2_takeLadles_53, X2_takeLadles_56, X2_takeLadles_57, X2_takeLadles_59, X2_takeLadles_62, X2_takeLadles_65, X2_takeLadles_66, X2_takeLadles_69, X2_takeLadles_72, X2_takeLadles_73, X2_takeLadles_76, X2_takeLadles_78, X2_takeLadles_79, X2_takeLadles_80, X2_takeLadles_81, X2_takeLadles_82, X2_takeLadles_85, X2_takeLadles_86, X2_takeLadles_87, X2_takeLadles_90, X2_takeLadles_91, X2_takeLadles_92, X2_takeLadles_95, X2_takeLadles_96, X2_takeLadles_97, X2_takeLadles_100, X2_takeLadles_101, X2_takeLadles_104, gt0, gt1, Option.some.injEq, exists_eq_left', eq_self, okz0, okz1, ht, gq (show k < 8 by omega), gh (show k < 8 by omega), gs (show k < 8 by omega) (show 0 < 9 by decide), gs (show k < 8 by omega) (show 1 < 9 by decide), gs (show k < 8 by omega) (show 2 < 9 by decide), gs (show k < 8 by omega) (show 3 < 9 by decide), gs (show k < 8 by omega) (show 4 < 9 by decide), gs (show k < 8 by omega) (show 5 < 9 by decide), gs (show k < 8 by omega) (show 6 < 9 by decide), gs (show k < 8 by omega) (show 7 < 9 by decide), gs (show k < 8 by omega) (show 8 < 9 by decide), ps (show k < 8 by omega) (show 0 < 9 by decide), ps (show k < 8 by omega) (show 1 < 9 by decide), ps (show k < 8 by omega) (show 2 < 9 by decide), ps (show k < 8 by omega) (show 3 < 9 by decide), ps (show k < 8 by omega) (show 4 < 9 by decide), ps (show k < 8 by omega) (show 5 < 9 by decide), ps (show k < 8 by omega) (show 6 < 9 by decide), ps (show k < 8 by omega) (show 7 < 9 by decide), ps (show k < 8 by omega) (show 8 < 9 by decide), sp_wantedLadle hc h8 hk, Kr_v, Kj_v, Kr_n, Kj_n, a, if_false]
    done
def gvF (cnt : Nat) (F : Nat → Int32) (S : Nat → Nat → Int32) : Nat → Nat → Int32 := match ff (askP cnt S 0) cnt 0 with
  | none => S
  | some j => if moreF cnt F S = 0 then S else up2 S j 3 2
theorem gv_stay {F : Nat → Int32} {S : Nat → Nat → Int32} (h : gvF cnt F S = S) : ∀ d, itr (fun _ s => gvF cnt F s) d S = S := by
  intro d
  induction d with
  | zero => rfl
  | succ d ih => rw [itr_s, ih, h]
theorem itr_c {α : Type} {g : α → α} : ∀ (d : Nat) (a : α), itr (fun _ s => g s) d (g a) = itr (fun _ s => g s) (d + 1) a := by
  intro d
  induction d with
  | zero => intro a; rfl
  | succ d ih => intro a; exact congrArg g (ih a)
theorem sp_giveLeave (hc : F 2 = nI cnt) (h8 : cnt ≤ 8) : Ev X 66 0 [some (.ref t), none, none] [] (blk w t F G S) n 0 0 Q ↔ Q (.inl none) (blk w t F G (itr (fun _ s => gvF cnt F s) 8 S)) n := by
  have h : ∀ d k, k + d = 8 → ∀ S l2, (Ev X 66 2 [some (.ref t), some (.int (nI k)), l2] [] (blk w t F G S) n 0 0 Q ↔ Q (.inl none) (blk w t F G (itr (fun _ s => gvF cnt F s) d S)) n) := by
    intro d
    induction d with
    | zero =>
      intro k hk S l2
      have hlt : ¬ nI k < 8 := fun q => nI_nlt (show 8 ≤ k by omega) (by omega) (show nI k < nI 8 from q)
      simp only [X2_giveLeave_0, X2_giveLeave_1, X2_giveLeave_2, X2_giveLeave_3, X2_giveLeave_5, X2_giveLeave_8, X2_giveLeave_9, X2_giveLeave_10, X2_giveLeave_13, X2_giveLeave_14, X2_giveLeave_15, X2_giveLeave_16, X2_giveLeave_19, X2_giveLeave_20, X2_giveLeave_23, X2_giveLeave_26, X2_giveLeave_27, X2_giveLeave_28, X2_giveLeave_31, X2_giveLeave_32, X2_giveLeave_33, X2_giveLeave_34, X2_giveLeave_37, X2_giveLeave_40, X2_giveLeave_43, Option.some.injEq, exists_eq_left', eq_self, okz0, okz1, ht, hlt, if_false]
      exact Iff.rfl
    | succ d ih =>
      intro k hk S l2
      have hlt : nI k < 8 := show nI k < nI 8 from nI_lt (by omega) (by omega)
      rw [X2_giveLeave_2]
      cases hj : ff (askP cnt S 0) cnt 0 with
      | none =>
        have hg : gvF cnt F S = S := by unfold gvF; rw [hj]
        rw [gv_stay hg]
        simp only [X2_giveLeave_0, X2_giveLeave_1, X2_giveLeave_3, X2_giveLeave_5, X2_giveLeave_8, X2_giveLeave_9, X2_giveLeave_10, X2_giveLeave_13, X2_giveLeave_14, X2_giveLeave_15, X2_giveLeave_16, X2_giveLeave_19, X2_giveLeave_20, X2_giveLeave_23, X2_giveLeave_26, X2_giveLeave_27, X2_giveLeave_28, X2_giveLeave_31, X2_giveLeave_32, X2_giveLeave_33, X2_giveLeave_34, X2_giveLeave_37, X2_giveLeave_40, X2_giveLeave_43, Option.some.injEq, exists_eq_left', eq_self, okz0, okz1, ht, hlt, if_true, sp_askerAt hc h8, hj, oI, Kr_v, Kj_v]
        done
      | some j =>
        have hjc : j < cnt := by have := ff_some hj; omega
        have hj8 : j < 8 := by omega
        have hm : nI j = -1 ↔ False := ⟨fun q => absurd (show nI j < 0 by rw [q]; decide) (fun q => nI_nlt (Nat.zero_le j) (by omega) (show nI j < nI 0 from q)), False.elim⟩
        by_cases b : moreF cnt F S = 0
        · have hg : gvF cnt F S = S := by unfold gvF; rw [hj]; exact if_pos b
          rw [gv_stay hg]
          simp only [X2_giveLeave_0, X2_giveLeave_1, X2_giveLeave_3, X2_giveLeave_5, X2_giveLeave_8, X2_giveLeave_9, X2_giveLeave_10, X2_giveLeave_13, X2_giveLeave_14, X2_giveLeave_15, X2_giveLeave_16, X2_giveLeave_19, X2_giveLeave_20, X2_giveLeave_23, X2_giveLeave_26, X2_giveLeave_27, X2_giveLeave_28, X2_giveLeave_31, X2_giveLeave_32, X2_giveLeave_33, X2_giveLeave_34, X2_giveLeave_37, X2_giveLeave_40, X2_giveLeave_43, Option.some.injEq, exists_eq_left', eq_self, okz0, okz1, ht, hlt, if_true, sp_askerAt hc h8, hj, oI, Kr_v, Kj_v, hm, if_false, sp_waiterLetsMore hc h8, b]
          done
        · have hg : gvF cnt F S = up2 S j 3 2 := by unfold gvF; rw [hj]; exact if_neg b
          rw [← itr_c, hg, ← ih (k + 1) (by omega) (up2 S j 3 2) (some (.int (nI j)))]
          simp only [X2_giveLeave_0, X2_giveLeave_1, X2_giveLeave_3, X2_giveLeave_5, X2_giveLeave_8, X2_giveLeave_9, X2_giveLeave_10, X2_giveLeave_13, X2_giveLeave_14, X2_giveLeave_15, X2_giveLeave_16, X2_giveLeave_19, X2_giveLeave_20, X2_giveLeave_23, X2_giveLeave_26, X2_giveLeave_27, X2_giveLeave_28, X2_giveLeave_31, X2_giveLeave_32, X2_giveLeave_33, X2_giveLeave_34, X2_giveLeave_37, X2_giveLeave_40, X2_giveLeave_43, Option.some.injEq, exists_eq_left', eq_self, okz0, okz1, ht, hlt, if_true, sp_askerAt hc h8, hj, oI, Kr_v, Kj_v, hm, if_false, sp_waiterLetsMore hc h8, b, gt0, gq hj8, ps hj8 (show 3 < 9 by decide), nI_1]
          done
  simp only [X2_giveLeave_0, X2_giveLeave_1]
  exact h 8 0 rfl S none
theorem F2_tkF {k : Nat} {s : Tb} : (tkF cnt k s).1 2 = s.1 2 := by
  unfold tkF tkB tkA
  (repeat' split) <;> simp [upd_i]
def tickF (cnt : Nat) (s : Tb) : Tb :=
  let a : Tb := itr (fun k s => (s.1, thG cnt s.2.1 s.2.2 k, thS s.2.2 k)) cnt (upd s.1 5 (s.1 5 + 1), s.2.1, s.2.2)
  let b : Tb := (a.1, a.2.1, itr (fun _ s => gvF cnt a.1 s) 8 a.2.2)
  let c : Tb := itr (tkF cnt) cnt b
  (c.1, c.2.1, itr (fun k s => wiS s k) cnt c.2.2)
abbrev bk (w : Wld) (t : Nat) (s : Tb) : Wld := blk w t s.1 s.2.1 s.2.2
theorem sp_tick {s : Tb} (hc : s.1 2 = nI cnt) (h8 : cnt ≤ 8) : Ev X 72 0 [some (.ref t), none] [] (bk w t s) n 0 0 Q ↔ Q (.inl none) (bk w t (tickF cnt s)) n := by
  obtain ⟨F, G, S⟩ := s
  have hc' : F 2 = nI cnt := hc
  have hL1 := loop_upI (I := fun _ (s : Tb) => s.1 2 = nI cnt) (P := fun k (s : Tb) => Ev X 72 12 [some (.ref t), some (.int (nI k))] [] (bk w t s) n 0 0 Q) (f := fun k (s : Tb) => (s.1, thG cnt s.2.1 s.2.2 k, thS s.2.2 k)) (n := cnt) (a0 := (upd F 5 (F 5 + 1), G, S)) (by rw [← hc']; rfl) (fun k s _ hs => hs) (fun k s hk hs => by
    have hlt : nI k < nI cnt := nI_lt hk (by omega)
    rw [X2_tick_12]
    simp only [X2_tick_0, X2_tick_1, X2_tick_2, X2_tick_5, X2_tick_6, X2_tick_7, X2_tick_10, X2_tick_11, X2_tick_13, X2_tick_14, X2_tick_17, X2_tick_20, X2_tick_21, X2_tick_22, X2_tick_25, X2_tick_28, X2_tick_31, X2_tick_32, X2_tick_35, X2_tick_36, X2_tick_37, X2_tick_38, X2_tick_39, X2_tick_42, X2_tick_45, X2_tick_46, X2_tick_47, X2_tick_50, X2_tick_53, X2_tick_56, X2_tick_57, X2_tick_58, X2_tick_59, X2_tick_60, X2_tick_63, X2_tick_66, X2_tick_67, X2_tick_70, X2_tick_71, X2_tick_72, X2_tick_75, X2_tick_78, X2_tick_81, bk, gt2, Option.some.injEq, exists_eq_left', eq_self, okz0, okz1, ht, hs, hlt, if_true, sp_thinkOrEat hs h8 hk, Kr_n, Kj_n, nI_1]
    done)
  unfold tickF
  generalize ha : itr (fun k (s : Tb) => (s.1, thG cnt s.2.1 s.2.2 k, thS s.2.2 k)) cnt (upd F 5 (F 5 + 1), G, S) = a at hL1 ⊢
  obtain ⟨hL1, hI1⟩ := hL1
  generalize hb : ((a.1, a.2.1, itr (fun _ s => gvF cnt a.1 s) 8 a.2.2) : Tb) = b
  have hb2 : b.1 2 = nI cnt := by rw [← hb]; exact hI1
  have hL2 := loop_upI (I := fun _ (s : Tb) => s.1 2 = nI cnt) (P := fun k (s : Tb) => Ev X 72 37 [some (.ref t), some (.int (nI k))] [] (bk w t s) n 0 0 Q) (f := tkF cnt) (n := cnt) (a0 := b) hb2 (fun k s _ hs => by rw [F2_tkF]; exact hs) (fun k s hk hs => by
    have hlt : nI k < nI cnt := nI_lt hk (by omega)
    rw [X2_tick_37]
    simp only [X2_tick_0, X2_tick_1, X2_tick_2, X2_tick_5, X2_tick_6, X2_tick_7, X2_tick_10, X2_tick_11, X2_tick_12, X2_tick_13, X2_tick_14, X2_tick_17, X2_tick_20, X2_tick_21, X2_tick_22, X2_tick_25, X2_tick_28, X2_tick_31, X2_tick_32, X2_tick_35, X2_tick_36, X2_tick_38, X2_tick_39, X2_tick_42, X2_tick_45, X2_tick_46, X2_tick_47, X2_tick_50, X2_tick_53, X2_tick_56, X2_tick_57, X2_tick_58, X2_tick_59, X2_tick_60, X2_tick_63, X2_tick_66, X2_tick_67, X2_tick_70, X2_tick_71, X2_tick_72, X2_tick_75, X2_tick_78, X2_tick_81, bk, gt2, Option.some.injEq, exists_eq_left', eq_self, okz0, okz1, ht, hs, hlt, if_true, sp_takeLadles hs h8 hk, Kr_n, Kj_n, nI_1]
    done)
  generalize hcc : itr (tkF cnt) cnt b = c at hL2 ⊢
  obtain ⟨hL2, hI2⟩ := hL2
  have hL3 := loop_up (P := fun k S => Ev X 72 58 [some (.ref t), some (.int (nI k))] [] (blk w t c.1 c.2.1 S) n 0 0 Q) (f := fun k s => wiS s k) (n := cnt) (a0 := c.2.2) (fun k s hk => by
    have hlt : nI k < nI cnt := nI_lt hk (by omega)
    rw [X2_tick_58]
    simp only [X2_tick_0, X2_tick_1, X2_tick_2, X2_tick_5, X2_tick_6, X2_tick_7, X2_tick_10, X2_tick_11, X2_tick_12, X2_tick_13, X2_tick_14, X2_tick_17, X2_tick_20, X2_tick_21, X2_tick_22, X2_tick_25, X2_tick_28, X2_tick_31, X2_tick_32, X2_tick_35, X2_tick_36, X2_tick_37, X2_tick_38, X2_tick_39, X2_tick_42, X2_tick_45, X2_tick_46, X2_tick_47, X2_tick_50, X2_tick_53, X2_tick_56, X2_tick_57, X2_tick_59, X2_tick_60, X2_tick_63, X2_tick_66, X2_tick_67, X2_tick_70, X2_tick_71, X2_tick_72, X2_tick_75, X2_tick_78, X2_tick_81, gt0, gt2, Option.some.injEq, exists_eq_left', eq_self, okz0, okz1, ht, hI2, hlt, if_true, gq (show k < 8 by omega), gh (show k < 8 by omega), gs (show k < 8 by omega) (show 0 < 9 by decide), gs (show k < 8 by omega) (show 1 < 9 by decide), gs (show k < 8 by omega) (show 2 < 9 by decide), gs (show k < 8 by omega) (show 3 < 9 by decide), gs (show k < 8 by omega) (show 4 < 9 by decide), gs (show k < 8 by omega) (show 5 < 9 by decide), gs (show k < 8 by omega) (show 6 < 9 by decide), gs (show k < 8 by omega) (show 7 < 9 by decide), gs (show k < 8 by omega) (show 8 < 9 by decide), hs_ (show k < 8 by omega), sp_waitIfHungry (show k < 8 by omega), Kr_n, Kj_n, nI_1]
    done)
  have z0 : nI 0 = 0 := rfl
  simp only [X2_tick_0, X2_tick_1, X2_tick_2, X2_tick_5, X2_tick_6, X2_tick_7, X2_tick_10, X2_tick_11, bk, gt5, Option.some.injEq, exists_eq_left', eq_self, okz0, okz1, ht, pt (show 2 ≤ 5 by decide) (show 5 < 8 by decide)]
  refine hL1.trans ?_
  simp only [X2_tick_12, X2_tick_13, X2_tick_14, X2_tick_17, X2_tick_31, X2_tick_32, X2_tick_35, X2_tick_36, bk, gt2, Option.some.injEq, exists_eq_left', eq_self, okz0, okz1, ht, hI1, Int32.lt_irrefl, if_false, sp_giveLeave hI1 h8, Kr_n, Kj_n]
  subst hb
  refine hL2.trans ?_
  simp only [X2_tick_37, X2_tick_38, X2_tick_39, X2_tick_42, X2_tick_56, X2_tick_57, bk, gt2, Option.some.injEq, exists_eq_left', eq_self, okz0, okz1, ht, hI2, Int32.lt_irrefl, if_false]
  refine hL3.trans ?_
  simp only [X2_tick_58, X2_tick_59, X2_tick_60, X2_tick_63, X2_tick_81, bk, gt2, Option.some.injEq, exists_eq_left', eq_self, okz0, okz1, ht, hI2, Int32.lt_irrefl, if_false]
  rw [hcc]
end TBL5
