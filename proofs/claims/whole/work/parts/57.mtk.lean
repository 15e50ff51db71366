/-! ===== the reference's ticks ===== -/
section MTK
variable {X : Cxt} {w : Wld} {n : Option Nat} {Q : (Option Value ⊕ String) → Wld → Option Nat → Prop} {m cnt c : Nat} {V N : Nat → Int32} {A : Nat → Nat → Int32}
def idN (s : Nat) (N : Nat → Int32) : Nat → Int32 := upd N (ix s 4) (N (ix s 4) - 1)
theorem mw_isDone {s : Nat} (hs : s < 8) : Ev X 87 0 [some (.ref m), some (.int (nI s))] [] (MW w m V N A) n 0 0 Q ↔ Q (.inl (some (.int (if N (ix s 4) - 1 = 0 then 1 else 0)))) (MW w m V (idN s N) A) n := by
  by_cases h : N (ix s 4) - 1 = 0
  · simp only [X6_isDone_0, X6_isDone_1, X6_isDone_2, X6_isDone_3, X6_isDone_4, X6_isDone_5, X6_isDone_6, X6_isDone_9, X6_isDone_10, X6_isDone_11, X6_isDone_14, X6_isDone_15, X6_isDone_16, X6_isDone_17, X6_isDone_20, X6_isDone_23, X6_isDone_24, X6_isDone_27, X6_isDone_28 okz0, X6_isDone_28 okz1, cm, mw_of4 hs, mw_sets4 hs, Kr_v, Kr_n, upd_same, h, if_true, idN]
  · simp only [X6_isDone_0, X6_isDone_1, X6_isDone_2, X6_isDone_3, X6_isDone_4, X6_isDone_5, X6_isDone_6, X6_isDone_9, X6_isDone_10, X6_isDone_11, X6_isDone_14, X6_isDone_15, X6_isDone_16, X6_isDone_17, X6_isDone_20, X6_isDone_23, X6_isDone_24, X6_isDone_27, X6_isDone_28 okz0, X6_isDone_28 okz1, cm, mw_of4 hs, mw_sets4 hs, Kr_v, Kr_n, upd_same, h, if_false, idN]
/-- a seat takes its first ladle -/
def grA (cnt s : Nat) (N : Nat → Int32) : Nat → Int32 :=
  if N (ix s 3) = 2 then (if N (lx (mlN cnt N s 1)) - 1 < 0 then upd (upd N (lx (mlN cnt N s 1)) (nI s + 1)) (ix s 3) 3 else N) else N
def w2N (cnt s : Nat) (N : Nat → Int32) : Nat := if N (lx s) - 1 = nI s then lfN cnt s else s
theorem w2N_lt {s : Nat} (hs : s < cnt) : w2N cnt s N < cnt := by
  unfold w2N
  split
  · exact lfN_lt hs
  · exact hs
/-- it takes the other one -/
def grB (cnt s : Nat) (N : Nat → Int32) : Nat → Int32 :=
  if N (ix s 3) = 3 then (if N (lx (w2N cnt s N)) - 1 < 0 then (if N 2 = 0 then N else
    upd (upd (upd (upd (upd (upd N (lx (w2N cnt s N)) (nI s + 1)) 2 (N 2 - 1)) 4 (N 4 + 1)) (ix s 3) 4) (ix s 4) (N (ix s 2))) (ix s 7) 0) else N) else N
def grN (cnt s : Nat) (N : Nat → Int32) : Nat → Int32 := grB cnt s (grA cnt s N)
theorem grA_0 {s i : Nat} (hi : i < 7) : grA cnt s N i = N i := by
  unfold grA
  by_cases a : N (ix s 3) = 2
  · rw [if_pos a]
    by_cases b : N (lx (mlN cnt N s 1)) - 1 < 0
    · rw [if_pos b, upd_ne (by unfold ix; omega), upd_ne (by unfold lx; omega)]
    · rw [if_neg b]
  · rw [if_neg a]
theorem grB_0 {s : Nat} : grB cnt s N 0 = N 0 := by
  unfold grB
  by_cases a : N (ix s 3) = 3
  · rw [if_pos a]
    by_cases b : N (lx (w2N cnt s N)) - 1 < 0
    · rw [if_pos b]
      by_cases d : N 2 = 0
      · rw [if_pos d]
      · rw [if_neg d, upd_ne (by unfold ix; omega), upd_ne (by unfold ix; omega), upd_ne (by unfold ix; omega), upd_ne (by decide), upd_ne (by decide), upd_ne (by unfold lx; omega)]
    · rw [if_neg b]
  · rw [if_neg a]
theorem grN_0 {s : Nat} : grN cnt s N 0 = N 0 := by unfold grN; rw [grB_0, grA_0 (by decide)]
theorem mw_grabs2 (hN : N 0 = nI cnt) (h8 : cnt ≤ 8) {s : Nat} (hs : s < cnt) : Ev X 92 46 [some (.ref m), some (.int (nI s))] [] (MW w m V N A) n 0 0 Q ↔ Q (.inl none) (MW w m V (grB cnt s N) A) n := by
  have s8 : s < 8 := by omega
  unfold grB
  by_cases a : N (ix s 3) = 3
  · have ew : waM cnt N s = nI (w2N cnt s N) := by
      unfold waM w2N
      rw [if_neg (by rw [a]; decide), if_pos a]
      split <;> rfl
    have l8 : w2N cnt s N < 8 := Nat.lt_of_lt_of_le (w2N_lt hs) h8
    rw [if_pos a]
    by_cases b : N (lx (w2N cnt s N)) - 1 < 0
    · rw [if_pos b]
      by_cases d : N 2 = 0
      · rw [if_pos d]
        simp only [X6_grabs_0, X6_grabs_1, X6_grabs_2, X6_grabs_5, X6_grabs_6, X6_grabs_9, X6_grabs_10, X6_grabs_11, X6_grabs_12, X6_grabs_13, X6_grabs_16, X6_grabs_19, X6_grabs_22, X6_grabs_23, X6_grabs_26, X6_grabs_28, X6_grabs_29, X6_grabs_30, X6_grabs_31, X6_grabs_34, X6_grabs_35, X6_grabs_36, X6_grabs_37, X6_grabs_38, X6_grabs_39, X6_grabs_40, X6_grabs_41, X6_grabs_42, X6_grabs_43, X6_grabs_46, X6_grabs_47, X6_grabs_48, X6_grabs_51, X6_grabs_52, X6_grabs_55, X6_grabs_56, X6_grabs_57, X6_grabs_58, X6_grabs_61, X6_grabs_64, X6_grabs_67, X6_grabs_68, X6_grabs_71, X6_grabs_72, X6_grabs_73, X6_grabs_76, X6_grabs_77, X6_grabs_78, X6_grabs_81, X6_grabs_83, X6_grabs_84, X6_grabs_85, X6_grabs_88, X6_grabs_89, X6_grabs_90, X6_grabs_91, X6_grabs_92, X6_grabs_93, X6_grabs_94, X6_grabs_97, X6_grabs_98, X6_grabs_99, X6_grabs_100, X6_grabs_101, X6_grabs_102, X6_grabs_103, X6_grabs_104, X6_grabs_107, X6_grabs_108, X6_grabs_109, X6_grabs_110, X6_grabs_111, X6_grabs_112, X6_grabs_113, X6_grabs_114, X6_grabs_115, X6_grabs_116, X6_grabs_117, X6_grabs_120, X6_grabs_121, X6_grabs_122, X6_grabs_123, X6_grabs_124, X6_grabs_125, X6_grabs_126, X6_grabs_129, X6_grabs_132, X6_grabs_133, X6_grabs_134, X6_grabs_136, X6_grabs_137, X6_grabs_140, cm, mw_how s8, Kr_v, a, if_true, mw_wanted hN h8 hs, ew, mw_by l8, b, gm0, gn2, Option.some.injEq, exists_eq_left', eq_self, okz0, okz1, ht, d]
      · rw [if_neg d]
        have e2 : upd N (lx (w2N cnt s N)) (nI s + 1) 2 = N 2 := upd_ne (by unfold lx; omega)
        have e4 : upd (upd N (lx (w2N cnt s N)) (nI s + 1)) 2 (N 2 - 1) 4 = N 4 := by rw [upd_ne (by decide), upd_ne (by unfold lx; omega)]
        have e5 : upd (upd (upd (upd N (lx (w2N cnt s N)) (nI s + 1)) 2 (N 2 - 1)) 4 (N 4 + 1)) (ix s 3) 4 (ix s 2) = N (ix s 2) := by rw [upd_ne (by unfold ix; omega), upd_ne (by unfold ix; omega), upd_ne (by unfold ix; omega), upd_ne (by unfold ix lx; omega)]
        simp only [X6_grabs_46, X6_grabs_47, X6_grabs_48 cm, mw_how s8, Kr_v, a, X6_grabs_51, X6_grabs_52, if_true, X6_grabs_55, X6_grabs_56, X6_grabs_57, X6_grabs_58 cm, mw_wanted hN h8 hs, ew, X6_grabs_61 cm, mw_by l8, X6_grabs_64, b, X6_grabs_67, X6_grabs_68, gm0, Option.some.injEq, exists_eq_left', eq_self, okz0, okz1, ht, X6_grabs_71, X6_grabs_72, gn2, X6_grabs_73, d, if_false, X6_grabs_77, X6_grabs_78, X6_grabs_81, X6_grabs_83, X6_grabs_84, X6_grabs_85 cm, X6_grabs_88, lx_i, X6_grabs_89, X6_grabs_90, X6_grabs_91, X6_grabs_92, snL l8, X6_grabs_93, X6_grabs_94, X6_grabs_97, X6_grabs_98, X6_grabs_99, e2, X6_grabs_100, X6_grabs_101, X6_grabs_102, sn2, X6_grabs_103, X6_grabs_104, X6_grabs_107, X6_grabs_108, X6_grabs_109, gn4, e4, X6_grabs_110, X6_grabs_111, X6_grabs_112, sn4, X6_grabs_113, X6_grabs_114, X6_grabs_115, X6_grabs_116, X6_grabs_117 cm, mw_sets3 s8, Kr_n, X6_grabs_120, X6_grabs_121, X6_grabs_122, X6_grabs_123, X6_grabs_124, X6_grabs_125, X6_grabs_126 cm, mw_of2 s8, e5, X6_grabs_129 cm, mw_sets4 s8, X6_grabs_132, X6_grabs_133, X6_grabs_134, X6_grabs_136, X6_grabs_137 cm, mw_sets7 s8, X6_grabs_140]
    · rw [if_neg b]
      simp only [X6_grabs_0, X6_grabs_1, X6_grabs_2, X6_grabs_5, X6_grabs_6, X6_grabs_9, X6_grabs_10, X6_grabs_11, X6_grabs_12, X6_grabs_13, X6_grabs_16, X6_grabs_19, X6_grabs_22, X6_grabs_23, X6_grabs_26, X6_grabs_28, X6_grabs_29, X6_grabs_30, X6_grabs_31, X6_grabs_34, X6_grabs_35, X6_grabs_36, X6_grabs_37, X6_grabs_38, X6_grabs_39, X6_grabs_40, X6_grabs_41, X6_grabs_42, X6_grabs_43, X6_grabs_46, X6_grabs_47, X6_grabs_48, X6_grabs_51, X6_grabs_52, X6_grabs_55, X6_grabs_56, X6_grabs_57, X6_grabs_58, X6_grabs_61, X6_grabs_64, X6_grabs_67, X6_grabs_68, X6_grabs_71, X6_grabs_72, X6_grabs_73, X6_grabs_76, X6_grabs_77, X6_grabs_78, X6_grabs_81, X6_grabs_83, X6_grabs_84, X6_grabs_85, X6_grabs_88, X6_grabs_89, X6_grabs_90, X6_grabs_91, X6_grabs_92, X6_grabs_93, X6_grabs_94, X6_grabs_97, X6_grabs_98, X6_grabs_99, X6_grabs_100, X6_grabs_101, X6_grabs_102, X6_grabs_103, X6_grabs_104, X6_grabs_107, X6_grabs_108, X6_grabs_109, X6_grabs_110, X6_grabs_111, X6_grabs_112, X6_grabs_113, X6_grabs_114, X6_grabs_115, X6_grabs_116, X6_grabs_117, X6_grabs_120, X6_grabs_121, X6_grabs_122, X6_grabs_123, X6_grabs_124, X6_grabs_125, X6_grabs_126, X6_grabs_129, X6_grabs_132, X6_grabs_133, X6_grabs_134, X6_grabs_136, X6_grabs_137, X6_grabs_140, cm, mw_how s8, Kr_v, a, if_true, mw_wanted hN h8 hs, ew, mw_by l8, b, if_false]
  · rw [if_neg a]
    simp only [X6_grabs_0, X6_grabs_1, X6_grabs_2, X6_grabs_5, X6_grabs_6, X6_grabs_9, X6_grabs_10, X6_grabs_11, X6_grabs_12, X6_grabs_13, X6_grabs_16, X6_grabs_19, X6_grabs_22, X6_grabs_23, X6_grabs_26, X6_grabs_28, X6_grabs_29, X6_grabs_30, X6_grabs_31, X6_grabs_34, X6_grabs_35, X6_grabs_36, X6_grabs_37, X6_grabs_38, X6_grabs_39, X6_grabs_40, X6_grabs_41, X6_grabs_42, X6_grabs_43, X6_grabs_46, X6_grabs_47, X6_grabs_48, X6_grabs_51, X6_grabs_52, X6_grabs_55, X6_grabs_56, X6_grabs_57, X6_grabs_58, X6_grabs_61, X6_grabs_64, X6_grabs_67, X6_grabs_68, X6_grabs_71, X6_grabs_72, X6_grabs_73, X6_grabs_76, X6_grabs_77, X6_grabs_78, X6_grabs_81, X6_grabs_83, X6_grabs_84, X6_grabs_85, X6_grabs_88, X6_grabs_89, X6_grabs_90, X6_grabs_91, X6_grabs_92, X6_grabs_93, X6_grabs_94, X6_grabs_97, X6_grabs_98, X6_grabs_99, X6_grabs_100, X6_grabs_101, X6_grabs_102, X6_grabs_103, X6_grabs_104, X6_grabs_107, X6_grabs_108, X6_grabs_109, X6_grabs_110, X6_grabs_111, X6_grabs_112, X6_grabs_113, X6_grabs_114, X6_grabs_115, X6_grabs_116, X6_grabs_117, X6_grabs_120, X6_grabs_121, X6_grabs_122, X6_grabs_123, X6_grabs_124, X6_grabs_125, X6_grabs_126, X6_grabs_129, X6_grabs_132, X6_grabs_133, X6_grabs_134, X6_grabs_136, X6_grabs_137, X6_grabs_140, cm, mw_how s8, Kr_v, a, if_false]
theorem mw_grabs (hN : N 0 = nI cnt) (h8 : cnt ≤ 8) {s : Nat} (hs : s < cnt) : Ev X 92 0 [some (.ref m), some (.int (nI s))] [] (MW w m V N A) n 0 0 Q ↔ Q (.inl none) (MW w m V (grN cnt s N) A) n := by
  have s8 : s < 8 := by omega
  have l8 : mlN cnt N s 1 < 8 := Nat.lt_of_lt_of_le (mlN_lt hs) h8
  unfold grN
  rw [← mw_grabs2 (X := X) (Q := Q) (N := grA cnt s N) ((grA_0 (by decide)).trans hN) h8 hs]
  unfold grA
  by_cases a : N (ix s 3) = 2
  · rw [if_pos a]
    by_cases b : N (lx (mlN cnt N s 1)) - 1 < 0
    · rw [if_pos b]
      simp only [X6_grabs_0, X6_grabs_1, X6_grabs_2 cm, mw_how s8, Kr_v, X6_grabs_5, X6_grabs_6, a, if_true, X6_grabs_9, X6_grabs_10, X6_grabs_11, X6_grabs_12, X6_grabs_13 cm, mw_ladleOf hN h8 hs, X6_grabs_16 cm, mw_by l8, X6_grabs_19, b, X6_grabs_22, X6_grabs_23, gm0, Option.some.injEq, exists_eq_left', eq_self, okz0, okz1, ht, X6_grabs_26, X6_grabs_28, X6_grabs_29, X6_grabs_30, X6_grabs_31 cm, X6_grabs_34, lx_i, X6_grabs_35, X6_grabs_36, X6_grabs_37, X6_grabs_38, snL l8, X6_grabs_39, X6_grabs_40, X6_grabs_41, X6_grabs_42, X6_grabs_43 cm, mw_sets3 s8, Kr_n]
    · rw [if_neg b]
      simp only [X6_grabs_0, X6_grabs_1, X6_grabs_2 cm, mw_how s8, Kr_v, X6_grabs_5, X6_grabs_6, a, if_true, X6_grabs_9, X6_grabs_10, X6_grabs_11, X6_grabs_12, X6_grabs_13 cm, mw_ladleOf hN h8 hs, X6_grabs_16 cm, mw_by l8, X6_grabs_19, b, if_false]
  · rw [if_neg a]
    simp only [X6_grabs_0, X6_grabs_1, X6_grabs_2 cm, mw_how s8, Kr_v, X6_grabs_5, X6_grabs_6, a, if_false]
abbrev Nm := (Nat → Int32) × Int32
/-- first in a tick: thinking and eating -/
def q1N (cnt s : Nat) (z : Nm) : Nm :=
  if z.1 (ix s 3) = 0 then (if z.1 (ix s 4) - 1 = 0 then (upd (upd (upd (idN s z.1) (ix s 3) 1) 6 (z.1 6 + 1)) (qx (z.1 6).toNatClampNeg) (nI s), z.2) else (idN s z.1, z.2))
  else if z.1 (ix s 3) = 4 then (if z.1 (ix s 4) - 1 = 0 then (upd (upd (upd (upd (upd (upd (idN s z.1) (lx s) 0) (lx (lfN cnt s)) 0) (ix s 5) (z.1 (ix s 5) + 1)) (ix s 9) 0) (ix s 3) 0) (ix s 4) (z.1 (ix s 1)), z.2 + 1) else (idN s z.1, z.2))
  else z
/-- last in a tick: waiting -/
def q4N (s : Nat) (N : Nat → Int32) : Nat → Int32 :=
  if inF (N (ix s 3)) 1 3 = 0 then N else upd (upd (upd N (ix s 6) (N (ix s 6) + 1)) (ix s 7) (N (ix s 7) + 1)) (ix s 8) (imx (N (ix s 8)) (N (ix s 7) + 1))
/-- leave is given -/
def q2N (cnt : Nat) : Nat → (Nat → Int32) → Nat → Int32
  | 0, N => N
  | a + 1, N => if letM cnt N = 0 then N else q2N cnt a (upd (upd (dqN (a + 1) (N 7) N) (ix (N 7).toNatClampNeg 9) 1) (ix (N 7).toNatClampNeg 3) 2)
def ph1 (cnt : Nat) (N : Nat → Int32) : Nm := itr (q1N cnt) cnt (upd N 1 (N 1 + 1), 0)
def tgN (cnt : Nat) (N : Nat → Int32) : Nm := (itr q4N cnt (itr (grN cnt) cnt (q2N cnt ((ph1 cnt N).1 6).toNatClampNeg (ph1 cnt N).1)), (ph1 cnt N).2)
/-- the queue holds seats -/
def QV (cnt a : Nat) (N : Nat → Int32) : Prop := N 6 = nI a ∧ a ≤ 8 ∧ ∀ i, i < a → ∃ s, s < cnt ∧ N (qx i) = nI s
theorem q1_idx {s i : Nat} {z : Nm} (hi : i < 6) : (q1N cnt s z).1 i = z.1 i := by
  have hid : idN s z.1 i = z.1 i := upd_ne (by unfold ix; omega)
  unfold q1N
  by_cases a : z.1 (ix s 3) = 0
  · rw [if_pos a]
    by_cases b : z.1 (ix s 4) - 1 = 0
    · rw [if_pos b]
      dsimp only
      rw [upd_ne (by unfold qx; omega), upd_ne (by omega), upd_ne (by unfold ix; omega), hid]
    · rw [if_neg b]; exact hid
  · rw [if_neg a]
    by_cases a4 : z.1 (ix s 3) = 4
    · rw [if_pos a4]
      by_cases b : z.1 (ix s 4) - 1 = 0
      · rw [if_pos b]
        dsimp only
        rw [upd_ne (by unfold ix; omega), upd_ne (by unfold ix; omega), upd_ne (by unfold ix; omega), upd_ne (by unfold ix; omega), upd_ne (by unfold lx; omega), upd_ne (by unfold lx; omega), hid]
      · rw [if_neg b]; exact hid
    · rw [if_neg a4]
theorem q1_6 {s : Nat} {z : Nm} {a : Nat} (h : z.1 6 = nI a) : ∃ b, b ≤ a + 1 ∧ (q1N cnt s z).1 6 = nI b := by
  have hid : idN s z.1 6 = nI a := (upd_ne (by unfold ix; omega)).trans h
  unfold q1N
  by_cases e : z.1 (ix s 3) = 0
  · rw [if_pos e]
    by_cases b : z.1 (ix s 4) - 1 = 0
    · rw [if_pos b]
      refine ⟨a + 1, Nat.le_refl _, ?_⟩
      dsimp only
      rw [upd_ne (by unfold qx; omega), upd_same, h, nI_1]
    · rw [if_neg b]; exact ⟨a, by omega, hid⟩
  · rw [if_neg e]
    by_cases a4 : z.1 (ix s 3) = 4
    · rw [if_pos a4]
      by_cases b : z.1 (ix s 4) - 1 = 0
      · rw [if_pos b]
        refine ⟨a, by omega, ?_⟩
        dsimp only
        rw [upd_ne (by unfold ix; omega), upd_ne (by unfold ix; omega), upd_ne (by unfold ix; omega), upd_ne (by unfold ix; omega), upd_ne (by unfold lx; omega), upd_ne (by unfold lx; omega), hid]
      · rw [if_neg b]; exact ⟨a, by omega, hid⟩
    · rw [if_neg a4]; exact ⟨a, by omega, h⟩
theorem ph1_idx {i : Nat} (hi : i < 6) (h1 : i ≠ 1) : (ph1 cnt N).1 i = N i := by
  unfold ph1
  have h := itr_inv (p := fun (z : Nm) => z.1 i) (f := q1N cnt) (fun k a => q1_idx hi) cnt (upd N 1 (N 1 + 1), 0)
  exact h.trans (upd_ne h1)
theorem dq_head {a : Nat} {N : Nat → Int32} : dqN (a + 1) (N 7) N = dpN (a + 1) 0 N := by
  unfold dqN
  have : ff (fun k => decide (N (qx k) = N 7)) (a + 1) 0 = some 0 := by
    unfold ff
    rw [if_pos (show decide (N (qx 0) = N 7) = true from decide_eq_true rfl)]
  rw [this]
theorem QV_dq {a s : Nat} {N : Nat → Int32} (h : QV cnt (a + 1) N) (hs : s < 8) : QV cnt a (upd (upd (dqN (a + 1) (N 7) N) (ix s 9) 1) (ix s 3) 2) := by
  obtain ⟨h1, h2, h3⟩ := h
  rw [dq_head]
  refine ⟨?_, by omega, fun i hi => ?_⟩
  · rw [upd_ne (by unfold ix; omega), upd_ne (by unfold ix; omega)]
    exact if_pos rfl
  · obtain ⟨s2, hs2, e⟩ := h3 (i + 1) (by omega)
    refine ⟨s2, hs2, ?_⟩
    rw [upd_ne (by unfold ix qx; omega), upd_ne (by unfold ix qx; omega)]
    unfold dpN
    rw [if_neg (by unfold qx; omega), if_pos (by unfold qx; omega)]
    exact e
theorem q2_idx {i : Nat} (hi : i < 6) : ∀ (a : Nat) (N : Nat → Int32), q2N cnt a N i = N i := by
  intro a
  induction a with
  | zero => intro N; rfl
  | succ a ih =>
    intro N
    unfold q2N
    by_cases b : letM cnt N = 0
    · rw [if_pos b]
    · rw [if_neg b, ih, upd_ne (by unfold ix; omega), upd_ne (by unfold ix; omega), dqN_o hi]
theorem mw_tickGoes (hN : N 0 = nI cnt) (h8 : cnt ≤ 8) {a0 : Nat} (h60 : N 6 = nI a0) (ha0 : a0 ≤ 8) {a : Nat} (hq : QV cnt a (ph1 cnt N).1) : Ev X 93 0 [some (.ref m), none, none] [] (MW w m V N A) n 0 0 Q ↔ Q (.inl (some (.int (tgN cnt N).2))) (MW w m V (tgN cnt N).1 A) n := by
  have hL1 := loop_upI (α := Nm) (P := fun k z => Ev X 93 14 [some (.ref m), some (.int z.2), some (.int (nI k))] [] (MW w m V z.1 A) n 0 0 Q) (f := q1N cnt) (n := cnt) (a0 := (upd N 1 (N 1 + 1), 0)) (I := fun k z => z.1 0 = nI cnt ∧ ∃ a, a ≤ 8 + k ∧ z.1 6 = nI a) ⟨hN, a0, by omega, h60⟩ (fun k z hk hz => by
    refine ⟨(q1_idx (by decide)).trans hz.1, ?_⟩
    obtain ⟨a, h1, h2⟩ := hz.2
    obtain ⟨b, h3, h4⟩ := q1_6 (cnt := cnt) (s := k) h2
    exact ⟨b, by omega, h4⟩) (fun k z hk hz => by
    obtain ⟨hz0, a, ha, h6⟩ := hz
    have hlt : nI k < nI cnt := nI_lt hk (by omega)
    have k8 : k < 8 := by omega
    rw [X6_tickGoes_14]
    unfold q1N
    by_cases e0 : z.1 (ix k 3) = 0
    · rw [if_pos e0]
      by_cases b : z.1 (ix k 4) - 1 = 0
      · rw [if_pos b]
        have e1 : (1 : Int32) = 0 ↔ False := by decide
        have r6 : upd (idN k z.1) (ix k 3) 1 6 = nI a := by rw [upd_ne (by unfold ix; omega)]; exact (upd_ne (by unfold ix; omega)).trans h6
        have sq : ∀ {N : Nat → Int32} {v : Int32}, sa (MW w m V N A) (m + 1) 0 (nI (qx a)) (.int v) = some (MW w m V (upd N (qx a) v) A) := sn (by unfold qx; omega)
        have ec : (nI a).toNatClampNeg = a := nI_clamp (by omega)
        simp only [X6_tickGoes_15, X6_tickGoes_16, X6_tickGoes_19, X6_tickGoes_20, X6_tickGoes_21, gm0, gn0, Option.some.injEq, exists_eq_left', eq_self, okz0, okz1, ht, hz0, hlt, if_true, X6_tickGoes_24, X6_tickGoes_25, X6_tickGoes_26 cm, mw_how k8, Kr_v, X6_tickGoes_29, e0, X6_tickGoes_32, X6_tickGoes_33, X6_tickGoes_34 cm, mw_isDone k8, b, X6_tickGoes_37, e1, if_false, X6_tickGoes_40, X6_tickGoes_41, X6_tickGoes_42, X6_tickGoes_43, X6_tickGoes_44 cm, mw_sets3 k8, Kr_n, X6_tickGoes_47, X6_tickGoes_48, X6_tickGoes_51, X6_tickGoes_53, X6_tickGoes_54, X6_tickGoes_57, X6_tickGoes_59, X6_tickGoes_60, gn6, r6, X6_tickGoes_61, X6_tickGoes_62, X6_tickGoes_63, X6_tickGoes_64, sn6, X6_tickGoes_65, qx_i, X6_tickGoes_66, X6_tickGoes_67, sq, X6_tickGoes_68, X6_tickGoes_156, X6_tickGoes_159, nI_1, h6, ec]
      · rw [if_neg b]
        have e3 : idN k z.1 (ix k 3) = 0 := (upd_ne (by unfold ix; omega)).trans e0
        have e04 : (0 : Int32) = 4 ↔ False := by decide
        simp only [X6_tickGoes_15, X6_tickGoes_16, X6_tickGoes_19, X6_tickGoes_20, X6_tickGoes_21, gm0, gn0, Option.some.injEq, exists_eq_left', eq_self, okz0, okz1, ht, hz0, hlt, if_true, X6_tickGoes_24, X6_tickGoes_25, X6_tickGoes_26 cm, mw_how k8, Kr_v, X6_tickGoes_29, e0, X6_tickGoes_32, X6_tickGoes_33, X6_tickGoes_34 cm, mw_isDone k8, b, X6_tickGoes_37, if_false, X6_tickGoes_71, X6_tickGoes_72, X6_tickGoes_73 cm, e3, X6_tickGoes_76, X6_tickGoes_77, e04, X6_tickGoes_156, X6_tickGoes_159, nI_1]
    · rw [if_neg e0]
      by_cases e4 : z.1 (ix k 3) = 4
      · rw [if_pos e4]
        have e40 : (4 : Int32) = 0 ↔ False := by decide
        by_cases b : z.1 (ix k 4) - 1 = 0
        · rw [if_pos b]
          have e1 : (1 : Int32) = 0 ↔ False := by decide
          have l8 : lfN cnt k < 8 := Nat.lt_of_lt_of_le (lfN_lt hk) h8
          have r0 : upd (idN k z.1) (lx k) 0 0 = nI cnt := by rw [upd_ne (by unfold lx; omega)]; exact (upd_ne (by unfold ix; omega)).trans hz0
          have r5 : upd (upd (idN k z.1) (lx k) 0) (lx (lfN cnt k)) 0 (ix k 5) = z.1 (ix k 5) := by rw [upd_ne (by unfold ix lx; omega), upd_ne (by unfold ix lx; omega)]; exact upd_ne (by unfold ix; omega)
          have r1 : upd (upd (upd (upd (upd (idN k z.1) (lx k) 0) (lx (lfN cnt k)) 0) (ix k 5) (z.1 (ix k 5) + 1)) (ix k 9) 0) (ix k 3) 0 (ix k 1) = z.1 (ix k 1) := by rw [upd_ne (by unfold ix; omega), upd_ne (by unfold ix; omega), upd_ne (by unfold ix; omega), upd_ne (by unfold ix lx; omega), upd_ne (by unfold ix lx; omega)]; exact upd_ne (by unfold ix; omega)
          simp only [X6_tickGoes_15, X6_tickGoes_16, X6_tickGoes_19, X6_tickGoes_20, X6_tickGoes_21, gm0, gn0, Option.some.injEq, exists_eq_left', eq_self, okz0, okz1, ht, hz0, hlt, if_true, X6_tickGoes_24, X6_tickGoes_25, X6_tickGoes_26 cm, mw_how k8, Kr_v, X6_tickGoes_29, e4, e40, if_false, X6_tickGoes_71, X6_tickGoes_72, X6_tickGoes_73 cm, X6_tickGoes_76, X6_tickGoes_77, X6_tickGoes_80, X6_tickGoes_81, X6_tickGoes_82 cm, mw_isDone k8, b, X6_tickGoes_85, e1, X6_tickGoes_88, X6_tickGoes_89, X6_tickGoes_92, X6_tickGoes_94, X6_tickGoes_95, lx_i, X6_tickGoes_96, X6_tickGoes_97, snL k8, X6_tickGoes_98, X6_tickGoes_99, X6_tickGoes_102, X6_tickGoes_104, X6_tickGoes_105, X6_tickGoes_106 cm, mw_left r0 h8 hk, X6_tickGoes_109, X6_tickGoes_110, X6_tickGoes_111, snL l8, X6_tickGoes_112, X6_tickGoes_113, X6_tickGoes_114, X6_tickGoes_115, X6_tickGoes_116, X6_tickGoes_117, X6_tickGoes_118 cm, mw_of5 k8, r5, X6_tickGoes_121, X6_tickGoes_122, X6_tickGoes_123 cm, mw_sets5 k8, Kr_n, X6_tickGoes_126, X6_tickGoes_127, X6_tickGoes_128, X6_tickGoes_130, X6_tickGoes_131 cm, mw_sets9 k8, X6_tickGoes_134, X6_tickGoes_135, X6_tickGoes_136, X6_tickGoes_137, X6_tickGoes_138 cm, mw_sets3 k8, X6_tickGoes_141, X6_tickGoes_142, X6_tickGoes_143, X6_tickGoes_144, X6_tickGoes_145, X6_tickGoes_146, X6_tickGoes_147 cm, mw_of1 k8, r1, X6_tickGoes_150 cm, mw_sets4 k8, X6_tickGoes_153, X6_tickGoes_156, X6_tickGoes_159, nI_1]
        · rw [if_neg b]
          simp only [X6_tickGoes_15, X6_tickGoes_16, X6_tickGoes_19, X6_tickGoes_20, X6_tickGoes_21, gm0, gn0, Option.some.injEq, exists_eq_left', eq_self, okz0, okz1, ht, hz0, hlt, if_true, X6_tickGoes_24, X6_tickGoes_25, X6_tickGoes_26 cm, mw_how k8, Kr_v, X6_tickGoes_29, e4, e40, if_false, X6_tickGoes_71, X6_tickGoes_72, X6_tickGoes_73 cm, X6_tickGoes_76, X6_tickGoes_77, X6_tickGoes_80, X6_tickGoes_81, X6_tickGoes_82 cm, mw_isDone k8, b, X6_tickGoes_85, X6_tickGoes_156, X6_tickGoes_159, nI_1]
      · rw [if_neg e4]
        simp only [X6_tickGoes_15, X6_tickGoes_16, X6_tickGoes_19, X6_tickGoes_20, X6_tickGoes_21, gm0, gn0, Option.some.injEq, exists_eq_left', eq_self, okz0, okz1, ht, hz0, hlt, if_true, X6_tickGoes_24, X6_tickGoes_25, X6_tickGoes_26 cm, mw_how k8, Kr_v, X6_tickGoes_29, e0, if_false, X6_tickGoes_71, X6_tickGoes_72, X6_tickGoes_73 cm, X6_tickGoes_76, X6_tickGoes_77, e4, X6_tickGoes_156, X6_tickGoes_159, nI_1])
  obtain ⟨hL1, -⟩ := hL1
  have e1 : itr (q1N cnt) cnt (upd N 1 (N 1 + 1), 0) = ph1 cnt N := rfl
  rw [e1] at hL1
  have hz0 : (ph1 cnt N).1 0 = nI cnt := (ph1_idx (by decide) (by decide)).trans hN
  unfold tgN
  generalize hz : ph1 cnt N = z at hL1 hq hz0 ⊢
  obtain ⟨N1, ml⟩ := z
  dsimp only at hL1 hq hz0 ⊢
  -- leave is given
  have hL2 : ∀ (a : Nat) (N : Nat → Int32) (l2 : Int32), QV cnt a N → N 0 = nI cnt → (Ev X 93 162 [some (.ref m), some (.int ml), some (.int l2)] [] (MW w m V N A) n 0 0 Q ↔ Ev X 93 212 [some (.ref m), some (.int ml), some (.int 0)] [] (MW w m V (q2N cnt a N) A) n 0 0 Q) := by
    intro a
    induction a with
    | zero =>
      intro N l2 hv h0
      have z0 : nI 0 = 0 := rfl
      have hl : (0 : Int32) < 0 ↔ False := by decide
      rw [X6_tickGoes_162]
      simp only [X6_tickGoes_163, X6_tickGoes_166, X6_tickGoes_168, X6_tickGoes_169, gm0, gn6, hv.1, z0, Option.some.injEq, exists_eq_left', eq_self, okz0, okz1, ht, hl, if_false, X6_tickGoes_210, X6_tickGoes_211]
      exact Iff.rfl
    | succ a ih =>
      intro N l2 hv h0
      obtain ⟨s, hs, e7⟩ := hv.2.2 0 (by omega)
      have e7 : N 7 = nI s := e7
      have s8 : s < 8 := by omega
      have ha8 := hv.2.1
      have hl : 0 < nI (a + 1) := show nI 0 < nI (a + 1) from nI_lt (by omega) (by omega)
      have ec : (nI s).toNatClampNeg = s := nI_clamp (by omega)
      unfold q2N
      rw [X6_tickGoes_162]
      by_cases b : letM cnt N = 0
      · rw [if_pos b]
        simp only [X6_tickGoes_163, X6_tickGoes_166, X6_tickGoes_168, X6_tickGoes_169, gm0, gn6, hv.1, Option.some.injEq, exists_eq_left', eq_self, okz0, okz1, ht, hl, if_true, X6_tickGoes_172, X6_tickGoes_173 cm, mw_lets h0 h8, Kr_v, X6_tickGoes_176, b, X6_tickGoes_210, X6_tickGoes_211]
      · rw [if_neg b, e7, ec]
        have hv2 := QV_dq hv s8
        rw [e7] at hv2
        have h02 : upd (upd (dqN (a + 1) (nI s) N) (ix s 9) 1) (ix s 3) 2 0 = nI cnt := by rw [upd_ne (by unfold ix; omega), upd_ne (by unfold ix; omega), dqN_o (by decide)]; exact h0
        rw [← ih _ (nI s) hv2 h02]
        simp only [X6_tickGoes_163, X6_tickGoes_166, X6_tickGoes_168, X6_tickGoes_169, gm0, gn6, hv.1, Option.some.injEq, exists_eq_left', eq_self, okz0, okz1, ht, hl, if_true, X6_tickGoes_172, X6_tickGoes_173 cm, mw_lets h0 h8, Kr_v, X6_tickGoes_176, b, if_false, X6_tickGoes_179, X6_tickGoes_180, X6_tickGoes_183, X6_tickGoes_185, gn7, e7, X6_tickGoes_186, X6_tickGoes_187, X6_tickGoes_188, X6_tickGoes_189 cm, mw_drops hv.1 ha8, Kr_n, X6_tickGoes_192, X6_tickGoes_193, X6_tickGoes_194, X6_tickGoes_196, X6_tickGoes_197 cm, mw_sets9 s8, X6_tickGoes_200, X6_tickGoes_201, X6_tickGoes_202, X6_tickGoes_203, X6_tickGoes_204 cm, mw_sets3 s8, X6_tickGoes_207]
  have ea : (N1 6).toNatClampNeg = a := by rw [hq.1]; exact nI_clamp (by have := hq.2.1; omega)
  rw [ea]
  have hq0 : q2N cnt a N1 0 = nI cnt := (q2_idx (by decide) a N1).trans hz0
  generalize hn2 : q2N cnt a N1 = N2 at hq0
  have hL3 := loop_upI (P := fun k (N : Nat → Int32) => Ev X 93 212 [some (.ref m), some (.int ml), some (.int (nI k))] [] (MW w m V N A) n 0 0 Q) (f := grN cnt) (n := cnt) (a0 := N2) (I := fun _ N => N 0 = nI cnt) hq0 (fun k N _ h => grN_0.trans h) (fun k N hk h0 => by
    have hlt : nI k < nI cnt := nI_lt hk (by omega)
    rw [X6_tickGoes_212]
    simp only [X6_tickGoes_213, X6_tickGoes_214, X6_tickGoes_217, X6_tickGoes_218, X6_tickGoes_219, gm0, gn0, h0, hlt, if_true, Option.some.injEq, exists_eq_left', eq_self, okz0, okz1, ht, X6_tickGoes_222, X6_tickGoes_223, X6_tickGoes_224 cm, mw_grabs h0 h8 hk, Kr_n, X6_tickGoes_227, X6_tickGoes_230, nI_1])
  obtain ⟨hL3, hI3⟩ := hL3
  generalize hn3 : itr (grN cnt) cnt N2 = N3 at hL3 hI3 ⊢
  have q40 : ∀ k (N : Nat → Int32), q4N k N 0 = N 0 := fun k N => by
    unfold q4N
    by_cases b : inF (N (ix k 3)) 1 3 = 0
    · rw [if_pos b]
    · rw [if_neg b, upd_ne (by unfold ix; omega), upd_ne (by unfold ix; omega), upd_ne (by unfold ix; omega)]
  have hL4 := loop_upI (P := fun k (N : Nat → Int32) => Ev X 93 235 [some (.ref m), some (.int ml), some (.int (nI k))] [] (MW w m V N A) n 0 0 Q) (f := q4N) (n := cnt) (a0 := N3) (I := fun _ N => N 0 = nI cnt) hI3 (fun k N _ h => (q40 k N).trans h) (fun k N hk h0 => by
    have hlt : nI k < nI cnt := nI_lt hk (by omega)
    have k8 : k < 8 := by omega
    rw [X6_tickGoes_235]
    unfold q4N
    by_cases b : inF (N (ix k 3)) 1 3 = 0
    · rw [if_pos b]
      simp only [X6_tickGoes_236, X6_tickGoes_237, X6_tickGoes_240, X6_tickGoes_241, X6_tickGoes_242, gm0, gn0, h0, hlt, if_true, Option.some.injEq, exists_eq_left', eq_self, okz0, okz1, ht, X6_tickGoes_245, X6_tickGoes_246, X6_tickGoes_247 cm, mw_how k8, Kr_v, X6_tickGoes_250, X6_tickGoes_251, X6_tickGoes_252, mw_in, b, X6_tickGoes_255, X6_tickGoes_258, X6_tickGoes_317, X6_tickGoes_320, nI_1]
    · rw [if_neg b]
      have r7 : upd N (ix k 6) (N (ix k 6) + 1) (ix k 7) = N (ix k 7) := upd_ne (by unfold ix; omega)
      have r8 : upd (upd N (ix k 6) (N (ix k 6) + 1)) (ix k 7) (N (ix k 7) + 1) (ix k 8) = N (ix k 8) := by rw [upd_ne (by unfold ix; omega), upd_ne (by unfold ix; omega)]
      simp only [X6_tickGoes_236, X6_tickGoes_237, X6_tickGoes_240, X6_tickGoes_241, X6_tickGoes_242, gm0, gn0, h0, hlt, if_true, Option.some.injEq, exists_eq_left', eq_self, okz0, okz1, ht, X6_tickGoes_245, X6_tickGoes_246, X6_tickGoes_247 cm, mw_how k8, Kr_v, X6_tickGoes_250, X6_tickGoes_251, X6_tickGoes_252, mw_in, b, X6_tickGoes_255, if_false, X6_tickGoes_261, X6_tickGoes_262, X6_tickGoes_263, X6_tickGoes_265, X6_tickGoes_266, X6_tickGoes_267, X6_tickGoes_269 cm, mw_of6 k8, X6_tickGoes_272, X6_tickGoes_273, X6_tickGoes_274 cm, mw_sets6 k8, Kr_n, X6_tickGoes_277, X6_tickGoes_278, X6_tickGoes_279, X6_tickGoes_281, X6_tickGoes_282, X6_tickGoes_283, X6_tickGoes_285 cm, mw_of7 k8, r7, X6_tickGoes_288, X6_tickGoes_289, X6_tickGoes_290 cm, mw_sets7 k8, X6_tickGoes_293, X6_tickGoes_294, X6_tickGoes_295, X6_tickGoes_297, X6_tickGoes_298, X6_tickGoes_299, X6_tickGoes_301 cm, mw_of8 k8, r8, X6_tickGoes_304, X6_tickGoes_305, X6_tickGoes_306, X6_tickGoes_308 cm, upd_same, X6_tickGoes_311, X6_tickGoes_314 cm, mw_sets8 k8, X6_tickGoes_317, X6_tickGoes_320, nI_1])
  obtain ⟨hL4, hI4⟩ := hL4
  have g1 : upd N 1 (N 1 + 1) 1 = N 1 + 1 := upd_same
  simp only [X6_tickGoes_0, X6_tickGoes_1, X6_tickGoes_4, X6_tickGoes_5, X6_tickGoes_6, X6_tickGoes_7, X6_tickGoes_8, X6_tickGoes_9, X6_tickGoes_10, X6_tickGoes_11, X6_tickGoes_12, X6_tickGoes_13, gm0, gn1, sn1, Option.some.injEq, exists_eq_left', eq_self, okz0, okz1, ht]
  refine hL1.trans ?_
  rw [X6_tickGoes_14]
  simp only [X6_tickGoes_15, X6_tickGoes_16, X6_tickGoes_19, X6_tickGoes_20, X6_tickGoes_21, gm0, gn0, hz0, Int32.lt_irrefl, if_false, Option.some.injEq, exists_eq_left', eq_self, okz0, okz1, ht]
  refine (hL2 a N1 (nI cnt) hq hz0).trans ?_
  rw [hn2]
  refine hL3.trans ?_
  rw [X6_tickGoes_212]
  simp only [X6_tickGoes_213, X6_tickGoes_214, X6_tickGoes_217, X6_tickGoes_218, X6_tickGoes_219, gm0, gn0, hI3, Int32.lt_irrefl, if_false, Option.some.injEq, exists_eq_left', eq_self, okz0, okz1, ht, X6_tickGoes_233, X6_tickGoes_234]
  refine hL4.trans ?_
  rw [X6_tickGoes_235]
  simp only [X6_tickGoes_236, X6_tickGoes_237, X6_tickGoes_240, X6_tickGoes_241, X6_tickGoes_242, gm0, gn0, hI4, Int32.lt_irrefl, if_false, Option.some.injEq, exists_eq_left', eq_self, okz0, okz1, ht, X6_tickGoes_323, X6_tickGoes_324]
end MTK
