/-! ===== the reference's changes ===== -/
section MCH
variable {X : Cxt} {w : Wld} {n : Option Nat} {Q : (Option Value ⊕ String) → Wld → Option Nat → Prop} {m cnt c : Nat} {V N : Nat → Int32} {A : Nat → Nat → Int32}
def jnN (cnt : Nat) (a b d : Int32) (N : Nat → Int32) : Nat → Int32 := upd (upd (upd (upd (itr (fun k N => upd N (ix cnt k) 0) 10 (upd N 0 (nI (cnt + 1)))) (ix cnt 0) a) (ix cnt 1) b) (ix cnt 2) d) (ix cnt 4) b
def joinM (cnt : Nat) (a b d : Int32) (N : Nat → Int32) : (Int32 × Int32) ⊕ (Int32 × (Nat → Int32)) :=
  if inF a 0 1 = 0 then .inl (1, 0) else if inF b 1 9 = 0 then .inl (1, 0) else if inF d 1 9 = 0 then .inl (1, 0) else if N 0 = 8 then .inl (2, 8) else if 0 < itr (hdM N) 8 0 then .inl (4, itr (hdM N) 8 0) else .inr (nI cnt, jnN cnt a b d N)
theorem mw_joins (hN : N 0 = nI cnt) (h8 : cnt ≤ 8) {a b d : Int32} : Ev X 25 0 [some (.ref m), some (.int a), some (.int b), some (.int d), none, none] [] (MW w m V N A) n 0 0 Q ↔ mIn Q w m V N A n (joinM cnt a b d N) := by
  unfold joinM
  by_cases h1 : inF a 0 1 = 0
  · rw [if_pos h1]
    simp only [X6_joins_0, X6_joins_1, X6_joins_2, X6_joins_3, X6_joins_6, X6_joins_9, X6_joins_10, X6_joins_11, X6_joins_13, X6_joins_16, X6_joins_19, X6_joins_20, X6_joins_21, X6_joins_23, X6_joins_26, X6_joins_29, X6_joins_30, X6_joins_31, X6_joins_32, X6_joins_35 okz0, X6_joins_35 okz1, X6_joins_36, X6_joins_37, X6_joins_40, X6_joins_41, X6_joins_42, X6_joins_44, X6_joins_47, X6_joins_48, X6_joins_49, X6_joins_51, X6_joins_54 okz0, X6_joins_54 okz1, X6_joins_55, X6_joins_56, X6_joins_59, X6_joins_62, X6_joins_63, X6_joins_64, X6_joins_65, X6_joins_68, X6_joins_71 okz0, X6_joins_71 okz1, X6_joins_72, X6_joins_73, X6_joins_76, X6_joins_77, X6_joins_78, X6_joins_79, X6_joins_80, X6_joins_81, X6_joins_82, X6_joins_83, X6_joins_85, X6_joins_86, X6_joins_88, X6_joins_90, X6_joins_92, X6_joins_95, X6_joins_96, X6_joins_98, X6_joins_100, X6_joins_101, X6_joins_104, X6_joins_107, X6_joins_110, X6_joins_111, X6_joins_113, X6_joins_114, X6_joins_115, X6_joins_118, X6_joins_119, X6_joins_121, X6_joins_122, X6_joins_123, X6_joins_126, X6_joins_127, X6_joins_129, X6_joins_130, X6_joins_131, X6_joins_134, X6_joins_135, X6_joins_137, X6_joins_138, X6_joins_139, X6_joins_142, X6_joins_143, X6_joins_145, X6_joins_148 okz0, X6_joins_148 okz1, mw_in, Kr_v, h1, if_true, cm, mw_refuses, mIn]
  rw [if_neg h1]
  by_cases h2 : inF b 1 9 = 0
  · rw [if_pos h2]
    simp only [X6_joins_0, X6_joins_1, X6_joins_2, X6_joins_3, X6_joins_6, X6_joins_9, X6_joins_10, X6_joins_11, X6_joins_13, X6_joins_16, X6_joins_19, X6_joins_20, X6_joins_21, X6_joins_23, X6_joins_26, X6_joins_29, X6_joins_30, X6_joins_31, X6_joins_32, X6_joins_35 okz0, X6_joins_35 okz1, X6_joins_36, X6_joins_37, X6_joins_40, X6_joins_41, X6_joins_42, X6_joins_44, X6_joins_47, X6_joins_48, X6_joins_49, X6_joins_51, X6_joins_54 okz0, X6_joins_54 okz1, X6_joins_55, X6_joins_56, X6_joins_59, X6_joins_62, X6_joins_63, X6_joins_64, X6_joins_65, X6_joins_68, X6_joins_71 okz0, X6_joins_71 okz1, X6_joins_72, X6_joins_73, X6_joins_76, X6_joins_77, X6_joins_78, X6_joins_79, X6_joins_80, X6_joins_81, X6_joins_82, X6_joins_83, X6_joins_85, X6_joins_86, X6_joins_88, X6_joins_90, X6_joins_92, X6_joins_95, X6_joins_96, X6_joins_98, X6_joins_100, X6_joins_101, X6_joins_104, X6_joins_107, X6_joins_110, X6_joins_111, X6_joins_113, X6_joins_114, X6_joins_115, X6_joins_118, X6_joins_119, X6_joins_121, X6_joins_122, X6_joins_123, X6_joins_126, X6_joins_127, X6_joins_129, X6_joins_130, X6_joins_131, X6_joins_134, X6_joins_135, X6_joins_137, X6_joins_138, X6_joins_139, X6_joins_142, X6_joins_143, X6_joins_145, X6_joins_148 okz0, X6_joins_148 okz1, mw_in, Kr_v, h1, h2, if_true, if_false, cm, mw_refuses, mIn]
  rw [if_neg h2]
  by_cases h3 : inF d 1 9 = 0
  · rw [if_pos h3]
    simp only [X6_joins_0, X6_joins_1, X6_joins_2, X6_joins_3, X6_joins_6, X6_joins_9, X6_joins_10, X6_joins_11, X6_joins_13, X6_joins_16, X6_joins_19, X6_joins_20, X6_joins_21, X6_joins_23, X6_joins_26, X6_joins_29, X6_joins_30, X6_joins_31, X6_joins_32, X6_joins_35 okz0, X6_joins_35 okz1, X6_joins_36, X6_joins_37, X6_joins_40, X6_joins_41, X6_joins_42, X6_joins_44, X6_joins_47, X6_joins_48, X6_joins_49, X6_joins_51, X6_joins_54 okz0, X6_joins_54 okz1, X6_joins_55, X6_joins_56, X6_joins_59, X6_joins_62, X6_joins_63, X6_joins_64, X6_joins_65, X6_joins_68, X6_joins_71 okz0, X6_joins_71 okz1, X6_joins_72, X6_joins_73, X6_joins_76, X6_joins_77, X6_joins_78, X6_joins_79, X6_joins_80, X6_joins_81, X6_joins_82, X6_joins_83, X6_joins_85, X6_joins_86, X6_joins_88, X6_joins_90, X6_joins_92, X6_joins_95, X6_joins_96, X6_joins_98, X6_joins_100, X6_joins_101, X6_joins_104, X6_joins_107, X6_joins_110, X6_joins_111, X6_joins_113, X6_joins_114, X6_joins_115, X6_joins_118, X6_joins_119, X6_joins_121, X6_joins_122, X6_joins_123, X6_joins_126, X6_joins_127, X6_joins_129, X6_joins_130, X6_joins_131, X6_joins_134, X6_joins_135, X6_joins_137, X6_joins_138, X6_joins_139, X6_joins_142, X6_joins_143, X6_joins_145, X6_joins_148 okz0, X6_joins_148 okz1, mw_in, Kr_v, h1, h2, h3, if_true, if_false, cm, mw_refuses, mIn]
  rw [if_neg h3]
  by_cases h4 : N 0 = 8
  · rw [if_pos h4]
    simp only [X6_joins_0, X6_joins_1, X6_joins_2, X6_joins_3, X6_joins_6, X6_joins_9, X6_joins_10, X6_joins_11, X6_joins_13, X6_joins_16, X6_joins_19, X6_joins_20, X6_joins_21, X6_joins_23, X6_joins_26, X6_joins_29, X6_joins_30, X6_joins_31, X6_joins_32, X6_joins_35 okz0, X6_joins_35 okz1, X6_joins_36, X6_joins_37, X6_joins_40, X6_joins_41, X6_joins_42, X6_joins_44, X6_joins_47, X6_joins_48, X6_joins_49, X6_joins_51, X6_joins_54 okz0, X6_joins_54 okz1, X6_joins_55, X6_joins_56, X6_joins_59, X6_joins_62, X6_joins_63, X6_joins_64, X6_joins_65, X6_joins_68, X6_joins_71 okz0, X6_joins_71 okz1, X6_joins_72, X6_joins_73, X6_joins_76, X6_joins_77, X6_joins_78, X6_joins_79, X6_joins_80, X6_joins_81, X6_joins_82, X6_joins_83, X6_joins_85, X6_joins_86, X6_joins_88, X6_joins_90, X6_joins_92, X6_joins_95, X6_joins_96, X6_joins_98, X6_joins_100, X6_joins_101, X6_joins_104, X6_joins_107, X6_joins_110, X6_joins_111, X6_joins_113, X6_joins_114, X6_joins_115, X6_joins_118, X6_joins_119, X6_joins_121, X6_joins_122, X6_joins_123, X6_joins_126, X6_joins_127, X6_joins_129, X6_joins_130, X6_joins_131, X6_joins_134, X6_joins_135, X6_joins_137, X6_joins_138, X6_joins_139, X6_joins_142, X6_joins_143, X6_joins_145, X6_joins_148 okz0, X6_joins_148 okz1, mw_in, Kr_v, h1, h2, h3, h4, gm0, gn0, Option.some.injEq, exists_eq_left', eq_self, okz0, okz1, ht, if_true, if_false, cm, mw_refuses, mIn]
  rw [if_neg h4]
  by_cases h5 : 0 < itr (hdM N) 8 0
  · rw [if_pos h5]
    simp only [X6_joins_0, X6_joins_1, X6_joins_2, X6_joins_3, X6_joins_6, X6_joins_9, X6_joins_10, X6_joins_11, X6_joins_13, X6_joins_16, X6_joins_19, X6_joins_20, X6_joins_21, X6_joins_23, X6_joins_26, X6_joins_29, X6_joins_30, X6_joins_31, X6_joins_32, X6_joins_35 okz0, X6_joins_35 okz1, X6_joins_36, X6_joins_37, X6_joins_40, X6_joins_41, X6_joins_42, X6_joins_44, X6_joins_47, X6_joins_48, X6_joins_49, X6_joins_51, X6_joins_54 okz0, X6_joins_54 okz1, X6_joins_55, X6_joins_56, X6_joins_59, X6_joins_62, X6_joins_63, X6_joins_64, X6_joins_65, X6_joins_68, X6_joins_71 okz0, X6_joins_71 okz1, X6_joins_72, X6_joins_73, X6_joins_76, X6_joins_77, X6_joins_78, X6_joins_79, X6_joins_80, X6_joins_81, X6_joins_82, X6_joins_83, X6_joins_85, X6_joins_86, X6_joins_88, X6_joins_90, X6_joins_92, X6_joins_95, X6_joins_96, X6_joins_98, X6_joins_100, X6_joins_101, X6_joins_104, X6_joins_107, X6_joins_110, X6_joins_111, X6_joins_113, X6_joins_114, X6_joins_115, X6_joins_118, X6_joins_119, X6_joins_121, X6_joins_122, X6_joins_123, X6_joins_126, X6_joins_127, X6_joins_129, X6_joins_130, X6_joins_131, X6_joins_134, X6_joins_135, X6_joins_137, X6_joins_138, X6_joins_139, X6_joins_142, X6_joins_143, X6_joins_145, X6_joins_148 okz0, X6_joins_148 okz1, mw_in, Kr_v, h1, h2, h3, h4, h5, gm0, gn0, mw_held, Option.some.injEq, exists_eq_left', eq_self, okz0, okz1, ht, if_true, if_false, cm, mw_refuses, mIn]
  rw [if_neg h5]
  have hc : cnt < 8 := by
    rcases Nat.lt_or_ge cnt 8 with q | q
    · exact q
    · exfalso; apply h4; rw [hN, show cnt = 8 by omega]; rfl
  have hL := loop_up (P := fun k (b9 : Nat → Int32) => Ev X 25 88 [some (.ref m), some (.int a), some (.int b), some (.int d), some (.int (nI cnt)), some (.int (nI k))] [] (MW w m V b9 A) n 0 0 Q) (f := fun k N => upd N (ix cnt k) 0) (n := 10) (a0 := upd N 0 (nI (cnt + 1))) (fun k b9 hk => by
    have hlt : nI k < 10 := show nI k < nI 10 from nI_lt hk (by decide)
    rw [X6_joins_88]
    simp only [X6_joins_90, X6_joins_92, hlt, if_true, X6_joins_95, X6_joins_96, X6_joins_98, X6_joins_100, X6_joins_101 cm, mw_sets hc hk, Kr_n, X6_joins_104, X6_joins_107, nI_1])
  have hl : nI 10 < 10 ↔ False := by decide
  have h4' : nI cnt = 8 ↔ False := by rw [hN] at h4; exact ⟨h4, False.elim⟩
  simp only [X6_joins_0, X6_joins_1, X6_joins_2, X6_joins_3, mw_in, Kr_v, h1, if_false, X6_joins_6, X6_joins_9, X6_joins_10, X6_joins_11, X6_joins_13, h2, X6_joins_16, X6_joins_19, X6_joins_20, X6_joins_21, X6_joins_23, h3, X6_joins_26, X6_joins_36, X6_joins_37, gm0, gn0, hN, Option.some.injEq, exists_eq_left', eq_self, okz0, okz1, ht, X6_joins_40, X6_joins_41, X6_joins_42, X6_joins_44, h4', X6_joins_55, X6_joins_56 cm, mw_held, X6_joins_59, h5, X6_joins_72, X6_joins_73, X6_joins_76, X6_joins_77, X6_joins_78, X6_joins_79, X6_joins_80, X6_joins_81, nI_1, X6_joins_82, sn0, X6_joins_83, X6_joins_85, X6_joins_86]
  refine hL.trans ?_
  simp only [X6_joins_88, X6_joins_90, X6_joins_92, hl, if_false, X6_joins_110, X6_joins_111, X6_joins_113, X6_joins_114, X6_joins_115 cm, mw_sets0 hc, Kr_n, X6_joins_118, X6_joins_119, X6_joins_121, X6_joins_122, X6_joins_123 cm, mw_sets1 hc, X6_joins_126, X6_joins_127, X6_joins_129, X6_joins_130, X6_joins_131 cm, mw_sets2 hc, X6_joins_134, X6_joins_135, X6_joins_137, X6_joins_138, X6_joins_139 cm, mw_sets4 hc, X6_joins_142, X6_joins_143, X6_joins_145 cm, mw_does, Kr_v, X6_joins_148 okz1]
  exact Iff.rfl
theorem dqN_o {a : Nat} {y : Int32} {i : Nat} (h : i < 6) : dqN a y N i = N i := by
  unfold dqN
  cases ff (fun k => decide (N (qx k) = y)) a 0 with
  | none => rfl
  | some k =>
    show dpN a k N i = N i
    unfold dpN
    rw [if_neg (by omega), if_neg (by omega)]
def leavM (cnt a : Nat) (N : Nat → Int32) : (Int32 × Int32) ⊕ (Int32 × (Nat → Int32)) :=
  if cnt = 0 then .inl (5, 0) else if 0 < itr (hdM N) 8 0 then .inl (4, itr (hdM N) 8 0) else .inr (nI (cnt - 1), upd (dqN a (nI (cnt - 1)) N) 0 (nI (cnt - 1)))
theorem mw_leaves (hN : N 0 = nI cnt) (h8 : cnt ≤ 8) {a : Nat} (hA : N 6 = nI a) (ha : a ≤ 8) : Ev X 35 0 [some (.ref m)] [] (MW w m V N A) n 0 0 Q ↔ mIn Q w m V N A n (leavM cnt a N) := by
  unfold leavM
  by_cases h1 : cnt = 0
  · subst h1
    have z : nI 0 = 0 := rfl
    rw [if_pos rfl]
    simp only [X6_leaves_0, X6_leaves_1, X6_leaves_4, X6_leaves_5, X6_leaves_6, X6_leaves_9, X6_leaves_10, X6_leaves_11, X6_leaves_12, X6_leaves_15 okz0, X6_leaves_15 okz1, X6_leaves_16, X6_leaves_17, X6_leaves_20, X6_leaves_23, X6_leaves_24, X6_leaves_25, X6_leaves_26, X6_leaves_29, X6_leaves_32 okz0, X6_leaves_32 okz1, X6_leaves_33, X6_leaves_34, X6_leaves_35, X6_leaves_38, X6_leaves_39, X6_leaves_40, X6_leaves_41, X6_leaves_42, X6_leaves_45, X6_leaves_46, X6_leaves_49, X6_leaves_50, X6_leaves_51, X6_leaves_52, X6_leaves_53, X6_leaves_54, X6_leaves_55, X6_leaves_56, X6_leaves_57, X6_leaves_60, X6_leaves_61, X6_leaves_62, X6_leaves_65 okz0, X6_leaves_65 okz1, gm0, gn0, hN, z, Option.some.injEq, exists_eq_left', eq_self, okz0, okz1, ht, Kr_v, if_true, cm, mw_refuses, mIn]
  rw [if_neg h1]
  have h1' : nI cnt = 0 ↔ False := ⟨fun q => nI_ne0 (by omega) (by omega) q, False.elim⟩
  by_cases h5 : 0 < itr (hdM N) 8 0
  · rw [if_pos h5]
    simp only [X6_leaves_0, X6_leaves_1, X6_leaves_4, X6_leaves_5, X6_leaves_6, X6_leaves_9, X6_leaves_10, X6_leaves_11, X6_leaves_12, X6_leaves_15 okz0, X6_leaves_15 okz1, X6_leaves_16, X6_leaves_17, X6_leaves_20, X6_leaves_23, X6_leaves_24, X6_leaves_25, X6_leaves_26, X6_leaves_29, X6_leaves_32 okz0, X6_leaves_32 okz1, X6_leaves_33, X6_leaves_34, X6_leaves_35, X6_leaves_38, X6_leaves_39, X6_leaves_40, X6_leaves_41, X6_leaves_42, X6_leaves_45, X6_leaves_46, X6_leaves_49, X6_leaves_50, X6_leaves_51, X6_leaves_52, X6_leaves_53, X6_leaves_54, X6_leaves_55, X6_leaves_56, X6_leaves_57, X6_leaves_60, X6_leaves_61, X6_leaves_62, X6_leaves_65 okz0, X6_leaves_65 okz1, gm0, gn0, hN, h1', Option.some.injEq, exists_eq_left', eq_self, okz0, okz1, ht, Kr_v, h5, mw_held, if_true, if_false, cm, mw_refuses, mIn]
  rw [if_neg h5]
  have ep : nI cnt - 1 = nI (cnt - 1) := nI_p (by omega)
  have e0 : dqN a (nI (cnt - 1)) N 0 = nI cnt := (dqN_o (by decide)).trans hN
  simp only [X6_leaves_0, X6_leaves_1, X6_leaves_4, X6_leaves_5, X6_leaves_6, X6_leaves_9, X6_leaves_10, X6_leaves_11, X6_leaves_12, X6_leaves_15 okz0, X6_leaves_15 okz1, X6_leaves_16, X6_leaves_17, X6_leaves_20, X6_leaves_23, X6_leaves_24, X6_leaves_25, X6_leaves_26, X6_leaves_29, X6_leaves_32 okz0, X6_leaves_32 okz1, X6_leaves_33, X6_leaves_34, X6_leaves_35, X6_leaves_38, X6_leaves_39, X6_leaves_40, X6_leaves_41, X6_leaves_42, X6_leaves_45, X6_leaves_46, X6_leaves_49, X6_leaves_50, X6_leaves_51, X6_leaves_52, X6_leaves_53, X6_leaves_54, X6_leaves_55, X6_leaves_56, X6_leaves_57, X6_leaves_60, X6_leaves_61, X6_leaves_62, X6_leaves_65 okz0, X6_leaves_65 okz1, gm0, gn0, hN, h1', Option.some.injEq, exists_eq_left', eq_self, okz0, okz1, ht, Kr_v, Kr_n, h5, mw_held, if_false, cm, ep, mw_drops hA ha, e0, sn0, upd_same, mw_does, mIn]
def turnM (k : Nat) (d : Int32) (N : Nat → Int32) : (Int32 × Int32) ⊕ (Int32 × (Nat → Int32)) :=
  if inF d 0 1 = 0 then .inl (1, 0) else if N (ix k 0) = d then .inl (7, 0) else .inr (N (ix k 3), upd N (ix k 0) d)
def turnX (cnt : Nat) (y d : Int32) (N : Nat → Int32) : (Int32 × Int32) ⊕ (Int32 × (Nat → Int32)) := if hasS (nI cnt) y = 0 then .inl (3, y) else turnM y.toNatClampNeg d N
theorem mw_turns (hN : N 0 = nI cnt) (h8 : cnt ≤ 8) {y d : Int32} : Ev X 44 0 [some (.ref m), some (.int y), some (.int d)] [] (MW w m V N A) n 0 0 Q ↔ mIn Q w m V N A n (turnX cnt y d N) := by
  unfold turnX
  by_cases h0 : hasS (nI cnt) y = 0
  · rw [if_pos h0]
    simp only [X6_turns_0, X6_turns_1, X6_turns_2, X6_turns_5, X6_turns_8, X6_turns_9, X6_turns_10, X6_turns_11, X6_turns_14 okz0, X6_turns_14 okz1, X6_turns_15, X6_turns_16, X6_turns_17, X6_turns_18, X6_turns_21, X6_turns_24, X6_turns_25, X6_turns_26, X6_turns_27, X6_turns_30 okz0, X6_turns_30 okz1, X6_turns_31, X6_turns_32, X6_turns_33, X6_turns_34, X6_turns_37, X6_turns_38, X6_turns_41, X6_turns_42, X6_turns_44, X6_turns_45, X6_turns_48 okz0, X6_turns_48 okz1, X6_turns_49, X6_turns_50, X6_turns_51, X6_turns_52, X6_turns_53, X6_turns_56, X6_turns_57, X6_turns_58, X6_turns_59, X6_turns_62, X6_turns_65 okz0, X6_turns_65 okz1, cm, mw_isSeat hN h8, Kr_v, h0, if_true, mw_refuses, mIn]
  rw [if_neg h0]
  obtain ⟨k, hk, rfl⟩ := hasS_ex h8 h0
  have k8 : k < 8 := by omega
  rw [nI_clamp (by omega)]
  unfold turnM
  by_cases h1 : inF d 0 1 = 0
  · rw [if_pos h1]
    simp only [X6_turns_0, X6_turns_1, X6_turns_2, X6_turns_5, X6_turns_8, X6_turns_9, X6_turns_10, X6_turns_11, X6_turns_14 okz0, X6_turns_14 okz1, X6_turns_15, X6_turns_16, X6_turns_17, X6_turns_18, X6_turns_21, X6_turns_24, X6_turns_25, X6_turns_26, X6_turns_27, X6_turns_30 okz0, X6_turns_30 okz1, X6_turns_31, X6_turns_32, X6_turns_33, X6_turns_34, X6_turns_37, X6_turns_38, X6_turns_41, X6_turns_42, X6_turns_44, X6_turns_45, X6_turns_48 okz0, X6_turns_48 okz1, X6_turns_49, X6_turns_50, X6_turns_51, X6_turns_52, X6_turns_53, X6_turns_56, X6_turns_57, X6_turns_58, X6_turns_59, X6_turns_62, X6_turns_65 okz0, X6_turns_65 okz1, cm, mw_isSeat hN h8, mw_in, Kr_v, h0, h1, if_true, if_false, mw_refuses, mIn]
  rw [if_neg h1]
  by_cases h2 : N (ix k 0) = d
  · rw [if_pos h2]
    simp only [X6_turns_0, X6_turns_1, X6_turns_2, X6_turns_5, X6_turns_8, X6_turns_9, X6_turns_10, X6_turns_11, X6_turns_14 okz0, X6_turns_14 okz1, X6_turns_15, X6_turns_16, X6_turns_17, X6_turns_18, X6_turns_21, X6_turns_24, X6_turns_25, X6_turns_26, X6_turns_27, X6_turns_30 okz0, X6_turns_30 okz1, X6_turns_31, X6_turns_32, X6_turns_33, X6_turns_34, X6_turns_37, X6_turns_38, X6_turns_41, X6_turns_42, X6_turns_44, X6_turns_45, X6_turns_48 okz0, X6_turns_48 okz1, X6_turns_49, X6_turns_50, X6_turns_51, X6_turns_52, X6_turns_53, X6_turns_56, X6_turns_57, X6_turns_58, X6_turns_59, X6_turns_62, X6_turns_65 okz0, X6_turns_65 okz1, cm, mw_isSeat hN h8, mw_in, mw_of0 k8, Kr_v, h0, h1, h2, if_true, if_false, mw_refuses, mIn]
  rw [if_neg h2]
  have e3 : upd N (ix k 0) d (ix k 3) = N (ix k 3) := upd_ne (by unfold ix; omega)
  simp only [X6_turns_0, X6_turns_1, X6_turns_2, X6_turns_5, X6_turns_8, X6_turns_9, X6_turns_10, X6_turns_11, X6_turns_14 okz0, X6_turns_14 okz1, X6_turns_15, X6_turns_16, X6_turns_17, X6_turns_18, X6_turns_21, X6_turns_24, X6_turns_25, X6_turns_26, X6_turns_27, X6_turns_30 okz0, X6_turns_30 okz1, X6_turns_31, X6_turns_32, X6_turns_33, X6_turns_34, X6_turns_37, X6_turns_38, X6_turns_41, X6_turns_42, X6_turns_44, X6_turns_45, X6_turns_48 okz0, X6_turns_48 okz1, X6_turns_49, X6_turns_50, X6_turns_51, X6_turns_52, X6_turns_53, X6_turns_56, X6_turns_57, X6_turns_58, X6_turns_59, X6_turns_62, X6_turns_65 okz0, X6_turns_65 okz1, cm, mw_isSeat hN h8, mw_in, mw_of0 k8, mw_sets0 k8, mw_how k8, e3, Kr_v, Kr_n, h0, h1, h2, if_false, mw_does, mIn]
def timeM (k : Nat) (a b : Int32) (N : Nat → Int32) : (Int32 × Int32) ⊕ (Int32 × (Nat → Int32)) :=
  if inF a 1 9 = 0 then .inl (1, 0) else if inF b 1 9 = 0 then .inl (1, 0) else .inr (10 * N (ix k 1) + N (ix k 2), upd (upd N (ix k 1) a) (ix k 2) b)
def timeX (cnt : Nat) (y a b : Int32) (N : Nat → Int32) : (Int32 × Int32) ⊕ (Int32 × (Nat → Int32)) := if hasS (nI cnt) y = 0 then .inl (3, y) else timeM y.toNatClampNeg a b N
theorem mw_times (hN : N 0 = nI cnt) (h8 : cnt ≤ 8) {y a b : Int32} : Ev X 49 0 [some (.ref m), some (.int y), some (.int a), some (.int b), none] [] (MW w m V N A) n 0 0 Q ↔ mIn Q w m V N A n (timeX cnt y a b N) := by
  unfold timeX
  by_cases h0 : hasS (nI cnt) y = 0
  · rw [if_pos h0]
    simp only [X6_times_0, X6_times_1, X6_times_2, X6_times_5, X6_times_8, X6_times_9, X6_times_10, X6_times_11, X6_times_14 okz0, X6_times_14 okz1, X6_times_15, X6_times_16, X6_times_17, X6_times_19, X6_times_22, X6_times_25, X6_times_26, X6_times_27, X6_times_29, X6_times_32, X6_times_35, X6_times_36, X6_times_37, X6_times_38, X6_times_41 okz0, X6_times_41 okz1, X6_times_42, X6_times_44, X6_times_45, X6_times_46, X6_times_47, X6_times_50, X6_times_51, X6_times_52, X6_times_53, X6_times_54, X6_times_57, X6_times_58, X6_times_60, X6_times_61, X6_times_62, X6_times_63, X6_times_64, X6_times_67, X6_times_68, X6_times_69, X6_times_70, X6_times_71, X6_times_74, X6_times_75, X6_times_77, X6_times_80 okz0, X6_times_80 okz1, cm, mw_isSeat hN h8, Kr_v, h0, if_true, mw_refuses, mIn]
  rw [if_neg h0]
  obtain ⟨k, hk, rfl⟩ := hasS_ex h8 h0
  have k8 : k < 8 := by omega
  rw [nI_clamp (by omega)]
  unfold timeM
  by_cases h1 : inF a 1 9 = 0
  · rw [if_pos h1]
    simp only [X6_times_0, X6_times_1, X6_times_2, X6_times_5, X6_times_8, X6_times_9, X6_times_10, X6_times_11, X6_times_14 okz0, X6_times_14 okz1, X6_times_15, X6_times_16, X6_times_17, X6_times_19, X6_times_22, X6_times_25, X6_times_26, X6_times_27, X6_times_29, X6_times_32, X6_times_35, X6_times_36, X6_times_37, X6_times_38, X6_times_41 okz0, X6_times_41 okz1, X6_times_42, X6_times_44, X6_times_45, X6_times_46, X6_times_47, X6_times_50, X6_times_51, X6_times_52, X6_times_53, X6_times_54, X6_times_57, X6_times_58, X6_times_60, X6_times_61, X6_times_62, X6_times_63, X6_times_64, X6_times_67, X6_times_68, X6_times_69, X6_times_70, X6_times_71, X6_times_74, X6_times_75, X6_times_77, X6_times_80 okz0, X6_times_80 okz1, cm, mw_isSeat hN h8, mw_in, Kr_v, h0, h1, if_true, if_false, mw_refuses, mIn]
  rw [if_neg h1]
  by_cases h2 : inF b 1 9 = 0
  · rw [if_pos h2]
    simp only [X6_times_0, X6_times_1, X6_times_2, X6_times_5, X6_times_8, X6_times_9, X6_times_10, X6_times_11, X6_times_14 okz0, X6_times_14 okz1, X6_times_15, X6_times_16, X6_times_17, X6_times_19, X6_times_22, X6_times_25, X6_times_26, X6_times_27, X6_times_29, X6_times_32, X6_times_35, X6_times_36, X6_times_37, X6_times_38, X6_times_41 okz0, X6_times_41 okz1, X6_times_42, X6_times_44, X6_times_45, X6_times_46, X6_times_47, X6_times_50, X6_times_51, X6_times_52, X6_times_53, X6_times_54, X6_times_57, X6_times_58, X6_times_60, X6_times_61, X6_times_62, X6_times_63, X6_times_64, X6_times_67, X6_times_68, X6_times_69, X6_times_70, X6_times_71, X6_times_74, X6_times_75, X6_times_77, X6_times_80 okz0, X6_times_80 okz1, cm, mw_isSeat hN h8, mw_in, Kr_v, h0, h1, h2, if_true, if_false, mw_refuses, mIn]
  rw [if_neg h2]
  simp only [X6_times_0, X6_times_1, X6_times_2, X6_times_5, X6_times_8, X6_times_9, X6_times_10, X6_times_11, X6_times_14 okz0, X6_times_14 okz1, X6_times_15, X6_times_16, X6_times_17, X6_times_19, X6_times_22, X6_times_25, X6_times_26, X6_times_27, X6_times_29, X6_times_32, X6_times_35, X6_times_36, X6_times_37, X6_times_38, X6_times_41 okz0, X6_times_41 okz1, X6_times_42, X6_times_44, X6_times_45, X6_times_46, X6_times_47, X6_times_50, X6_times_51, X6_times_52, X6_times_53, X6_times_54, X6_times_57, X6_times_58, X6_times_60, X6_times_61, X6_times_62, X6_times_63, X6_times_64, X6_times_67, X6_times_68, X6_times_69, X6_times_70, X6_times_71, X6_times_74, X6_times_75, X6_times_77, X6_times_80 okz0, X6_times_80 okz1, cm, mw_isSeat hN h8, mw_in, mw_of1 k8, mw_of2 k8, mw_sets1 k8, mw_sets2 k8, Kr_v, Kr_n, h0, h1, h2, if_false, mw_does, mIn]
def tellM (y : Int32) (N : Nat → Int32) : (Int32 × Int32) ⊕ (Int32 × (Nat → Int32)) := if inF y 0 8 = 0 then .inl (1, 0) else if N 3 = y then .inl (7, 0) else .inr (N 3, upd N 3 y)
theorem mw_tells {y : Int32} : Ev X 54 0 [some (.ref m), some (.int y), none] [] (MW w m V N A) n 0 0 Q ↔ mIn Q w m V N A n (tellM y N) := by
  unfold tellM
  by_cases h1 : inF y 0 8 = 0
  · rw [if_pos h1]
    simp only [X6_tells_0, X6_tells_1, X6_tells_2, X6_tells_4, X6_tells_7, X6_tells_10, X6_tells_11, X6_tells_12, X6_tells_13, X6_tells_16 okz0, X6_tells_16 okz1, X6_tells_17, X6_tells_18, X6_tells_21, X6_tells_22, X6_tells_23, X6_tells_24, X6_tells_27, X6_tells_28, X6_tells_30, X6_tells_31, X6_tells_34 okz0, X6_tells_34 okz1, X6_tells_35, X6_tells_36, X6_tells_39, X6_tells_40, X6_tells_41, X6_tells_42, X6_tells_43, X6_tells_46, X6_tells_47, X6_tells_48, X6_tells_49, X6_tells_50, X6_tells_51, X6_tells_54 okz0, X6_tells_54 okz1, cm, mw_in, Kr_v, h1, if_true, mw_refuses, mIn]
  rw [if_neg h1]
  by_cases h2 : N 3 = y
  · rw [if_pos h2]
    simp only [X6_tells_0, X6_tells_1, X6_tells_2, X6_tells_4, X6_tells_7, X6_tells_10, X6_tells_11, X6_tells_12, X6_tells_13, X6_tells_16 okz0, X6_tells_16 okz1, X6_tells_17, X6_tells_18, X6_tells_21, X6_tells_22, X6_tells_23, X6_tells_24, X6_tells_27, X6_tells_28, X6_tells_30, X6_tells_31, X6_tells_34 okz0, X6_tells_34 okz1, X6_tells_35, X6_tells_36, X6_tells_39, X6_tells_40, X6_tells_41, X6_tells_42, X6_tells_43, X6_tells_46, X6_tells_47, X6_tells_48, X6_tells_49, X6_tells_50, X6_tells_51, X6_tells_54 okz0, X6_tells_54 okz1, cm, mw_in, gm0, gn3, Option.some.injEq, exists_eq_left', eq_self, okz0, okz1, ht, Kr_v, h1, h2, if_true, if_false, mw_refuses, mIn]
  rw [if_neg h2]
  simp only [X6_tells_0, X6_tells_1, X6_tells_2, X6_tells_4, X6_tells_7, X6_tells_10, X6_tells_11, X6_tells_12, X6_tells_13, X6_tells_16 okz0, X6_tells_16 okz1, X6_tells_17, X6_tells_18, X6_tells_21, X6_tells_22, X6_tells_23, X6_tells_24, X6_tells_27, X6_tells_28, X6_tells_30, X6_tells_31, X6_tells_34 okz0, X6_tells_34 okz1, X6_tells_35, X6_tells_36, X6_tells_39, X6_tells_40, X6_tells_41, X6_tells_42, X6_tells_43, X6_tells_46, X6_tells_47, X6_tells_48, X6_tells_49, X6_tells_50, X6_tells_51, X6_tells_54 okz0, X6_tells_54 okz1, cm, mw_in, gm0, gn3, sn3, Option.some.injEq, exists_eq_left', eq_self, okz0, okz1, ht, Kr_v, h1, h2, if_false, mw_does, mIn]
def brinM (y : Int32) (N : Nat → Int32) : (Int32 × Int32) ⊕ (Int32 × (Nat → Int32)) := if inF y 1 99 = 0 then .inl (1, 0) else if 99 < N 2 + y then .inl (2, 99) else .inr (N 2 + y, upd N 2 (N 2 + y))
theorem mw_brings {y : Int32} : Ev X 59 0 [some (.ref m), some (.int y)] [] (MW w m V N A) n 0 0 Q ↔ mIn Q w m V N A n (brinM y N) := by
  unfold brinM
  by_cases h1 : inF y 1 99 = 0
  · rw [if_pos h1]
    simp only [X6_brings_0, X6_brings_1, X6_brings_2, X6_brings_4, X6_brings_7, X6_brings_10, X6_brings_11, X6_brings_12, X6_brings_13, X6_brings_16 okz0, X6_brings_16 okz1, X6_brings_17, X6_brings_18, X6_brings_21, X6_brings_22, X6_brings_23, X6_brings_24, X6_brings_25, X6_brings_27, X6_brings_30, X6_brings_31, X6_brings_32, X6_brings_34, X6_brings_37 okz0, X6_brings_37 okz1, X6_brings_38, X6_brings_39, X6_brings_42, X6_brings_43, X6_brings_44, X6_brings_45, X6_brings_46, X6_brings_47, X6_brings_48, X6_brings_49, X6_brings_50, X6_brings_53, X6_brings_54, X6_brings_55, X6_brings_58 okz0, X6_brings_58 okz1, cm, mw_in, Kr_v, h1, if_true, mw_refuses, mIn]
  rw [if_neg h1]
  by_cases h2 : 99 < N 2 + y
  · rw [if_pos h2]
    simp only [X6_brings_0, X6_brings_1, X6_brings_2, X6_brings_4, X6_brings_7, X6_brings_10, X6_brings_11, X6_brings_12, X6_brings_13, X6_brings_16 okz0, X6_brings_16 okz1, X6_brings_17, X6_brings_18, X6_brings_21, X6_brings_22, X6_brings_23, X6_brings_24, X6_brings_25, X6_brings_27, X6_brings_30, X6_brings_31, X6_brings_32, X6_brings_34, X6_brings_37 okz0, X6_brings_37 okz1, X6_brings_38, X6_brings_39, X6_brings_42, X6_brings_43, X6_brings_44, X6_brings_45, X6_brings_46, X6_brings_47, X6_brings_48, X6_brings_49, X6_brings_50, X6_brings_53, X6_brings_54, X6_brings_55, X6_brings_58 okz0, X6_brings_58 okz1, cm, mw_in, gm0, gn2, Option.some.injEq, exists_eq_left', eq_self, okz0, okz1, ht, Kr_v, h1, h2, if_true, if_false, mw_refuses, mIn]
  rw [if_neg h2]
  simp only [X6_brings_0, X6_brings_1, X6_brings_2, X6_brings_4, X6_brings_7, X6_brings_10, X6_brings_11, X6_brings_12, X6_brings_13, X6_brings_16 okz0, X6_brings_16 okz1, X6_brings_17, X6_brings_18, X6_brings_21, X6_brings_22, X6_brings_23, X6_brings_24, X6_brings_25, X6_brings_27, X6_brings_30, X6_brings_31, X6_brings_32, X6_brings_34, X6_brings_37 okz0, X6_brings_37 okz1, X6_brings_38, X6_brings_39, X6_brings_42, X6_brings_43, X6_brings_44, X6_brings_45, X6_brings_46, X6_brings_47, X6_brings_48, X6_brings_49, X6_brings_50, X6_brings_53, X6_brings_54, X6_brings_55, X6_brings_58 okz0, X6_brings_58 okz1, cm, mw_in, gm0, gn2, sn2, upd_same, Option.some.injEq, exists_eq_left', eq_self, okz0, okz1, ht, Kr_v, h1, h2, if_false, mw_does, mIn]
def tlN (cnt : Nat) (N : Nat → Int32) (k : Nat) : Nat := if N (lx k) - 1 = nI k then k else lfN cnt k
def takeM (cnt k : Nat) (N : Nat → Int32) : (Int32 × Int32) ⊕ (Int32 × (Nat → Int32)) :=
  if N (ix k 3) = 3 then .inr (nI (tlN cnt N k), upd (upd (upd N (lx (tlN cnt N k)) 0) (ix k 3) 2) 5 (N 5 + 1)) else .inl (6, N (ix k 3))
def takeX (cnt : Nat) (y : Int32) (N : Nat → Int32) : (Int32 × Int32) ⊕ (Int32 × (Nat → Int32)) := if hasS (nI cnt) y = 0 then .inl (3, y) else takeM cnt y.toNatClampNeg N
theorem mw_takes (hN : N 0 = nI cnt) (h8 : cnt ≤ 8) {y : Int32} : Ev X 67 0 [some (.ref m), some (.int y), none] [] (MW w m V N A) n 0 0 Q ↔ mIn Q w m V N A n (takeX cnt y N) := by
  unfold takeX
  by_cases h0 : hasS (nI cnt) y = 0
  · rw [if_pos h0]
    simp only [X6_takes_0, X6_takes_1, X6_takes_2, X6_takes_5, X6_takes_8, X6_takes_9, X6_takes_10, X6_takes_11, X6_takes_14 okz0, X6_takes_14 okz1, X6_takes_15, X6_takes_16, X6_takes_17, X6_takes_20, X6_takes_21, X6_takes_24, X6_takes_25, X6_takes_27, X6_takes_28, X6_takes_29, X6_takes_32, X6_takes_35 okz0, X6_takes_35 okz1, X6_takes_36, X6_takes_37, X6_takes_38, X6_takes_41, X6_takes_42, X6_takes_45, X6_takes_46, X6_takes_49, X6_takes_50, X6_takes_51, X6_takes_54, X6_takes_55, X6_takes_56, X6_takes_59, X6_takes_61, X6_takes_62, X6_takes_63, X6_takes_64, X6_takes_65, X6_takes_66, X6_takes_67, X6_takes_68, X6_takes_69, X6_takes_72, X6_takes_73, X6_takes_76, X6_takes_77, X6_takes_78, X6_takes_79, X6_takes_80, X6_takes_81, X6_takes_82, X6_takes_83, X6_takes_84, X6_takes_87 okz0, X6_takes_87 okz1, cm, mw_isSeat hN h8, Kr_v, h0, if_true, mw_refuses, mIn]
  rw [if_neg h0]
  obtain ⟨k, hk, rfl⟩ := hasS_ex h8 h0
  have k8 : k < 8 := by omega
  rw [nI_clamp (by omega)]
  unfold takeM
  by_cases h1 : N (ix k 3) = 3
  · rw [if_pos h1]
    unfold tlN
    by_cases h2 : N (lx k) - 1 = nI k
    · have e5 : upd (upd N (lx k) 0) (ix k 3) 2 5 = N 5 := by rw [upd_ne (by unfold ix; omega), upd_ne (by unfold lx; omega)]
      rw [if_pos h2]
      simp only [X6_takes_0, X6_takes_1, X6_takes_2, X6_takes_5, X6_takes_8, X6_takes_9, X6_takes_10, X6_takes_11, X6_takes_14 okz0, X6_takes_14 okz1, X6_takes_15, X6_takes_16, X6_takes_17, X6_takes_20, X6_takes_21, X6_takes_24, X6_takes_25, X6_takes_27, X6_takes_28, X6_takes_29, X6_takes_32, X6_takes_35 okz0, X6_takes_35 okz1, X6_takes_36, X6_takes_37, X6_takes_38, X6_takes_41, X6_takes_42, X6_takes_45, X6_takes_46, X6_takes_49, X6_takes_50, X6_takes_51, X6_takes_54, X6_takes_55, X6_takes_56, X6_takes_59, X6_takes_61, X6_takes_62, X6_takes_63, X6_takes_64, X6_takes_65, X6_takes_66, X6_takes_67, X6_takes_68, X6_takes_69, X6_takes_72, X6_takes_73, X6_takes_76, X6_takes_77, X6_takes_78, X6_takes_79, X6_takes_80, X6_takes_81, X6_takes_82, X6_takes_83, X6_takes_84, X6_takes_87 okz0, X6_takes_87 okz1, cm, mw_isSeat hN h8, mw_how k8, mw_by k8, gm0, gn5, sn5, Option.some.injEq, exists_eq_left', eq_self, okz0, okz1, ht, Kr_v, Kr_n, h0, h1, h2, if_true, if_false, lx_i, snL k8, mw_sets3 k8, e5, mw_does, mIn]
    · have hl : lfN cnt k < 8 := Nat.lt_of_lt_of_le (lfN_lt hk) h8
      have e5 : upd (upd N (lx (lfN cnt k)) 0) (ix k 3) 2 5 = N 5 := by rw [upd_ne (by unfold ix; omega), upd_ne (by unfold lx; omega)]
      rw [if_neg h2]
      simp only [X6_takes_0, X6_takes_1, X6_takes_2, X6_takes_5, X6_takes_8, X6_takes_9, X6_takes_10, X6_takes_11, X6_takes_14 okz0, X6_takes_14 okz1, X6_takes_15, X6_takes_16, X6_takes_17, X6_takes_20, X6_takes_21, X6_takes_24, X6_takes_25, X6_takes_27, X6_takes_28, X6_takes_29, X6_takes_32, X6_takes_35 okz0, X6_takes_35 okz1, X6_takes_36, X6_takes_37, X6_takes_38, X6_takes_41, X6_takes_42, X6_takes_45, X6_takes_46, X6_takes_49, X6_takes_50, X6_takes_51, X6_takes_54, X6_takes_55, X6_takes_56, X6_takes_59, X6_takes_61, X6_takes_62, X6_takes_63, X6_takes_64, X6_takes_65, X6_takes_66, X6_takes_67, X6_takes_68, X6_takes_69, X6_takes_72, X6_takes_73, X6_takes_76, X6_takes_77, X6_takes_78, X6_takes_79, X6_takes_80, X6_takes_81, X6_takes_82, X6_takes_83, X6_takes_84, X6_takes_87 okz0, X6_takes_87 okz1, cm, mw_isSeat hN h8, mw_how k8, mw_by k8, mw_left hN h8 hk, gm0, gn5, sn5, Option.some.injEq, exists_eq_left', eq_self, okz0, okz1, ht, Kr_v, Kr_n, h0, h1, h2, if_true, if_false, lx_i, snL hl, mw_sets3 k8, e5, mw_does, mIn]
  · rw [if_neg h1]
    simp only [X6_takes_0, X6_takes_1, X6_takes_2, X6_takes_5, X6_takes_8, X6_takes_9, X6_takes_10, X6_takes_11, X6_takes_14 okz0, X6_takes_14 okz1, X6_takes_15, X6_takes_16, X6_takes_17, X6_takes_20, X6_takes_21, X6_takes_24, X6_takes_25, X6_takes_27, X6_takes_28, X6_takes_29, X6_takes_32, X6_takes_35 okz0, X6_takes_35 okz1, X6_takes_36, X6_takes_37, X6_takes_38, X6_takes_41, X6_takes_42, X6_takes_45, X6_takes_46, X6_takes_49, X6_takes_50, X6_takes_51, X6_takes_54, X6_takes_55, X6_takes_56, X6_takes_59, X6_takes_61, X6_takes_62, X6_takes_63, X6_takes_64, X6_takes_65, X6_takes_66, X6_takes_67, X6_takes_68, X6_takes_69, X6_takes_72, X6_takes_73, X6_takes_76, X6_takes_77, X6_takes_78, X6_takes_79, X6_takes_80, X6_takes_81, X6_takes_82, X6_takes_83, X6_takes_84, X6_takes_87 okz0, X6_takes_87 okz1, cm, mw_isSeat hN h8, mw_how k8, Kr_v, h0, h1, if_false, mw_refuses, mIn]
end MCH
