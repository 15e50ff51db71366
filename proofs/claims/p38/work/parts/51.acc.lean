/-! ===== accounts, the line, commands ===== -/
section ACC
variable {X : Cxt} {w : Wld} {n : Option Nat} {Q : (Option Value ⊕ String) → Wld → Option Nat → Prop} {x cnt c : Nat} {T : Nat → Tb} {pa : Nat → Nat} {be : Nat} {Z P C D R Lt : Nat → Int32}
def accF (cnt : Nat) (s : Tb) (z p : Int32) (j : Nat) : Int32 := match j with
  | 0 => s.1 5
  | 1 => s.1 2
  | 2 => s.1 4
  | 3 => s.1 3
  | 4 => itr (mealsOfAllF s.2.2) cnt 0
  | 5 => s.1 6
  | 6 => itr (heldF s.2.1) cnt 0
  | 7 => bcI (itr (setWithLeaveF s.2.2) cnt 0)
  | 8 => itr (askersF s.2.2) cnt 0
  | 9 => s.1 7
  | 10 => z
  | _ => p
theorem pst_tabOut {pc len : Nat} {ls : Lcs} {y : Int32} {r : Stk} {dflt lo hi : Int} {offs : Array Int} {t : Nat} (h : y.toInt < lo ∨ hi < y.toInt) (ht : tgt pc dflt = some t) : pst false (.tableswitch dflt lo hi offs) len pc ls (.int y :: r) = some (t, ls, r) := by
  show (qi (.int y :: r) fun x r => if x.toInt < lo ∨ hi < x.toInt then gt pc dflt (fun t => some (t, ls, r)) else match offs[(x.toInt - lo).toNat]? with | some off => gt pc off (fun t => some (t, ls, r)) | none => none) = _
  show (if y.toInt < lo ∨ hi < y.toInt then gt pc dflt (fun t => some (t, ls, r)) else _) = _
  rw [if_pos h]
  unfold gt
  rw [ht]
theorem X5_account_1_out {l0 l1 : Option Value} {st : Stk} {w : Wld} {y : Int32} (h : y.toInt < 0 ∨ 11 < y.toInt) : Ev X 28 1 [l0, l1] (.int y :: st) w n 0 0 Q ↔ Ev X 28 160 [l0, l1] st w n 0 0 Q := E_p ok_X5_account (show decode (mB 28) 1 = .ok (.tableswitch 159 0 11 #[63, 71, 79, 87, 95, 103, 111, 119, 130, 138, 146, 151], 63) by decide +kernel) rfl (pst_tabOut h rfl)
theorem lt_toInt {x : Int32} {k : Nat} (hk : k < 2 ^ 31) (h : nI k < x) : (k : Int) < x.toInt := by
  have := Int32.lt_iff_toInt_lt.mp h
  rwa [nI_toInt hk] at this
theorem sw_account_bad {y : Int32} (h : y < 0 ∨ 11 < y) : Ev X 28 0 [some (.ref x), some (.int y)] [] (SW w x T pa be Z P C D R Lt) n 0 0 Q ↔ Q (.inr IAE) (SW w x T pa be Z P C D R Lt) (n.map (· + 1)) := by
  have h2 : y.toInt < 0 ∨ 11 < y.toInt := by
    rcases h with h | h
    · exact Or.inl (Int32.lt_iff_toInt_lt.mp h)
    · exact Or.inr (lt_toInt (k := 11) (by decide) h)
  rw [X5_account_0, X5_account_1_out h2, X5_account_160]
  exact Iff.rfl
theorem sw_account (hc : (T 0).1 2 = nI cnt) (h8 : cnt ≤ 8) {j : Nat} (hj : j < 12) : Ev X 28 0 [some (.ref x), some (.int (nI j))] [] (SW w x T pa be Z P C D R Lt) n 0 0 Q ↔ Q (.inl (some (.int (accF cnt (T 0) (Z 5) (P 1) j)))) (SW w x T pa be Z P C D R Lt) n := by
  have d0 : nI 0 = 0 := rfl
  have d1 : nI 1 = 1 := rfl
  have d2 : nI 2 = 2 := rfl
  have d3 : nI 3 = 3 := rfl
  have d4 : nI 4 = 4 := rfl
  have d5 : nI 5 = 5 := rfl
  have d6 : nI 6 = 6 := rfl
  have d7 : nI 7 = 7 := rfl
  have d8 : nI 8 = 8 := rfl
  have d9 : nI 9 = 9 := rfl
  have d10 : nI 10 = 10 := rfl
  have d11 : nI 11 = 11 := rfl
  rcases (show j = 0 ∨ j = 1 ∨ j = 2 ∨ j = 3 ∨ j = 4 ∨ j = 5 ∨ j = 6 ∨ j = 7 ∨ j = 8 ∨ j = 9 ∨ j = 10 ∨ j = 11 by omega) with rfl | rfl | rfl | rfl | rfl | rfl | rfl | rfl | rfl | rfl | rfl | rfl
  · simp only [d0, X5_account_0, X5_account_1_0, X5_account_1_1, X5_account_1_2, X5_account_1_3, X5_account_1_4, X5_account_1_5, X5_account_1_6, X5_account_1_7, X5_account_1_8, X5_account_1_9, X5_account_1_10, X5_account_1_11, X5_account_64, X5_account_65, X5_account_68, X5_account_71, X5_account_72, X5_account_73, X5_account_76, X5_account_79, X5_account_80, X5_account_81, X5_account_84, X5_account_87, X5_account_88, X5_account_89, X5_account_92, X5_account_95, X5_account_96, X5_account_97, X5_account_100, X5_account_103, X5_account_104, X5_account_105, X5_account_108, X5_account_111, X5_account_112, X5_account_113, X5_account_116, X5_account_119, X5_account_120, X5_account_121, X5_account_124, X5_account_127, X5_account_130, X5_account_131, X5_account_132, X5_account_135, X5_account_138, X5_account_139, X5_account_140, X5_account_143, X5_account_146, X5_account_147, X5_account_148, X5_account_151, X5_account_152, X5_account_153, X5_account_156, X5_account_159, X5_account_160, gz0, gtb (show 2 ≤ 5 by decide) (show 5 < 8 by decide), Option.some.injEq, exists_eq_left', eq_self, okz0, okz1, ht]; exact Iff.rfl
  · simp only [d1, X5_account_0, X5_account_1_0, X5_account_1_1, X5_account_1_2, X5_account_1_3, X5_account_1_4, X5_account_1_5, X5_account_1_6, X5_account_1_7, X5_account_1_8, X5_account_1_9, X5_account_1_10, X5_account_1_11, X5_account_64, X5_account_65, X5_account_68, X5_account_71, X5_account_72, X5_account_73, X5_account_76, X5_account_79, X5_account_80, X5_account_81, X5_account_84, X5_account_87, X5_account_88, X5_account_89, X5_account_92, X5_account_95, X5_account_96, X5_account_97, X5_account_100, X5_account_103, X5_account_104, X5_account_105, X5_account_108, X5_account_111, X5_account_112, X5_account_113, X5_account_116, X5_account_119, X5_account_120, X5_account_121, X5_account_124, X5_account_127, X5_account_130, X5_account_131, X5_account_132, X5_account_135, X5_account_138, X5_account_139, X5_account_140, X5_account_143, X5_account_146, X5_account_147, X5_account_148, X5_account_151, X5_account_152, X5_account_153, X5_account_156, X5_account_159, X5_account_160, gz0, gtb (show 2 ≤ 2 by decide) (show 2 < 8 by decide), Option.some.injEq, exists_eq_left', eq_self, okz0, okz1, ht]; exact Iff.rfl
  · simp only [d2, X5_account_0, X5_account_1_0, X5_account_1_1, X5_account_1_2, X5_account_1_3, X5_account_1_4, X5_account_1_5, X5_account_1_6, X5_account_1_7, X5_account_1_8, X5_account_1_9, X5_account_1_10, X5_account_1_11, X5_account_64, X5_account_65, X5_account_68, X5_account_71, X5_account_72, X5_account_73, X5_account_76, X5_account_79, X5_account_80, X5_account_81, X5_account_84, X5_account_87, X5_account_88, X5_account_89, X5_account_92, X5_account_95, X5_account_96, X5_account_97, X5_account_100, X5_account_103, X5_account_104, X5_account_105, X5_account_108, X5_account_111, X5_account_112, X5_account_113, X5_account_116, X5_account_119, X5_account_120, X5_account_121, X5_account_124, X5_account_127, X5_account_130, X5_account_131, X5_account_132, X5_account_135, X5_account_138, X5_account_139, X5_account_140, X5_account_143, X5_account_146, X5_account_147, X5_account_148, X5_account_151, X5_account_152, X5_account_153, X5_account_156, X5_account_159, X5_account_160, gz0, gtb (show 2 ≤ 4 by decide) (show 4 < 8 by decide), Option.some.injEq, exists_eq_left', eq_self, okz0, okz1, ht]; exact Iff.rfl
  · simp only [d3, X5_account_0, X5_account_1_0, X5_account_1_1, X5_account_1_2, X5_account_1_3, X5_account_1_4, X5_account_1_5, X5_account_1_6, X5_account_1_7, X5_account_1_8, X5_account_1_9, X5_account_1_10, X5_account_1_11, X5_account_64, X5_account_65, X5_account_68, X5_account_71, X5_account_72, X5_account_73, X5_account_76, X5_account_79, X5_account_80, X5_account_81, X5_account_84, X5_account_87, X5_account_88, X5_account_89, X5_account_92, X5_account_95, X5_account_96, X5_account_97, X5_account_100, X5_account_103, X5_account_104, X5_account_105, X5_account_108, X5_account_111, X5_account_112, X5_account_113, X5_account_116, X5_account_119, X5_account_120, X5_account_121, X5_account_124, X5_account_127, X5_account_130, X5_account_131, X5_account_132, X5_account_135, X5_account_138, X5_account_139, X5_account_140, X5_account_143, X5_account_146, X5_account_147, X5_account_148, X5_account_151, X5_account_152, X5_account_153, X5_account_156, X5_account_159, X5_account_160, gz0, gtb (show 2 ≤ 3 by decide) (show 3 < 8 by decide), Option.some.injEq, exists_eq_left', eq_self, okz0, okz1, ht]; exact Iff.rfl
  · simp only [d4, X5_account_0, X5_account_1_0, X5_account_1_1, X5_account_1_2, X5_account_1_3, X5_account_1_4, X5_account_1_5, X5_account_1_6, X5_account_1_7, X5_account_1_8, X5_account_1_9, X5_account_1_10, X5_account_1_11, X5_account_64, X5_account_65, X5_account_68, X5_account_71, X5_account_72, X5_account_73, X5_account_76, X5_account_79, X5_account_80, X5_account_81, X5_account_84, X5_account_87, X5_account_88, X5_account_89, X5_account_92, X5_account_95, X5_account_96, X5_account_97, X5_account_100, X5_account_103, X5_account_104, X5_account_105, X5_account_108, X5_account_111, X5_account_112, X5_account_113, X5_account_116, X5_account_119, X5_account_120, X5_account_121, X5_account_124, X5_account_127, X5_account_130, X5_account_131, X5_account_132, X5_account_135, X5_account_138, X5_account_139, X5_account_140, X5_account_143, X5_account_146, X5_account_147, X5_account_148, X5_account_151, X5_account_152, X5_account_153, X5_account_156, X5_account_159, X5_account_160, gz0, Option.some.injEq, exists_eq_left', eq_self, okz0, okz1, ht, cz0, sw_mealsOfAll hc h8, Kr_v, Kj_v]; exact Iff.rfl
  · simp only [d5, X5_account_0, X5_account_1_0, X5_account_1_1, X5_account_1_2, X5_account_1_3, X5_account_1_4, X5_account_1_5, X5_account_1_6, X5_account_1_7, X5_account_1_8, X5_account_1_9, X5_account_1_10, X5_account_1_11, X5_account_64, X5_account_65, X5_account_68, X5_account_71, X5_account_72, X5_account_73, X5_account_76, X5_account_79, X5_account_80, X5_account_81, X5_account_84, X5_account_87, X5_account_88, X5_account_89, X5_account_92, X5_account_95, X5_account_96, X5_account_97, X5_account_100, X5_account_103, X5_account_104, X5_account_105, X5_account_108, X5_account_111, X5_account_112, X5_account_113, X5_account_116, X5_account_119, X5_account_120, X5_account_121, X5_account_124, X5_account_127, X5_account_130, X5_account_131, X5_account_132, X5_account_135, X5_account_138, X5_account_139, X5_account_140, X5_account_143, X5_account_146, X5_account_147, X5_account_148, X5_account_151, X5_account_152, X5_account_153, X5_account_156, X5_account_159, X5_account_160, gz0, gtb (show 2 ≤ 6 by decide) (show 6 < 8 by decide), Option.some.injEq, exists_eq_left', eq_self, okz0, okz1, ht]; exact Iff.rfl
  · simp only [d6, X5_account_0, X5_account_1_0, X5_account_1_1, X5_account_1_2, X5_account_1_3, X5_account_1_4, X5_account_1_5, X5_account_1_6, X5_account_1_7, X5_account_1_8, X5_account_1_9, X5_account_1_10, X5_account_1_11, X5_account_64, X5_account_65, X5_account_68, X5_account_71, X5_account_72, X5_account_73, X5_account_76, X5_account_79, X5_account_80, X5_account_81, X5_account_84, X5_account_87, X5_account_88, X5_account_89, X5_account_92, X5_account_95, X5_account_96, X5_account_97, X5_account_100, X5_account_103, X5_account_104, X5_account_105, X5_account_108, X5_account_111, X5_account_112, X5_account_113, X5_account_116, X5_account_119, X5_account_120, X5_account_121, X5_account_124, X5_account_127, X5_account_130, X5_account_131, X5_account_132, X5_account_135, X5_account_138, X5_account_139, X5_account_140, X5_account_143, X5_account_146, X5_account_147, X5_account_148, X5_account_151, X5_account_152, X5_account_153, X5_account_156, X5_account_159, X5_account_160, gz0, Option.some.injEq, exists_eq_left', eq_self, okz0, okz1, ht, cz0, sw_heldLadles hc h8, Kr_v, Kj_v]; exact Iff.rfl
  · simp only [d7, X5_account_0, X5_account_1_0, X5_account_1_1, X5_account_1_2, X5_account_1_3, X5_account_1_4, X5_account_1_5, X5_account_1_6, X5_account_1_7, X5_account_1_8, X5_account_1_9, X5_account_1_10, X5_account_1_11, X5_account_64, X5_account_65, X5_account_68, X5_account_71, X5_account_72, X5_account_73, X5_account_76, X5_account_79, X5_account_80, X5_account_81, X5_account_84, X5_account_87, X5_account_88, X5_account_89, X5_account_92, X5_account_95, X5_account_96, X5_account_97, X5_account_100, X5_account_103, X5_account_104, X5_account_105, X5_account_108, X5_account_111, X5_account_112, X5_account_113, X5_account_116, X5_account_119, X5_account_120, X5_account_121, X5_account_124, X5_account_127, X5_account_130, X5_account_131, X5_account_132, X5_account_135, X5_account_138, X5_account_139, X5_account_140, X5_account_143, X5_account_146, X5_account_147, X5_account_148, X5_account_151, X5_account_152, X5_account_153, X5_account_156, X5_account_159, X5_account_160, gz0, Option.some.injEq, exists_eq_left', eq_self, okz0, okz1, ht, cz0, sw_setWithLeave hc h8, sp_bitCount, Kr_v, Kj_v]; exact Iff.rfl
  · simp only [d8, X5_account_0, X5_account_1_0, X5_account_1_1, X5_account_1_2, X5_account_1_3, X5_account_1_4, X5_account_1_5, X5_account_1_6, X5_account_1_7, X5_account_1_8, X5_account_1_9, X5_account_1_10, X5_account_1_11, X5_account_64, X5_account_65, X5_account_68, X5_account_71, X5_account_72, X5_account_73, X5_account_76, X5_account_79, X5_account_80, X5_account_81, X5_account_84, X5_account_87, X5_account_88, X5_account_89, X5_account_92, X5_account_95, X5_account_96, X5_account_97, X5_account_100, X5_account_103, X5_account_104, X5_account_105, X5_account_108, X5_account_111, X5_account_112, X5_account_113, X5_account_116, X5_account_119, X5_account_120, X5_account_121, X5_account_124, X5_account_127, X5_account_130, X5_account_131, X5_account_132, X5_account_135, X5_account_138, X5_account_139, X5_account_140, X5_account_143, X5_account_146, X5_account_147, X5_account_148, X5_account_151, X5_account_152, X5_account_153, X5_account_156, X5_account_159, X5_account_160, gz0, Option.some.injEq, exists_eq_left', eq_self, okz0, okz1, ht, cz0, sw_askers hc h8, Kr_v, Kj_v]; exact Iff.rfl
  · simp only [d9, X5_account_0, X5_account_1_0, X5_account_1_1, X5_account_1_2, X5_account_1_3, X5_account_1_4, X5_account_1_5, X5_account_1_6, X5_account_1_7, X5_account_1_8, X5_account_1_9, X5_account_1_10, X5_account_1_11, X5_account_64, X5_account_65, X5_account_68, X5_account_71, X5_account_72, X5_account_73, X5_account_76, X5_account_79, X5_account_80, X5_account_81, X5_account_84, X5_account_87, X5_account_88, X5_account_89, X5_account_92, X5_account_95, X5_account_96, X5_account_97, X5_account_100, X5_account_103, X5_account_104, X5_account_105, X5_account_108, X5_account_111, X5_account_112, X5_account_113, X5_account_116, X5_account_119, X5_account_120, X5_account_121, X5_account_124, X5_account_127, X5_account_130, X5_account_131, X5_account_132, X5_account_135, X5_account_138, X5_account_139, X5_account_140, X5_account_143, X5_account_146, X5_account_147, X5_account_148, X5_account_151, X5_account_152, X5_account_153, X5_account_156, X5_account_159, X5_account_160, gz0, gtb (show 2 ≤ 7 by decide) (show 7 < 8 by decide), Option.some.injEq, exists_eq_left', eq_self, okz0, okz1, ht]; exact Iff.rfl
  · simp only [d10, X5_account_0, X5_account_1_0, X5_account_1_1, X5_account_1_2, X5_account_1_3, X5_account_1_4, X5_account_1_5, X5_account_1_6, X5_account_1_7, X5_account_1_8, X5_account_1_9, X5_account_1_10, X5_account_1_11, X5_account_64, X5_account_65, X5_account_68, X5_account_71, X5_account_72, X5_account_73, X5_account_76, X5_account_79, X5_account_80, X5_account_81, X5_account_84, X5_account_87, X5_account_88, X5_account_89, X5_account_92, X5_account_95, X5_account_96, X5_account_97, X5_account_100, X5_account_103, X5_account_104, X5_account_105, X5_account_108, X5_account_111, X5_account_112, X5_account_113, X5_account_116, X5_account_119, X5_account_120, X5_account_121, X5_account_124, X5_account_127, X5_account_130, X5_account_131, X5_account_132, X5_account_135, X5_account_138, X5_account_139, X5_account_140, X5_account_143, X5_account_146, X5_account_147, X5_account_148, X5_account_151, X5_account_152, X5_account_153, X5_account_156, X5_account_159, X5_account_160, gz5, Option.some.injEq, exists_eq_left', eq_self, okz0, okz1, ht]; exact Iff.rfl
  · simp only [d11, X5_account_0, X5_account_1_0, X5_account_1_1, X5_account_1_2, X5_account_1_3, X5_account_1_4, X5_account_1_5, X5_account_1_6, X5_account_1_7, X5_account_1_8, X5_account_1_9, X5_account_1_10, X5_account_1_11, X5_account_64, X5_account_65, X5_account_68, X5_account_71, X5_account_72, X5_account_73, X5_account_76, X5_account_79, X5_account_80, X5_account_81, X5_account_84, X5_account_87, X5_account_88, X5_account_89, X5_account_92, X5_account_95, X5_account_96, X5_account_97, X5_account_100, X5_account_103, X5_account_104, X5_account_105, X5_account_108, X5_account_111, X5_account_112, X5_account_113, X5_account_116, X5_account_119, X5_account_120, X5_account_121, X5_account_124, X5_account_127, X5_account_130, X5_account_131, X5_account_132, X5_account_135, X5_account_138, X5_account_139, X5_account_140, X5_account_143, X5_account_146, X5_account_147, X5_account_148, X5_account_151, X5_account_152, X5_account_153, X5_account_156, X5_account_159, X5_account_160, gz7, gzX (show 1 ≤ 1 by decide) (show 1 < 4 by decide), Option.some.injEq, exists_eq_left', eq_self, okz0, okz1, ht]; exact Iff.rfl
/-- a letter written: the letters and how many -/
def wrL (v : Int32) (s : (Nat → Int32) × Nat) : (Nat → Int32) × Nat := (upd s.1 s.2 v, s.2 + 1)
theorem sw_write {m : Nat} (hZ : Z 11 = nI m) (hm : m < 40) {v : Int32} (hv : narrow .char (.int v) = .int v) : Ev X 91 0 [some (.ref x), some (.int v)] [] (SW w x T pa be Z P C D R Lt) n 0 0 Q ↔ Q (.inl none) (SW w x T pa be (upd Z 11 (nI (m + 1))) P C D R (upd Lt m v)) n := by
  have h40 : nI m < 40 := show nI m < nI 40 from nI_lt hm (by decide)
  simp only [X5_write_0, X5_write_1, X5_write_4, X5_write_6, X5_write_9, X5_write_10, X5_write_13, X5_write_14, X5_write_17, X5_write_18, X5_write_19, X5_write_20, X5_write_21, X5_write_24, X5_write_25, X5_write_26, X5_write_29, gz10, gz11, Option.some.injEq, exists_eq_left', eq_self, okz0, okz1, ht, hZ, h40, if_true, hv, szL hm, pz (show 11 = 3 ∨ 11 = 5 ∨ 11 = 8 ∨ 11 = 11 by decide) (fun q => absurd q (by decide)), nI_1]
/-- the letters of a seat -/
def ltH (v : Int32) : Int32 := (LBY.getD 1 []).getD v.toNatClampNeg 0
def seL (S : Nat → Nat → Int32) (k : Nat) (b : Bool) (s : (Nat → Int32) × Nat) : (Nat → Int32) × Nat :=
  let a := wrL (ltH (S k 3)) (wrL (if S k 0 = 0 then 108 else 114) (wrL (nI (48 + k)) s))
  if b then wrL 33 a else a
theorem chr_dig : ∀ k, k < 8 → (((48 : Int32) + nI k).toUInt32 % 65536).toInt32 = nI (48 + k) ∧ narrow .char (.int (nI (48 + k))) = .int (nI (48 + k)) := by decide +kernel
theorem chr_how : ∀ h, h < 5 → ((((LBY.getD 1 []).getD h 0) &&& 255).toUInt32 % 65536).toInt32 = (LBY.getD 1 []).getD h 0 ∧ okr (some .char) ((LBY.getD 1 []).getD h 0) = true ∧ narrow .char (.int ((LBY.getD 1 []).getD h 0)) = .int ((LBY.getD 1 []).getD h 0) := by decide +kernel
theorem sw_writeSeat (hX : LitX X) {m k h : Nat} (hZ : Z 11 = nI m) (hm : m + 4 ≤ 40) (hk : k < 8) (hh : (T 0).2.2 k 3 = nI h) (h5 : h < 5) {b : Bool} : Ev X 92 0 [some (.ref x), some (.int (nI k)), some (.int (if b then 1 else 0)), none] [] (SW w x T pa be Z P C D R Lt) n 0 0 Q ↔ Q (.inl none) (SW w x T pa be (upd Z 11 (nI (seL (T 0).2.2 k b (Lt, m)).2)) P C D R (seL (T 0).2.2 k b (Lt, m)).1) n := by
  obtain ⟨c1, c2⟩ := chr_dig k hk
  obtain ⟨c3, c4, c5⟩ := chr_how h h5
  have e1 : (1 : Int32) = 0 ↔ False := by decide
  have el : ltH ((T 0).2.2 k 3) = (LBY.getD 1 []).getD h 0 := by unfold ltH; rw [hh, nI_clamp (by omega)]
  have n108 : narrow .char (.int 108) = .int 108 := by decide
  have n114 : narrow .char (.int 114) = .int 114 := by decide
  have n33 : narrow .char (.int 33) = .int 33 := by decide
  have L1 := lit_some hX (show 1 < 8 by decide)
  have At := fun {w n Q} => sp_litAt (X := X) (w := w) (n := n) (Q := Q) hX (show 1 < 8 by decide) (show h < (LBY.getD 1 []).length from h5) c3 c4
  have Z1 : upd Z 11 (nI (m + 1)) 11 = nI (m + 1) := upd_same
  have Z2 : upd Z 11 (nI (m + 1 + 1)) 11 = nI (m + 2) := upd_same
  have Z3 : upd Z 11 (nI (m + 2 + 1)) 11 = nI (m + 3) := upd_same
  unfold seL
  rw [el]
  by_cases a : (T 0).2.2 k 0 = 0
  · cases b with
    | true =>
      simp only [X5_writeSeat_0, X5_writeSeat_1, X5_writeSeat_4, X5_writeSeat_7, X5_writeSeat_8, X5_writeSeat_9, X5_writeSeat_10, X5_writeSeat_11, X5_writeSeat_13, X5_writeSeat_14, X5_writeSeat_15, gz0, gtb0, gtbq hk, gtbs hk (show 3 < 9 by decide), gtbs hk (show 0 < 9 by decide), Option.some.injEq, exists_eq_left', eq_self, okz0, okz1, ht, c1, X5_writeSeat_16 cz, sw_write hZ (show m < 40 by omega) c2, Kr_n, Kj_n, X5_writeSeat_19, X5_writeSeat_20, X5_writeSeat_21, X5_writeSeat_24, a, if_true, X5_writeSeat_27, X5_writeSeat_29, X5_writeSeat_34 cz, sw_write Z1 (show m + 1 < 40 by omega) n108, upd_upd, X5_writeSeat_37, X5_writeSeat_38, X5_writeSeat_41, X5_writeSeat_42, hh, X5_writeSeat_45 L1, At, Kr_v, Kj_v, X5_writeSeat_48 cz, sw_write Z2 (show m + 2 < 40 by omega) c5, X5_writeSeat_51, X5_writeSeat_52, e1, if_false, X5_writeSeat_55, X5_writeSeat_56, X5_writeSeat_58 cz, sw_write Z3 (show m + 3 < 40 by omega) n33, X5_writeSeat_61, wrL]
    | false =>
      simp only [X5_writeSeat_0, X5_writeSeat_1, X5_writeSeat_4, X5_writeSeat_7, X5_writeSeat_8, X5_writeSeat_9, X5_writeSeat_10, X5_writeSeat_11, X5_writeSeat_13, X5_writeSeat_14, X5_writeSeat_15, gz0, gtb0, gtbq hk, gtbs hk (show 3 < 9 by decide), gtbs hk (show 0 < 9 by decide), Option.some.injEq, exists_eq_left', eq_self, okz0, okz1, ht, c1, X5_writeSeat_16 cz, sw_write hZ (show m < 40 by omega) c2, Kr_n, Kj_n, X5_writeSeat_19, X5_writeSeat_20, X5_writeSeat_21, X5_writeSeat_24, a, if_true, X5_writeSeat_27, X5_writeSeat_29, X5_writeSeat_34 cz, sw_write Z1 (show m + 1 < 40 by omega) n108, upd_upd, X5_writeSeat_37, X5_writeSeat_38, X5_writeSeat_41, X5_writeSeat_42, hh, X5_writeSeat_45 L1, At, Kr_v, Kj_v, X5_writeSeat_48 cz, sw_write Z2 (show m + 2 < 40 by omega) c5, X5_writeSeat_51, X5_writeSeat_52, Bool.false_eq_true, if_false, X5_writeSeat_61, wrL]
  · cases b with
    | true =>
      simp only [X5_writeSeat_0, X5_writeSeat_1, X5_writeSeat_4, X5_writeSeat_7, X5_writeSeat_8, X5_writeSeat_9, X5_writeSeat_10, X5_writeSeat_11, X5_writeSeat_13, X5_writeSeat_14, X5_writeSeat_15, gz0, gtb0, gtbq hk, gtbs hk (show 3 < 9 by decide), gtbs hk (show 0 < 9 by decide), Option.some.injEq, exists_eq_left', eq_self, okz0, okz1, ht, c1, X5_writeSeat_16 cz, sw_write hZ (show m < 40 by omega) c2, Kr_n, Kj_n, X5_writeSeat_19, X5_writeSeat_20, X5_writeSeat_21, X5_writeSeat_24, a, if_true, X5_writeSeat_32, X5_writeSeat_34 cz, sw_write Z1 (show m + 1 < 40 by omega) n114, upd_upd, X5_writeSeat_37, X5_writeSeat_38, X5_writeSeat_41, X5_writeSeat_42, hh, X5_writeSeat_45 L1, At, Kr_v, Kj_v, X5_writeSeat_48 cz, sw_write Z2 (show m + 2 < 40 by omega) c5, X5_writeSeat_51, X5_writeSeat_52, e1, if_false, X5_writeSeat_55, X5_writeSeat_56, X5_writeSeat_58 cz, sw_write Z3 (show m + 3 < 40 by omega) n33, X5_writeSeat_61, wrL]
    | false =>
      simp only [X5_writeSeat_0, X5_writeSeat_1, X5_writeSeat_4, X5_writeSeat_7, X5_writeSeat_8, X5_writeSeat_9, X5_writeSeat_10, X5_writeSeat_11, X5_writeSeat_13, X5_writeSeat_14, X5_writeSeat_15, gz0, gtb0, gtbq hk, gtbs hk (show 3 < 9 by decide), gtbs hk (show 0 < 9 by decide), Option.some.injEq, exists_eq_left', eq_self, okz0, okz1, ht, c1, X5_writeSeat_16 cz, sw_write hZ (show m < 40 by omega) c2, Kr_n, Kj_n, X5_writeSeat_19, X5_writeSeat_20, X5_writeSeat_21, X5_writeSeat_24, a, if_true, X5_writeSeat_32, X5_writeSeat_34 cz, sw_write Z1 (show m + 1 < 40 by omega) n114, upd_upd, X5_writeSeat_37, X5_writeSeat_38, X5_writeSeat_41, X5_writeSeat_42, hh, X5_writeSeat_45 L1, At, Kr_v, Kj_v, X5_writeSeat_48 cz, sw_write Z2 (show m + 2 < 40 by omega) c5, X5_writeSeat_51, X5_writeSeat_52, Bool.false_eq_true, if_false, X5_writeSeat_61, wrL]
theorem seL_le {S : Nat → Nat → Int32} {k : Nat} {b : Bool} {s : (Nat → Int32) × Nat} : (seL S k b s).2 ≤ s.2 + 4 ∧ s.2 ≤ (seL S k b s).2 := by
  unfold seL wrL
  cases b <;> simp <;> omega
/-- the letters of the seat k in the line -/
def lnL (S : Nat → Nat → Int32) (st : Int32) (k : Nat) (s : (Nat → Int32) × Nat) : (Nat → Int32) × Nat := seL S k (decide ((st >>> (nI k &&& 31)) &&& 1 = 1)) (if k = 0 then s else wrL 32 s)
theorem lnL_le {S : Nat → Nat → Int32} {st : Int32} : ∀ (k : Nat) (Lt : Nat → Int32), (itr (lnL S st) k (Lt, 0)).2 ≤ 5 * k := by
  intro k Lt
  induction k with
  | zero => exact Nat.le_refl 0
  | succ k ih =>
    rw [itr_s]
    unfold lnL
    have h := (seL_le (S := S) (k := k) (b := decide ((st >>> (nI k &&& 31)) &&& 1 = 1)) (s := if k = 0 then itr (lnL S st) k (Lt, 0) else wrL 32 (itr (lnL S st) k (Lt, 0)))).1
    have h2 : (if k = 0 then itr (lnL S st) k (Lt, 0) else wrL 32 (itr (lnL S st) k (Lt, 0))).2 ≤ (itr (lnL S st) k (Lt, 0)).2 + 1 := by
      split
      · omega
      · exact Nat.le_refl _
    have h3 : itr (fun k s => seL S k (decide ((st >>> (nI k &&& 31)) &&& 1 = 1)) (if k = 0 then s else wrL 32 s)) k (Lt, 0) = itr (lnL S st) k (Lt, 0) := rfl
    rw [h3]
    omega
theorem sw_line (hX : LitX X) (hG : ∀ j, j < cnt → seatI cnt ((T 0).2.1 j)) (hc : (T 0).1 2 = nI cnt) (h8 : cnt ≤ 8) (hh : ∀ k, k < cnt → ∃ h : Nat, h < 5 ∧ (T 0).2.2 k 3 = nI h) : Ev X 93 0 [some (.ref x), none, none] [] (SW w x T pa be Z P C D R Lt) n 0 0 Q ↔ Q (.inl (some (.int (nI (itr (lnL (T 0).2.2 (stuI cnt (T 0).1 (T 0).2.1 (T 0).2.2)) cnt (Lt, 0)).2)))) (SW w x T pa be (upd Z 11 (nI (itr (lnL (T 0).2.2 (stuI cnt (T 0).1 (T 0).2.1 (T 0).2.2)) cnt (Lt, 0)).2)) P C D R (itr (lnL (T 0).2.2 (stuI cnt (T 0).1 (T 0).2.1 (T 0).2.2)) cnt (Lt, 0)).1) n := by
  generalize hst : stuI cnt (T 0).1 (T 0).2.1 (T 0).2.2 = st
  have n32 : narrow .char (.int 32) = .int 32 := by decide
  have e1 : (1 : Int32) = 0 ↔ False := by decide
  have h := loop_upI (P := fun k (s : (Nat → Int32) × Nat) => Ev X 93 15 [some (.ref x), some (.int st), some (.int (nI k))] [] (SW w x T pa be (upd Z 11 (nI s.2)) P C D R s.1) n 0 0 Q) (f := lnL (T 0).2.2 st) (n := cnt) (a0 := (Lt, 0)) (I := fun k s => s.2 ≤ 5 * k) (Nat.le_refl 0) (fun k s hk hs => by
    unfold lnL
    have h := (seL_le (S := (T 0).2.2) (k := k) (b := decide ((st >>> (nI k &&& 31)) &&& 1 = 1)) (s := if k = 0 then s else wrL 32 s)).1
    have h2 : (if k = 0 then s else wrL 32 s).2 ≤ s.2 + 1 := by
      split
      · omega
      · exact Nat.le_refl _
    omega) (fun k s hk hs => by
    obtain ⟨hq, hq5, hhq⟩ := hh k hk
    have hlt : nI k < nI cnt := nI_lt hk (by omega)
    have eb : (if (st >>> (nI k &&& 31)) &&& 1 = 1 then (1 : Int32) else 0) = (if decide ((st >>> (nI k &&& 31)) &&& 1 = 1) = true then 1 else 0) := by simp only [decide_eq_true_eq]
    rw [X5_line_15]
    unfold lnL
    rcases Nat.eq_zero_or_pos k with k0 | k0
    · have hz : ¬ 0 < nI k := by rw [k0]; decide
      rw [if_pos k0]
      have hZs : upd Z 11 (nI s.2) 11 = nI s.2 := upd_same
      have ws := fun {w n Q b} => sw_writeSeat (X := X) (w := w) (n := n) (Q := Q) (x := x) (T := T) (pa := pa) (be := be) (P := P) (C := C) (D := D) (R := R) (Lt := s.1) (b := b) hX hZs (show s.2 + 4 ≤ 40 by omega) (show k < 8 by omega) hhq hq5
      by_cases bb : (st >>> (nI k &&& 31)) &&& 1 = 1
      · have w1 := fun {w n Q} => ws (w := w) (n := n) (Q := Q) (b := true)
        simp only [if_true] at w1
        simp only [X5_line_0, X5_line_1, X5_line_4, X5_line_7, X5_line_8, X5_line_9, X5_line_10, X5_line_13, X5_line_14, X5_line_16, X5_line_17, X5_line_20, X5_line_23, X5_line_26, X5_line_27, X5_line_30, X5_line_31, X5_line_33, X5_line_36, X5_line_37, X5_line_38, X5_line_39, X5_line_40, X5_line_41, X5_line_42, X5_line_43, X5_line_44, X5_line_47, X5_line_48, X5_line_51, X5_line_52, X5_line_55, X5_line_58, X5_line_61, X5_line_62, X5_line_65, gz0, gtb (show 2 ≤ 2 by decide) (show 2 < 8 by decide), Option.some.injEq, exists_eq_left', eq_self, okz0, okz1, ht, hc, hlt, if_true, hz, if_false, cz, w1, Kr_n, Kj_n, nI_1, upd_upd, bb, decide_true]
      · have w1 := fun {w n Q} => ws (w := w) (n := n) (Q := Q) (b := false)
        simp only [Bool.false_eq_true, if_false] at w1
        simp only [X5_line_0, X5_line_1, X5_line_4, X5_line_7, X5_line_8, X5_line_9, X5_line_10, X5_line_13, X5_line_14, X5_line_16, X5_line_17, X5_line_20, X5_line_23, X5_line_26, X5_line_27, X5_line_30, X5_line_31, X5_line_33, X5_line_36, X5_line_37, X5_line_38, X5_line_39, X5_line_40, X5_line_41, X5_line_42, X5_line_43, X5_line_44, X5_line_47, X5_line_48, X5_line_51, X5_line_52, X5_line_55, X5_line_58, X5_line_61, X5_line_62, X5_line_65, gz0, gtb (show 2 ≤ 2 by decide) (show 2 < 8 by decide), Option.some.injEq, exists_eq_left', eq_self, okz0, okz1, ht, hc, hlt, if_true, hz, if_false, cz, w1, Kr_n, Kj_n, nI_1, upd_upd, bb, decide_false]
    · have hz : 0 < nI k := show nI 0 < nI k from nI_lt k0 (by omega)
      rw [if_neg (by omega)]
      have hZ0 : upd Z 11 (nI s.2) 11 = nI s.2 := upd_same
      have hZs : upd Z 11 (nI (s.2 + 1)) 11 = nI (s.2 + 1) := upd_same
      have ws := fun {w n Q b} => sw_writeSeat (X := X) (w := w) (n := n) (Q := Q) (x := x) (T := T) (pa := pa) (be := be) (P := P) (C := C) (D := D) (R := R) (Lt := upd s.1 s.2 32) (b := b) hX hZs (show s.2 + 1 + 4 ≤ 40 by omega) (show k < 8 by omega) hhq hq5
      by_cases bb : (st >>> (nI k &&& 31)) &&& 1 = 1
      · have w1 := fun {w n Q} => ws (w := w) (n := n) (Q := Q) (b := true)
        simp only [if_true] at w1
        simp only [X5_line_0, X5_line_1, X5_line_4, X5_line_7, X5_line_8, X5_line_9, X5_line_10, X5_line_13, X5_line_14, X5_line_16, X5_line_17, X5_line_20, X5_line_23, X5_line_26, X5_line_27, X5_line_30, X5_line_31, X5_line_33, X5_line_36, X5_line_37, X5_line_38, X5_line_39, X5_line_40, X5_line_41, X5_line_42, X5_line_43, X5_line_44, X5_line_47, X5_line_48, X5_line_51, X5_line_52, X5_line_55, X5_line_58, X5_line_61, X5_line_62, X5_line_65, gz0, gtb (show 2 ≤ 2 by decide) (show 2 < 8 by decide), Option.some.injEq, exists_eq_left', eq_self, okz0, okz1, ht, hc, hlt, if_true, hz, if_false, cz, sw_write hZ0 (show s.2 < 40 by omega) n32, w1, Kr_n, Kj_n, nI_1, upd_upd, bb, decide_true, wrL]
      · have w1 := fun {w n Q} => ws (w := w) (n := n) (Q := Q) (b := false)
        simp only [Bool.false_eq_true, if_false] at w1
        simp only [X5_line_0, X5_line_1, X5_line_4, X5_line_7, X5_line_8, X5_line_9, X5_line_10, X5_line_13, X5_line_14, X5_line_16, X5_line_17, X5_line_20, X5_line_23, X5_line_26, X5_line_27, X5_line_30, X5_line_31, X5_line_33, X5_line_36, X5_line_37, X5_line_38, X5_line_39, X5_line_40, X5_line_41, X5_line_42, X5_line_43, X5_line_44, X5_line_47, X5_line_48, X5_line_51, X5_line_52, X5_line_55, X5_line_58, X5_line_61, X5_line_62, X5_line_65, gz0, gtb (show 2 ≤ 2 by decide) (show 2 < 8 by decide), Option.some.injEq, exists_eq_left', eq_self, okz0, okz1, ht, hc, hlt, if_true, hz, if_false, cz, sw_write hZ0 (show s.2 < 40 by omega) n32, w1, Kr_n, Kj_n, nI_1, upd_upd, bb, decide_false, wrL])
  obtain ⟨h, -⟩ := h
  have z0 : nI 0 = 0 := rfl
  simp only [z0] at h
  simp only [X5_line_0, X5_line_1, gz0, Option.some.injEq, exists_eq_left', eq_self, okz0, okz1, ht, X5_line_4, sw_stuckOf hG hc h8, hst, Kr_v, Kj_v, X5_line_7, X5_line_8, X5_line_9, X5_line_10, pz (show 11 = 3 ∨ 11 = 5 ∨ 11 = 8 ∨ 11 = 11 by decide) (fun q => absurd q (by decide)), X5_line_13, X5_line_14]
  refine h.trans ?_
  simp only [X5_line_0, X5_line_1, X5_line_4, X5_line_7, X5_line_8, X5_line_9, X5_line_10, X5_line_13, X5_line_14, X5_line_15, X5_line_16, X5_line_17, X5_line_20, X5_line_23, X5_line_26, X5_line_27, X5_line_30, X5_line_31, X5_line_33, X5_line_36, X5_line_37, X5_line_38, X5_line_39, X5_line_40, X5_line_41, X5_line_42, X5_line_43, X5_line_44, X5_line_47, X5_line_48, X5_line_51, X5_line_52, X5_line_55, X5_line_58, X5_line_61, X5_line_62, X5_line_65, gz0, gz11, gtb (show 2 ≤ 2 by decide) (show 2 < 8 by decide), Option.some.injEq, exists_eq_left', eq_self, okz0, okz1, ht, hc, Int32.lt_irrefl, if_false, upd_same]
end ACC
