/-! ===== the law: how a turn ends ===== -/
section TLS
variable {X : Cxt} {w : Wld} {n : Option Nat} {Q : (Option Value ⊕ String) → Wld → Option Nat → Prop} {x c sl : Nat} {T : Nat → Tb} {pa : Nat → Nat} {be : Nat} {Z P C D R Lt V N : Nat → Int32} {A : Nat → Nat → Int32} {l d : Nat → Value} {x5 k b : Int32} {l7 l8 : Option Value}
theorem lg_self {a : Int64} : lg_cmp a a = 0 := by
  unfold lg_cmp
  simp
theorem fw_thrown : Ev X 30 0 [some (.ref (x + 139))] [] (FW w x T pa be Z P C D R Lt V N A l d) n 0 0 Q ↔ Q (.inl (some (.int (V 19)))) (FW w x T pa be Z P C D R Lt V N A l d) n := by
  rw [FW_M]
  exact mw_thrown
/-- case 0 -/
theorem tl_0 (hk : V 19 = k) (hl : k = 0 → l 0 = .long b.toInt64) (h1 : c ≤ 603072) (h2 : sl ≤ 7219306) (H : Ev X 223 1853 [some (.ref X.2.2.2.2.1), some (.ref x), some (.ref (x + 139)), some (.ref (x + 148)), some (.ref (x + 149)), some (.int x5), some (.int k), some (.int b), l8] [] (FW w x T pa be Z P C D R Lt V N A l d) n c sl Q) : Ev X 223 247 [some (.ref X.2.2.2.2.1), some (.ref x), some (.ref (x + 139)), some (.ref (x + 148)), some (.ref (x + 149)), some (.int x5), some (.int k), l7, l8] [.int b] (FW w x T pa be Z P C D R Lt V N A l d) n c sl Q := by
  refine L_law_247.mpr (L_law_249.mpr ((L_law_250 fw_m (by omega) (by omega)).mpr (fw_thrown.mpr ?_)))
  refine L_law_253.mpr (L_law_255.mpr ?_)
  rw [if_pos hk]
  refine L_law_260.mpr (L_law_262.mpr ?_)
  by_cases c0 : k = 0
  · rw [if_pos c0]
    refine L_law_265.mpr (L_law_266.mpr (L_law_267.mpr ⟨_, fw_go (hl c0), L_law_268.mpr (L_law_270.mpr (L_law_271.mpr (L_law_272.mpr ?_)))⟩))
    rw [if_pos lg_self]
    exact L_law_277.mpr H
  · rw [if_neg c0]
    exact L_law_277.mpr H
/-- case 1 -/
theorem tl_1 (hk : V 19 = k) (hl : k = 0 → l 0 = .long b.toInt64) (h1 : c ≤ 603072) (h2 : sl ≤ 7219306) (H : Ev X 223 1853 [some (.ref X.2.2.2.2.1), some (.ref x), some (.ref (x + 139)), some (.ref (x + 148)), some (.ref (x + 149)), some (.int x5), some (.int k), some (.int b), l8] [] (FW w x T pa be Z P C D R Lt V N A l d) n c sl Q) : Ev X 223 291 [some (.ref X.2.2.2.2.1), some (.ref x), some (.ref (x + 139)), some (.ref (x + 148)), some (.ref (x + 149)), some (.int x5), some (.int k), l7, l8] [.int b] (FW w x T pa be Z P C D R Lt V N A l d) n c sl Q := by
  refine L_law_291.mpr (L_law_293.mpr ((L_law_294 fw_m (by omega) (by omega)).mpr (fw_thrown.mpr ?_)))
  refine L_law_297.mpr (L_law_299.mpr ?_)
  rw [if_pos hk]
  refine L_law_304.mpr (L_law_306.mpr ?_)
  by_cases c0 : k = 0
  · rw [if_pos c0]
    refine L_law_309.mpr (L_law_310.mpr (L_law_311.mpr ⟨_, fw_go (hl c0), L_law_312.mpr (L_law_314.mpr (L_law_315.mpr (L_law_316.mpr ?_)))⟩))
    rw [if_pos lg_self]
    exact L_law_321.mpr H
  · rw [if_neg c0]
    exact L_law_321.mpr H
/-- case 2 -/
theorem tl_2 (hk : V 19 = k) (hl : k = 0 → l 0 = .long b.toInt64) (h1 : c ≤ 603072) (h2 : sl ≤ 7219306) (H : Ev X 223 1853 [some (.ref X.2.2.2.2.1), some (.ref x), some (.ref (x + 139)), some (.ref (x + 148)), some (.ref (x + 149)), some (.int x5), some (.int k), some (.int b), l8] [] (FW w x T pa be Z P C D R Lt V N A l d) n c sl Q) : Ev X 223 359 [some (.ref X.2.2.2.2.1), some (.ref x), some (.ref (x + 139)), some (.ref (x + 148)), some (.ref (x + 149)), some (.int x5), some (.int k), l7, l8] [.int b] (FW w x T pa be Z P C D R Lt V N A l d) n c sl Q := by
  refine L_law_359.mpr (L_law_361.mpr ((L_law_362 fw_m (by omega) (by omega)).mpr (fw_thrown.mpr ?_)))
  refine L_law_365.mpr (L_law_367.mpr ?_)
  rw [if_pos hk]
  refine L_law_372.mpr (L_law_374.mpr ?_)
  by_cases c0 : k = 0
  · rw [if_pos c0]
    refine L_law_377.mpr (L_law_378.mpr (L_law_379.mpr ⟨_, fw_go (hl c0), L_law_380.mpr (L_law_382.mpr (L_law_383.mpr (L_law_384.mpr ?_)))⟩))
    rw [if_pos lg_self]
    exact L_law_389.mpr H
  · rw [if_neg c0]
    exact L_law_389.mpr H
/-- case 3 -/
theorem tl_3 (hk : V 19 = k) (hl : k = 0 → l 0 = .long b.toInt64) (h1 : c ≤ 603072) (h2 : sl ≤ 7219306) (H : Ev X 223 1853 [some (.ref X.2.2.2.2.1), some (.ref x), some (.ref (x + 139)), some (.ref (x + 148)), some (.ref (x + 149)), some (.int x5), some (.int k), some (.int b), l8] [] (FW w x T pa be Z P C D R Lt V N A l d) n c sl Q) : Ev X 223 439 [some (.ref X.2.2.2.2.1), some (.ref x), some (.ref (x + 139)), some (.ref (x + 148)), some (.ref (x + 149)), some (.int x5), some (.int k), l7, l8] [.int b] (FW w x T pa be Z P C D R Lt V N A l d) n c sl Q := by
  refine L_law_439.mpr (L_law_441.mpr ((L_law_442 fw_m (by omega) (by omega)).mpr (fw_thrown.mpr ?_)))
  refine L_law_445.mpr (L_law_447.mpr ?_)
  rw [if_pos hk]
  refine L_law_452.mpr (L_law_454.mpr ?_)
  by_cases c0 : k = 0
  · rw [if_pos c0]
    refine L_law_457.mpr (L_law_458.mpr (L_law_459.mpr ⟨_, fw_go (hl c0), L_law_460.mpr (L_law_462.mpr (L_law_463.mpr (L_law_464.mpr ?_)))⟩))
    rw [if_pos lg_self]
    exact L_law_469.mpr H
  · rw [if_neg c0]
    exact L_law_469.mpr H
/-- case 4 -/
theorem tl_4 (hk : V 19 = k) (hl : k = 0 → l 0 = .long b.toInt64) (h1 : c ≤ 603072) (h2 : sl ≤ 7219306) (H : Ev X 223 1853 [some (.ref X.2.2.2.2.1), some (.ref x), some (.ref (x + 139)), some (.ref (x + 148)), some (.ref (x + 149)), some (.int x5), some (.int k), some (.int b), l8] [] (FW w x T pa be Z P C D R Lt V N A l d) n c sl Q) : Ev X 223 495 [some (.ref X.2.2.2.2.1), some (.ref x), some (.ref (x + 139)), some (.ref (x + 148)), some (.ref (x + 149)), some (.int x5), some (.int k), l7, l8] [.int b] (FW w x T pa be Z P C D R Lt V N A l d) n c sl Q := by
  refine L_law_495.mpr (L_law_497.mpr ((L_law_498 fw_m (by omega) (by omega)).mpr (fw_thrown.mpr ?_)))
  refine L_law_501.mpr (L_law_503.mpr ?_)
  rw [if_pos hk]
  refine L_law_508.mpr (L_law_510.mpr ?_)
  by_cases c0 : k = 0
  · rw [if_pos c0]
    refine L_law_513.mpr (L_law_514.mpr (L_law_515.mpr ⟨_, fw_go (hl c0), L_law_516.mpr (L_law_518.mpr (L_law_519.mpr (L_law_520.mpr ?_)))⟩))
    rw [if_pos lg_self]
    exact L_law_525.mpr H
  · rw [if_neg c0]
    exact L_law_525.mpr H
/-- case 5 -/
theorem tl_5 (hk : V 19 = k) (hl : k = 0 → l 0 = .long b.toInt64) (h1 : c ≤ 603072) (h2 : sl ≤ 7219306) (H : Ev X 223 1853 [some (.ref X.2.2.2.2.1), some (.ref x), some (.ref (x + 139)), some (.ref (x + 148)), some (.ref (x + 149)), some (.int x5), some (.int k), some (.int b), l8] [] (FW w x T pa be Z P C D R Lt V N A l d) n c sl Q) : Ev X 223 551 [some (.ref X.2.2.2.2.1), some (.ref x), some (.ref (x + 139)), some (.ref (x + 148)), some (.ref (x + 149)), some (.int x5), some (.int k), l7, l8] [.int b] (FW w x T pa be Z P C D R Lt V N A l d) n c sl Q := by
  refine L_law_551.mpr (L_law_553.mpr ((L_law_554 fw_m (by omega) (by omega)).mpr (fw_thrown.mpr ?_)))
  refine L_law_557.mpr (L_law_559.mpr ?_)
  rw [if_pos hk]
  refine L_law_564.mpr (L_law_566.mpr ?_)
  by_cases c0 : k = 0
  · rw [if_pos c0]
    refine L_law_569.mpr (L_law_570.mpr (L_law_571.mpr ⟨_, fw_go (hl c0), L_law_572.mpr (L_law_574.mpr (L_law_575.mpr (L_law_576.mpr ?_)))⟩))
    rw [if_pos lg_self]
    exact L_law_581.mpr H
  · rw [if_neg c0]
    exact L_law_581.mpr H
/-- case 6 -/
theorem tl_6 (hk : V 19 = k) (hl : k = 0 → l 0 = .long b.toInt64) (h1 : c ≤ 603072) (h2 : sl ≤ 7219306) (H : Ev X 223 1853 [some (.ref X.2.2.2.2.1), some (.ref x), some (.ref (x + 139)), some (.ref (x + 148)), some (.ref (x + 149)), some (.int x5), some (.int k), some (.int b), l8] [] (FW w x T pa be Z P C D R Lt V N A l d) n c sl Q) : Ev X 223 607 [some (.ref X.2.2.2.2.1), some (.ref x), some (.ref (x + 139)), some (.ref (x + 148)), some (.ref (x + 149)), some (.int x5), some (.int k), l7, l8] [.int b] (FW w x T pa be Z P C D R Lt V N A l d) n c sl Q := by
  refine L_law_607.mpr (L_law_609.mpr ((L_law_610 fw_m (by omega) (by omega)).mpr (fw_thrown.mpr ?_)))
  refine L_law_613.mpr (L_law_615.mpr ?_)
  rw [if_pos hk]
  refine L_law_620.mpr (L_law_622.mpr ?_)
  by_cases c0 : k = 0
  · rw [if_pos c0]
    refine L_law_625.mpr (L_law_626.mpr (L_law_627.mpr ⟨_, fw_go (hl c0), L_law_628.mpr (L_law_630.mpr (L_law_631.mpr (L_law_632.mpr ?_)))⟩))
    rw [if_pos lg_self]
    exact L_law_637.mpr H
  · rw [if_neg c0]
    exact L_law_637.mpr H
/-- case 7 -/
theorem tl_7 (hk : V 19 = k) (hl : k = 0 → l 0 = .long b.toInt64) (h1 : c ≤ 603072) (h2 : sl ≤ 7219306) (H : Ev X 223 1853 [some (.ref X.2.2.2.2.1), some (.ref x), some (.ref (x + 139)), some (.ref (x + 148)), some (.ref (x + 149)), some (.int x5), some (.int k), some (.int b), l8] [] (FW w x T pa be Z P C D R Lt V N A l d) n c sl Q) : Ev X 223 663 [some (.ref X.2.2.2.2.1), some (.ref x), some (.ref (x + 139)), some (.ref (x + 148)), some (.ref (x + 149)), some (.int x5), some (.int k), l7, l8] [.int b] (FW w x T pa be Z P C D R Lt V N A l d) n c sl Q := by
  refine L_law_663.mpr (L_law_665.mpr ((L_law_666 fw_m (by omega) (by omega)).mpr (fw_thrown.mpr ?_)))
  refine L_law_669.mpr (L_law_671.mpr ?_)
  rw [if_pos hk]
  refine L_law_676.mpr (L_law_678.mpr ?_)
  by_cases c0 : k = 0
  · rw [if_pos c0]
    refine L_law_681.mpr (L_law_682.mpr (L_law_683.mpr ⟨_, fw_go (hl c0), L_law_684.mpr (L_law_686.mpr (L_law_687.mpr (L_law_688.mpr ?_)))⟩))
    rw [if_pos lg_self]
    exact L_law_693.mpr H
  · rw [if_neg c0]
    exact L_law_693.mpr H
/-- case 8 -/
theorem tl_8 (hk : V 19 = k) (hl : k = 0 → l 0 = .long b.toInt64) (h1 : c ≤ 603072) (h2 : sl ≤ 7219306) (H : Ev X 223 1853 [some (.ref X.2.2.2.2.1), some (.ref x), some (.ref (x + 139)), some (.ref (x + 148)), some (.ref (x + 149)), some (.int x5), some (.int k), some (.int b), l8] [] (FW w x T pa be Z P C D R Lt V N A l d) n c sl Q) : Ev X 223 731 [some (.ref X.2.2.2.2.1), some (.ref x), some (.ref (x + 139)), some (.ref (x + 148)), some (.ref (x + 149)), some (.int x5), some (.int k), l7, l8] [.int b] (FW w x T pa be Z P C D R Lt V N A l d) n c sl Q := by
  refine L_law_731.mpr (L_law_733.mpr ((L_law_734 fw_m (by omega) (by omega)).mpr (fw_thrown.mpr ?_)))
  refine L_law_737.mpr (L_law_739.mpr ?_)
  rw [if_pos hk]
  refine L_law_744.mpr (L_law_746.mpr ?_)
  by_cases c0 : k = 0
  · rw [if_pos c0]
    refine L_law_749.mpr (L_law_750.mpr (L_law_751.mpr ⟨_, fw_go (hl c0), L_law_752.mpr (L_law_754.mpr (L_law_755.mpr (L_law_756.mpr ?_)))⟩))
    rw [if_pos lg_self]
    exact L_law_761.mpr H
  · rw [if_neg c0]
    exact L_law_761.mpr H
/-- case 9 -/
theorem tl_9 (hk : V 19 = k) (hl : k = 0 → l 0 = .long b.toInt64) (h1 : c ≤ 603072) (h2 : sl ≤ 7219306) (H : Ev X 223 1853 [some (.ref X.2.2.2.2.1), some (.ref x), some (.ref (x + 139)), some (.ref (x + 148)), some (.ref (x + 149)), some (.int x5), some (.int k), some (.int b), l8] [] (FW w x T pa be Z P C D R Lt V N A l d) n c sl Q) : Ev X 223 815 [some (.ref X.2.2.2.2.1), some (.ref x), some (.ref (x + 139)), some (.ref (x + 148)), some (.ref (x + 149)), some (.int x5), some (.int k), l7, l8] [.int b] (FW w x T pa be Z P C D R Lt V N A l d) n c sl Q := by
  refine L_law_815.mpr (L_law_817.mpr ((L_law_818 fw_m (by omega) (by omega)).mpr (fw_thrown.mpr ?_)))
  refine L_law_821.mpr (L_law_823.mpr ?_)
  rw [if_pos hk]
  refine L_law_828.mpr (L_law_830.mpr ?_)
  by_cases c0 : k = 0
  · rw [if_pos c0]
    refine L_law_833.mpr (L_law_834.mpr (L_law_835.mpr ⟨_, fw_go (hl c0), L_law_836.mpr (L_law_838.mpr (L_law_839.mpr (L_law_840.mpr ?_)))⟩))
    rw [if_pos lg_self]
    exact L_law_845.mpr H
  · rw [if_neg c0]
    exact L_law_845.mpr H
/-- case 10 -/
theorem tl_10 (hk : V 19 = k) (hl : k = 0 → l 0 = .long b.toInt64) (h1 : c ≤ 603072) (h2 : sl ≤ 7219306) (H : Ev X 223 1853 [some (.ref X.2.2.2.2.1), some (.ref x), some (.ref (x + 139)), some (.ref (x + 148)), some (.ref (x + 149)), some (.int x5), some (.int k), some (.int b), l8] [] (FW w x T pa be Z P C D R Lt V N A l d) n c sl Q) : Ev X 223 871 [some (.ref X.2.2.2.2.1), some (.ref x), some (.ref (x + 139)), some (.ref (x + 148)), some (.ref (x + 149)), some (.int x5), some (.int k), l7, l8] [.int b] (FW w x T pa be Z P C D R Lt V N A l d) n c sl Q := by
  refine L_law_871.mpr (L_law_873.mpr ((L_law_874 fw_m (by omega) (by omega)).mpr (fw_thrown.mpr ?_)))
  refine L_law_877.mpr (L_law_879.mpr ?_)
  rw [if_pos hk]
  refine L_law_884.mpr (L_law_886.mpr ?_)
  by_cases c0 : k = 0
  · rw [if_pos c0]
    refine L_law_889.mpr (L_law_890.mpr (L_law_891.mpr ⟨_, fw_go (hl c0), L_law_892.mpr (L_law_894.mpr (L_law_895.mpr (L_law_896.mpr ?_)))⟩))
    rw [if_pos lg_self]
    exact L_law_901.mpr H
  · rw [if_neg c0]
    exact L_law_901.mpr H
/-- case 11 -/
theorem tl_11 (hk : V 19 = k) (hl : k = 0 → l 0 = .long b.toInt64) (h1 : c ≤ 603072) (h2 : sl ≤ 7219306) (H : Ev X 223 1853 [some (.ref X.2.2.2.2.1), some (.ref x), some (.ref (x + 139)), some (.ref (x + 148)), some (.ref (x + 149)), some (.int x5), some (.int k), some (.int b), l8] [] (FW w x T pa be Z P C D R Lt V N A l d) n c sl Q) : Ev X 223 927 [some (.ref X.2.2.2.2.1), some (.ref x), some (.ref (x + 139)), some (.ref (x + 148)), some (.ref (x + 149)), some (.int x5), some (.int k), l7, l8] [.int b] (FW w x T pa be Z P C D R Lt V N A l d) n c sl Q := by
  refine L_law_927.mpr (L_law_929.mpr ((L_law_930 fw_m (by omega) (by omega)).mpr (fw_thrown.mpr ?_)))
  refine L_law_933.mpr (L_law_935.mpr ?_)
  rw [if_pos hk]
  refine L_law_940.mpr (L_law_942.mpr ?_)
  by_cases c0 : k = 0
  · rw [if_pos c0]
    refine L_law_945.mpr (L_law_946.mpr (L_law_947.mpr ⟨_, fw_go (hl c0), L_law_948.mpr (L_law_950.mpr (L_law_951.mpr (L_law_952.mpr ?_)))⟩))
    rw [if_pos lg_self]
    exact L_law_957.mpr H
  · rw [if_neg c0]
    exact L_law_957.mpr H
/-- case 12 -/
theorem tl_12 (hk : V 19 = k) (hl : k = 0 → l 0 = .long b.toInt64) (h1 : c ≤ 603072) (h2 : sl ≤ 7219306) (H : Ev X 223 1853 [some (.ref X.2.2.2.2.1), some (.ref x), some (.ref (x + 139)), some (.ref (x + 148)), some (.ref (x + 149)), some (.int x5), some (.int k), some (.int b), l8] [] (FW w x T pa be Z P C D R Lt V N A l d) n c sl Q) : Ev X 223 983 [some (.ref X.2.2.2.2.1), some (.ref x), some (.ref (x + 139)), some (.ref (x + 148)), some (.ref (x + 149)), some (.int x5), some (.int k), l7, l8] [.int b] (FW w x T pa be Z P C D R Lt V N A l d) n c sl Q := by
  refine L_law_983.mpr (L_law_985.mpr ((L_law_986 fw_m (by omega) (by omega)).mpr (fw_thrown.mpr ?_)))
  refine L_law_989.mpr (L_law_991.mpr ?_)
  rw [if_pos hk]
  refine L_law_996.mpr (L_law_998.mpr ?_)
  by_cases c0 : k = 0
  · rw [if_pos c0]
    refine L_law_1001.mpr (L_law_1002.mpr (L_law_1003.mpr ⟨_, fw_go (hl c0), L_law_1004.mpr (L_law_1006.mpr (L_law_1007.mpr (L_law_1008.mpr ?_)))⟩))
    rw [if_pos lg_self]
    exact L_law_1013.mpr H
  · rw [if_neg c0]
    exact L_law_1013.mpr H
/-- case 18 -/
theorem tl_18 (hk : V 19 = k) (hl : k = 0 → l 0 = .long b.toInt64) (h1 : c ≤ 603072) (h2 : sl ≤ 7219306) (H : Ev X 223 1853 [some (.ref X.2.2.2.2.1), some (.ref x), some (.ref (x + 139)), some (.ref (x + 148)), some (.ref (x + 149)), some (.int x5), some (.int k), some (.int b), l8] [] (FW w x T pa be Z P C D R Lt V N A l d) n c sl Q) : Ev X 223 1104 [some (.ref X.2.2.2.2.1), some (.ref x), some (.ref (x + 139)), some (.ref (x + 148)), some (.ref (x + 149)), some (.int x5), some (.int k), l7, l8] [.int b] (FW w x T pa be Z P C D R Lt V N A l d) n c sl Q := by
  refine L_law_1104.mpr (L_law_1106.mpr ((L_law_1107 fw_m (by omega) (by omega)).mpr (fw_thrown.mpr ?_)))
  refine L_law_1110.mpr (L_law_1112.mpr ?_)
  rw [if_pos hk]
  refine L_law_1117.mpr (L_law_1119.mpr ?_)
  by_cases c0 : k = 0
  · rw [if_pos c0]
    refine L_law_1122.mpr (L_law_1123.mpr (L_law_1124.mpr ⟨_, fw_go (hl c0), L_law_1125.mpr (L_law_1127.mpr (L_law_1128.mpr (L_law_1129.mpr ?_)))⟩))
    rw [if_pos lg_self]
    exact L_law_1134.mpr H
  · rw [if_neg c0]
    exact L_law_1134.mpr H
/-- case 19 -/
theorem tl_19 (hk : V 19 = k) (hl : k = 0 → l 0 = .long b.toInt64) (h1 : c ≤ 603072) (h2 : sl ≤ 7219306) (H : Ev X 223 1853 [some (.ref X.2.2.2.2.1), some (.ref x), some (.ref (x + 139)), some (.ref (x + 148)), some (.ref (x + 149)), some (.int x5), some (.int k), some (.int b), l8] [] (FW w x T pa be Z P C D R Lt V N A l d) n c sl Q) : Ev X 223 1148 [some (.ref X.2.2.2.2.1), some (.ref x), some (.ref (x + 139)), some (.ref (x + 148)), some (.ref (x + 149)), some (.int x5), some (.int k), l7, l8] [.int b] (FW w x T pa be Z P C D R Lt V N A l d) n c sl Q := by
  refine L_law_1148.mpr (L_law_1150.mpr ((L_law_1151 fw_m (by omega) (by omega)).mpr (fw_thrown.mpr ?_)))
  refine L_law_1154.mpr (L_law_1156.mpr ?_)
  rw [if_pos hk]
  refine L_law_1161.mpr (L_law_1163.mpr ?_)
  by_cases c0 : k = 0
  · rw [if_pos c0]
    refine L_law_1166.mpr (L_law_1167.mpr (L_law_1168.mpr ⟨_, fw_go (hl c0), L_law_1169.mpr (L_law_1171.mpr (L_law_1172.mpr (L_law_1173.mpr ?_)))⟩))
    rw [if_pos lg_self]
    exact L_law_1178.mpr H
  · rw [if_neg c0]
    exact L_law_1178.mpr H
/-- case 20 -/
theorem tl_20 (hk : V 19 = k) (hl : k = 0 → l 0 = .long b.toInt64) (h1 : c ≤ 603072) (h2 : sl ≤ 7219306) (H : Ev X 223 1853 [some (.ref X.2.2.2.2.1), some (.ref x), some (.ref (x + 139)), some (.ref (x + 148)), some (.ref (x + 149)), some (.int x5), some (.int k), some (.int b), l8] [] (FW w x T pa be Z P C D R Lt V N A l d) n c sl Q) : Ev X 223 1204 [some (.ref X.2.2.2.2.1), some (.ref x), some (.ref (x + 139)), some (.ref (x + 148)), some (.ref (x + 149)), some (.int x5), some (.int k), l7, l8] [.int b] (FW w x T pa be Z P C D R Lt V N A l d) n c sl Q := by
  refine L_law_1204.mpr (L_law_1206.mpr ((L_law_1207 fw_m (by omega) (by omega)).mpr (fw_thrown.mpr ?_)))
  refine L_law_1210.mpr (L_law_1212.mpr ?_)
  rw [if_pos hk]
  refine L_law_1217.mpr (L_law_1219.mpr ?_)
  by_cases c0 : k = 0
  · rw [if_pos c0]
    refine L_law_1222.mpr (L_law_1223.mpr (L_law_1224.mpr ⟨_, fw_go (hl c0), L_law_1225.mpr (L_law_1227.mpr (L_law_1228.mpr (L_law_1229.mpr ?_)))⟩))
    rw [if_pos lg_self]
    exact L_law_1234.mpr H
  · rw [if_neg c0]
    exact L_law_1234.mpr H
/-- case 22 -/
theorem tl_22 (hk : V 19 = k) (hl : k = 0 → l 0 = .long (if b = 0 then 0 else 1)) (h1 : c ≤ 603072) (h2 : sl ≤ 7219306) (H : Ev X 223 1853 [some (.ref X.2.2.2.2.1), some (.ref x), some (.ref (x + 139)), some (.ref (x + 148)), some (.ref (x + 149)), some (.int x5), some (.int k), some (.int b), l8] [] (FW w x T pa be Z P C D R Lt V N A l d) n c sl Q) : Ev X 223 1285 [some (.ref X.2.2.2.2.1), some (.ref x), some (.ref (x + 139)), some (.ref (x + 148)), some (.ref (x + 149)), some (.int x5), some (.int k), l7, l8] [.int b] (FW w x T pa be Z P C D R Lt V N A l d) n c sl Q := by
  refine L_law_1285.mpr (L_law_1287.mpr ((L_law_1288 fw_m (by omega) (by omega)).mpr (fw_thrown.mpr ?_)))
  refine L_law_1291.mpr (L_law_1293.mpr ?_)
  rw [if_pos hk]
  refine L_law_1298.mpr (L_law_1300.mpr ?_)
  by_cases c0 : k = 0
  · rw [if_pos c0]
    have hl := hl c0
    refine L_law_1303.mpr (L_law_1304.mpr (L_law_1305.mpr ⟨_, fw_go hl, L_law_1306.mpr (L_law_1308.mpr ?_)⟩))
    by_cases b0 : b = 0
    · rw [if_pos b0, if_pos b0]
      refine L_law_1315.mpr (L_law_1316.mpr (L_law_1317.mpr ?_))
      rw [if_pos lg_self]
      exact L_law_1322.mpr H
    · rw [if_neg b0, if_neg b0]
      refine L_law_1311.mpr (L_law_1312.mpr (L_law_1316.mpr (L_law_1317.mpr ?_)))
      rw [if_pos lg_self]
      exact L_law_1322.mpr H
  · rw [if_neg c0]
    exact L_law_1322.mpr H
/-- case 23 -/
theorem tl_23 (hk : V 19 = k) (hl : k = 0 → l 0 = .long b.toInt64) (h1 : c ≤ 603072) (h2 : sl ≤ 7219306) (H : Ev X 223 1853 [some (.ref X.2.2.2.2.1), some (.ref x), some (.ref (x + 139)), some (.ref (x + 148)), some (.ref (x + 149)), some (.int x5), some (.int k), some (.int b), l8] [] (FW w x T pa be Z P C D R Lt V N A l d) n c sl Q) : Ev X 223 1350 [some (.ref X.2.2.2.2.1), some (.ref x), some (.ref (x + 139)), some (.ref (x + 148)), some (.ref (x + 149)), some (.int x5), some (.int k), l7, l8] [.int b] (FW w x T pa be Z P C D R Lt V N A l d) n c sl Q := by
  refine L_law_1350.mpr (L_law_1352.mpr ((L_law_1353 fw_m (by omega) (by omega)).mpr (fw_thrown.mpr ?_)))
  refine L_law_1356.mpr (L_law_1358.mpr ?_)
  rw [if_pos hk]
  refine L_law_1363.mpr (L_law_1365.mpr ?_)
  by_cases c0 : k = 0
  · rw [if_pos c0]
    refine L_law_1368.mpr (L_law_1369.mpr (L_law_1370.mpr ⟨_, fw_go (hl c0), L_law_1371.mpr (L_law_1373.mpr (L_law_1374.mpr (L_law_1375.mpr ?_)))⟩))
    rw [if_pos lg_self]
    exact L_law_1380.mpr H
  · rw [if_neg c0]
    exact L_law_1380.mpr H
/-- case 24 -/
theorem tl_24 (hk : V 19 = k) (hl : k = 0 → l 0 = .long b.toInt64) (h1 : c ≤ 603072) (h2 : sl ≤ 7219306) (H : Ev X 223 1853 [some (.ref X.2.2.2.2.1), some (.ref x), some (.ref (x + 139)), some (.ref (x + 148)), some (.ref (x + 149)), some (.int x5), some (.int k), some (.int b), l8] [] (FW w x T pa be Z P C D R Lt V N A l d) n c sl Q) : Ev X 223 1394 [some (.ref X.2.2.2.2.1), some (.ref x), some (.ref (x + 139)), some (.ref (x + 148)), some (.ref (x + 149)), some (.int x5), some (.int k), l7, l8] [.int b] (FW w x T pa be Z P C D R Lt V N A l d) n c sl Q := by
  refine L_law_1394.mpr (L_law_1396.mpr ((L_law_1397 fw_m (by omega) (by omega)).mpr (fw_thrown.mpr ?_)))
  refine L_law_1400.mpr (L_law_1402.mpr ?_)
  rw [if_pos hk]
  refine L_law_1407.mpr (L_law_1409.mpr ?_)
  by_cases c0 : k = 0
  · rw [if_pos c0]
    refine L_law_1412.mpr (L_law_1413.mpr (L_law_1414.mpr ⟨_, fw_go (hl c0), L_law_1415.mpr (L_law_1417.mpr (L_law_1418.mpr (L_law_1419.mpr ?_)))⟩))
    rw [if_pos lg_self]
    exact L_law_1424.mpr H
  · rw [if_neg c0]
    exact L_law_1424.mpr H
/-- case 26 -/
theorem tl_26 (hk : V 19 = k) (hl : k = 0 → l 0 = .long b.toInt64) (h1 : c ≤ 603072) (h2 : sl ≤ 7219306) (H : Ev X 223 1853 [some (.ref X.2.2.2.2.1), some (.ref x), some (.ref (x + 139)), some (.ref (x + 148)), some (.ref (x + 149)), some (.int x5), some (.int k), some (.int b), l8] [] (FW w x T pa be Z P C D R Lt V N A l d) n c sl Q) : Ev X 223 1463 [some (.ref X.2.2.2.2.1), some (.ref x), some (.ref (x + 139)), some (.ref (x + 148)), some (.ref (x + 149)), some (.int x5), some (.int k), l7, l8] [.int b] (FW w x T pa be Z P C D R Lt V N A l d) n c sl Q := by
  refine L_law_1463.mpr (L_law_1465.mpr ((L_law_1466 fw_m (by omega) (by omega)).mpr (fw_thrown.mpr ?_)))
  refine L_law_1469.mpr (L_law_1471.mpr ?_)
  rw [if_pos hk]
  refine L_law_1476.mpr (L_law_1478.mpr ?_)
  by_cases c0 : k = 0
  · rw [if_pos c0]
    refine L_law_1481.mpr (L_law_1482.mpr (L_law_1483.mpr ⟨_, fw_go (hl c0), L_law_1484.mpr (L_law_1486.mpr (L_law_1487.mpr (L_law_1488.mpr ?_)))⟩))
    rw [if_pos lg_self]
    exact L_law_1493.mpr H
  · rw [if_neg c0]
    exact L_law_1493.mpr H
/-- case 28 -/
theorem tl_28 (hk : V 19 = k) (hl : k = 0 → l 0 = .long b.toInt64) (h1 : c ≤ 603072) (h2 : sl ≤ 7219306) (H : Ev X 223 1853 [some (.ref X.2.2.2.2.1), some (.ref x), some (.ref (x + 139)), some (.ref (x + 148)), some (.ref (x + 149)), some (.int x5), some (.int k), some (.int b), l8] [] (FW w x T pa be Z P C D R Lt V N A l d) n c sl Q) : Ev X 223 1532 [some (.ref X.2.2.2.2.1), some (.ref x), some (.ref (x + 139)), some (.ref (x + 148)), some (.ref (x + 149)), some (.int x5), some (.int k), l7, l8] [.int b] (FW w x T pa be Z P C D R Lt V N A l d) n c sl Q := by
  refine L_law_1532.mpr (L_law_1534.mpr ((L_law_1535 fw_m (by omega) (by omega)).mpr (fw_thrown.mpr ?_)))
  refine L_law_1538.mpr (L_law_1540.mpr ?_)
  rw [if_pos hk]
  refine L_law_1545.mpr (L_law_1547.mpr ?_)
  by_cases c0 : k = 0
  · rw [if_pos c0]
    refine L_law_1550.mpr (L_law_1551.mpr (L_law_1552.mpr ⟨_, fw_go (hl c0), L_law_1553.mpr (L_law_1555.mpr (L_law_1556.mpr (L_law_1557.mpr ?_)))⟩))
    rw [if_pos lg_self]
    exact L_law_1562.mpr H
  · rw [if_neg c0]
    exact L_law_1562.mpr H
/-- case 29 -/
theorem tl_29 {v : UInt64} (hk : V 19 = k) (hl : k = 0 → d 0 = .double v ∧ n64 v = true) (h1 : c ≤ 603072) (h2 : sl ≤ 7219306) (H : Ev X 223 1853 [some (.ref X.2.2.2.2.1), some (.ref x), some (.ref (x + 139)), some (.ref (x + 148)), some (.ref (x + 149)), some (.int x5), some (.int k), some (.double v), none] [] (FW w x T pa be Z P C D R Lt V N A l d) n c sl Q) : Ev X 223 1577 [some (.ref X.2.2.2.2.1), some (.ref x), some (.ref (x + 139)), some (.ref (x + 148)), some (.ref (x + 149)), some (.int x5), some (.int k), l7, l8] [.double v] (FW w x T pa be Z P C D R Lt V N A l d) n c sl Q := by
  refine L_law_1577.mpr (L_law_1579.mpr ((L_law_1580 fw_m (by omega) (by omega)).mpr (fw_thrown.mpr ?_)))
  refine L_law_1583.mpr (L_law_1585.mpr ?_)
  rw [if_pos hk]
  refine L_law_1590.mpr (L_law_1592.mpr ?_)
  by_cases c0 : k = 0
  · rw [if_pos c0]
    obtain ⟨e, hn⟩ := hl c0
    refine L_law_1595.mpr (L_law_1597.mpr (L_law_1598.mpr ⟨_, fw_gd e, L_law_1599.mpr (L_law_1601.mpr (L_law_1602.mpr ?_))⟩))
    rw [dc_self hn, if_pos (show Op.cmpValue (some Ordering.eq) .l = 0 from rfl)]
    exact L_law_1627.mpr H
  · rw [if_neg c0]
    exact L_law_1627.mpr H
/-- case 30 -/
theorem tl_30 {v : UInt32} (hk : V 19 = k) (hl : k = 0 → d 0 = .double (FP.f2d v) ∧ n64 (FP.f2d v) = true) (h1 : c ≤ 603072) (h2 : sl ≤ 7219306) (H : Ev X 223 1853 [some (.ref X.2.2.2.2.1), some (.ref x), some (.ref (x + 139)), some (.ref (x + 148)), some (.ref (x + 149)), some (.int x5), some (.int k), some (.float v), l8] [] (FW w x T pa be Z P C D R Lt V N A l d) n c sl Q) : Ev X 223 1642 [some (.ref X.2.2.2.2.1), some (.ref x), some (.ref (x + 139)), some (.ref (x + 148)), some (.ref (x + 149)), some (.int x5), some (.int k), l7, l8] [.float v] (FW w x T pa be Z P C D R Lt V N A l d) n c sl Q := by
  refine L_law_1642.mpr (L_law_1644.mpr ((L_law_1645 fw_m (by omega) (by omega)).mpr (fw_thrown.mpr ?_)))
  refine L_law_1648.mpr (L_law_1650.mpr ?_)
  rw [if_pos hk]
  refine L_law_1655.mpr (L_law_1657.mpr ?_)
  by_cases c0 : k = 0
  · rw [if_pos c0]
    obtain ⟨e, hn⟩ := hl c0
    refine L_law_1660.mpr (L_law_1662.mpr (L_law_1663.mpr ⟨_, fw_gd e, L_law_1664.mpr ((L_law_1666 hn).mpr (L_law_1667.mpr (L_law_1668.mpr ?_)))⟩))
    rw [dc_self hn, if_pos (show Op.cmpValue (some Ordering.eq) .l = 0 from rfl)]
    exact L_law_1693.mpr H
  · rw [if_neg c0]
    exact L_law_1693.mpr H
/-- case 31 -/
theorem tl_31 (hk : V 19 = k) (hl : k = 0 → l 0 = .long b.toInt64) (h1 : c ≤ 603072) (h2 : sl ≤ 7219306) (H : Ev X 223 1853 [some (.ref X.2.2.2.2.1), some (.ref x), some (.ref (x + 139)), some (.ref (x + 148)), some (.ref (x + 149)), some (.int x5), some (.int k), some (.int b), l8] [] (FW w x T pa be Z P C D R Lt V N A l d) n c sl Q) : Ev X 223 1719 [some (.ref X.2.2.2.2.1), some (.ref x), some (.ref (x + 139)), some (.ref (x + 148)), some (.ref (x + 149)), some (.int x5), some (.int k), l7, l8] [.int b] (FW w x T pa be Z P C D R Lt V N A l d) n c sl Q := by
  refine L_law_1719.mpr (L_law_1721.mpr ((L_law_1722 fw_m (by omega) (by omega)).mpr (fw_thrown.mpr ?_)))
  refine L_law_1725.mpr (L_law_1727.mpr ?_)
  rw [if_pos hk]
  refine L_law_1732.mpr (L_law_1734.mpr ?_)
  by_cases c0 : k = 0
  · rw [if_pos c0]
    refine L_law_1737.mpr (L_law_1738.mpr (L_law_1739.mpr ⟨_, fw_go (hl c0), L_law_1740.mpr (L_law_1742.mpr (L_law_1743.mpr (L_law_1744.mpr ?_)))⟩))
    rw [if_pos lg_self]
    exact L_law_1749.mpr H
  · rw [if_neg c0]
    exact L_law_1749.mpr H
/-- case 32 -/
theorem tl_32 (hk : V 19 = k) (hl : k = 0 → l 0 = .long b.toInt64) (h1 : c ≤ 603072) (h2 : sl ≤ 7219306) (H : Ev X 223 1853 [some (.ref X.2.2.2.2.1), some (.ref x), some (.ref (x + 139)), some (.ref (x + 148)), some (.ref (x + 149)), some (.int x5), some (.int k), some (.int b), l8] [] (FW w x T pa be Z P C D R Lt V N A l d) n c sl Q) : Ev X 223 1763 [some (.ref X.2.2.2.2.1), some (.ref x), some (.ref (x + 139)), some (.ref (x + 148)), some (.ref (x + 149)), some (.int x5), some (.int k), l7, l8] [.int b] (FW w x T pa be Z P C D R Lt V N A l d) n c sl Q := by
  refine L_law_1763.mpr (L_law_1765.mpr ((L_law_1766 fw_m (by omega) (by omega)).mpr (fw_thrown.mpr ?_)))
  refine L_law_1769.mpr (L_law_1771.mpr ?_)
  rw [if_pos hk]
  refine L_law_1776.mpr (L_law_1778.mpr ?_)
  by_cases c0 : k = 0
  · rw [if_pos c0]
    refine L_law_1781.mpr (L_law_1782.mpr (L_law_1783.mpr ⟨_, fw_go (hl c0), L_law_1784.mpr (L_law_1786.mpr (L_law_1787.mpr (L_law_1788.mpr ?_)))⟩))
    rw [if_pos lg_self]
    exact L_law_1793.mpr H
  · rw [if_neg c0]
    exact L_law_1793.mpr H
/-- case 34 -/
theorem tl_34 (hk : V 19 = k) (hl : k = 0 → l 0 = .long b.toInt64) (h1 : c ≤ 603072) (h2 : sl ≤ 7219306) (H : Ev X 223 1853 [some (.ref X.2.2.2.2.1), some (.ref x), some (.ref (x + 139)), some (.ref (x + 148)), some (.ref (x + 149)), some (.int x5), some (.int k), some (.int b), l8] [] (FW w x T pa be Z P C D R Lt V N A l d) n c sl Q) : Ev X 223 1820 [some (.ref X.2.2.2.2.1), some (.ref x), some (.ref (x + 139)), some (.ref (x + 148)), some (.ref (x + 149)), some (.int x5), some (.int k), l7, l8] [.int b] (FW w x T pa be Z P C D R Lt V N A l d) n c sl Q := by
  refine L_law_1820.mpr (L_law_1822.mpr ((L_law_1823 fw_m (by omega) (by omega)).mpr (fw_thrown.mpr ?_)))
  refine L_law_1826.mpr (L_law_1828.mpr ?_)
  rw [if_pos hk]
  refine L_law_1833.mpr (L_law_1835.mpr ?_)
  by_cases c0 : k = 0
  · rw [if_pos c0]
    refine L_law_1838.mpr (L_law_1839.mpr (L_law_1840.mpr ⟨_, fw_go (hl c0), L_law_1841.mpr (L_law_1843.mpr (L_law_1844.mpr (L_law_1845.mpr ?_)))⟩))
    rw [if_pos lg_self]
    exact L_law_1850.mpr H
  · rw [if_neg c0]
    exact L_law_1850.mpr H
end TLS
