/-! ===== refused calls leave everything but the reason ===== -/
theorem lg_self {j : Int64} : lg_cmp j j = 0 := by
  unfold lg_cmp
  simp
section RFU
variable {X : Cxt} {w w0 : Wld} {n x m N B : Nat} {Q : (Option Value ⊕ String) → Wld → Option Nat → Prop} {s : St} {cu : Tb} {hi : List Tb} {sa : Option Tb} {wy : Int32 × Int32 × Int32} {fl : Int32} {tx : List Int32}
theorem R_join {p1 p2 p3 u v : Int32} (h : AW x w0 m N (cu, hi, sa, wy, fl, tx) w n) (e : addF (cntOf cu) p1 p2 p3 cu = .inl (u, v)) (hg : Iv B cu) (hQ : ∀ w n, AW x w0 m (N + 1) (cu, hi, sa, (u, v, 0), fl, tx) w n → Q (.inl (some (.int (-1001)))) w (some n)) : Ev X 79 0 [some (.ref x), some (.int p1), some (.int p2), some (.int p3), none] [] w (some n) 0 0 Q := by
  refine A_join (s := (cu, hi, sa, wy, fl, tx)) hg h ?_
  rw [show addF (cntOf cu) p1 p2 p3 cu = _ from e]
  exact hQ
theorem R_manner {p1 p2 u v : Int32} (h : AW x w0 m N (cu, hi, sa, wy, fl, tx) w n) (e : manX (cntOf cu) p1 p2 cu = .inl (u, v)) (hg : Iv B cu) (hQ : ∀ w n, AW x w0 m (N + 1) (cu, hi, sa, (u, v, 0), fl, tx) w n → Q (.inl (some (.int (-1001)))) w (some n)) : Ev X 142 0 [some (.ref x), some (.int p1), some (.int p2), none] [] w (some n) 0 0 Q := by
  refine A_manner (s := (cu, hi, sa, wy, fl, tx)) hg h ?_
  rw [show manX (cntOf cu) p1 p2 cu = _ from e]
  exact hQ
theorem R_clocks {p1 p2 p3 u v : Int32} (h : AW x w0 m N (cu, hi, sa, wy, fl, tx) w n) (e : cloX (cntOf cu) p1 p2 p3 cu = .inl (u, v)) (hg : Iv B cu) (hQ : ∀ w n, AW x w0 m (N + 1) (cu, hi, sa, (u, v, 0), fl, tx) w n → Q (.inl (some (.int (-1001)))) w (some n)) : Ev X 144 0 [some (.ref x), some (.int p1), some (.int p2), some (.int p3), none] [] w (some n) 0 0 Q := by
  refine A_clocks (s := (cu, hi, sa, wy, fl, tx)) hg h ?_
  rw [show cloX (cntOf cu) p1 p2 p3 cu = _ from e]
  exact hQ
theorem R_waiter {p1 u v : Int32} (h : AW x w0 m N (cu, hi, sa, wy, fl, tx) w n) (e : waiF p1 cu = .inl (u, v)) (hg : Iv B cu) (hQ : ∀ w n, AW x w0 m (N + 1) (cu, hi, sa, (u, v, 0), fl, tx) w n → Q (.inl (some (.int (-1001)))) w (some n)) : Ev X 104 0 [some (.ref x), some (.int p1), none] [] w (some n) 0 0 Q := by
  refine A_waiter (s := (cu, hi, sa, wy, fl, tx)) hg h ?_
  rw [show waiF p1 cu = _ from e]
  exact hQ
theorem R_bring {p1 u v : Int32} (h : AW x w0 m N (cu, hi, sa, wy, fl, tx) w n) (e : briF p1 cu = .inl (u, v)) (hg : Iv B cu) (hQ : ∀ w n, AW x w0 m (N + 1) (cu, hi, sa, (u, v, 0), fl, tx) w n → Q (.inl (some (.int (-1001)))) w (some n)) : Ev X 17 0 [some (.ref x), some (.int p1), none] [] w (some n) 0 0 Q := by
  refine A_bring (s := (cu, hi, sa, wy, fl, tx)) hg h ?_
  rw [show briF p1 cu = _ from e]
  exact hQ
theorem R_take {p1 u v : Int32} (h : AW x w0 m N (cu, hi, sa, wy, fl, tx) w n) (e : takX (cntOf cu) p1 cu = .inl (u, v)) (hg : Iv B cu) (hQ : ∀ w n, AW x w0 m (N + 1) (cu, hi, sa, (u, v, 0), fl, tx) w n → Q (.inl (some (.int (-1001)))) w (some n)) : Ev X 146 0 [some (.ref x), some (.int p1), none] [] w (some n) 0 0 Q := by
  refine A_take (s := (cu, hi, sa, wy, fl, tx)) hg h ?_
  rw [show takX (cntOf cu) p1 cu = _ from e]
  exact hQ
theorem R_pass {p1 u v : Int32} (h : AW x w0 m N (cu, hi, sa, wy, fl, tx) w n) (e : pasF (cntOf cu) p1 cu = .inl (u, v)) (hg : Iv B cu) (hB : B < 2 ^ 24) (hQ : ∀ w n, AW x w0 m (N + 1) (cu, hi, sa, (u, v, 0), fl, tx) w n → Q (.inl (some (.int (-1001)))) w (some n)) : Ev X 85 0 [some (.ref x), some (.int p1), none] [] w (some n) 0 0 Q := by
  refine A_pass (s := (cu, hi, sa, wy, fl, tx)) hg hB h ?_
  rw [show pasF (cntOf cu) p1 cu = _ from e]
  exact hQ
theorem R_acc1 (hg : Iv B s.cur) (h : AW x w0 m N s w n) (hQ : ∀ w n, AW x w0 m (N + 1) s w n → Q (.inl (some (.int (s.cur.1 2)))) w (some n)) : Ev X 29 0 [some (.ref x), some (.int 1), none] [] w (some n) 0 0 Q := A_account (j := 1) hg (by decide) h hQ
theorem R_acc3 (hg : Iv B s.cur) (h : AW x w0 m N s w n) (hQ : ∀ w n, AW x w0 m (N + 1) s w n → Q (.inl (some (.int (s.cur.1 3)))) w (some n)) : Ev X 29 0 [some (.ref x), some (.int 3), none] [] w (some n) 0 0 Q := A_account (j := 3) hg (by decide) h hQ
theorem R_asking (hg : Iv B s.cur) {y : Int32} (hy : ∀ c : Nat, c < cntOf s.cur → nI c ≠ y) (h : AW x w0 m N s w n) (hQ : ∀ w n, AW x w0 m (N + 1) s w n → Q (.inl (some (.int (-1001)))) w (some n)) : Ev X 121 0 [some (.ref x), some (.int y), none] [] w (some n) 0 0 Q := by
  refine A_asking hg h ?_
  rw [asV_no hg hy]
  exact hQ
theorem R_hungriest (hg : Iv B s.cur) {y : Int32} (hy : ∀ c : Nat, c < cntOf s.cur → nI c ≠ y) (h : AW x w0 m N s w n) (hQ : ∀ w n, AW x w0 m (N + 1) s w n → Q (.inl (some (.int (-1001)))) w (some n)) : Ev X 126 0 [some (.ref x), some (.int y), none] [] w (some n) 0 0 Q := by
  refine A_hungriest hg h ?_
  rw [huV_no hg hy]
  exact hQ
theorem A_ref1 (hg : Iv B cu) (hB : B + 5940 < 2 ^ 24) (h2 : 2 ≤ cntOf cu) {a : Int64} {l4 l5 : Option Value} (h : AW x w0 m N (cu, hi, sa, wy, fl, tx) w n) (hQ : ∀ w p, AW x w0 m (N + 60) (cu, hi, sa, (1, 0, 0), fl, tx) w p → Ev X 148 110 [some (.ref x), some (.long a), none, some (.int (cu.1 2)), l4, l5] [] w (some p) 0 0 Q) : Ev X 148 11 [some (.ref x), some (.long a), none, some (.int (cu.1 2)), l4, l5] [] w (some n) 0 0 Q := by
  have c8 := hg.c8
  have c2 : cu.1 2 = nI (cntOf cu) := hg.c2
  have hn : hasS (cu.1 2) (cu.1 2) = 0 := has_self
  have hm : hasS (cu.1 2) (-1) = 0 := has_neg (by decide)
  have m1 : ∀ c : Nat, c < cntOf cu → nI c ≠ -1 := fun c hc => fun z => (nI_m1 (by omega)).mp z
  have m8 : ∀ c : Nat, c < cntOf cu → nI c ≠ 8 := fun c hc z => by
    have := (nI_eq (by omega) (by decide)).mp (show nI c = nI 8 from z)
    omega
  have mn : ∀ c : Nat, c < cntOf cu → nI c ≠ cu.1 2 := fun c hc z => by
    have := (nI_eq (by omega) (by omega)).mp (show nI c = nI (cntOf cu) by rw [← c2]; exact z)
    omega
  have hBB : B < 2 ^ 24 := by omega
  refine L_refused_11.mpr (L_refused_12.mpr (L_refused_13.mpr (L_refused_14.mpr (L_refused_15.mpr (?_)))))
  refine L_refused_16.mpr ?_
  refine R_join h (r_add1 (by decide)) hg ?_
  clear h
  intro w p h
  refine L_refused_19.mpr ?_
  refine A_isRange rfl h ?_
  clear h
  intro w p h
  refine L_refused_22.mpr (ifF (by decide) ?_)
  refine L_refused_25.mpr (L_refused_26.mpr (L_refused_27.mpr (L_refused_28.mpr (L_refused_29.mpr (?_)))))
  refine L_refused_30.mpr ?_
  refine R_join h (r_add1 (by decide)) hg ?_
  clear h
  intro w p h
  refine L_refused_33.mpr ?_
  refine A_isRange rfl h ?_
  clear h
  intro w p h
  refine L_refused_36.mpr (ifF (by decide) ?_)
  refine L_refused_39.mpr (L_refused_40.mpr (L_refused_41.mpr (L_refused_42.mpr (L_refused_43.mpr (?_)))))
  refine L_refused_44.mpr ?_
  refine R_join h (r_add2 (by decide) (by decide)) hg ?_
  clear h
  intro w p h
  refine L_refused_47.mpr ?_
  refine A_isRange rfl h ?_
  clear h
  intro w p h
  refine L_refused_50.mpr (ifF (by decide) ?_)
  refine L_refused_53.mpr (L_refused_54.mpr (L_refused_55.mpr (L_refused_56.mpr (L_refused_58.mpr (?_)))))
  refine L_refused_59.mpr ?_
  refine R_join h (r_add2 (by decide) (by decide)) hg ?_
  clear h
  intro w p h
  refine L_refused_62.mpr ?_
  refine A_isRange rfl h ?_
  clear h
  intro w p h
  refine L_refused_65.mpr (ifF (by decide) ?_)
  refine L_refused_68.mpr (L_refused_69.mpr (L_refused_70.mpr (L_refused_71.mpr (L_refused_72.mpr (?_)))))
  refine L_refused_73.mpr ?_
  refine R_join h (r_add3 (by decide) (by decide) (by decide)) hg ?_
  clear h
  intro w p h
  refine L_refused_76.mpr ?_
  refine A_isRange rfl h ?_
  clear h
  intro w p h
  refine L_refused_79.mpr (ifF (by decide) ?_)
  refine L_refused_82.mpr (L_refused_83.mpr (L_refused_84.mpr (L_refused_85.mpr (L_refused_86.mpr (?_)))))
  refine L_refused_88.mpr ?_
  refine R_join h (r_add3 (by decide) (by decide) (by decide)) hg ?_
  clear h
  intro w p h
  refine L_refused_91.mpr ?_
  refine A_isRange rfl h ?_
  clear h
  intro w p h
  refine L_refused_94.mpr (ifF (by decide) ?_)
  refine L_refused_97.mpr (L_refused_98.mpr (L_refused_99.mpr (L_refused_100.mpr (?_))))
  refine L_refused_101.mpr ?_
  refine R_manner h (r_man1 hg h2 (by decide)) hg ?_
  clear h
  intro w p h
  refine L_refused_104.mpr ?_
  refine A_isRange rfl h ?_
  clear h
  intro w p h
  refine L_refused_107.mpr (ifF (by decide) ?_)
  exact hQ _ _ (h.up (by omega))
theorem A_ref2 (hg : Iv B cu) (hB : B + 5940 < 2 ^ 24) (h2 : 2 ≤ cntOf cu) {a : Int64} {l4 l5 : Option Value} (h : AW x w0 m N (cu, hi, sa, wy, fl, tx) w n) (hQ : ∀ w p, AW x w0 m (N + 60) (cu, hi, sa, (1, 0, 0), fl, tx) w p → Ev X 148 227 [some (.ref x), some (.long a), none, some (.int (cu.1 2)), l4, l5] [] w (some p) 0 0 Q) : Ev X 148 110 [some (.ref x), some (.long a), none, some (.int (cu.1 2)), l4, l5] [] w (some n) 0 0 Q := by
  have c8 := hg.c8
  have c2 : cu.1 2 = nI (cntOf cu) := hg.c2
  have hn : hasS (cu.1 2) (cu.1 2) = 0 := has_self
  have hm : hasS (cu.1 2) (-1) = 0 := has_neg (by decide)
  have m1 : ∀ c : Nat, c < cntOf cu → nI c ≠ -1 := fun c hc => fun z => (nI_m1 (by omega)).mp z
  have m8 : ∀ c : Nat, c < cntOf cu → nI c ≠ 8 := fun c hc z => by
    have := (nI_eq (by omega) (by decide)).mp (show nI c = nI 8 from z)
    omega
  have mn : ∀ c : Nat, c < cntOf cu → nI c ≠ cu.1 2 := fun c hc z => by
    have := (nI_eq (by omega) (by omega)).mp (show nI c = nI (cntOf cu) by rw [← c2]; exact z)
    omega
  have hBB : B < 2 ^ 24 := by omega
  refine L_refused_110.mpr (L_refused_111.mpr (L_refused_112.mpr (L_refused_113.mpr (?_))))
  refine L_refused_114.mpr ?_
  refine R_manner h (r_man1 hg h2 (by decide)) hg ?_
  clear h
  intro w p h
  refine L_refused_117.mpr ?_
  refine A_isRange rfl h ?_
  clear h
  intro w p h
  refine L_refused_120.mpr (ifF (by decide) ?_)
  refine L_refused_123.mpr (L_refused_124.mpr (L_refused_125.mpr (L_refused_126.mpr (L_refused_127.mpr (?_)))))
  refine L_refused_128.mpr ?_
  refine R_clocks h (r_clo1 hg h2 (by decide)) hg ?_
  clear h
  intro w p h
  refine L_refused_131.mpr ?_
  refine A_isRange rfl h ?_
  clear h
  intro w p h
  refine L_refused_134.mpr (ifF (by decide) ?_)
  refine L_refused_137.mpr (L_refused_138.mpr (L_refused_139.mpr (L_refused_140.mpr (L_refused_141.mpr (?_)))))
  refine L_refused_143.mpr ?_
  refine R_clocks h (r_clo2 hg h2 (by decide) (by decide)) hg ?_
  clear h
  intro w p h
  refine L_refused_146.mpr ?_
  refine A_isRange rfl h ?_
  clear h
  intro w p h
  refine L_refused_149.mpr (ifF (by decide) ?_)
  refine L_refused_152.mpr (L_refused_153.mpr (L_refused_154.mpr (?_)))
  refine L_refused_155.mpr ?_
  refine R_waiter h (r_wai1 (by decide)) hg ?_
  clear h
  intro w p h
  refine L_refused_158.mpr ?_
  refine A_isRange rfl h ?_
  clear h
  intro w p h
  refine L_refused_161.mpr (ifF (by decide) ?_)
  refine L_refused_164.mpr (L_refused_165.mpr (L_refused_166.mpr (?_)))
  refine L_refused_168.mpr ?_
  refine R_waiter h (r_wai2 (by decide) (by decide)) hg ?_
  clear h
  intro w p h
  refine L_refused_171.mpr ?_
  refine A_isRange rfl h ?_
  clear h
  intro w p h
  refine L_refused_174.mpr (ifF (by decide) ?_)
  refine L_refused_177.mpr (L_refused_178.mpr (L_refused_179.mpr (?_)))
  refine L_refused_180.mpr ?_
  refine R_bring h (r_bri1 (by decide)) hg ?_
  clear h
  intro w p h
  refine L_refused_183.mpr ?_
  refine A_isRange rfl h ?_
  clear h
  intro w p h
  refine L_refused_186.mpr (ifF (by decide) ?_)
  refine L_refused_189.mpr (L_refused_190.mpr (L_refused_191.mpr (?_)))
  refine L_refused_193.mpr ?_
  refine R_bring h (r_bri2 (by decide) (by decide)) hg ?_
  clear h
  intro w p h
  refine L_refused_196.mpr ?_
  refine A_isRange rfl h ?_
  clear h
  intro w p h
  refine L_refused_199.mpr (ifF (by decide) ?_)
  refine L_refused_202.mpr (L_refused_203.mpr (L_refused_204.mpr (?_)))
  refine L_refused_205.mpr ?_
  refine R_pass h (r_pas1 (by decide)) hg hBB ?_
  clear h
  intro w p h
  refine L_refused_208.mpr ?_
  refine A_isRange rfl h ?_
  clear h
  intro w p h
  refine L_refused_211.mpr (ifF (by decide) ?_)
  refine L_refused_214.mpr (L_refused_215.mpr (L_refused_216.mpr (?_)))
  refine L_refused_218.mpr ?_
  refine R_pass h (r_pas2 (by decide) (by decide)) hg hBB ?_
  clear h
  intro w p h
  refine L_refused_221.mpr ?_
  refine A_isRange rfl h ?_
  clear h
  intro w p h
  refine L_refused_224.mpr (ifF (by decide) ?_)
  exact hQ _ _ (h.up (by omega))
theorem A_ref3 (hg : Iv B cu) (hB : B + 5940 < 2 ^ 24) (h2 : 2 ≤ cntOf cu) {a : Int64} {l4 l5 : Option Value} (h : AW x w0 m N (cu, hi, sa, wy, fl, tx) w n) (hQ : ∀ w p, AW x w0 m (N + 60) (cu, hi, sa, (7, 0, 0), fl, tx) w p → Ev X 148 355 [some (.ref x), some (.long a), none, some (.int (cu.1 2)), some (.int 1), l5] [] w (some p) 0 0 Q) : Ev X 148 227 [some (.ref x), some (.long a), none, some (.int (cu.1 2)), l4, l5] [] w (some n) 0 0 Q := by
  have c8 := hg.c8
  have c2 : cu.1 2 = nI (cntOf cu) := hg.c2
  have hn : hasS (cu.1 2) (cu.1 2) = 0 := has_self
  have hm : hasS (cu.1 2) (-1) = 0 := has_neg (by decide)
  have m1 : ∀ c : Nat, c < cntOf cu → nI c ≠ -1 := fun c hc => fun z => (nI_m1 (by omega)).mp z
  have m8 : ∀ c : Nat, c < cntOf cu → nI c ≠ 8 := fun c hc z => by
    have := (nI_eq (by omega) (by decide)).mp (show nI c = nI 8 from z)
    omega
  have mn : ∀ c : Nat, c < cntOf cu → nI c ≠ cu.1 2 := fun c hc z => by
    have := (nI_eq (by omega) (by omega)).mp (show nI c = nI (cntOf cu) by rw [← c2]; exact z)
    omega
  have hBB : B < 2 ^ 24 := by omega
  refine L_refused_227.mpr (L_refused_228.mpr (L_refused_229.mpr (?_)))
  refine L_refused_231.mpr ?_
  refine R_manner h (r_man3 hn) hg ?_
  clear h
  intro w p h
  refine L_refused_234.mpr (?_)
  refine L_refused_237.mpr (ifT (rfl) ?_)
  refine L_refused_240.mpr (L_refused_241.mpr (L_refused_242.mpr (L_refused_243.mpr (?_))))
  refine L_refused_244.mpr ?_
  refine A_is rfl (by decide) h ?_
  clear h
  intro w p h
  refine L_refused_247.mpr (ifF (by decide) ?_)
  refine L_refused_250.mpr (L_refused_251.mpr (L_refused_252.mpr (L_refused_253.mpr (?_))))
  refine L_refused_254.mpr ?_
  refine R_clocks h (r_clo3 hm) hg ?_
  clear h
  intro w p h
  refine L_refused_257.mpr (?_)
  refine L_refused_260.mpr (ifT (rfl) ?_)
  refine L_refused_263.mpr (L_refused_264.mpr (L_refused_265.mpr (L_refused_266.mpr (?_))))
  refine L_refused_267.mpr ?_
  refine A_is rfl (by decide) h ?_
  clear h
  intro w p h
  refine L_refused_270.mpr (ifF (by decide) ?_)
  refine L_refused_273.mpr (L_refused_274.mpr (?_))
  refine L_refused_275.mpr ?_
  refine R_take h (r_tak3 hn) hg ?_
  clear h
  intro w p h
  refine L_refused_278.mpr (?_)
  refine L_refused_281.mpr (ifT (rfl) ?_)
  refine L_refused_284.mpr (L_refused_285.mpr (L_refused_286.mpr (L_refused_287.mpr (?_))))
  refine L_refused_288.mpr ?_
  refine A_is rfl (by decide) h ?_
  clear h
  intro w p h
  refine L_refused_291.mpr (ifF (by decide) ?_)
  refine L_refused_294.mpr (L_refused_295.mpr (L_refused_296.mpr (?_)))
  refine L_refused_297.mpr ?_
  refine R_acc3 hg h ?_
  clear h
  intro w p h
  refine L_refused_300.mpr ?_
  refine R_waiter h (r_wai7 hg) hg ?_
  clear h
  intro w p h
  refine L_refused_303.mpr (?_)
  refine L_refused_306.mpr (ifT (rfl) ?_)
  refine L_refused_309.mpr (L_refused_310.mpr (L_refused_312.mpr (L_refused_313.mpr (?_))))
  refine L_refused_314.mpr ?_
  refine A_is rfl (by decide) h ?_
  clear h
  intro w p h
  refine L_refused_317.mpr (ifF (by decide) ?_)
  refine L_refused_320.mpr (L_refused_321.mpr (L_refused_322.mpr (L_refused_323.mpr (L_refused_324.mpr (?_)))))
  refine L_refused_325.mpr ?_
  refine A_seatOf (k := 0) (j := 0) hg (show 0 < cntOf cu by omega) (by decide) h ?_
  clear h
  intro w p h
  refine L_refused_328.mpr ?_
  refine R_manner h (r_man7 hg h2) hg ?_
  clear h
  intro w p h
  refine L_refused_331.mpr (?_)
  refine L_refused_334.mpr (ifT (rfl) ?_)
  refine L_refused_337.mpr (L_refused_338.mpr (L_refused_340.mpr (L_refused_341.mpr (?_))))
  refine L_refused_342.mpr ?_
  refine A_is rfl (by decide) h ?_
  clear h
  intro w p h
  refine L_refused_345.mpr (ifF (by decide) ?_)
  refine L_refused_348.mpr (L_refused_349.mpr (?_))
  first | refine L_refused_353_I.mpr ?_ | refine L_refused_353_R.mpr ?_ | refine L_refused_353_none.mpr ?_
  exact hQ _ _ (h.up (by omega))
theorem A_ref4 (hg : Iv B cu) (hB : B + 5940 < 2 ^ 24) (h2 : 2 ≤ cntOf cu) {a : Int64} {l4 l5 : Option Value} (h : AW x w0 m N (cu, hi, sa, (7, 0, 0), fl, tx) w n) (hQ : ∀ w p, AW x w0 m (N + 60) (cu, hi, sa, (7, 0, 0), fl, tx) w p → Ev X 148 489 [some (.ref x), some (.long a), none, some (.int (cu.1 2)), some (.int 1), l5] [] w (some p) 0 0 Q) : Ev X 148 355 [some (.ref x), some (.long a), none, some (.int (cu.1 2)), some (.int 1), l5] [] w (some n) 0 0 Q := by
  have c8 := hg.c8
  have c2 : cu.1 2 = nI (cntOf cu) := hg.c2
  have hn : hasS (cu.1 2) (cu.1 2) = 0 := has_self
  have hm : hasS (cu.1 2) (-1) = 0 := has_neg (by decide)
  have m1 : ∀ c : Nat, c < cntOf cu → nI c ≠ -1 := fun c hc => fun z => (nI_m1 (by omega)).mp z
  have m8 : ∀ c : Nat, c < cntOf cu → nI c ≠ 8 := fun c hc z => by
    have := (nI_eq (by omega) (by decide)).mp (show nI c = nI 8 from z)
    omega
  have mn : ∀ c : Nat, c < cntOf cu → nI c ≠ cu.1 2 := fun c hc z => by
    have := (nI_eq (by omega) (by omega)).mp (show nI c = nI (cntOf cu) by rw [← c2]; exact z)
    omega
  have hBB : B < 2 ^ 24 := by omega
  refine L_refused_355.mpr (?_)
  refine L_refused_357.mpr (ifF (by decide) ?_)
  refine L_refused_360.mpr (L_refused_361.mpr (L_refused_362.mpr (?_)))
  refine L_refused_364.mpr ?_
  refine A_seatOf_out (s := (cu, hi, sa, (7, 0, 0), fl, tx)) hn h ?_
  clear h
  intro w p h
  refine L_refused_367.mpr (?_)
  refine L_refused_370.mpr (ifT (rfl) ?_)
  refine L_refused_373.mpr (L_refused_374.mpr (L_refused_375.mpr (?_)))
  refine L_refused_377.mpr ?_
  refine A_seatOf_bad (s := (cu, hi, sa, (7, 0, 0), fl, tx)) (has_0 hg h2) (Or.inr (by decide)) h ?_
  clear h
  intro w p h
  refine L_refused_380.mpr (?_)
  refine L_refused_383.mpr (ifT (rfl) ?_)
  refine L_refused_386.mpr (L_refused_387.mpr (L_refused_388.mpr (?_)))
  refine L_refused_389.mpr ?_
  refine A_seatOf_bad (s := (cu, hi, sa, (7, 0, 0), fl, tx)) (has_0 hg h2) (Or.inl (by decide)) h ?_
  clear h
  intro w p h
  refine L_refused_392.mpr (?_)
  refine L_refused_395.mpr (ifT (rfl) ?_)
  refine L_refused_398.mpr (L_refused_399.mpr (L_refused_400.mpr (?_)))
  refine L_refused_401.mpr ?_
  refine A_ladle_out (s := (cu, hi, sa, (7, 0, 0), fl, tx)) hn h ?_
  clear h
  intro w p h
  refine L_refused_404.mpr (?_)
  refine L_refused_407.mpr (ifT (rfl) ?_)
  refine L_refused_410.mpr (L_refused_411.mpr (L_refused_412.mpr (?_)))
  refine L_refused_413.mpr ?_
  refine A_ladle_out (s := (cu, hi, sa, (7, 0, 0), fl, tx)) hm h ?_
  clear h
  intro w p h
  refine L_refused_416.mpr (?_)
  refine L_refused_419.mpr (ifT (rfl) ?_)
  refine L_refused_422.mpr (L_refused_423.mpr (?_))
  refine L_refused_424.mpr ?_
  refine A_holder_out (s := (cu, hi, sa, (7, 0, 0), fl, tx)) hn h ?_
  clear h
  intro w p h
  refine L_refused_427.mpr (?_)
  refine L_refused_430.mpr (ifT (rfl) ?_)
  refine L_refused_433.mpr (L_refused_434.mpr (?_))
  refine L_refused_435.mpr ?_
  refine A_holder_out (s := (cu, hi, sa, (7, 0, 0), fl, tx)) hm h ?_
  clear h
  intro w p h
  refine L_refused_438.mpr (?_)
  refine L_refused_441.mpr (ifT (rfl) ?_)
  refine L_refused_444.mpr (L_refused_445.mpr (?_))
  refine L_refused_446.mpr ?_
  refine A_waitsFor_out (s := (cu, hi, sa, (7, 0, 0), fl, tx)) hn h ?_
  clear h
  intro w p h
  refine L_refused_449.mpr (?_)
  refine L_refused_452.mpr (ifT (rfl) ?_)
  refine L_refused_455.mpr (L_refused_456.mpr (?_))
  refine L_refused_457.mpr ?_
  refine A_waitsFor_out (s := (cu, hi, sa, (7, 0, 0), fl, tx)) hm h ?_
  clear h
  intro w p h
  refine L_refused_460.mpr (?_)
  refine L_refused_463.mpr (ifT (rfl) ?_)
  refine L_refused_466.mpr (L_refused_467.mpr (?_))
  refine L_refused_468.mpr ?_
  refine R_asking (s := (cu, hi, sa, (7, 0, 0), fl, tx)) hg m1 h ?_
  clear h
  intro w p h
  refine L_refused_471.mpr (?_)
  refine L_refused_474.mpr (ifT (rfl) ?_)
  refine L_refused_477.mpr (L_refused_478.mpr (?_))
  refine L_refused_480.mpr ?_
  refine R_asking (s := (cu, hi, sa, (7, 0, 0), fl, tx)) hg m8 h ?_
  clear h
  intro w p h
  refine L_refused_483.mpr (?_)
  refine L_refused_486.mpr (ifT (rfl) ?_)
  exact hQ _ _ (h.up (by omega))
theorem A_ref5 (hg : Iv B cu) (hB : B + 5940 < 2 ^ 24) (h2 : 2 ≤ cntOf cu) {a : Int64} {l4 l5 : Option Value} (h : AW x w0 m N (cu, hi, sa, (7, 0, 0), fl, tx) w n) (hQ : ∀ w p, AW x w0 m (N + 60) (cu, hi, sa, (7, 0, 0), fl, tx) w p → Ev X 148 644 [some (.ref x), some (.long a), none, some (.int (cu.1 2)), some (.int 1), l5] [] w (some p) 0 0 Q) : Ev X 148 489 [some (.ref x), some (.long a), none, some (.int (cu.1 2)), some (.int 1), l5] [] w (some n) 0 0 Q := by
  have c8 := hg.c8
  have c2 : cu.1 2 = nI (cntOf cu) := hg.c2
  have hn : hasS (cu.1 2) (cu.1 2) = 0 := has_self
  have hm : hasS (cu.1 2) (-1) = 0 := has_neg (by decide)
  have m1 : ∀ c : Nat, c < cntOf cu → nI c ≠ -1 := fun c hc => fun z => (nI_m1 (by omega)).mp z
  have m8 : ∀ c : Nat, c < cntOf cu → nI c ≠ 8 := fun c hc z => by
    have := (nI_eq (by omega) (by decide)).mp (show nI c = nI 8 from z)
    omega
  have mn : ∀ c : Nat, c < cntOf cu → nI c ≠ cu.1 2 := fun c hc z => by
    have := (nI_eq (by omega) (by omega)).mp (show nI c = nI (cntOf cu) by rw [← c2]; exact z)
    omega
  have hBB : B < 2 ^ 24 := by omega
  refine L_refused_489.mpr (L_refused_490.mpr (?_))
  refine L_refused_491.mpr ?_
  refine A_mealsIn_bad (s := (cu, hi, sa, (7, 0, 0), fl, tx)) (Or.inl (by decide)) h ?_
  clear h
  intro w p h
  refine L_refused_494.mpr (?_)
  refine L_refused_497.mpr (ifT (rfl) ?_)
  refine L_refused_500.mpr (L_refused_501.mpr (?_))
  refine L_refused_503.mpr ?_
  refine A_mealsIn_bad (s := (cu, hi, sa, (7, 0, 0), fl, tx)) (Or.inr (by decide)) h ?_
  clear h
  intro w p h
  refine L_refused_506.mpr (?_)
  refine L_refused_509.mpr (ifT (rfl) ?_)
  refine L_refused_512.mpr (L_refused_513.mpr (?_))
  refine L_refused_514.mpr ?_
  refine R_hungriest (s := (cu, hi, sa, (7, 0, 0), fl, tx)) hg mn h ?_
  clear h
  intro w p h
  refine L_refused_517.mpr (?_)
  refine L_refused_520.mpr (ifT (rfl) ?_)
  refine L_refused_523.mpr (L_refused_524.mpr (?_))
  refine L_refused_525.mpr ?_
  refine R_hungriest (s := (cu, hi, sa, (7, 0, 0), fl, tx)) hg m1 h ?_
  clear h
  intro w p h
  refine L_refused_528.mpr (?_)
  refine L_refused_531.mpr (ifT (rfl) ?_)
  refine L_refused_534.mpr (L_refused_535.mpr (L_refused_536.mpr (?_)))
  refine L_refused_537.mpr ?_
  refine A_neighbours_out (s := (cu, hi, sa, (7, 0, 0), fl, tx)) (Or.inl hn) h ?_
  clear h
  intro w p h
  refine L_refused_540.mpr (?_)
  refine L_refused_543.mpr (ifT (rfl) ?_)
  refine L_refused_546.mpr (L_refused_547.mpr (L_refused_548.mpr (?_)))
  refine L_refused_549.mpr ?_
  refine A_neighbours_out (s := (cu, hi, sa, (7, 0, 0), fl, tx)) (Or.inr hm) h ?_
  clear h
  intro w p h
  refine L_refused_552.mpr (?_)
  refine L_refused_555.mpr (ifT (rfl) ?_)
  refine L_refused_558.mpr (L_refused_559.mpr (?_))
  refine L_refused_560.mpr ?_
  refine A_reason_bad (s := (cu, hi, sa, (7, 0, 0), fl, tx)) (Or.inr (by decide)) h ?_
  clear h
  intro w p h
  refine L_refused_563.mpr (?_)
  refine L_refused_566.mpr (ifT (rfl) ?_)
  refine L_refused_569.mpr (L_refused_570.mpr (?_))
  refine L_refused_571.mpr ?_
  refine A_reason_bad (s := (cu, hi, sa, (7, 0, 0), fl, tx)) (Or.inl (by decide)) h ?_
  clear h
  intro w p h
  refine L_refused_574.mpr (?_)
  refine L_refused_577.mpr (ifT (rfl) ?_)
  refine L_refused_580.mpr (L_refused_581.mpr (?_))
  refine L_refused_582.mpr ?_
  refine A_character_no (s := (cu, hi, sa, (7, 0, 0), fl, tx)) (Or.inl (by decide)) h ?_
  clear h
  intro w p h
  refine L_refused_585.mpr (?_)
  refine L_refused_588.mpr (ifT (rfl) ?_)
  refine L_refused_591.mpr (L_refused_592.mpr (?_))
  refine L_refused_594.mpr ?_
  refine A_character_no (s := (cu, hi, sa, (7, 0, 0), fl, tx)) (Or.inr (by decide)) h ?_
  clear h
  intro w p h
  refine L_refused_597.mpr (?_)
  refine L_refused_600.mpr (ifT (rfl) ?_)
  refine L_refused_603.mpr (L_refused_604.mpr (?_))
  refine L_refused_606.mpr ?_
  refine A_account_bad (s := (cu, hi, sa, (7, 0, 0), fl, tx)) (Or.inr (by decide)) h ?_
  clear h
  intro w p h
  refine L_refused_609.mpr (?_)
  refine L_refused_612.mpr (ifT (rfl) ?_)
  refine L_refused_615.mpr (L_refused_616.mpr (?_))
  refine L_refused_617.mpr ?_
  refine A_account_bad (s := (cu, hi, sa, (7, 0, 0), fl, tx)) (Or.inl (by decide)) h ?_
  clear h
  intro w p h
  refine L_refused_620.mpr (?_)
  refine L_refused_623.mpr (ifT (rfl) ?_)
  refine L_refused_626.mpr (L_refused_627.mpr (L_refused_629.mpr (L_refused_630.mpr (?_))))
  refine L_refused_631.mpr ?_
  refine A_is (s := (cu, hi, sa, (7, 0, 0), fl, tx)) rfl (by decide) h ?_
  clear h
  intro w p h
  refine L_refused_634.mpr (ifF (by decide) ?_)
  refine L_refused_637.mpr (L_refused_638.mpr (?_))
  first | refine L_refused_642_I.mpr ?_ | refine L_refused_642_R.mpr ?_ | refine L_refused_642_none.mpr ?_
  exact hQ _ _ (h.up (by omega))
theorem A_ref6 (hX : LitY X) (hg : Iv B cu) (hB : B + 5940 < 2 ^ 24) (h2 : 2 ≤ cntOf cu) (ht : tx = []) {l5 : Option Value} (h : AW x w0 m N (cu, hi, sa, wy, fl, tx) w n) (hQ : ∀ s' w p, AW x w0 m (N + 560) s' w p → s'.cur = cu → s'.hist = hi → s'.sav = sa → s'.txt = [] → Q (.inl (some (.int 1))) w (some p)) : Ev X 148 693 [some (.ref x), some (.long (asks cu)), none, some (.int (cu.1 2)), some (.int 1), l5] [] w (some n) 0 0 Q := by
  refine L_refused_693.mpr (?_)
  refine L_refused_695.mpr (ifF (by decide) ?_)
  refine L_refused_698.mpr (L_refused_699.mpr (?_))
  refine L_refused_702.mpr ?_
  refine A_reads hX.lx hg hB ht (hX.f (j := 8) (by decide)) (lit_asc (j := 8) (by decide)) (by decide) h ?_ (fun C D D1 j u v w p h1 h2 _ _ => by rw [tx_q h1] at h2; cases h2) (fun C D D1 j s2 w p h1 h2 _ _ _ => by rw [tx_q h1] at h2; cases h2)
  intro C D q w p e1 e2 h
  rw [tx_q e1] at e2
  cases e2
  refine L_refused_705.mpr (?_)
  refine L_refused_708.mpr (ifT (rfl) ?_)
  refine L_refused_711.mpr (?_)
  refine (L_refused_712 h.c).mpr ?_
  refine A_faultPosition h ?_
  clear h
  intro w p h
  refine L_refused_715.mpr (ifT (rfl) ?_)
  refine L_refused_718.mpr (L_refused_719.mpr (?_))
  refine L_refused_722.mpr ?_
  refine A_reads hX.lx hg hB rfl (hX.f (j := 9) (by decide)) (lit_asc (j := 9) (by decide)) (by decide) h (fun C D q w p h1 h2 _ => by rw [tx_9f h1] at h2; cases h2) ?_ (fun C D D1 j s2 w p h1 _ h3 _ _ => by rw [tx_9c h1 hg h2] at h3; cases h3)
  intro C D D1 j u v w p e1 e2 e3 h
  rw [tx_9c e1 hg h2] at e3
  cases e3
  refine L_refused_725.mpr (?_)
  refine L_refused_728.mpr (ifT (rfl) ?_)
  refine L_refused_731.mpr (L_refused_732.mpr (L_refused_733.mpr (L_refused_734.mpr (?_))))
  refine L_refused_735.mpr ?_
  refine A_is rfl (by decide) h ?_
  clear h
  intro w p h
  refine L_refused_738.mpr (ifF (by decide) ?_)
  refine L_refused_741.mpr (?_)
  refine (L_refused_742 h.c).mpr ?_
  refine A_faultPosition h ?_
  clear h
  intro w p h
  refine L_refused_745.mpr (?_)
  refine L_refused_746.mpr (ifT (rfl) ?_)
  refine L_refused_749.mpr (L_refused_750.mpr (?_))
  refine L_refused_753.mpr ?_
  refine A_reads hX.lx hg hB rfl (hX.f (j := 10) (by decide)) (lit_asc (j := 10) (by decide)) (by decide) h (fun C D q w p h1 h2 _ => by rw [tx_10f h1] at h2; cases h2) ?_ (fun C D D1 j s2 w p h1 _ h3 _ _ => by rw [tx_10c h1 hg h2] at h3; cases h3)
  intro C D D1 j u v w p e1 e2 e3 h
  rw [tx_10c e1 hg h2] at e3
  cases e3
  refine L_refused_756.mpr (?_)
  refine L_refused_759.mpr (ifT (rfl) ?_)
  refine L_refused_762.mpr (L_refused_763.mpr (L_refused_764.mpr (L_refused_766.mpr (?_))))
  refine L_refused_767.mpr ?_
  refine A_is rfl (by decide) h ?_
  clear h
  intro w p h
  refine L_refused_770.mpr (ifF (by decide) ?_)
  refine L_refused_773.mpr (?_)
  refine L_refused_774.mpr ?_
  refine A_asks hX.lx hg (by omega) h ?_
  clear h
  intro w p h
  refine L_refused_777.mpr (L_refused_778.mpr (?_))
  refine L_refused_779.mpr (ifT (lg_self) ?_)
  refine L_refused_782.mpr (L_refused_783.mpr (?_))
  exact (L_refused_787 okz1).mpr (hQ _ _ _ (h.up (by simp only [show (LBY.getD 8 []).length = 1 from rfl, show (LBY.getD 9 []).length = 8 from rfl, show (LBY.getD 10 []).length = 5 from rfl]; omega)) rfl rfl rfl rfl)
theorem A_refused (hX : LitY X) (hg : Iv B s.cur) (hB : B + 5940 < 2 ^ 24) (ht : s.txt = []) (h2 : 2 ≤ cntOf s.cur) (h : AW x w0 m N s w n)
    (hQ : ∀ s' w p, AW x w0 m (N + 1800) s' w p → s'.cur = s.cur → s'.hist = s.hist → s'.sav = s.sav → s'.txt = [] → Q (.inl (some (.int 1))) w (some p)) :
    Ev X 148 0 [some (.ref x), none, none, none, none, none] [] w (some n) 0 0 Q := by
  obtain ⟨cu, hi, sa, wy, fl, tx⟩ := s
  change Iv B cu at hg
  change tx = [] at ht
  change 2 ≤ cntOf cu at h2
  refine L_refused_0.mpr (?_)
  refine L_refused_1.mpr ?_
  refine A_asks hX.lx hg (by omega) h ?_
  clear h
  intro w p h
  first | refine L_refused_4_I.mpr ?_ | refine L_refused_4_R.mpr ?_ | refine L_refused_4_none.mpr ?_
  refine L_refused_5.mpr (L_refused_6.mpr (?_))
  refine L_refused_7.mpr ?_
  refine R_acc1 hg h ?_
  clear h
  intro w p h
  first | refine L_refused_10_I.mpr ?_ | refine L_refused_10_R.mpr ?_ | refine L_refused_10_none.mpr ?_
  refine A_ref1 hg hB h2 h ?_
  clear h
  intro w p h
  refine A_ref2 hg hB h2 h ?_
  clear h
  intro w p h
  refine A_ref3 hg hB h2 h ?_
  clear h
  intro w p h
  refine A_ref4 (l4 := none) hg hB h2 h ?_
  clear h
  intro w p h
  refine A_ref5 (l4 := none) hg hB h2 h ?_
  clear h
  intro w p h
  have rest : ∀ wy w p l5, AW x w0 m (N + 1000) (cu, hi, sa, wy, fl, tx) w p → Ev X 148 693 [some (.ref x), some (.long (asks cu)), none, some (.int (cu.1 2)), some (.int 1), l5] [] w (some p) 0 0 Q := fun wy w p l5 h => A_ref6 hX hg hB h2 ht h (fun s' w p h e1 e2 e3 e4 => hQ s' w p (h.up (by omega)) e1 e2 e3 e4)
  refine L_refused_644.mpr (L_refused_645.mpr (L_refused_646.mpr (?_)))
  refine L_refused_647.mpr ?_
  refine A_seatOf (k := 0) (j := 3) hg (show 0 < cntOf cu by omega) (by decide) h ?_
  clear h
  intro w p h
  first | refine L_refused_650_I.mpr ?_ | refine L_refused_650_R.mpr ?_ | refine L_refused_650_none.mpr ?_
  refine L_refused_652.mpr (L_refused_654.mpr (?_))
  refine L_refused_655.mpr ?_
  have e3 : numF cu.2.2 0 3 = cu.2.2 0 3 := rfl
  by_cases c : numF cu.2.2 0 3 = 3
  · rw [if_pos c]
    exact rest _ _ _ _ (h.up (by omega))
  · rw [if_neg c]
    refine L_refused_658.mpr (?_)
    refine L_refused_660.mpr (ifF (by decide) ?_)
    refine L_refused_663.mpr (L_refused_664.mpr (?_))
    refine L_refused_665.mpr ?_
    refine R_take h (r_tak6 hg h2 c) hg ?_
    clear h
    intro w p h
    refine L_refused_668.mpr (?_)
    refine L_refused_671.mpr (ifT (rfl) ?_)
    refine L_refused_674.mpr (L_refused_675.mpr (L_refused_677.mpr (L_refused_679.mpr (?_))))
    refine L_refused_680.mpr ?_
    refine A_is rfl (by decide) h ?_
    clear h
    intro w p h
    refine L_refused_683.mpr (ifF (by decide) ?_)
    refine L_refused_686.mpr (L_refused_687.mpr (?_))
    first | refine L_refused_691_I.mpr ?_ | refine L_refused_691_R.mpr ?_ | refine L_refused_691_none.mpr ?_
    exact rest _ _ _ _ (h.up (by omega))
end RFU
