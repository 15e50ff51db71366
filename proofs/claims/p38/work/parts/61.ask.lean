/-! ===== all that the law asks, as a function of the table ===== -/
theorem iirr {a : Int32} : ¬ a < a := fun h => Int32.lt_irrefl h
theorem ifT {c : Prop} [Decidable c] {a b : Prop} (h : c) (x : a) : if c then a else b := by rw [if_pos h]; exact x
theorem ifF {c : Prop} [Decidable c] {a b : Prop} (h : ¬ c) (x : b) : if c then a else b := by rw [if_neg h]; exact x
theorem lpN {α : Type} {E : Nat → α → Wld → Nat → Prop} {A : Nat → Wld → Nat → Prop} {f : Nat → α → α} {n : Nat} {a0 : α}
    (step : ∀ k a w p, k < n → A k w p → (∀ w p, A (k + 1) w p → E (k + 1) (f k a) w p) → E k a w p)
    (fin : ∀ w p, A n w p → E n (itr f n a0) w p) : ∀ w p, A 0 w p → E 0 a0 w p := by
  have g : ∀ d k, k + d = n → ∀ w p, A k w p → E k (itr f k a0) w p := by
    intro d
    induction d with
    | zero =>
      intro k hk w p h
      have e : k = n := by omega
      subst e
      exact fin w p h
    | succ d ih =>
      intro k hk w p h
      exact step k _ w p (by omega) h (fun w p h => ih (k + 1) (by omega) w p h)
  exact g n 0 (Nat.zero_add n)
def asK1 (s : Tb) (k : Nat) (a : Int64) : Int64 := 31 * a + (accF (cntOf s) s 0 0 k).toInt64
def asK2 (s : Tb) (k : Nat) (j : Nat) (a : Int64) : Int64 := 31 * a + (numF s.2.2 k j).toInt64
def asK3 (s : Tb) (k : Nat) (j : Nat) (a : Int64) : Int64 := 31 * a + (neV s (nI k) (nI j)).toInt64
def asK4 (s : Tb) (k : Nat) (a : Int64) : Int64 := itr (asK3 s k) (cntOf s) (31 * (31 * (31 * (31 * (31 * (31 * itr (asK2 s k) 10 a + (nI (ladN (cntOf s) s.2.2 k 1)).toInt64) + (nI (ladN (cntOf s) s.2.2 k 0)).toInt64) + (s.2.1 k).toInt64) + (waV s k).toInt64) + (asV s (nI k)).toInt64) + (huV s (nI k)).toInt64)
def asK5 (s : Tb) (a : Int64) : Int64 := 31 * (31 * (31 * (31 * (31 * a + (itr (eatF s.2.2) (cntOf s) 0).toInt64) + (itr (ringF (cntOf s) s.2.1 s.2.2) (cntOf s) 0).toInt64) + (stuI (cntOf s) s.1 s.2.1 s.2.2).toInt64) + (remI (cntOf s) s.1 s.2.1 s.2.2).toInt64) + (if surF (cntOf s) s = 0 then (0 : Int32) else 1).toInt64
def asK6 (s : Tb) (k : Nat) (a : Int64) : Int64 := 31 * a + ((lnl s).getD k 0).toInt64
/-- the sum of all answers -/
def asks (s : Tb) : Int64 :=
  31 * (31 * (31 * (31 * itr (asK6 s) (lnl s).length (asK5 s (itr (asK4 s) (cntOf s) (itr (asK1 s) 10 (31 * (mwV s).toInt64 + (faV s).toInt32.toInt64)))) + (miV s 9).toInt64) + (miV s 70).toInt64) + (siV s).toInt64) + (fewF (cntOf s) s.2.2).toInt64
theorem acc_cur {s : St} {k : Nat} (h : k < 10) : accF (cntOf s.cur) s.cur (nI s.hist.length) (nI s.txt.length) k = accF (cntOf s.cur) s.cur 0 0 k := by
  rcases (show k = 0 ∨ k = 1 ∨ k = 2 ∨ k = 3 ∨ k = 4 ∨ k = 5 ∨ k = 6 ∨ k = 7 ∨ k = 8 ∨ k = 9 by omega) with rfl | rfl | rfl | rfl | rfl | rfl | rfl | rfl | rfl | rfl <;> rfl
theorem cmpE {x : UInt64} (h : n64 x = true) : Op.cmpValue (FP.dcmp x x) .l = 0 := by rw [dc_self h]; rfl
theorem cmpF {x : UInt32} (h : n32 x = true) : Op.cmpValue (FP.fcmp x x) .l = 0 := by rw [fc_self h]; rfl
section ASK
variable {X : Cxt} {w w0 : Wld} {n x m N B : Nat} {Q : (Option Value ⊕ String) → Wld → Option Nat → Prop} {s : St}
theorem has_in {s : Tb} {B k : Nat} (hg : Iv B s) (hk : k < cntOf s) : ¬ hasS (s.1 2) (nI k) = 0 := by
  have := hg.c8
  rw [hg.c2]
  unfold hasS
  rw [if_neg (nI_pos (by omega)), if_pos (nI_lt hk (by omega))]
  decide
/-- the last part: what behind the loop of the seats is asked -/
theorem A_asks5 (hX : LitX X) (hg : Iv B s.cur) (h : AW x w0 m N s w n) {a : Int64} {l3 l4 : Option Value} (hQ : ∀ w n, AW x w0 m (N + 43) s w n → Q (.inl (some (.long (31 * (31 * (31 * (31 * itr (asK6 s.cur) (lnl s.cur).length (asK5 s.cur a) + (miV s.cur 9).toInt64) + (miV s.cur 70).toInt64) + (siV s.cur).toInt64) + (fewF (cntOf s.cur) s.cur.2.2).toInt64)))) w (some n)) : Ev X 139 200 [some (.ref x), some (.long a), none, l3, l4] [] w (some n) 0 0 Q := by
  refine L_asks_200.mpr (L_asks_203.mpr (L_asks_206.mpr (L_asks_209.mpr (L_asks_212.mpr (L_asks_215.mpr (L_asks_216.mpr (L_asks_217.mpr (?_))))))))
  refine (L_asks_218 h.c).mpr ?_
  refine A_eaters hg h ?_
  intro w p h
  refine L_asks_221.mpr (L_asks_222.mpr (L_asks_223.mpr (L_asks_224.mpr (?_))))
  refine (L_asks_225 h.c).mpr ?_
  refine A_ring hg h ?_
  intro w p h
  refine L_asks_228.mpr (L_asks_229.mpr (L_asks_230.mpr (L_asks_231.mpr (?_))))
  refine (L_asks_232 h.c).mpr ?_
  refine A_stuck hg h ?_
  intro w p h
  refine L_asks_235.mpr (L_asks_236.mpr (L_asks_237.mpr (L_asks_238.mpr (?_))))
  refine (L_asks_239 h.c).mpr ?_
  refine A_stuckAgain hg h ?_
  intro w p h
  refine L_asks_242.mpr (L_asks_243.mpr (L_asks_244.mpr (L_asks_245.mpr (?_))))
  refine (L_asks_246 h.c).mpr ?_
  refine A_isSure hg h ?_
  intro w p h
  have fin : ∀ {w : Wld} {p : Nat} {l3 l4 : Option Value}, AW x w0 m N s w p → Ev X 139 260 [some (.ref x), some (.long (asK5 s.cur a)), none, l3, l4] [] w (some p) 0 0 Q := by
    intro w p l3 l4 h
    refine L_asks_260.mpr (?_)
    refine (L_asks_261 h.c).mpr ?_
    refine A_line hX hg h ?_
    intro w p h
    first | refine L_asks_264_I.mpr ?_ | refine L_asks_264_R.mpr ?_ | refine L_asks_264_none.mpr ?_
    refine L_asks_265.mpr (?_)
    first | refine L_asks_266_I.mpr ?_ | refine L_asks_266_R.mpr ?_ | refine L_asks_266_none.mpr ?_
    have h40 : (lnl s.cur).length ≤ 40 := by
      obtain ⟨w1, T, pa, be, Z, P, C, D, R, Lt, rfl, hw, a⟩ := h
      exact a.h40
    refine lpN (E := fun k a w p => Ev X 139 268 [some (.ref x), some (.long a), none, some (.int (nI (lnl s.cur).length)), some (.int (nI k))] [] w (some p) 0 0 Q) (A := fun k w p => AWL x w0 m (N + k) s (lnl s.cur) w p) (f := asK6 s.cur) (n := (lnl s.cur).length) (fun k a w p hk h next => ?_) (fun w p h => ?_) w p h
    · refine L_asks_268.mpr (L_asks_270.mpr (?_))
      refine L_asks_271.mpr (ifT (nI_lt hk (by omega)) ?_)
      refine L_asks_274.mpr (L_asks_277.mpr (L_asks_278.mpr (L_asks_279.mpr (L_asks_280.mpr (?_)))))
      refine L_asks_282.mpr ?_
      refine A_character hk h ?_
      intro w p h
      refine L_asks_285.mpr (L_asks_286.mpr (?_))
      first | refine L_asks_287_I.mpr ?_ | refine L_asks_287_R.mpr ?_ | refine L_asks_287_none.mpr ?_
      first | refine L_asks_288_I.mpr ?_ | refine L_asks_288_R.mpr ?_ | refine L_asks_288_none.mpr ?_
      refine L_asks_291.mpr (?_)
      rw [nI_1]
      exact next _ _ h
    · refine L_asks_268.mpr (L_asks_270.mpr (?_))
      refine L_asks_271.mpr (ifF (iirr) ?_)
      refine L_asks_294.mpr (L_asks_297.mpr (L_asks_300.mpr (L_asks_303.mpr (L_asks_306.mpr (L_asks_307.mpr (L_asks_308.mpr (L_asks_309.mpr (?_))))))))
      refine L_asks_311.mpr ?_
      refine A_mealsIn (k := 9) hg (by decide) h.aw ?_
      intro w p h
      refine L_asks_314.mpr (L_asks_315.mpr (L_asks_316.mpr (L_asks_317.mpr (L_asks_318.mpr (?_)))))
      refine L_asks_320.mpr ?_
      refine A_mealsIn (k := 70) hg (by decide) h ?_
      intro w p h
      refine L_asks_323.mpr (L_asks_324.mpr (L_asks_325.mpr (L_asks_326.mpr (?_))))
      refine L_asks_327.mpr ?_
      refine A_stuckIn hg h ?_
      intro w p h
      refine L_asks_330.mpr (L_asks_331.mpr (L_asks_332.mpr (L_asks_333.mpr (?_))))
      refine (L_asks_334 h.c).mpr ?_
      refine A_rounds hg h ?_
      intro w p h
      refine L_asks_337.mpr (L_asks_338.mpr (L_asks_339.mpr (?_)))
      exact hQ _ _ (h.up (by omega))
  refine L_asks_249.mpr ?_
  by_cases z : surF (cntOf s.cur) s.cur = 0
  · rw [if_pos z]
    have e : asK5 s.cur a = 31 * (31 * (31 * (31 * (31 * a + (itr (eatF s.cur.2.2) (cntOf s.cur) 0).toInt64) + (itr (ringF (cntOf s.cur) s.cur.2.1 s.cur.2.2) (cntOf s.cur) 0).toInt64) + (stuI (cntOf s.cur) s.cur.1 s.cur.2.1 s.cur.2.2).toInt64) + (remI (cntOf s.cur) s.cur.1 s.cur.2.1 s.cur.2.2).toInt64) + (0 : Int32).toInt64 := by unfold asK5; rw [if_pos z]
    refine L_asks_256.mpr (L_asks_257.mpr (L_asks_258.mpr (?_)))
    first | refine L_asks_259_I.mpr ?_ | refine L_asks_259_R.mpr ?_ | refine L_asks_259_none.mpr ?_
    rw [e] at fin
    exact fin h
  · rw [if_neg z]
    have e : asK5 s.cur a = 31 * (31 * (31 * (31 * (31 * a + (itr (eatF s.cur.2.2) (cntOf s.cur) 0).toInt64) + (itr (ringF (cntOf s.cur) s.cur.2.1 s.cur.2.2) (cntOf s.cur) 0).toInt64) + (stuI (cntOf s.cur) s.cur.1 s.cur.2.1 s.cur.2.2).toInt64) + (remI (cntOf s.cur) s.cur.1 s.cur.2.1 s.cur.2.2).toInt64) + (1 : Int32).toInt64 := by unfold asK5; rw [if_neg z]
    refine L_asks_252.mpr (L_asks_253.mpr (L_asks_257.mpr (L_asks_258.mpr (?_))))
    first | refine L_asks_259_I.mpr ?_ | refine L_asks_259_R.mpr ?_ | refine L_asks_259_none.mpr ?_
    rw [e] at fin
    exact fin h
theorem A_asks4 (hX : LitX X) (hg : Iv B s.cur) (h : AW x w0 m N s w n) {a : Int64} (hQ : ∀ w n, AW x w0 m (N + 400) s w n → Q (.inl (some (.long (31 * (31 * (31 * (31 * itr (asK6 s.cur) (lnl s.cur).length (asK5 s.cur (itr (asK4 s.cur) (cntOf s.cur) a)) + (miV s.cur 9).toInt64) + (miV s.cur 70).toInt64) + (siV s.cur).toInt64) + (fewF (cntOf s.cur) s.cur.2.2).toInt64)))) w (some n)) : Ev X 139 51 [some (.ref x), some (.long a), none, some (.int (nI 0)), none] [.int (nI 0)] w (some n) 0 0 Q := by
  have c8 := hg.c8
  have c2 := hg.c2
  refine lpN (E := fun k a w p => Ev X 139 51 [some (.ref x), some (.long a), none, some (.int (nI k)), none] [.int (nI k)] w (some p) 0 0 Q) (A := fun k w p => AW x w0 m (N + 34 * k) s w p) (f := asK4 s.cur) (n := cntOf s.cur) (fun k a w p hk h next => ?_) (fun w p h => ?_) w n h
  · refine L_asks_51.mpr (L_asks_52.mpr (?_))
    refine L_asks_53.mpr ?_
    refine A_account (j := 1) hg (by decide) h ?_
    intro w p h
    refine L_asks_56.mpr (ifT (show nI k < s.cur.1 2 by rw [c2]; exact nI_lt hk (by omega)) ?_)
    refine L_asks_59.mpr (?_)
    first | refine L_asks_60_I.mpr ?_ | refine L_asks_60_R.mpr ?_ | refine L_asks_60_none.mpr ?_
    refine lpN (E := fun j a w p => Ev X 139 62 [some (.ref x), some (.long a), none, some (.int (nI k)), some (.int (nI j))] [] w (some p) 0 0 Q) (A := fun j w p => AW x w0 m (N + 34 * k + 1 + j) s w p) (f := asK2 s.cur k) (n := 10) (fun j a w p hj h next => ?_) (fun w p h => ?_) w p h
    · refine L_asks_62.mpr (L_asks_64.mpr (?_))
      refine L_asks_66.mpr (ifT (show nI j < nI 10 from nI_lt hj (by decide)) ?_)
      refine L_asks_69.mpr (L_asks_72.mpr (L_asks_73.mpr (L_asks_74.mpr (L_asks_75.mpr (L_asks_76.mpr (?_))))))
      refine L_asks_78.mpr ?_
      refine A_seatOf hg hk hj h ?_
      intro w p h
      refine L_asks_81.mpr (L_asks_82.mpr (?_))
      first | refine L_asks_83_I.mpr ?_ | refine L_asks_83_R.mpr ?_ | refine L_asks_83_none.mpr ?_
      first | refine L_asks_84_I.mpr ?_ | refine L_asks_84_R.mpr ?_ | refine L_asks_84_none.mpr ?_
      refine L_asks_87.mpr (?_)
      rw [nI_1]
      exact next _ _ h
    · refine L_asks_62.mpr (L_asks_64.mpr (?_))
      refine L_asks_66.mpr (ifF (show ¬ nI 10 < nI 10 from iirr) ?_)
      refine L_asks_90.mpr (L_asks_93.mpr (L_asks_96.mpr (L_asks_99.mpr (L_asks_102.mpr (L_asks_105.mpr (L_asks_108.mpr (L_asks_109.mpr (L_asks_110.mpr (L_asks_111.mpr (L_asks_112.mpr (?_)))))))))))
      refine L_asks_113.mpr ?_
      refine A_ladle hg hk h ?_
      intro w p h
      refine L_asks_116.mpr (L_asks_117.mpr (L_asks_118.mpr (L_asks_119.mpr (L_asks_120.mpr (L_asks_121.mpr (?_))))))
      refine L_asks_122.mpr ?_
      refine A_ladle hg hk h ?_
      intro w p h
      refine L_asks_125.mpr (L_asks_126.mpr (L_asks_127.mpr (L_asks_128.mpr (L_asks_129.mpr (?_)))))
      refine L_asks_130.mpr ?_
      refine A_holder hg hk h ?_
      intro w p h
      refine L_asks_133.mpr (L_asks_134.mpr (L_asks_135.mpr (L_asks_136.mpr (L_asks_137.mpr (?_)))))
      refine L_asks_138.mpr ?_
      refine A_waitsFor hg hk h ?_
      intro w p h
      refine L_asks_141.mpr (L_asks_142.mpr (L_asks_143.mpr (L_asks_144.mpr (L_asks_145.mpr (?_)))))
      refine L_asks_146.mpr ?_
      refine A_asking hg h ?_
      intro w p h
      refine L_asks_149.mpr (L_asks_150.mpr (L_asks_151.mpr (L_asks_152.mpr (L_asks_153.mpr (?_)))))
      refine L_asks_154.mpr ?_
      refine A_hungriest hg h ?_
      intro w p h
      refine L_asks_157.mpr (L_asks_158.mpr (?_))
      first | refine L_asks_159_I.mpr ?_ | refine L_asks_159_R.mpr ?_ | refine L_asks_159_none.mpr ?_
      refine L_asks_160.mpr (?_)
      first | refine L_asks_161_I.mpr ?_ | refine L_asks_161_R.mpr ?_ | refine L_asks_161_none.mpr ?_
      refine lpN (E := fun j a w p => Ev X 139 163 [some (.ref x), some (.long a), none, some (.int (nI k)), some (.int (nI j))] [] w (some p) 0 0 Q) (A := fun j w p => AW x w0 m (N + 34 * k + 17 + 2 * j) s w p) (f := asK3 s.cur k) (n := cntOf s.cur) (fun j a w p hj h next => ?_) (fun w p h => ?_) w p h
      · refine L_asks_163.mpr (L_asks_165.mpr (L_asks_166.mpr (?_)))
        refine L_asks_167.mpr ?_
        refine A_account (j := 1) hg (by decide) h ?_
        intro w p h
        refine L_asks_170.mpr (ifT (show nI j < s.cur.1 2 by rw [c2]; exact nI_lt hj (by omega)) ?_)
        refine L_asks_173.mpr (L_asks_176.mpr (L_asks_177.mpr (L_asks_178.mpr (L_asks_179.mpr (L_asks_180.mpr (?_))))))
        refine L_asks_182.mpr ?_
        refine A_neighbours (has_in hg hk) (has_in hg hj) h ?_
        intro w p h
        refine L_asks_185.mpr (L_asks_186.mpr (?_))
        first | refine L_asks_187_I.mpr ?_ | refine L_asks_187_R.mpr ?_ | refine L_asks_187_none.mpr ?_
        first | refine L_asks_188_I.mpr ?_ | refine L_asks_188_R.mpr ?_ | refine L_asks_188_none.mpr ?_
        refine L_asks_191.mpr (?_)
        rw [nI_1]
        exact next _ _ h
      · refine L_asks_163.mpr (L_asks_165.mpr (L_asks_166.mpr (?_)))
        refine L_asks_167.mpr ?_
        refine A_account (j := 1) hg (by decide) h ?_
        intro w p h
        refine L_asks_170.mpr (ifF (show ¬ nI (cntOf s.cur) < s.cur.1 2 by rw [c2]; exact iirr) ?_)
        first | refine L_asks_194_I.mpr ?_ | refine L_asks_194_R.mpr ?_ | refine L_asks_194_none.mpr ?_
        refine L_asks_197.mpr (L_asks_50.mpr (?_))
        rw [nI_1]
        exact next _ _ (h.up (by omega))
  · refine L_asks_51.mpr (L_asks_52.mpr (?_))
    refine L_asks_53.mpr ?_
    refine A_account (j := 1) hg (by decide) h ?_
    intro w p h
    refine L_asks_56.mpr (ifF (show ¬ nI (cntOf s.cur) < s.cur.1 2 by rw [c2]; exact iirr) ?_)
    exact A_asks5 hX hg h (fun w p h => hQ w p (h.up (by omega)))
theorem A_asks (hX : LitX X) (hg : Iv B s.cur) (hB : B ≤ 2 ^ 24) (h : AW x w0 m N s w n) (hQ : ∀ w n, AW x w0 m (N + 500) s w n → Q (.inl (some (.long (asks s.cur)))) w (some n)) : Ev X 139 0 [some (.ref x), none, none, none, none] [] w (some n) 0 0 Q := by
  refine L_asks_0.mpr (L_asks_3.mpr (?_))
  refine L_asks_4.mpr ?_
  refine A_meanWait hg h ?_
  intro w p h
  refine (L_asks_7 (cmpE mwV_n)).mpr (L_asks_10.mpr (L_asks_11.mpr (?_)))
  refine L_asks_12.mpr ?_
  refine A_fairness hg hB h ?_
  intro w p h
  refine (L_asks_15 (cmpF (faV_n hg hB))).mpr (L_asks_18.mpr (L_asks_19.mpr (?_)))
  first | refine L_asks_20_I.mpr ?_ | refine L_asks_20_R.mpr ?_ | refine L_asks_20_none.mpr ?_
  refine L_asks_21.mpr (?_)
  first | refine L_asks_22_I.mpr ?_ | refine L_asks_22_R.mpr ?_ | refine L_asks_22_none.mpr ?_
  refine lpN (E := fun k a w p => Ev X 139 23 [some (.ref x), some (.long a), none, some (.int (nI k)), none] [] w (some p) 0 0 Q) (A := fun k w p => AW x w0 m (N + 2 + k) s w p) (f := asK1 s.cur) (n := 10) (fun k a w p hk h next => ?_) (fun w p h => ?_) w p h
  · refine L_asks_23.mpr (L_asks_24.mpr (?_))
    refine L_asks_26.mpr (ifT (show nI k < nI 10 from nI_lt hk (by decide)) ?_)
    refine L_asks_29.mpr (L_asks_32.mpr (L_asks_33.mpr (L_asks_34.mpr (L_asks_35.mpr (?_)))))
    refine L_asks_36.mpr ?_
    refine A_account (j := k) hg (by omega) h ?_
    intro w p h
    rw [acc_cur hk]
    refine L_asks_39.mpr (L_asks_40.mpr (?_))
    first | refine L_asks_41_I.mpr ?_ | refine L_asks_41_R.mpr ?_ | refine L_asks_41_none.mpr ?_
    first | refine L_asks_42_I.mpr ?_ | refine L_asks_42_R.mpr ?_ | refine L_asks_42_none.mpr ?_
    refine L_asks_45.mpr (?_)
    rw [nI_1]
    exact next _ _ h
  · refine L_asks_23.mpr (L_asks_24.mpr (?_))
    refine L_asks_26.mpr (ifF (show ¬ nI 10 < nI 10 from iirr) ?_)
    refine L_asks_48.mpr (?_)
    first | refine L_asks_49_I.mpr ?_ | refine L_asks_49_R.mpr ?_ | refine L_asks_49_none.mpr ?_
    refine L_asks_50.mpr (?_)
    exact A_asks4 hX hg h (fun w p h => hQ w p (h.up (by omega)))
end ASK
