/-! ===== one change of the law's choosing ===== -/
section CHN
variable {X : Cxt} {w w0 : Wld} {n x m N B : Nat} {Q : (Option Value ⊕ String) → Wld → Option Nat → Prop} {s : St}
theorem SW_b {w w2 : Wld} {b : Nat} {T : Nat → Tb} {pa : Nat → Nat} {be : Nat} {Z P C D R Lt : Nat → Int32} (h : w b = w2 b) : SW w x T pa be Z P C D R Lt b = SW w2 x T pa be Z P C D R Lt b := by
  simp only [SW, txt, bk, blk, h]
/-- the world grows above -/
theorem AW.grow {p p2 N2 : Nat} {w2 : Wld} (h : AW x w0 m N s w p) (hx : x + 139 ≤ m) (hw : ∀ a, a < p → w2 a = w a) (hp : p ≤ p2) (hN : p2 ≤ N2) : AW x w0 m N2 s w2 p2 := by
  obtain ⟨lt, w1, T, pa, be, Z, P, C, D, R, Lt, rfl, hw1, a⟩ := h
  have mp := a.mn
  refine ⟨lt, fun a => if a < p then w1 a else w2 a, T, pa, be, Z, P, C, D, R, Lt, ?_, fun b hb => ?_, (AWd.mk (by omega) (hN) a.hP a.hZ5 a.h8 a.hT a.hh a.hs a.hf a.hR a.hp a.hc a.h60 a.hz a.hl a.h40 a.hk a.hg)⟩
  · funext b
    by_cases hb : b < p
    · rw [hw b hb]
      exact SW_b (if_pos hb).symm
    · rw [SW_out (by omega), if_neg hb]
  · dsimp only
    rw [if_pos (by omega)]
    exact hw1 b hb
/-- what lies below the size stays from here on -/
theorem AW.re {p : Nat} (h : AW x w0 m N s w p) : ∃ w1, AW x w1 p N s w p ∧ m ≤ p ∧ (∀ a, a < m → w1 a = w0 a) ∧ ∀ a, x + 139 ≤ a → w1 a = w a := by
  obtain ⟨lt, w1, T, pa, be, Z, P, C, D, R, Lt, rfl, hw1, a⟩ := h
  exact ⟨w1, ⟨lt, w1, T, pa, be, Z, P, C, D, R, Lt, rfl, fun _ _ => rfl, (AWd.mk (Nat.le_refl p) a.nN a.hP a.hZ5 a.h8 a.hT a.hh a.hs a.hf a.hR a.hp a.hc a.h60 a.hz a.hl a.h40 a.hk a.hg)⟩, a.mn, hw1, fun a ha => (SW_out ha).symm⟩
theorem AW.back {p m2 : Nat} {w1 : Wld} (h : AW x w1 m2 N s w p) (hm : m ≤ m2) (hw : ∀ a, a < m → w1 a = w0 a) : AW x w0 m N s w p := by
  obtain ⟨lt, w2, T, pa, be, Z, P, C, D, R, Lt, rfl, hw1, a⟩ := h
  have := a.mn
  exact ⟨lt, w2, T, pa, be, Z, P, C, D, R, Lt, rfl, fun b hb => (hw1 b (by omega)).trans (hw b hb), (AWd.mk (by omega) a.nN a.hP a.hZ5 a.h8 a.hT a.hh a.hs a.hf a.hR a.hp a.hc a.h60 a.hz a.hl a.h40 a.hk a.hg)⟩
theorem cmdR_le {L : Nat} {C : Nat → Int32} : ∀ (d i p : Nat) (D : Nat → Int32) (t : Tb) (j : Nat) (t2 : Tb), cmdR L C d i p D t = .inr (j, t2) → j ≤ i + d := by
  intro d
  induction d with
  | zero =>
    intro i p D t j t2 h
    unfold cmdR at h
    cases h
    exact Nat.le_refl i
  | succ d ih =>
    intro i p D t j t2 h
    unfold cmdR at h
    split at h
    · cases h; omega
    · split at h
      · split at h
        · cases h
        · have := ih _ _ _ _ _ _ h
          omega
      · cases h; omega
theorem mod10 : ∀ k : Nat, k ≤ 8 → nI k - nI k / 10 * 10 = nI k := by decide
theorem lit_by : ∀ j : Nat, j < 17 → ByL (LBY.getD j []) := by unfold ByL; decide +kernel
theorem dig_by : ∀ d : Nat, d < 10 → okv .byte (.int (nI (48 + d))) = true := by decide +kernel
theorem dig_as : ∀ d : Nat, d < 10 → (((nI (48 + d)) &&& 255).toUInt32 % 65536).toInt32 = nI (48 + d) ∧ narrow .char (.int (nI (48 + d))) = .int (nI (48 + d)) := by decide +kernel
theorem ByL.app {L K : List Int32} (h1 : ByL L) (h2 : ByL K) : ByL (L ++ K) := fun c hc => (List.mem_append.mp hc).elim (h1 c) (h2 c)
theorem Asc.app {L K : List Int32} (h1 : Asc L) (h2 : Asc K) : Asc (L ++ K) := fun c hc => (List.mem_append.mp hc).elim (h1 c) (h2 c)
theorem ByL.one {d : Nat} (hd : d < 10) : ByL [nI (48 + d)] := fun c hc => by cases List.mem_singleton.mp hc; exact dig_by d hd
theorem Asc.one {d : Nat} (hd : d < 10) : Asc [nI (48 + d)] := fun c hc => by cases List.mem_singleton.mp hc; exact dig_as d hd
theorem ByL.nil : ByL [] := fun c hc => absurd hc List.not_mem_nil
theorem Asc.nil : Asc [] := fun c hc => absurd hc List.not_mem_nil
theorem Hol.nil {f : Nat → Value} : Hol f [] := fun i hi => absurd hi (Nat.not_lt_zero i)
/-- a text that was put together is read -/
theorem A_text (hX : LitY X) (hN : Nok X (x + 139)) (hg : Iv B s.cur) (hB : B + 5940 < 2 ^ 24) (ht : s.txt = []) (hxm : x + 139 ≤ m) {L : List Int32} (hA : Asc L) (h16 : L.length < 16) {g : Nat → Value} (hL : Hol g L) {p : Nat} {w3 : Wld} {l1 l2 : Option Value} (h : AW x w0 m N s w p) (hw : ∀ a, a < p → w3 a = w a)
    (hT : ∀ s' w p, AW x w0 m (N + 30) s' w p → Iv (B + 5940) s'.cur → s'.hist = pushH s.hist s.cur → s'.sav = s.sav → s'.txt = [] → Q (.inl (some (.int 1))) w (some p))
    (hF : ∀ s' w p, AW x w0 m (N + 30) s' w p → s'.cur = s.cur → s'.hist = s.hist → s'.sav = s.sav → s'.txt = [] → Q (.inl (some (.int 0))) w (some p)) :
    Ev X 171 383 [some (.ref x), l1, l2] [.ref (p + 2), .ref x] (stW w3 (p + 2) L.length g) (some (p + 4)) 0 0 Q := by
  have pm : m ≤ p := by
    obtain ⟨lt, w1, T, pa, be, Z, P, C, D, R, Lt, rfl, hw1, a⟩ := h
    exact a.mn
  have pN : p ≤ N := by
    obtain ⟨lt, w1, T, pa, be, Z, P, C, D, R, Lt, rfl, hw1, a⟩ := h
    exact a.nN
  have h := h.grow (p2 := p + 4) (N2 := N + 4) (w2 := stW w3 (p + 2) L.length g) hxm (fun a ha => by
    rw [← hw a ha]
    unfold stW
    rw [if_neg (by omega), if_neg (by omega)]) (by omega) (by omega)
  obtain ⟨w1, h, hm, hw1, hw2⟩ := h.re
  have hS : StrF X w1 x (p + 4) (p + 2) L := fun w4 h4 => Or.inr ⟨p + 3, st_str (w := w3) hL (hN _ (by omega)).1 (hN _ (by omega)).2 ((h4 _ (by omega) (by omega)).trans (hw2 _ (by omega))) ((h4 _ (by omega) (by omega)).trans (hw2 _ (by omega)))⟩
  refine L_changes_383.mpr ?_
  refine A_reads hX.lx hg hB ht hS hA (by omega) h ?_ ?_ ?_
  · intro C D q w p h1 h2 h
    refine L_changes_386.mpr (ifT (by decide) (L_changes_393.mpr ((L_changes_394 okz0).mpr ?_)))
    exact hF _ _ _ ((h.back hm hw1).up (by omega)) rfl rfl rfl rfl
  · intro C D D1 j u v w p h1 h2 h3 h
    refine L_changes_386.mpr (ifT (by decide) (L_changes_393.mpr ((L_changes_394 okz0).mpr ?_)))
    exact hF _ _ _ ((h.back hm hw1).up (by omega)) rfl rfl rfl rfl
  · intro C D D1 j s2 w p h1 h2 h3 h4 h
    have := cmdR_le _ _ _ _ _ _ _ h3
    refine L_changes_386.mpr (ifF (nI_pos (by omega)) (L_changes_389.mpr (L_changes_390.mpr ((L_changes_394 okz1).mpr ?_))))
    exact hT _ _ _ ((h.back hm hw1).up (by omega)) h4 rfl rfl rfl
theorem A_changes (hn : X.2.2.2.2.2.1 < 2 ^ 31) (hX : LitY X) (hD : DigX X) (hN : Nok X (x + 139)) (hg : Iv B s.cur) (hB : B + 5940 < 2 ^ 24) (ht : s.txt = []) (hxm : x + 139 ≤ m) (h : AW x w0 m N s w n) {y : Int32}
    (hT : ∀ s' w p, AW x w0 m (N + 40) s' w p → Iv (B + 5940) s'.cur → s'.hist = pushH s.hist s.cur → s'.sav = s.sav → s'.txt = [] → Q (.inl (some (.int 1))) w (some p))
    (hF : ∀ s' w p, AW x w0 m (N + 40) s' w p → s'.cur = s.cur → s'.hist = s.hist → s'.sav = s.sav → s'.txt = [] → Q (.inl (some (.int 0))) w (some p)) :
    Ev X 171 0 [some (.ref x), some (.int y), none] [] w (some n) 0 0 Q := by
  have c8 := hg.c8
  refine L_changes_0.mpr (L_changes_1.mpr (L_changes_2.mpr (L_changes_3.mpr (L_changes_4.mpr (?_)))))
  refine L_changes_5.mpr ?_
  refine A_account (j := 1) hg (by decide) h ?_
  intro w p h
  rw [show accF (cntOf s.cur) s.cur (nI s.hist.length) (nI s.txt.length) 1 = nI (cntOf s.cur) from hg.c2]
  refine L_changes_8.mpr (L_changes_9.mpr ?_)
  rw [nI_1]
  refine L_changes_10.mpr ?_
  refine A_some (q := cntOf s.cur + 1) (by omega) (by omega) ?_
  intro e he
  refine L_changes_13.mpr (L_changes_14.mpr (L_changes_15.mpr (?_)))
  have b92 : Ev X 171 92 [some (.ref x), some (.int y), some (.int (nI e))] [] w (some p) 0 0 Q := by
    refine L_changes_92.mpr (L_changes_93.mpr (L_changes_94.mpr (L_changes_95.mpr (L_changes_96.mpr (?_)))))
    refine L_changes_97.mpr ?_
    refine A_some (q := 3) (by decide) (by decide) ?_
    intro r1 h1
    refine L_changes_100.mpr (L_changes_101.mpr (L_changes_103.mpr (L_changes_104.mpr (?_))))
    refine L_changes_106.mpr ?_
    refine A_some (q := 11) (by decide) (by decide) ?_
    intro r2 h2
    refine L_changes_109.mpr (L_changes_110.mpr (L_changes_112.mpr (L_changes_113.mpr (?_))))
    refine L_changes_115.mpr ?_
    refine A_some (q := 11) (by decide) (by decide) ?_
    intro r3 h3
    refine L_changes_118.mpr ?_
    refine A_join hg h ?_
    intro w p h
    generalize hr : addF _ _ _ _ _ = r at h ⊢
    cases r with
    | inl q => exact L_changes_121.mpr (ifT (show (-1001 : Int32) < 0 by decide) (L_changes_128.mpr ((L_changes_129 okz0).mpr (hF _ _ _ (h.up (by omega)) rfl rfl rfl ht))))
    | inr q =>
      obtain ⟨v, s2⟩ := q
      obtain ⟨i1, i2⟩ := add_inv hg hr
      exact L_changes_121.mpr (ifF i1.pos (L_changes_124.mpr (L_changes_125.mpr ((L_changes_129 okz1).mpr (hT _ _ _ (h.up (by omega)) (i2.mono (by omega)) rfl rfl ht)))))
  have b130 : Ev X 171 130 [some (.ref x), some (.int y), some (.int (nI e))] [] w (some p) 0 0 Q := by
    refine L_changes_130.mpr (?_)
    refine L_changes_131.mpr ?_
    refine A_leave hg h ?_
    intro w p h
    generalize hr : remF _ _ = r at h ⊢
    cases r with
    | inl q => exact L_changes_134.mpr (ifT (show (-1001 : Int32) < 0 by decide) (L_changes_141.mpr ((L_changes_142 okz0).mpr (hF _ _ _ (h.up (by omega)) rfl rfl rfl ht))))
    | inr q =>
      obtain ⟨v, s2⟩ := q
      obtain ⟨i1, i2⟩ := rem_inv hg hr
      exact L_changes_134.mpr (ifF i1.pos (L_changes_137.mpr (L_changes_138.mpr ((L_changes_142 okz1).mpr (hT _ _ _ (h.up (by omega)) (i2.mono (by omega)) rfl rfl ht)))))
  have b143 : Ev X 171 143 [some (.ref x), some (.int y), some (.int (nI e))] [] w (some p) 0 0 Q := by
    refine L_changes_143.mpr (L_changes_144.mpr (L_changes_145.mpr (L_changes_146.mpr (L_changes_148.mpr (L_changes_149.mpr (?_))))))
    refine L_changes_150.mpr ?_
    refine A_some (q := 3) (by decide) (by decide) ?_
    intro r1 h1
    refine L_changes_153.mpr ?_
    refine A_manner hg h ?_
    intro w p h
    generalize hr : manX _ _ _ _ = r at h ⊢
    cases r with
    | inl q => exact L_changes_156.mpr (ifT (show (-1001 : Int32) < 0 by decide) (L_changes_163.mpr ((L_changes_164 okz0).mpr (hF _ _ _ (h.up (by omega)) rfl rfl rfl ht))))
    | inr q =>
      obtain ⟨v, s2⟩ := q
      obtain ⟨i1, i2⟩ := man_inv hg hr
      exact L_changes_156.mpr (ifF i1.pos (L_changes_159.mpr (L_changes_160.mpr ((L_changes_164 okz1).mpr (hT _ _ _ (h.up (by omega)) (i2.mono (by omega)) rfl rfl ht)))))
  have b165 : Ev X 171 165 [some (.ref x), some (.int y), some (.int (nI e))] [] w (some p) 0 0 Q := by
    refine L_changes_165.mpr (L_changes_166.mpr (L_changes_167.mpr (L_changes_168.mpr (L_changes_170.mpr (L_changes_171.mpr (?_))))))
    refine L_changes_173.mpr ?_
    refine A_some (q := 11) (by decide) (by decide) ?_
    intro r1 h1
    refine L_changes_176.mpr (L_changes_177.mpr (L_changes_179.mpr (L_changes_180.mpr (?_))))
    refine L_changes_182.mpr ?_
    refine A_some (q := 11) (by decide) (by decide) ?_
    intro r2 h2
    refine L_changes_185.mpr ?_
    refine A_clocks hg h ?_
    intro w p h
    generalize hr : cloX _ _ _ _ _ = r at h ⊢
    cases r with
    | inl q => exact L_changes_188.mpr (ifT (show (-1001 : Int32) < 0 by decide) (L_changes_195.mpr ((L_changes_196 okz0).mpr (hF _ _ _ (h.up (by omega)) rfl rfl rfl ht))))
    | inr q =>
      obtain ⟨v, s2⟩ := q
      obtain ⟨i1, i2⟩ := clo_inv hg hr
      exact L_changes_188.mpr (ifF i1.pos (L_changes_191.mpr (L_changes_192.mpr ((L_changes_196 okz1).mpr (hT _ _ _ (h.up (by omega)) (i2.mono (by omega)) rfl rfl ht)))))
  have b197 : Ev X 171 197 [some (.ref x), some (.int y), some (.int (nI e))] [] w (some p) 0 0 Q := by
    refine L_changes_197.mpr (L_changes_198.mpr (L_changes_199.mpr (L_changes_200.mpr (L_changes_201.mpr (?_)))))
    refine L_changes_203.mpr ?_
    refine A_some (q := 11) (by decide) (by decide) ?_
    intro r1 h1
    refine L_changes_206.mpr (L_changes_207.mpr (?_))
    refine L_changes_208.mpr ?_
    refine A_waiter hg h ?_
    intro w p h
    generalize hr : waiF _ _ = r at h ⊢
    cases r with
    | inl q => exact L_changes_211.mpr (ifT (show (-1001 : Int32) < 0 by decide) (L_changes_218.mpr ((L_changes_219 okz0).mpr (hF _ _ _ (h.up (by omega)) rfl rfl rfl ht))))
    | inr q =>
      obtain ⟨v, s2⟩ := q
      obtain ⟨i1, i2⟩ := wai_inv hg hr
      exact L_changes_211.mpr (ifF i1.pos (L_changes_214.mpr (L_changes_215.mpr ((L_changes_219 okz1).mpr (hT _ _ _ (h.up (by omega)) (i2.mono (by omega)) rfl rfl ht)))))
  have b220 : Ev X 171 220 [some (.ref x), some (.int y), some (.int (nI e))] [] w (some p) 0 0 Q := by
    refine L_changes_220.mpr (L_changes_221.mpr (L_changes_222.mpr (L_changes_223.mpr (L_changes_224.mpr (?_)))))
    refine L_changes_226.mpr ?_
    refine A_some (q := 101) (by decide) (by decide) ?_
    intro r1 h1
    refine L_changes_229.mpr ?_
    refine A_bring hg h ?_
    intro w p h
    generalize hr : briF _ _ = r at h ⊢
    cases r with
    | inl q => exact L_changes_232.mpr (ifT (show (-1001 : Int32) < 0 by decide) (L_changes_239.mpr ((L_changes_240 okz0).mpr (hF _ _ _ (h.up (by omega)) rfl rfl rfl ht))))
    | inr q =>
      obtain ⟨v, s2⟩ := q
      obtain ⟨i1, i2⟩ := bri_inv hg hr
      exact L_changes_232.mpr (ifF i1.pos (L_changes_235.mpr (L_changes_236.mpr ((L_changes_240 okz1).mpr (hT _ _ _ (h.up (by omega)) (i2.mono (by omega)) rfl rfl ht)))))
  have b241 : Ev X 171 241 [some (.ref x), some (.int y), some (.int (nI e))] [] w (some p) 0 0 Q := by
    refine L_changes_241.mpr (L_changes_242.mpr (?_))
    refine L_changes_243.mpr ?_
    refine A_take hg h ?_
    intro w p h
    generalize hr : takX _ _ _ = r at h ⊢
    cases r with
    | inl q => exact L_changes_246.mpr (ifT (show (-1001 : Int32) < 0 by decide) (L_changes_253.mpr ((L_changes_254 okz0).mpr (hF _ _ _ (h.up (by omega)) rfl rfl rfl ht))))
    | inr q =>
      obtain ⟨v, s2⟩ := q
      obtain ⟨i1, i2⟩ := tak_inv hg hr
      exact L_changes_246.mpr (ifF i1.pos (L_changes_249.mpr (L_changes_250.mpr ((L_changes_254 okz1).mpr (hT _ _ _ (h.up (by omega)) (i2.mono (by omega)) rfl rfl ht)))))
  have b274 : ∀ q : Nat, 0 < q → q < 2 ^ 31 → ∀ v : Int32, Ev X 171 274 [some (.ref x), some (.int y), some (.int (nI e))] [.int (nI q), .int v, .ref x] w (some p) 0 0 Q := by
    intro q h0 hq v
    refine L_changes_274.mpr ?_
    refine A_some h0 hq ?_
    intro r1 h1
    refine L_changes_277.mpr ?_
    refine A_pass hg (by omega) h ?_
    intro w p h
    generalize hr : pasF _ _ _ = r at h ⊢
    cases r with
    | inl q => exact L_changes_280.mpr (ifT (show (-1001 : Int32) < 0 by decide) (L_changes_287.mpr ((L_changes_288 okz0).mpr (hF _ _ _ (h.up (by omega)) rfl rfl rfl ht))))
    | inr q =>
      obtain ⟨v, s2⟩ := q
      obtain ⟨i1, i2⟩ := pas_inv hg (by omega) hr
      exact L_changes_280.mpr (ifF i1.pos (L_changes_283.mpr (L_changes_284.mpr ((L_changes_288 okz1).mpr (hT _ _ _ (h.up (by omega)) (i2.mono (by omega)) rfl rfl ht)))))
  have b255 : Ev X 171 255 [some (.ref x), some (.int y), some (.int (nI e))] [] w (some p) 0 0 Q := by
    refine L_changes_255.mpr (L_changes_256.mpr (L_changes_257.mpr (L_changes_258.mpr (L_changes_259.mpr (L_changes_260.mpr (L_changes_262.mpr (L_changes_263.mpr (L_changes_264.mpr (?_)))))))))
    refine L_changes_265.mpr ?_
    by_cases c : (y >>> (9 &&& 31)) &&& 1 = 0
    · rw [if_pos c]
      exact L_changes_268.mpr (L_changes_269.mpr (b274 5 (by decide) (by decide) _))
    · rw [if_neg c]
      exact L_changes_272.mpr (b274 101 (by decide) (by decide) _)
  have h0 : X.2.1 p = none := (hN p (by
    obtain ⟨lt, w1, T, pa, be, Z, P, C, D, R, Lt, rfl, hw1, a⟩ := h
    have := a.mn
    omega)).1
  have h1 : X.2.2.1 (p + 1) = none := (hN (p + 1) (by
    obtain ⟨lt, w1, T, pa, be, Z, P, C, D, R, Lt, rfl, hw1, a⟩ := h
    have := a.mn
    omega)).2
  have hNp : Nok X p := fun a ha => hN a (by
    obtain ⟨lt, w1, T, pa, be, Z, P, C, D, R, Lt, rfl, hw1, a⟩ := h
    have := a.mn
    omega)
  have hw : ∀ {c f}, ∀ a, a < p → sbW (wset w p (.inr (5, dflt 5))) p c f a = w a := fun {c f} a ha => by
    unfold sbW wset
    rw [if_neg (by omega), if_neg (by omega), if_neg (by omega)]
  have b289 : Ev X 171 289 [some (.ref x), some (.int y), some (.int (nI e))] [] w (some p) 0 0 Q := by
    refine L_changes_289.mpr (L_changes_290.mpr (L_changes_291.mpr (L_changes_293.mpr (L_changes_294.mpr (L_changes_295.mpr (?_))))))
    refine L_changes_296.mpr ?_
    by_cases c : (y >>> (6 &&& 31)) &&& 1 = 0
    · rw [if_pos c]
      refine L_changes_299.mpr (L_changes_302.mpr (L_changes_303.mpr ?_))
      refine sbr_new (if_pos rfl) ?_
      intro f
      have hf : Hol f [] := Hol.nil
      refine L_changes_306.mpr (?_)
      obtain ⟨v12, k1, k2⟩ := hX 12 (by decide)
      refine (L_changes_308 sbr_h).mpr ?_
      refine sbr_app (L := []) (K := LBY.getD 12 []) k1 k2 (lit_by 12 (by decide)) h0 h1 hf (by simp only [List.length_append, List.length_cons, List.length_nil]; decide) ?_
      intro f hf
      refine L_changes_311.mpr (L_changes_312.mpr (L_changes_313.mpr (L_changes_314.mpr (?_))))
      refine L_changes_316.mpr ?_
      refine A_some (q := 9) (by decide) (by decide) ?_
      intro d hd
      refine (L_changes_319 sbr_h).mpr ?_
      refine sbr_int (L := ([] ++ LBY.getD 12 [])) (d := d) (by omega) hD h0 h1 hf (by simp only [List.length_append, List.length_cons, List.length_nil]; decide) ?_
      intro f hf
      refine L_changes_322.mpr (?_)
      obtain ⟨v13, k1, k2⟩ := hX 13 (by decide)
      refine (L_changes_324 sbr_h).mpr ?_
      refine sbr_app (L := (([] ++ LBY.getD 12 []) ++ [nI (48 + d)])) (K := LBY.getD 13 []) k1 k2 (lit_by 13 (by decide)) h0 h1 hf (by simp only [List.length_append, List.length_cons, List.length_nil]; decide) ?_
      intro f hf
      refine L_changes_327.mpr (L_changes_328.mpr (?_))
      refine (L_changes_330 (by decide)).mpr ?_
      rw [mod10 e (by omega)]
      refine (L_changes_331 sbr_h).mpr ?_
      refine sbr_int (L := ((([] ++ LBY.getD 12 []) ++ [nI (48 + d)]) ++ LBY.getD 13 [])) (d := e) (by omega) hD h0 h1 hf (by simp only [List.length_append, List.length_cons, List.length_nil]; decide) ?_
      intro f hf
      have hby : ByL (((([] ++ LBY.getD 12 []) ++ [nI (48 + d)]) ++ LBY.getD 13 []) ++ [nI (48 + e)]) := ((((ByL.nil.app (lit_by 12 (by decide))).app (ByL.one (d := d) (by omega))).app (lit_by 13 (by decide))).app (ByL.one (d := e) (by omega)))
      have has : Asc (((([] ++ LBY.getD 12 []) ++ [nI (48 + d)]) ++ LBY.getD 13 []) ++ [nI (48 + e)]) := ((((Asc.nil.app (lit_asc (j := 12) (by decide))).app (Asc.one (d := d) (by omega))).app (lit_asc (j := 13) (by decide))).app (Asc.one (d := e) (by omega)))
      refine (L_changes_334 sbr_h).mpr ?_
      refine sbr_str (q := p + 2) (Nat.le_refl _) hNp hby hf (by simp only [List.length_append, List.length_cons, List.length_nil]; decide) ?_
      intro g hgg
      refine L_changes_337.mpr ?_
      exact A_text hX hN hg hB ht hxm has (by simp only [List.length_append, List.length_cons, List.length_nil]; decide) hgg h hw (fun s' w p h => hT s' w p (h.up (by omega))) (fun s' w p h => hF s' w p (h.up (by omega)))
    · rw [if_neg c]
      refine L_changes_340.mpr (L_changes_343.mpr (L_changes_344.mpr ?_))
      refine sbr_new (if_pos rfl) ?_
      intro f
      have hf : Hol f [] := Hol.nil
      refine L_changes_347.mpr (?_)
      obtain ⟨v14, k1, k2⟩ := hX 14 (by decide)
      refine (L_changes_349 sbr_h).mpr ?_
      refine sbr_app (L := []) (K := LBY.getD 14 []) k1 k2 (lit_by 14 (by decide)) h0 h1 hf (by simp only [List.length_append, List.length_cons, List.length_nil]; decide) ?_
      intro f hf
      refine L_changes_352.mpr (L_changes_353.mpr (L_changes_354.mpr (L_changes_355.mpr (?_))))
      refine L_changes_357.mpr ?_
      refine A_some (q := 9) (by decide) (by decide) ?_
      intro d hd
      refine (L_changes_360 sbr_h).mpr ?_
      refine sbr_int (L := ([] ++ LBY.getD 14 [])) (d := d) (by omega) hD h0 h1 hf (by simp only [List.length_append, List.length_cons, List.length_nil]; decide) ?_
      intro f hf
      refine L_changes_363.mpr (?_)
      obtain ⟨v15, k1, k2⟩ := hX 15 (by decide)
      refine (L_changes_365 sbr_h).mpr ?_
      refine sbr_app (L := (([] ++ LBY.getD 14 []) ++ [nI (48 + d)])) (K := LBY.getD 15 []) k1 k2 (lit_by 15 (by decide)) h0 h1 hf (by simp only [List.length_append, List.length_cons, List.length_nil]; decide) ?_
      intro f hf
      refine L_changes_368.mpr (L_changes_369.mpr (?_))
      refine (L_changes_371 (by decide)).mpr ?_
      rw [mod10 e (by omega)]
      refine (L_changes_372 sbr_h).mpr ?_
      refine sbr_int (L := ((([] ++ LBY.getD 14 []) ++ [nI (48 + d)]) ++ LBY.getD 15 [])) (d := e) (by omega) hD h0 h1 hf (by simp only [List.length_append, List.length_cons, List.length_nil]; decide) ?_
      intro f hf
      refine L_changes_375.mpr (?_)
      obtain ⟨v16, k1, k2⟩ := hX 16 (by decide)
      refine (L_changes_377 sbr_h).mpr ?_
      refine sbr_app (L := (((([] ++ LBY.getD 14 []) ++ [nI (48 + d)]) ++ LBY.getD 15 []) ++ [nI (48 + e)])) (K := LBY.getD 16 []) k1 k2 (lit_by 16 (by decide)) h0 h1 hf (by simp only [List.length_append, List.length_cons, List.length_nil]; decide) ?_
      intro f hf
      have hby : ByL ((((([] ++ LBY.getD 14 []) ++ [nI (48 + d)]) ++ LBY.getD 15 []) ++ [nI (48 + e)]) ++ LBY.getD 16 []) := (((((ByL.nil.app (lit_by 14 (by decide))).app (ByL.one (d := d) (by omega))).app (lit_by 15 (by decide))).app (ByL.one (d := e) (by omega))).app (lit_by 16 (by decide)))
      have has : Asc ((((([] ++ LBY.getD 14 []) ++ [nI (48 + d)]) ++ LBY.getD 15 []) ++ [nI (48 + e)]) ++ LBY.getD 16 []) := (((((Asc.nil.app (lit_asc (j := 14) (by decide))).app (Asc.one (d := d) (by omega))).app (lit_asc (j := 15) (by decide))).app (Asc.one (d := e) (by omega))).app (lit_asc (j := 16) (by decide)))
      refine (L_changes_380 sbr_h).mpr ?_
      refine sbr_str (q := p + 2) (Nat.le_refl _) hNp hby hf (by simp only [List.length_append, List.length_cons, List.length_nil]; decide) ?_
      intro g hgg
      exact A_text hX hN hg hB ht hxm has (by simp only [List.length_append, List.length_cons, List.length_nil]; decide) hgg h hw (fun s' w p h => hT s' w p (h.up (by omega))) (fun s' w p h => hF s' w p (h.up (by omega)))
  refine L_changes_17.mpr ?_
  refine A_some (q := 18) (by decide) (by decide) ?_
  intro k hk
  rcases (show k = 0 ∨ k = 1 ∨ k = 2 ∨ k = 3 ∨ k = 4 ∨ k = 5 ∨ k = 6 ∨ k = 7 ∨ k = 8 ∨ k = 9 ∨ k = 10 ∨ k = 11 ∨ k = 12 ∨ k = 13 ∨ k = 14 ∨ k = 15 ∨ k = 16 ∨ k = 17 by omega) with rfl | rfl | rfl | rfl | rfl | rfl | rfl | rfl | rfl | rfl | rfl | rfl | rfl | rfl | rfl | rfl | rfl | rfl
  · exact L_changes_20_0.mpr b92
  · exact L_changes_20_1.mpr b92
  · exact L_changes_20_2.mpr b130
  · exact L_changes_20_3.mpr b143
  · exact L_changes_20_4.mpr b143
  · exact L_changes_20_5.mpr b165
  · exact L_changes_20_6.mpr b197
  · exact L_changes_20_7.mpr b197
  · exact L_changes_20_8.mpr b220
  · exact L_changes_20_9.mpr b241
  · exact L_changes_20_10.mpr b241
  · exact L_changes_20_11.mpr b255
  · exact L_changes_20_12.mpr b255
  · exact L_changes_20_13.mpr b255
  · exact L_changes_20_14.mpr b289
  · exact L_changes_20_15.mpr b289
  · exact L_changes_20_16.mpr b289
  · exact L_changes_20_17.mpr b289
end CHN
