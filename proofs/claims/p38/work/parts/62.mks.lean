/-! ===== numbers of the script; some seats, a waiter, some ticks ===== -/
theorem rem_eq {x : Int32} {q : Nat} (h0 : 0 < q) (hq : q < 2 ^ 31) : x - x / (Int32.ofNat q) * (Int32.ofNat q) = x % Int32.ofNat q := by
  apply Int32.toInt_inj.mp
  have hb : (Int32.ofNat q).toInt = (q : Int) := Int32.toInt_ofNat_of_lt hq
  rw [Int32.toInt_sub, Int32.toInt_mul, Int32.toInt_mod, Int32.toInt_div, hb]
  have h1 := Int32.le_toInt x
  have h2 := Int32.toInt_lt x
  generalize x.toInt = a at h1 h2
  have e := Int.mul_tdiv_add_tmod a (q : Int)
  have hq1 : (1 : Int) ≤ (q : Int) := by omega
  have key : -(2 ^ 31) ≤ a.tdiv q ∧ a.tdiv q < 2 ^ 31 ∧ -(2 ^ 31) ≤ (q : Int) * a.tdiv q ∧ (q : Int) * a.tdiv q < 2 ^ 31 ∧ -(2 ^ 31) ≤ a.tmod q ∧ a.tmod q < 2 ^ 31 := by
    by_cases hx : 0 ≤ a
    · have t0 : 0 ≤ a.tdiv q := Int.tdiv_nonneg hx (by omega)
      have r0 : 0 ≤ a.tmod q := Int.tmod_nonneg _ hx
      have l := Int.mul_le_mul_of_nonneg_right hq1 t0
      rw [Int.one_mul] at l
      generalize (q : Int) * a.tdiv q = p at *
      omega
    · have e2 := Int.mul_tdiv_add_tmod (-a) (q : Int)
      have t0 : 0 ≤ (-a).tdiv q := Int.tdiv_nonneg (by omega) (by omega)
      have r0 : 0 ≤ (-a).tmod q := Int.tmod_nonneg _ (by omega)
      have l := Int.mul_le_mul_of_nonneg_right hq1 t0
      rw [Int.one_mul] at l
      rw [Int.neg_tdiv, Int.mul_neg] at l
      rw [Int.neg_tdiv] at t0
      rw [Int.neg_tmod] at r0
      rw [Int.neg_tdiv, Int.neg_tmod, Int.mul_neg] at e2
      generalize (q : Int) * a.tdiv q = p at *
      omega
  obtain ⟨k1, k2, k3, k4, k5, k6⟩ := key
  rw [Int.bmod_eq_of_le (n := a.tdiv q) (by omega) (by omega), Int.mul_comm (a.tdiv q)]
  rw [Int.bmod_eq_of_le (n := (q : Int) * a.tdiv q) (by omega) (by omega)]
  generalize (q : Int) * a.tdiv q = p at *
  have e3 : a - p = a.tmod q := by omega
  rw [e3, Int.bmod_eq_of_le (by omega) (by omega)]
theorem rem_lt {x : Int32} {q : Nat} (h0 : 0 < q) (hq : q < 2 ^ 31) : -(q : Int) < (x % Int32.ofNat q).toInt ∧ (x % Int32.ofNat q).toInt < q := by
  rw [Int32.toInt_mod, Int32.toInt_ofNat_of_lt hq]
  constructor
  · have := Int.tmod_lt_of_pos (-x.toInt) (show (0 : Int) < (q : Int) by omega)
    rw [Int.neg_tmod] at this
    omega
  · exact Int.tmod_lt_of_pos _ (by omega)
section MKS
variable {X : Cxt} {w w0 : Wld} {n x m N B : Nat} {n' : Option Nat} {Q : (Option Value ⊕ String) → Wld → Option Nat → Prop} {s : St}
theorem A_some {v : Int32} {q : Nat} (h0 : 0 < q) (hq : q < 2 ^ 31) (hQ : ∀ r : Nat, r < q → Q (.inl (some (.int (nI r)))) w n') : Ev X 102 0 [some (.int v), some (.int (nI q)), none] [] w n' 0 0 Q := by
  have hz : nI q ≠ 0 := fun z => by
    have := (nI_eq hq (by decide)).mp (show nI q = nI 0 from z)
    omega
  refine L_some_0.mpr (L_some_1.mpr ((L_some_2 hz).mpr ?_))
  have e : v - v / nI q * nI q = v % nI q := rem_eq h0 hq
  obtain ⟨l1, l2⟩ := rem_lt (x := v) h0 hq
  rw [e]
  refine L_some_3.mpr (L_some_4.mpr (L_some_5.mpr ?_))
  change -(q : Int) < (v % nI q).toInt at l1
  change (v % nI q).toInt < q at l2
  generalize v % nI q = d at l1 l2
  by_cases c : d < 0
  · rw [if_pos c]
    have c2 : d.toInt < 0 := Int32.lt_iff_toInt_lt.mp c
    refine L_some_8.mpr (L_some_9.mpr (L_some_10.mpr (L_some_11.mpr (L_some_15.mpr ?_))))
    have e2 : d + nI q = nI (d.toInt + q).toNat := by
      apply Int32.toInt_inj.mp
      rw [Int32.toInt_add, nI_toInt hq, nI_toInt (by omega), Int.bmod_eq_of_le (by omega) (by omega)]
      omega
    rw [e2]
    exact hQ _ (by omega)
  · rw [if_neg c]
    obtain ⟨j, hj, rfl⟩ := nI_of c
    rw [nI_toInt hj] at l2
    exact L_some_14.mpr (L_some_15.mpr (hQ j (by omega)))
theorem A_at (hn : X.2.2.2.2.2.1 < 2 ^ 31) {y : Int32} (hy : ¬ y < 0) (hQ : ∀ v : Int32, Q (.inl (some (.int v))) w n') : Ev X 101 0 [some (.ref X.2.2.2.2.1), some (.int y)] [] w n' 0 0 Q := by
  refine L_at_0.mpr (L_at_1.mpr (L_at_2.mpr (L_at_3.mpr ?_)))
  obtain ⟨j, hj, rfl⟩ := nI_of hy
  by_cases c : nI j < Int32.ofNat X.2.2.2.2.2.1
  · rw [if_pos c]
    refine L_at_6.mpr (L_at_7.mpr ((L_at_8 (inr_nI ?_ hn)).mpr (L_at_9.mpr (L_at_13.mpr (hQ _)))))
    exact Nat.lt_of_not_le (fun q => nI_nlt q hj c)
  · rw [if_neg c]
    exact L_at_12.mpr (L_at_13.mpr (hQ _))
theorem held_z {G : Nat → Int32} {cnt : Nat} (h : ∀ j, j < cnt → G j = -1) : itr (heldF G) cnt 0 = 0 := by
  have g : ∀ m, m ≤ cnt → itr (heldF G) m 0 = 0 := by
    intro m
    induction m with
    | zero => intro _; rfl
    | succ m ih =>
      intro hm
      rw [itr_s, ih (by omega)]
      exact if_pos (h m (by omega))
  exact g cnt (Nat.le_refl cnt)
/-- a table on which nothing but joins was done -/
def Jn (k : Nat) (t : Tb) : Prop := Iv 0 t ∧ cntOf t = k ∧ (∀ j, j < 8 → t.2.1 j = -1) ∧ t.1 3 = 0
theorem mnF_ok {q : Nat} (h : q < 2) : ¬ mnF (nI q) = 0 := by
  rcases (show q = 0 ∨ q = 1 by omega) with rfl | rfl <;> decide
theorem ck_ok : ∀ q : Nat, q < 9 → ¬ ckF (nI (1 + q)) = 0 := by decide
theorem add_ok {k q a b : Nat} {t : Tb} (hJ : Jn k t) (hk : k < 8) (hq : q < 2) (ha : a < 9) (hb : b < 9) : ∃ t2, addF (cntOf t) (nI q) (nI (1 + a)) (nI (1 + b)) t = .inr (nI k, t2) ∧ Jn (k + 1) t2 := by
  obtain ⟨h1, h2, h3, h4⟩ := hJ
  have c2 : t.1 2 = nI k := by rw [← h2]; exact h1.c2
  have e : addF (cntOf t) (nI q) (nI (1 + a)) (nI (1 + b)) t = .inr (nI k, (upd t.1 2 (nI (k + 1)), t.2.1, bgS t.2.2 k (nI q) (nI (1 + a)) (nI (1 + b)))) := by
    unfold addF
    rw [if_neg (mnF_ok hq), if_neg (ck_ok a ha), if_neg (ck_ok b hb), c2, if_pos (show nI k < 8 from nI_lt hk (by decide)), held_z (fun j hj => h3 j (by rw [h2] at hj; omega)), if_neg (by decide), nI_1, nI_pred, h2]
  refine ⟨_, e, ?_⟩
  obtain ⟨i1, i2⟩ := add_inv h1 e
  refine ⟨i2, ?_, h3, ?_⟩
  · unfold cntOf
    show (upd t.1 2 (nI (k + 1)) 2).toNatClampNeg = k + 1
    rw [upd_same]
    exact nI_clamp (by omega)
  · exact updv (F := t.1) (k := 2) (x := nI (k + 1)) (j := 3) (by decide) h4
theorem A_makes (hn : X.2.2.2.2.2.1 < 2 ^ 31) (hJ : Jn 0 s.cur) (h : AW x w0 m N s w n) (hQ : ∀ s' w p, AW x w0 m (N + 12) s' w p → Iv 99 s'.cur → 2 ≤ cntOf s'.cur → s'.txt = s.txt → s'.sav = s.sav → Q (.inl (some (.int 1))) w (some p)) : Ev X 105 0 [some (.ref x), some (.ref X.2.2.2.2.1), none, none, none] [] w (some n) 0 0 Q := by
  refine L_makes_0.mpr (L_makes_1.mpr (L_makes_2.mpr (?_)))
  refine L_makes_3.mpr ?_
  refine A_at hn (by decide) ?_
  intro v
  refine L_makes_6.mpr (?_)
  refine L_makes_7.mpr ?_
  refine A_some (q := 5) (by decide) (by decide) ?_
  intro r hr
  refine L_makes_10.mpr ?_
  rw [show (2 : Int32) + nI r = nI (2 + r) from nI_plus]
  refine L_makes_11.mpr (L_makes_12.mpr (L_makes_13.mpr (L_makes_14.mpr (?_))))
  refine lpN (α := Unit) (E := fun k _ w p => Ev X 105 15 [some (.ref x), some (.ref X.2.2.2.2.1), some (.int (nI (2 + r))), some (.int (nI k)), none] [.int (nI k)] w (some p) 0 0 Q) (A := fun k w p => ∃ s', AW x w0 m (N + k) s' w p ∧ Jn k s'.cur ∧ s'.txt = s.txt ∧ s'.sav = s.sav) (f := fun _ u => u) (n := 2 + r) (a0 := ()) (fun k a w p hk h next => ?_) (fun w p h => ?_) w n ⟨s, h, hJ, rfl, rfl⟩
  · obtain ⟨s', h, hJ, t1, t2⟩ := h
    have hcnt := hJ.2.1
    refine L_makes_15.mpr (?_)
    refine L_makes_16.mpr (ifT (nI_lt hk (by omega)) ?_)
    refine L_makes_19.mpr (L_makes_20.mpr (L_makes_21.mpr (L_makes_22.mpr (?_))))
    refine L_makes_23.mpr ?_
    refine A_at hn (by rw [show (1 : Int32) + nI k = nI (1 + k) from nI_plus]; exact nI_pos (by omega)) ?_
    intro z
    refine L_makes_26.mpr (L_makes_28.mpr (L_makes_29.mpr (L_makes_30.mpr (?_))))
    refine L_makes_31.mpr ?_
    refine A_at hn (by decide) ?_
    intro v0
    refine L_makes_34.mpr (L_makes_35.mpr (?_))
    have rest : ∀ q : Nat, q < 2 → Ev X 105 49 [some (.ref x), some (.ref X.2.2.2.2.1), some (.int (nI (2 + r))), some (.int (nI k)), some (.int z)] [.int (nI q), .ref x] w (some p) 0 0 Q := by
      intro q hq
      refine L_makes_49.mpr (L_makes_50.mpr (L_makes_52.mpr (L_makes_53.mpr (L_makes_54.mpr (?_)))))
      refine L_makes_55.mpr ?_
      refine A_some (q := 5) (by decide) (by decide) ?_
      intro r1 hr1
      refine L_makes_58.mpr ?_
      rw [show (1 : Int32) + nI r1 = nI (1 + r1) from nI_plus]
      refine L_makes_59.mpr (L_makes_60.mpr (L_makes_62.mpr (L_makes_63.mpr (L_makes_64.mpr (?_)))))
      refine L_makes_65.mpr ?_
      refine A_some (q := 5) (by decide) (by decide) ?_
      intro r2 hr2
      refine L_makes_68.mpr ?_
      rw [show (1 : Int32) + nI r2 = nI (1 + r2) from nI_plus]
      obtain ⟨t3, e3, j3⟩ := add_ok hJ (by omega) hq (show r1 < 9 by omega) (show r2 < 9 by omega)
      refine L_makes_69.mpr ?_
      refine A_join hJ.1 h ?_
      rw [e3]
      intro w p h
      refine L_makes_72.mpr (?_)
      refine L_makes_73.mpr (ifT (rfl) ?_)
      refine L_makes_78.mpr (L_makes_81.mpr (L_makes_14.mpr (?_)))
      rw [nI_1]
      exact next _ _ ⟨_, h, j3, t1, t2⟩
    refine L_makes_36.mpr ?_
    by_cases c : v0 &&& 1 = 0
    · rw [if_pos c]
      exact L_makes_39.mpr (L_makes_40.mpr (rest 0 (by decide)))
    · rw [if_neg c]
      refine L_makes_43.mpr (L_makes_45.mpr (?_))
      refine L_makes_46.mpr ?_
      refine A_some (q := 2) (by decide) (by decide) ?_
      intro r0 hr0
      exact rest r0 hr0
  · obtain ⟨s', h, hJ, t1, t2⟩ := h
    have hcnt := hJ.2.1
    refine L_makes_15.mpr (?_)
    refine L_makes_16.mpr (ifF (iirr) ?_)
    refine L_makes_84.mpr (L_makes_85.mpr (?_))
    refine L_makes_87.mpr ?_
    refine A_at hn (by decide) ?_
    intro v1
    refine L_makes_90.mpr (?_)
    refine L_makes_91.mpr ?_
    refine A_some (q := 2) (by decide) (by decide) ?_
    intro r1 hr1
    refine L_makes_94.mpr (L_makes_95.mpr (?_))
    refine L_makes_97.mpr ?_
    refine A_at hn (by decide) ?_
    intro v2
    refine L_makes_100.mpr (?_)
    refine L_makes_102.mpr ?_
    refine A_some (q := 9) (by decide) (by decide) ?_
    intro r2 hr2
    refine L_makes_105.mpr ?_
    rw [nI_mul]
    have h8 : r1 * r2 ≤ 8 := by
      rcases (show r1 = 0 ∨ r1 = 1 by omega) with rfl | rfl <;> omega
    generalize r1 * r2 = g at h8
    refine L_makes_106.mpr (L_makes_107.mpr (?_))
    have rest : ∀ s' w p, AW x w0 m (N + 9) s' w p → Iv 0 s'.cur → 2 ≤ cntOf s'.cur → s'.txt = s.txt → s'.sav = s.sav → Ev X 105 121 [some (.ref x), some (.ref X.2.2.2.2.1), some (.int (nI (2 + r))), some (.int (nI g)), none] [] w (some p) 0 0 Q := by
      intro s' w p h hg hc t1 t2
      refine L_makes_121.mpr (L_makes_122.mpr (L_makes_123.mpr (L_makes_124.mpr (?_))))
      refine L_makes_126.mpr ?_
      refine A_at hn (by decide) ?_
      intro v3
      refine L_makes_129.mpr (?_)
      refine L_makes_131.mpr ?_
      refine A_some (q := 60) (by decide) (by decide) ?_
      intro r3 hr3
      refine L_makes_134.mpr ?_
      rw [show (1 : Int32) + nI r3 = nI (1 + r3) from nI_plus]
      refine L_makes_135.mpr ?_
      have e : ∃ v s2, pasF (cntOf s'.cur) (nI (1 + r3)) s'.cur = .inr (v, s2) := by
        unfold pasF
        have n1 : ¬ nI (1 + r3) < 1 := fun z => nI_nlt (show 1 ≤ 1 + r3 by omega) (by omega) (show nI (1 + r3) < nI 1 from z)
        have n2 : ¬ 99 < nI (1 + r3) := fun z => nI_nlt (show 1 + r3 ≤ 99 by omega) (by decide) (show nI 99 < nI (1 + r3) from z)
        have n3 : ¬ s'.cur.1 2 < 2 := fun z => nI_nlt hc (by have := hg.c8; omega) (show nI (cntOf s'.cur) < nI 2 by rw [← hg.c2]; exact z)
        rw [if_neg n1, if_neg n2, if_neg n3]
        exact ⟨_, _, rfl⟩
      obtain ⟨v, s2, e⟩ := e
      obtain ⟨i1, i2⟩ := pas_inv hg (by decide) e
      have ec : cntOf s2 = cntOf s'.cur := by
        unfold pasF at e
        (repeat' split at e) <;> first | (cases e; done) | (cases e; unfold cntOf; rw [F2_tksF])
      refine A_pass hg (by decide) h ?_
      rw [e]
      intro w p h
      refine L_makes_138.mpr (ifF (i1.pos) ?_)
      refine L_makes_141.mpr (L_makes_142.mpr (?_))
      exact (L_makes_146 okz1).mpr (hQ _ _ _ (h.up (by omega)) i2 (by show 2 ≤ cntOf s2; omega) t1 t2)
    refine L_makes_108.mpr ?_
    by_cases c : 0 < nI g
    · rw [if_pos c]
      refine L_makes_111.mpr (L_makes_112.mpr (?_))
      refine L_makes_113.mpr ?_
      have e : waiF (nI g) s'.cur = .inr (0, (upd s'.cur.1 3 (nI g), s'.cur.2.1, s'.cur.2.2)) := by
        unfold waiF
        have n2 : ¬ 8 < nI g := fun z => nI_nlt h8 (by omega) (show nI 8 < nI g from z)
        rw [if_neg (nI_pos (by omega)), if_neg n2, hJ.2.2.2, if_neg (fun z => by rw [z] at c; exact iirr c)]
      obtain ⟨i1, i2⟩ := wai_inv hJ.1 e
      refine A_waiter hJ.1 h ?_
      rw [e]
      intro w p h
      refine L_makes_116.mpr (ifT rfl ?_)
      refine rest _ _ _ (h.up (by omega)) i2 ?_ t1 t2
      have e2 : cntOf ((upd s'.cur.1 3 (nI g), s'.cur.2.1, s'.cur.2.2) : Tb) = cntOf s'.cur := congrArg Int32.toNatClampNeg (show upd s'.cur.1 3 (nI g) 2 = s'.cur.1 2 from upd_ne (by decide))
      show 2 ≤ cntOf ((upd s'.cur.1 3 (nI g), s'.cur.2.1, s'.cur.2.2) : Tb)
      omega
    · rw [if_neg c]
      exact rest _ _ _ (h.up (by omega)) hJ.1 (by omega) t1 t2
end MKS
