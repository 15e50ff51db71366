/-! ===== the law ===== -/
theorem AW.set {x m N n a : Nat} {w0 w : Wld} {s : St} {c : Cel} (h : AW x w0 m N s w n) (hx : x + 139 ≤ a) (ha : a < m) : AW x (wset w0 a c) m N s (wset w a c) n := by
  obtain ⟨lt, w1, T, pa, be, Z, P, C, D, R, Lt, rfl, hw, b⟩ := h
  refine ⟨lt, wset w1 a c, T, pa, be, Z, P, C, D, R, Lt, ?_, fun d hd => ?_, b⟩
  · funext d
    by_cases e : d = a
    · subst e
      rw [SW_out hx]
      unfold wset
      rw [if_pos rfl, if_pos rfl]
    · rw [show wset (SW w1 x T pa be Z P C D R Lt) a c d = SW w1 x T pa be Z P C D R Lt d from if_neg e]
      exact SW_b (if_neg e).symm
  · unfold wset
    split
    · rfl
    · exact hw d hd
/-- the array of the sums, and what undo will bring back: d tables r -/
def Was (w1 : Wld) (wa d : Nat) (r : Nat → Tb) : Prop := ∃ f : Nat → Int64, w1 wa = some (.inl (2, 11, fun i => .long (f i))) ∧ ∀ j, j < d → f j = asks (r j)
def Hrl (d : Nat) (r : Nat → Tb) (hs : List Tb) : Prop := min 8 d ≤ hs.length ∧ ∀ j, j < d → j < 8 → hs[hs.length - 1 - j]? = some (r (d - 1 - j))
theorem Hrl.push {d : Nat} {r : Nat → Tb} {hs : List Tb} {t : Tb} (h : Hrl d r hs) (h8 : hs.length ≤ 8) : Hrl (d + 1) (fun j => if j = d then t else r j) (pushH hs t) := by
  obtain ⟨h1, h2⟩ := h
  have hl := pushH_len (t := t) h8
  unfold Hrl
  rw [hl]
  unfold kpC pushH
  by_cases e : hs.length = 8
  · rw [if_pos e, if_pos e]
    refine ⟨by omega, fun j hj hj8 => ?_⟩
    dsimp only
    by_cases j0 : j = 0
    · subst j0
      rw [if_pos (by omega), List.getElem?_append_right (by rw [List.length_drop, e]; decide), List.length_drop, e]
      rfl
    · rw [if_neg (by omega), List.getElem?_append_left (by rw [List.length_drop, e]; omega), List.getElem?_drop]
      have := h2 (j - 1) (by omega) (by omega)
      rw [e] at this
      rw [show 1 + (8 - 1 - j) = 8 - 1 - (j - 1) by omega, this]
      congr 2
      omega
  · rw [if_neg e, if_neg e]
    refine ⟨by omega, fun j hj hj8 => ?_⟩
    dsimp only
    by_cases j0 : j = 0
    · subst j0
      rw [if_pos (by omega), List.getElem?_append_right (by omega), show hs.length + 1 - 1 - 0 - hs.length = 0 by omega]
      rfl
    · rw [if_neg (by omega), List.getElem?_append_left (by omega)]
      have := h2 (j - 1) (by omega) (by omega)
      rw [show hs.length + 1 - 1 - j = hs.length - 1 - (j - 1) by omega, this]
      congr 2
      omega
section LAW
variable {X : Cxt} {w w0 w1 : Wld} {n x y m N B wa : Nat} {Q : (Option Value ⊕ String) → Wld → Option Nat → Prop} {s : St} {t0 : Tb}
/-- what holds between two turns of the law's first loop -/
def Lp (y wa m N i d : Nat) (t0 : Tb) (w1 : Wld) (s : St) (r : Nat → Tb) (w : Wld) (p : Nat) : Prop :=
  AW y w1 m N s w p ∧ y + 139 ≤ wa ∧ wa < m ∧ Iv (99 + 5940 * i) s.cur ∧ s.txt = [] ∧ s.sav = some t0 ∧ d ≤ i ∧ Was w1 wa d r ∧ Hrl d r s.hist ∧ ∀ j, j < d → Iv (99 + 5940 * i) (r j)
theorem AW.h8 {x m N n : Nat} {w0 w : Wld} {s : St} (h : AW x w0 m N s w n) : s.hist.length ≤ 8 := by
  obtain ⟨lt, w1, T, pa, be, Z, P, C, D, R, Lt, rfl, hw, a⟩ := h
  exact a.h8
theorem law_a (hn : X.2.2.2.2.2.1 < 2 ^ 31) (hX : LitY X) (hD : DigX X) (hN : Nok X (y + 139)) {N i d : Nat} (hi : i ≤ 10) {w1 : Wld} {s : St} {r : Nat → Tb} {p : Nat} (h : Lp y wa m N i d t0 w1 s r w p)
    (hQ : ∀ d w1 s r w p, Lp y wa m (N + 1100 * (10 - i)) 10 d t0 w1 s r w p → Ev X 172 618 [some (.ref X.2.2.2.2.1), some (.ref x), some (.ref y), some (.long (asks t0)), none, some (.int (t0.1 2)), some (.ref wa), some (.int (nI d)), some (.int (nI 10)), none, none] [] w (some p) 0 0 Q) :
    Ev X 172 551 [some (.ref X.2.2.2.2.1), some (.ref x), some (.ref y), some (.long (asks t0)), none, some (.int (t0.1 2)), some (.ref wa), some (.int (nI d)), some (.int (nI i)), none, none] [] w (some p) 0 0 Q := by
  have g : ∀ k i, i + k = 10 → ∀ N d w1 s r w p, Lp y wa m N i d t0 w1 s r w p → (∀ d w1 s r w p, Lp y wa m (N + 1100 * k) 10 d t0 w1 s r w p → Ev X 172 618 [some (.ref X.2.2.2.2.1), some (.ref x), some (.ref y), some (.long (asks t0)), none, some (.int (t0.1 2)), some (.ref wa), some (.int (nI d)), some (.int (nI 10)), none, none] [] w (some p) 0 0 Q) → Ev X 172 553 [some (.ref X.2.2.2.2.1), some (.ref x), some (.ref y), some (.long (asks t0)), none, some (.int (t0.1 2)), some (.ref wa), some (.int (nI d)), some (.int (nI i)), none, none] [.int (nI i)] w (some p) 0 0 Q := by
    intro k
    induction k with
    | zero =>
      intro i hi N d w1 s r w p h hQ
      have e : i = 10 := by omega
      subst e
      refine L_law_553.mpr (?_)
      refine L_law_555.mpr (ifF (show ¬ nI 10 < nI 10 from iirr) ?_)
      exact hQ d w1 s r w p h
    | succ k ih =>
      intro i hi N d w1 s r w p h hQ
      obtain ⟨h, q1, q2, q3, q4, q5, q6, q7, q8, q9⟩ := h
      have hB : 99 + 5940 * i + 5940 < 2 ^ 24 := by omega
      have h8 := h.h8
      have hym : y + 139 ≤ m := by omega
      refine L_law_553.mpr (?_)
      refine L_law_555.mpr (ifT (show nI i < nI 10 from nI_lt (by omega) (by decide)) ?_)
      refine L_law_558.mpr (?_)
      refine L_law_559.mpr ?_
      refine A_asks hX.lx q3 (by omega) h ?_
      clear h
      intro w p h
      first | refine L_law_562_I.mpr ?_ | refine L_law_562_R.mpr ?_ | refine L_law_562_none.mpr ?_
      refine L_law_564.mpr (L_law_565.mpr (L_law_566.mpr (L_law_568.mpr (L_law_570.mpr (?_)))))
      refine L_law_571.mpr ?_
      refine A_at hn (by rw [show (20 : Int32) + nI i = nI (20 + i) from nI_plus]; exact nI_pos (by omega)) ?_
      intro v
      refine L_law_574.mpr (L_law_576.mpr (L_law_579.mpr (L_law_580.mpr (?_))))
      refine L_law_581.mpr ?_
      refine A_changes hn hX hD hN q3 hB q4 hym h ?_ ?_
      · intro s' w p h e1 e2 e3 e4
        obtain ⟨f, f1, f2⟩ := q7
        have hwa : w wa = some (.inl (2, 11, fun i => .long (f i))) := (h.fr q1 q2).trans f1
        refine L_law_584.mpr (ifF (by decide) ?_)
        refine L_law_587.mpr (L_law_589.mpr (?_))
        first | refine L_law_591_I.mpr ?_ | refine L_law_591_R.mpr ?_ | refine L_law_591_none.mpr ?_
        refine L_law_594.mpr (?_)
        refine L_law_596.mpr ⟨wset w wa (.inl (2, 11, updV (fun i => .long (f i)) d (.long (asks s.cur)))), ?_, ?_⟩
        · exact sa_ok hwa (show d < 11 by omega) (by decide)
        refine L_law_597.mpr (?_)
        first | refine L_law_612_I.mpr ?_ | refine L_law_612_R.mpr ?_ | refine L_law_612_none.mpr ?_
        refine L_law_615.mpr (L_law_551.mpr (?_))
        rw [nI_1, nI_1]
        refine ih (i + 1) (by omega) (N + 540) (d + 1) (wset w1 wa (.inl (2, 11, updV (fun i => .long (f i)) d (.long (asks s.cur))))) s' (fun j => if j = d then s.cur else r j) _ _ ⟨h.set q1 q2, q1, q2, ?_, e4, e3.trans q5, by omega, ?_, ?_, ?_⟩ (fun d w1 s r w p z => hQ d w1 s r w p ?_)
        · exact e1.mono (by omega)
        · refine ⟨fun j => if j = d then asks s.cur else f j, ?_, fun j hj => ?_⟩
          · unfold wset
            rw [if_pos rfl]
            congr 4
            funext j
            unfold updV
            dsimp only
            split <;> rfl
          · dsimp only
            by_cases e : j = d
            · rw [if_pos e, if_pos e]
            · rw [if_neg e, if_neg e]
              exact f2 j (by omega)
        · rw [e2]
          exact q8.push h8
        · intro j hj
          dsimp only
          split
          · exact q3.mono (by omega)
          · exact (q9 j (by omega)).mono (by omega)
        · obtain ⟨z1, z2⟩ := z
          exact ⟨z1.up (by omega), z2⟩
      · intro s' w p h e1 e2 e3 e4
        have q3' : Iv (99 + 5940 * i) s'.cur := by rw [e1]; exact q3
        refine L_law_584.mpr (ifT (rfl) ?_)
        refine L_law_600.mpr (?_)
        refine L_law_601.mpr ?_
        refine A_asks hX.lx q3' (by omega) h ?_
        clear h
        intro w p h
        refine L_law_604.mpr (L_law_606.mpr (?_))
        refine L_law_607.mpr (ifT (by rw [e1]; exact lg_self) ?_)
        first | refine L_law_612_I.mpr ?_ | refine L_law_612_R.mpr ?_ | refine L_law_612_none.mpr ?_
        refine L_law_615.mpr (L_law_551.mpr (?_))
        rw [nI_1]
        refine ih (i + 1) (by omega) (N + 1040) d w1 s' r _ _ ⟨h.up (by omega), q1, q2, q3'.mono (by omega), e4, e3.trans q5, by omega, q7, by rw [e2]; exact q8, fun j hj => (q9 j hj).mono (by omega)⟩ (fun d w1 s r w p z => hQ d w1 s r w p ?_)
        obtain ⟨z1, z2⟩ := z
        exact ⟨z1.up (by omega), z2⟩
  exact L_law_551.mpr (g (10 - i) i (by omega) N d w1 s r w p h hQ)
theorem imn8 {d : Nat} (hd : d ≤ 10) : imn 8 (nI d) = nI (min 8 d) := by
  unfold imn
  by_cases c : d < 8
  · rw [if_pos (show nI d < 8 from nI_lt (b := 8) c (by decide)), Nat.min_eq_right (by omega)]
  · rw [if_neg (show ¬ nI d < 8 from fun z => nI_nlt (show 8 ≤ d by omega) (by omega) z), Nat.min_eq_left (by omega)]
    rfl
theorem law_b (hX : LitY X) {d : Nat} {r : Nat → Tb} (h : Lp y wa m N 10 d t0 w1 s r w n)
    (hQ : ∀ s w p l10, AW y w1 m (N + 4100) s w p → s.txt = [] → s.sav = some t0 → Ev X 172 687 [some (.ref X.2.2.2.2.1), some (.ref x), some (.ref y), some (.long (asks t0)), none, some (.int (t0.1 2)), some (.ref wa), some (.int (nI d)), some (.int (nI (min 8 d))), some (.int (nI (min 8 d + 1))), l10] [] w (some p) 0 0 Q) :
    Ev X 172 618 [some (.ref X.2.2.2.2.1), some (.ref x), some (.ref y), some (.long (asks t0)), none, some (.int (t0.1 2)), some (.ref wa), some (.int (nI d)), some (.int (nI 10)), none, none] [] w (some n) 0 0 Q := by
  obtain ⟨h, q1, q2, q3, q4, q5, q6, q7, q8, q9⟩ := h
  have h8 := h.h8
  have u1 := q8.1
  refine L_law_618.mpr (L_law_620.mpr (?_))
  refine L_law_622.mpr ?_
  rw [imn8 q6]
  first | refine L_law_625_I.mpr ?_ | refine L_law_625_R.mpr ?_ | refine L_law_625_none.mpr ?_
  refine L_law_627.mpr (?_)
  first | refine L_law_628_I.mpr ?_ | refine L_law_628_R.mpr ?_ | refine L_law_628_none.mpr ?_
  refine L_law_630.mpr (?_)
  refine lpN (α := Unit) (E := fun u _ w p => Ev X 172 632 [some (.ref X.2.2.2.2.1), some (.ref x), some (.ref y), some (.long (asks t0)), none, some (.int (t0.1 2)), some (.ref wa), some (.int (nI d)), some (.int (nI (min 8 d))), some (.int (nI (u + 1))), none] [.int (nI (u + 1))] w (some p) 0 0 Q) (A := fun u w p => ∃ s', AW y w1 m (N + 501 * u) s' w p ∧ s'.hist = s.hist.take (s.hist.length - u) ∧ s'.txt = [] ∧ s'.sav = some t0) (f := fun _ u => u) (n := min 8 d) (a0 := ()) (fun u _ w p hu h next => ?_) (fun w p h => ?_) w n ⟨s, h, by rw [Nat.sub_zero, List.take_length], q4, q5⟩
  · obtain ⟨s', h, e1, e2, e3⟩ := h
    have hr := q8.2 u (by omega) (by omega)
    have eh : s'.hist = s.hist.take (s.hist.length - 1 - u) ++ [r (d - 1 - u)] := by
      rw [e1, show s.hist.length - u = (s.hist.length - 1 - u) + 1 by omega, List.take_add_one, hr]
      rfl
    have hl : (s.hist.take (s.hist.length - 1 - u)).length = s.hist.length - 1 - u := by rw [List.length_take]; omega
    have iv := q9 (d - 1 - u) (by omega)
    refine L_law_632.mpr (?_)
    refine L_law_634.mpr (ifF (fun z => nI_nlt (show u + 1 ≤ min 8 d by omega) (by omega) z) ?_)
    refine L_law_637.mpr (?_)
    refine L_law_638.mpr ?_
    refine A_undo eh h ?_
    clear h
    intro w p h
    rw [hl]
    first | refine L_law_641_I.mpr ?_ | refine L_law_641_R.mpr ?_ | refine L_law_641_none.mpr ?_
    refine L_law_643.mpr (L_law_645.mpr (L_law_647.mpr (?_)))
    refine L_law_649.mpr ?_
    rw [nI_sub (show u + 1 ≤ min 8 d by omega)]
    refine L_law_650.mpr (ifF (fun z => nI_nlt (show min 8 d - (u + 1) ≤ s.hist.length - 1 - u by omega) (by omega) z) ?_)
    refine L_law_653.mpr (L_law_655.mpr (L_law_657.mpr (?_)))
    refine L_law_659.mpr ?_
    rw [show (8 : Int32) - nI (u + 1) = nI (8 - (u + 1)) from nI_sub (a := 8) (by omega)]
    refine L_law_660.mpr (ifF (fun z => nI_nlt (show s.hist.length - 1 - u ≤ 8 - (u + 1) by omega) (by omega) z) ?_)
    refine L_law_663.mpr (?_)
    refine L_law_664.mpr ?_
    refine A_asks (s := (r (d - 1 - u), s.hist.take (s.hist.length - 1 - u), s'.sav, s'.why, s'.flt, s'.txt)) hX.lx iv (by decide) h ?_
    clear h
    intro w p h
    refine L_law_667.mpr (L_law_669.mpr (L_law_671.mpr (?_)))
    refine L_law_673.mpr ?_
    rw [nI_sub (show u + 1 ≤ d by omega)]
    obtain ⟨f, f1, f2⟩ := q7
    have hwa : w wa = some (.inl (2, 11, fun i => .long (f i))) := (h.fr q1 q2).trans f1
    have hga : ga w wa 2 (nI (d - (u + 1))) = some (.long (f (d - (u + 1)))) := by
      unfold ga
      rw [hwa]
      dsimp only
      rw [if_pos ⟨rfl, inr_nI (by omega) (by decide)⟩, nI_clamp (by omega)]
    refine L_law_674.mpr ⟨_, hga, ?_⟩
    have ef : f (d - (u + 1)) = asks (r (d - 1 - u)) := by
      rw [f2 _ (by omega)]
      congr 2
      omega
    rw [ef]
    refine L_law_675.mpr (?_)
    refine L_law_676.mpr (ifT (lg_self) ?_)
    first | refine L_law_681_I.mpr ?_ | refine L_law_681_R.mpr ?_ | refine L_law_681_none.mpr ?_
    refine L_law_684.mpr (L_law_630.mpr (?_))
    rw [nI_1]
    refine next _ _ ⟨(r (d - 1 - u), s.hist.take (s.hist.length - 1 - u), s'.sav, s'.why, s'.flt, s'.txt), h.up (by omega), ?_, e2, e3⟩
    show s.hist.take (s.hist.length - 1 - u) = s.hist.take (s.hist.length - (u + 1))
    rw [show s.hist.length - 1 - u = s.hist.length - (u + 1) by omega]
  · obtain ⟨s', h, e1, e2, e3⟩ := h
    refine L_law_632.mpr (?_)
    refine L_law_634.mpr (ifT (show nI (min 8 d) < nI (min 8 d + 1) from nI_lt (by omega) (by omega)) ?_)
    exact hQ s' _ _ _ (h.up (by omega)) e2 e3
theorem law_c (hX : LitY X) (hg : Iv B t0) (hB : B ≤ 2 ^ 24) {l6 l7 l8 l9 l10 : Option Value} (h : AW y w0 m N s w n) (hs : s.sav = some t0) (hQ : ∀ w p, p ≤ N + 1100 → Q (.inl (some (.int 1))) w (some p)) : Ev X 172 687 [some (.ref X.2.2.2.2.1), some (.ref x), some (.ref y), some (.long (asks t0)), none, some (.int (t0.1 2)), l6, l7, l8, l9, l10] [] w (some n) 0 0 Q := by
  refine L_law_687.mpr (?_)
  refine L_law_688.mpr ?_
  refine A_restore (t := t0) hs h ?_
  clear h
  intro w p h
  refine L_law_691.mpr (?_)
  refine L_law_693.mpr (ifT (rfl) ?_)
  refine L_law_696.mpr (?_)
  refine L_law_697.mpr ?_
  refine A_undo_no (s := (t0, [], s.sav, s.why, s.flt, s.txt)) rfl h ?_
  clear h
  intro w p h
  refine L_law_700.mpr (?_)
  refine L_law_703.mpr (ifT (rfl) ?_)
  refine L_law_706.mpr (?_)
  refine L_law_707.mpr ?_
  refine A_asks (s := (t0, [], s.sav, s.why, s.flt, s.txt)) hX.lx hg hB h ?_
  clear h
  intro w p h
  refine L_law_710.mpr (L_law_711.mpr (?_))
  refine L_law_712.mpr (ifT (lg_self) ?_)
  refine L_law_715.mpr (?_)
  refine L_law_716.mpr ?_
  refine A_restore (s := (t0, [], s.sav, s.why, s.flt, s.txt)) (t := t0) hs h ?_
  clear h
  intro w p h
  refine L_law_719.mpr (?_)
  refine L_law_721.mpr (ifT (rfl) ?_)
  refine L_law_724.mpr (?_)
  refine L_law_725.mpr ?_
  refine A_asks (s := (t0, [], s.sav, s.why, s.flt, s.txt)) hX.lx hg hB h ?_
  clear h
  intro w p h
  refine L_law_728.mpr (L_law_729.mpr (?_))
  refine L_law_730.mpr (ifT (lg_self) ?_)
  refine L_law_733.mpr (L_law_734.mpr (?_))
  obtain ⟨lt, w1, T, pa, be, Z, P, C, D, R, Lt, rfl, hw, a⟩ := h
  exact (L_law_738 okz1).mpr (hQ _ _ (Nat.le_trans a.nN (by omega)))
theorem jn_start : Jn 0 s00 := ⟨s00_iv, rfl, fun j hj => if_pos hj, rfl⟩
theorem law_d (hn : X.2.2.2.2.2.1 < 2 ^ 31) (hX : LitY X) (hD : DigX X) (hN : Nok X x) {p0 : Nat} (hp0 : x + 139 ≤ p0) (hp1 : p0 ≤ x + 400) (hQ : ∀ w p, p ≤ x + 40000 → Q (.inl (some (.int 1))) w (some p)) : Ev X 172 471 [some (.ref X.2.2.2.2.1), some (.ref x), some (.int 8), none, none, none, none, none, none, none, none] [] w (some p0) 0 0 Q := by
  refine L_law_471.mpr (L_law_474.mpr (L_law_475.mpr (so_new wset_s ?_)))
  have h := AW.new (x := p0) (w := wset w p0 (.inr (4, dflt 4))) (N := p0 + 139) (Nat.le_refl _)
  generalize SW (wset w p0 (.inr (4, dflt 4))) p0 (fun _ => s00) (fun k => k + 4) 3 Z00 (fun _ => 0) (fun _ => 0) (fun _ => 0) (fun _ => 0) (fun _ => 0) = wv at h ⊢
  generalize wset w p0 (.inr (4, dflt 4)) = wb at h
  have hN2 : Nok X (p0 + 139) := fun a ha => hN a (by omega)
  first | refine L_law_478_I.mpr ?_ | refine L_law_478_R.mpr ?_ | refine L_law_478_none.mpr ?_
  refine L_law_479.mpr (L_law_480.mpr (?_))
  refine L_law_481.mpr ?_
  refine A_makes hn jn_start h ?_
  clear h
  intro s w p h g1 g2 g3 g4
  refine L_law_484.mpr (ifF (by decide) ?_)
  refine L_law_489.mpr (?_)
  refine L_law_490.mpr ?_
  refine A_asks hX.lx g1 (by decide) h ?_
  clear h
  intro w p h
  first | refine L_law_493_I.mpr ?_ | refine L_law_493_R.mpr ?_ | refine L_law_493_none.mpr ?_
  refine L_law_494.mpr (?_)
  refine L_law_495.mpr ?_
  refine A_asks hX.lx g1 (by decide) h ?_
  clear h
  intro w p h
  refine L_law_498.mpr (L_law_499.mpr (?_))
  refine L_law_500.mpr (ifT (lg_self) ?_)
  refine L_law_503.mpr (?_)
  refine L_law_504.mpr ?_
  refine A_refused hX g1 (by decide) g3 g2 h ?_
  clear h
  intro s2 w p h k1 k2 k3 k4
  refine L_law_507.mpr (ifF (by decide) ?_)
  have g1' : Iv 99 s2.cur := by rw [k1]; exact g1
  have ea : asks s.cur = asks s2.cur := by rw [k1]
  rw [ea]
  refine L_law_512.mpr (?_)
  refine (L_law_513 h.c).mpr ?_
  refine A_save h ?_
  clear h
  intro w p h
  first | refine L_law_516_I.mpr ?_ | refine L_law_516_R.mpr ?_ | refine L_law_516_none.mpr ?_
  refine L_law_518.mpr (L_law_520.mpr (L_law_521.mpr (?_)))
  refine L_law_522.mpr ?_
  refine R_acc1 (s := (s2.cur, s2.hist, some s2.cur, s2.why, s2.flt, s2.txt)) g1' h ?_
  clear h
  intro w p h
  refine L_law_525.mpr (ifT (rfl) ?_)
  refine L_law_528.mpr (?_)
  refine L_law_529.mpr ?_
  refine A_asks (s := (s2.cur, s2.hist, some s2.cur, s2.why, s2.flt, s2.txt)) hX.lx g1' (by decide) h ?_
  clear h
  intro w p h
  refine L_law_532.mpr (L_law_533.mpr (?_))
  refine L_law_534.mpr (ifT (lg_self) ?_)
  refine L_law_539.mpr (?_)
  refine (L_law_541 (m := 11) (by decide)).mpr ?_
  have pm : p0 + 139 ≤ p := by
    obtain ⟨lt, w1, T, pa, be, Z, P, C, D, R, Lt, rfl, hw, a⟩ := h
    exact a.mn
  have pN : p ≤ p0 + 4000 := by
    obtain ⟨lt, w1, T, pa, be, Z, P, C, D, R, Lt, rfl, hw, a⟩ := h
    exact Nat.le_trans a.nN (by omega)
  have h := h.grow (p2 := p + 1) (N2 := p0 + 4001) (w2 := wset w p (.inl (2, 11, fun _ => .long 0))) (Nat.le_refl _) (fun a ha => wset_o (by omega)) (by omega) (by omega)
  obtain ⟨w1, h, hm, hw1, hw2⟩ := h.re
  first | refine L_law_543_I.mpr ?_ | refine L_law_543_R.mpr ?_ | refine L_law_543_none.mpr ?_
  refine L_law_545.mpr (?_)
  first | refine L_law_546_I.mpr ?_ | refine L_law_546_R.mpr ?_ | refine L_law_546_none.mpr ?_
  refine L_law_548.mpr (?_)
  first | refine L_law_549_I.mpr ?_ | refine L_law_549_R.mpr ?_ | refine L_law_549_none.mpr ?_
  refine law_a hn hX hD hN2 (N := p0 + 4001) (i := 0) (d := 0) (by decide) (w1 := w1) (s := (s2.cur, s2.hist, some s2.cur, s2.why, s2.flt, s2.txt)) (r := fun _ => s00) (m := p + 1) (wa := p) (t0 := s2.cur) ⟨h, pm, Nat.lt_succ_self p, g1', k4, rfl, Nat.le_refl 0, ⟨fun _ => 0, (hw2 p pm).trans wset_s, fun j hj => absurd hj (Nat.not_lt_zero j)⟩, ⟨Nat.zero_le _, fun j hj => absurd hj (Nat.not_lt_zero j)⟩, fun j hj => absurd hj (Nat.not_lt_zero j)⟩ ?_
  intro d w1 s r w p h
  refine law_b hX h ?_
  intro s w p l10 h e1 e2
  exact law_c hX g1' (by decide) h e2 (fun w p hp => hQ w p (by omega))
/-- the law answers 1 -/
theorem law_ok (hn : X.2.2.2.2.2.1 < 2 ^ 31) (hX : LitY X) (hD : DigX X) (hN : Nok X x) (hQ : ∀ w p, p ≤ x + 40000 → Q (.inl (some (.int 1))) w (some p)) : Ev X 172 0 [some (.ref X.2.2.2.2.1), none, none, none, none, none, none, none, none, none, none] [] w (some x) 0 0 Q :=
  op_all hX fun w p h1 h2 => law_d hn hX hD hN h1 h2 hQ
end LAW
