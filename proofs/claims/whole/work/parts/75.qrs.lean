/-! ===== the queries on both sides ===== -/
theorem ff_no {p : Nat → Bool} : ∀ {d k : Nat}, ff p d k = none → ∀ i, k ≤ i → i < k + d → p i = false := by
  intro d
  induction d with
  | zero => intro k _ i a b; omega
  | succ d ih =>
    intro k hk i a b
    unfold ff at hk
    cases y : p k with
    | true => rw [y, if_pos rfl] at hk; cases hk
    | false =>
      rw [y, if_neg Bool.false_ne_true] at hk
      by_cases x : i = k
      · subst x; exact y
      · exact ih hk i (by omega) (by omega)
section QRY
variable {B cnt : Nat} {F G N : Nat → Int32} {S : Nat → Nat → Int32} {L : List Nat}
theorem q_num (h : TV cnt 0 (fun _ => B) (fun _ => B) (F, G, S) N L) {k j : Nat} (hk : k < cnt) (hj : j < 10) : numF S k j = smM N k j := by
  obtain ⟨⟨hH, hl, hs, hn⟩, hr, hq, hso, ho, hb, hw, h8⟩ := h
  dsimp only at hH hl hs hn hr hq hso ho hb hw
  unfold numF smM
  obtain ⟨⟨hh, hh5, eh⟩, -, -, -, ⟨-, s4⟩, -⟩ := hso k hk
  by_cases c4 : j = 4
  · subst c4
    rw [if_pos (by decide), if_pos rfl, hs k hk 3 (by decide), hs k hk 4 (by decide)]
    by_cases c : inF (S k 3) 1 3 = 0
    · rw [if_pos c]
    · rw [if_neg c]
      refine s4 (fun q => c ?_)
      rw [eh] at q ⊢
      exact (inF_how hh5).mpr q
  · rw [if_neg c4]
    by_cases c9 : j < 9
    · rw [if_pos c9, hs k hk j c9]
    · have : j = 9 := by omega
      subst this
      rw [if_neg c9, hn k hk]
theorem q_lad (h : TV cnt 0 (fun _ => B) (fun _ => B) (F, G, S) N L) {k : Nat} {b : Int32} (hk : k < cnt) (hb : b = 0 ∨ b = 1) : mlN cnt N k b = ladN cnt S k b := ml_eq (h.1.2.2.1 k hk 0 (by decide)) (h.2.2.2.1 k hk).2.1 hb
theorem q_hold (h : TV cnt 0 (fun _ => B) (fun _ => B) (F, G, S) N L) {k : Nat} (hk : k < cnt) : N (lx k) - 1 = G k := by
  have h8 := h.2.2.2.2.2.2.2
  have := h.1.2.1 k (by omega)
  dsimp only at this
  rw [this, Int32.add_sub_cancel]
theorem q_wait (h : TV cnt 0 (fun _ => B) (fun _ => B) (F, G, S) N L) {k : Nat} (hk : k < cnt) : otM cnt N k = awF cnt G S k ∧ (otM cnt N k < 0 ↔ awF cnt G S k = -1) := by
  have hM := tv_WM h
  have h8 := hM.1.1
  have e := hM.2.1 k hk
  dsimp only at hM e
  refine ⟨e, ?_⟩
  rw [e]
  rcases aw_seat (S := S) hM.1.2.1 hk with q | ⟨i, hi, q⟩
  · rw [q]; decide
  · rw [q]
    exact ⟨fun z => absurd z (nI_pos (show i < 2 ^ 31 by omega)), fun z => absurd z (sM hi h8)⟩
theorem q_ask (hB : B < 2 ^ 30) (h : TV cnt 0 (fun _ => B) (fun _ => B) (F, G, S) N L) {y : Int32} : if hasS (nI L.length) y = 0 then oI (ff (askP cnt S y) cnt 0) = -1 else oI (ff (askP cnt S y) cnt 0) = N (qx y.toNatClampNeg) ∧ N (qx y.toNatClampNeg) ≠ -1 := by
  obtain ⟨⟨hH, hl, hs, hn⟩, hr, hq, hso, ho, hb, hw, h8⟩ := h
  dsimp only at hH hl hs hn hr hq hso ho hb hw
  have hb7 : ∀ j, j < cnt → ∃ w, w < 2 ^ 30 ∧ S j 7 = nI w := fun j hj => by
    obtain ⟨-, -, -, -, -, ⟨w, w1, w2⟩, -⟩ := hso j hj
    exact ⟨w, by omega, w2⟩
  by_cases c : y < 0
  · have e0 : hasS (nI L.length) y = 0 := if_pos c
    rw [if_pos e0, ff_miss (fun i _ hi => ?_)]
    · rfl
    · unfold askP
      refine decide_eq_false (fun q => ?_)
      rw [befF_cN hb7 (by omega) h8] at q
      have := cN_le (p := fun j => decide (S j 3 = 1) && befB S j i) cnt
      rw [← q.2] at c
      exact nI_pos (by omega) c
  · obtain ⟨p, hp, rfl⟩ := nI_of c
    rw [nI_clamp hp, ask_at hq hb7 h8 hp]
    have hlen := hr.1
    have e0 : hasS (nI L.length) (nI p) = 0 ↔ ¬ p < L.length := by
      unfold hasS
      rw [if_neg c]
      by_cases z : p < L.length
      · rw [if_pos (nI_lt z (by omega))]
        exact ⟨fun q => absurd q (by decide), fun q => absurd z q⟩
      · rw [if_neg (fun q => z ((nI_ltI hp (by omega)).mp q))]
        exact ⟨fun _ => z, fun _ => rfl⟩
    by_cases z : p < L.length
    · rw [if_neg (fun q => e0.mp q z), List.getElem?_eq_getElem z]
      have := hr.2.2 p z
      have hlt := ((hq.1 _).mp (List.getElem_mem z)).1
      exact ⟨this.symm, by rw [this]; exact sM hlt h8⟩
    · rw [if_pos (e0.mpr z), List.getElem?_eq_none (by omega)]
      rfl
theorem q_eat (h : TV cnt 0 (fun _ => B) (fun _ => B) (F, G, S) N L) : itr (eatF S) cnt 0 = itr (thM N 4) cnt 0 := by
  refine itr_congr (fun k a hk => ?_) 0
  have := h.1.2.2.1 k hk 3 (by decide)
  dsimp only at this
  unfold eatF thM
  rw [this]
theorem un_or {N : Nat → Int32} : ∀ n, (itr (unM N) n 0 = 0 ∨ itr (unM N) n 0 = 1) ∧ (itr (unM N) n 0 = 0 ↔ ∀ k, k < n → N (ix (k + 1) 0) = N (ix 0 0)) := by
  intro n
  induction n with
  | zero => exact ⟨Or.inl rfl, fun _ k hk => absurd hk (Nat.not_lt_zero k), fun _ => rfl⟩
  | succ n ih =>
    obtain ⟨h1, h2⟩ := ih
    rw [itr_s]
    generalize itr (unM N) n 0 = a at h1 h2
    unfold unM
    by_cases c : N (ix (n + 1) 0) = N (ix 0 0)
    · rw [if_pos c]
      have e : a ||| 0 = a := by rcases h1 with q | q <;> rw [q] <;> decide
      rw [e]
      refine ⟨h1, h2.trans ⟨fun q k hk => ?_, fun q k hk => q k (by omega)⟩⟩
      by_cases y : k = n
      · rw [y]; exact c
      · exact q k (by omega)
    · rw [if_neg c]
      have e : a ||| 1 = 1 := by rcases h1 with q | q <;> rw [q] <;> decide
      rw [e]
      exact ⟨Or.inr rfl, fun q => absurd q (by decide), fun q => absurd (q n (by omega)) c⟩
theorem q_sure (h : TV cnt 0 (fun _ => B) (fun _ => B) (F, G, S) N L) : surF cnt (F, G, S) = suM cnt N := by
  obtain ⟨⟨hH, hl, hs, hn⟩, hr, hq, hso, ho, hb, hw, h8⟩ := h
  dsimp only at hH hl hs hn hr hq hso ho hb hw
  obtain ⟨x0, x1, x2, x3, x4, x5, x6⟩ := hH
  obtain ⟨w, w1, w2⟩ := hw
  unfold surF suM
  show (if F 2 < 2 then (0 : Int32) else if (ff (bothP S) (cnt - 1) 1).isSome = true then 1 else if F 3 = 0 then 0 else if F 3 < F 2 then 1 else 0) = _
  rw [x0, x1, x4]
  by_cases c2 : 2 ≤ cnt
  · have d1 : ¬ nI cnt < 2 := fun q => by
      have := (nI_ltI (show cnt < 2 ^ 31 by omega) (show 2 < 2 ^ 31 by decide)).mp q
      omega
    have d2 : (1 : Int32) < nI cnt := show nI 1 < nI cnt from nI_lt (by omega) (by omega)
    rw [if_neg d1, if_pos d2]
    obtain ⟨u1, u2⟩ := un_or (N := N) (cnt - 1)
    have hsame : (ff (bothP S) (cnt - 1) 1).isSome = true ↔ ¬ itr (unM N) (cnt - 1) 0 = 0 := by
      rw [u2]
      cases hf : ff (bothP S) (cnt - 1) 1 with
      | none =>
        refine ⟨fun q => absurd q (by decide), fun q => absurd (fun k hk => ?_) q⟩
        have := ff_no hf (k + 1) (by omega) (by omega)
        unfold bothP at this
        rw [hs (k + 1) (by omega) 0 (by decide), hs 0 (by omega) 0 (by decide)]
        exact Classical.byContradiction fun z => (of_decide_eq_false this) z
      | some j =>
        obtain ⟨a1, a2, a3⟩ := ff_some hf
        refine ⟨fun _ q => ?_, fun _ => rfl⟩
        unfold bothP at a3
        have a3 := of_decide_eq_true a3
        have := q (j - 1) (by omega)
        rw [show j - 1 + 1 = j by omega, hs j (by omega) 0 (by decide), hs 0 (by omega) 0 (by decide)] at this
        exact a3 this
    by_cases c3 : itr (unM N) (cnt - 1) 0 = 0
    · rw [if_neg (fun q => hsame.mp q c3), if_pos c3, nI_p (by omega), w2]
      unfold inF
      by_cases z0 : w = 0
      · subst z0
        rw [if_pos (show nI 0 = 0 from rfl), if_pos (show nI 0 < 1 by decide)]
        exact (if_pos rfl).symm
      · rw [if_neg (fun q => z0 ((nI_0iff (by omega)).mp q)), if_neg (show ¬ nI w < 1 from fun q => z0 (by
          have := (nI_ltI (show w < 2 ^ 31 by omega) (show 1 < 2 ^ 31 by decide)).mp q
          omega))]
        by_cases z1 : w < cnt
        · have z2 : ¬ nI (cnt - 1) < nI w := fun q => by
            have := (nI_ltI (show cnt - 1 < 2 ^ 31 by omega) (show w < 2 ^ 31 by omega)).mp q
            omega
          rw [if_pos (nI_lt z1 (by omega)), if_neg z2]
          exact (if_neg (by decide)).symm
        · rw [if_neg (fun q => z1 ((nI_ltI (by omega) (by omega)).mp q)), if_pos (nI_lt (by omega) (by omega))]
          exact (if_pos rfl).symm
    · rw [if_pos (hsame.mpr c3), if_neg c3]
  · have d1 : nI cnt < 2 := show nI cnt < nI 2 from nI_lt (by omega) (by decide)
    have d2 : ¬ (1 : Int32) < nI cnt := fun q => by
      have := (nI_ltI (show 1 < 2 ^ 31 by decide) (show cnt < 2 ^ 31 by omega)).mp q
      omega
    rw [if_pos d1, if_neg d2]
theorem TV_mix {k : Nat} {bm bw : Nat → Nat} {G' : Nat → Int32} (h : TV cnt k bm bw (F, G, S) N L) : TV cnt k bm bw (F, mixG G' G, S) N L := by
  obtain ⟨⟨hH, hl, hs, hn⟩, hr, hq, hso, ho, hb, hw, h8⟩ := h
  dsimp only at hH hl hs hn hr hq hso ho hb hw
  have e : ∀ j, j < 8 → mixG G' G j = G j := fun j hj => if_pos hj
  exact TV.mk hH (fun j hj => by rw [e j hj]; exact hl j hj) hs hn hr hq hso (ho.cg e h8 (fun _ _ => ⟨Iff.rfl, Iff.rfl⟩)) hb hw h8
theorem TV_cp {k : Nat} {bm bw : Nat → Nat} {s : Tb} {M : Nat → Int32} (h : TV cnt k bm bw s N L) (e : ∀ i, i < 103 → M i = N i) : TV cnt k bm bw s M L := by
  obtain ⟨⟨hH, hl, hs, hn⟩, hr, hq, hso, ho, hb, hw, h8⟩ := h
  obtain ⟨x0, x1, x2, x3, x4, x5, x6⟩ := hH
  refine ⟨⟨⟨x0, (e 0 (by decide)).trans x1, (e 1 (by decide)).trans x2, (e 2 (by decide)).trans x3, (e 3 (by decide)).trans x4, (e 4 (by decide)).trans x5, (e 5 (by decide)).trans x6⟩, fun j hj => (e _ (by unfold lx; omega)).trans (hl j hj), fun a ha j hj => (e _ (by unfold ix; omega)).trans (hs a ha j hj), fun a ha => (e _ (by unfold ix; omega)).trans (hn a ha)⟩, ⟨hr.1, (e 6 (by decide)).trans hr.2.1, fun i hi => (e _ (by have := hr.1; unfold qx; omega)).trans (hr.2.2 i hi)⟩, hq, hso, ho, hb, hw, h8⟩
theorem q_si (h2 : 2 ≤ cnt) : ∀ (d i B : Nat) (s : Tb) (N : Nat → Int32) (L : List Nat), B + d < 2 ^ 30 → TV cnt 0 (fun _ => B) (fun _ => B) s N L → siF cnt (d + 1) i s = if stM cnt (siM cnt d i N).2 = 0 then none else some (siM cnt d i N).1 := by
  intro d
  induction d with
  | zero =>
    intro i B s N L hB h
    have e := (tv_stuck h).1
    show (if stuI cnt s.1 s.2.1 s.2.2 = 0 then none else some i) = if stM cnt N = 0 then none else some i
    rw [e]
  | succ d ih =>
    intro i B s N L hB h
    have e := (tv_stuck h).1
    have e1 : siF cnt (d + 1 + 1) i s = if stuI cnt s.1 s.2.1 s.2.2 = 0 then siF cnt (d + 1) (i + 1) (tickF cnt s) else some i := rfl
    have e2 : siM cnt (d + 1) i N = if stM cnt N = 0 then siM cnt d (i + 1) (tgN cnt N).1 else (i, N) := rfl
    rw [e1, e2, e]
    by_cases c : stM cnt N = 0
    · rw [if_pos c, if_pos c]
      obtain ⟨⟨L2, h3⟩, -⟩ := tv_tick h2 (by omega) h
      exact ih (i + 1) (B + 1) _ _ L2 (by omega) h3
    · rw [if_neg c, if_neg c]
      exact (if_neg c).symm
theorem q_hun (hB : B < 2 ^ 30) (h : TV cnt 0 (fun _ => B) (fun _ => B) (F, G, S) N L) {y : Int32} : ff (hunP cnt S y) cnt 0 = ff (hpM cnt N y) cnt 0 := by
  obtain ⟨⟨hH, hl, hs, hn⟩, hr, hq, hso, ho, hb, hw, h8⟩ := h
  dsimp only at hH hl hs hn hr hq hso ho hb hw
  refine ff_congr (fun s _ hs2 => ?_)
  have hsc : s < cnt := by omega
  have e : itr (hunF S s) cnt 0 = itr (huM N s) cnt 0 := by
    refine itr_congr (fun q a hqc => ?_) 0
    unfold hunF huM ahM ahD hgr
    rw [hs s hsc 5 (by decide), hs s hsc 6 (by decide), hs q hqc 5 (by decide), hs q hqc 6 (by decide)]
    obtain ⟨-, -, -, -, -, -, -, ⟨es, es1, es2⟩, fs, fs1, fs2⟩ := hso s hsc
    obtain ⟨-, -, -, -, -, -, -, ⟨eq, eq1, eq2⟩, fq, fq1, fq2⟩ := hso q hqc
    rw [es2, fs2, eq2, fq2]
    have l1 := nI_ltI (show eq < 2 ^ 31 by omega) (show es < 2 ^ 31 by omega)
    have l2 := nI_ltI (show es < 2 ^ 31 by omega) (show eq < 2 ^ 31 by omega)
    have l3 := nI_ltI (show fs < 2 ^ 31 by omega) (show fq < 2 ^ 31 by omega)
    have l4 := nI_ltI (show fq < 2 ^ 31 by omega) (show fs < 2 ^ 31 by omega)
    have l5 := nI_eq (show eq < 2 ^ 31 by omega) (show es < 2 ^ 31 by omega)
    have l5' := nI_eq (show es < 2 ^ 31 by omega) (show eq < 2 ^ 31 by omega)
    have l6 := nI_eq (show q < 2 ^ 31 by omega) (show s < 2 ^ 31 by omega)
    have l7 := nI_ltI (show q < 2 ^ 31 by omega) (show s < 2 ^ 31 by omega)
    have m1 := sub_pos (show es < 2 ^ 30 by omega) (show eq < 2 ^ 30 by omega)
    have m2 := sub_zero_iff (show es < 2 ^ 30 by omega) (show eq < 2 ^ 30 by omega)
    have m3 := sub_pos (show fq < 2 ^ 30 by omega) (show fs < 2 ^ 30 by omega)
    have m4 := sub_zero_iff (show fq < 2 ^ 30 by omega) (show fs < 2 ^ 30 by omega)
    by_cases k0 : q = s
    · subst k0
      have z1 : es = eq := by
        have : nI eq = nI es := eq2.symm.trans es2
        exact (l5.mp this).symm
      have z2 : fs = fq := by
        have : nI fq = nI fs := fq2.symm.trans fs2
        exact ((nI_eq (by omega) (by omega)).mp this).symm
      subst z1 z2
      simp
    · rw [if_neg (fun z => k0 (l6.mp z))]
      rcases Nat.lt_trichotomy eq es with c | c | c
      · have n1 : ¬ nI es - nI eq = 0 := fun z => by have := m2.mp z; omega
        simp only [l1.mpr c, if_true, n1, if_false, m1.mpr c]
      · subst c
        have n0 : ¬ nI eq < nI eq := fun z => by have := l1.mp z; omega
        simp only [n0, if_false, if_true, m2.mpr rfl]
        rcases Nat.lt_trichotomy fs fq with d | d | d
        · simp only [decide_eq_true (l3.mpr d), if_true, m3.mpr d]
        · subst d
          have n1 : ¬ nI fs < nI fs := fun z => by have := l3.mp z; omega
          have n2 : ¬ 0 < nI fs - nI fs := fun z => by have := m3.mp z; omega
          have z0 : ¬ (0 : Int32) < 0 := by decide
          simp only [decide_eq_false n1, Bool.false_eq_true, if_false, n2, m4.mpr rfl, if_true, z0, decide_eq_true_eq]
        · have n1 : ¬ nI fs < nI fq := fun z => by have := l3.mp z; omega
          have n2 : ¬ 0 < nI fq - nI fs := fun z => by have := m3.mp z; omega
          have n3 : ¬ nI fq - nI fs = 0 := fun z => by have := m4.mp z; omega
          simp only [decide_eq_false n1, Bool.false_eq_true, if_false, n2, n3, decide_eq_true (l4.mpr d), if_true, ite_self]
      · have n0 : ¬ nI eq < nI es := fun z => by have := l1.mp z; omega
        have n1 : ¬ nI eq = nI es := fun z => by have := l5.mp z; omega
        have n2 : ¬ nI es - nI eq = 0 := fun z => by have := m2.mp z; omega
        have n3 : ¬ 0 < nI es - nI eq := fun z => by have := m1.mp z; omega
        simp only [n0, if_false, n1, Bool.false_eq_true, n2, n3, l2.mpr c, if_true, ite_self]
  unfold hunP hpM
  rw [e]
theorem q_few (h : TV cnt 0 (fun _ => B) (fun _ => B) (F, G, S) N L) : fewF cnt S = mmM cnt N false := by
  have hs := h.1.2.2.1
  dsimp only at hs
  unfold fewF mmM
  by_cases c : cnt = 0
  · rw [if_pos c, if_pos c]
  · rw [if_neg c, if_neg c, hs 0 (by omega) 5 (by decide)]
    refine itr_congr (fun k a hk => ?_) _
    rw [hs (k + 1) (by omega) 5 (by decide), if_neg Bool.false_ne_true]
theorem imx_sh {g : Nat → Int32} {a : Int32} : ∀ n, itr (fun k a => imx a (g k)) (n + 1) a = itr (fun k a => imx a (g (k + 1))) n (imx a (g 0)) := by
  intro n
  induction n with
  | zero => rfl
  | succ n ih => rw [itr_s, ih, itr_s]
theorem q_most (hB : B < 2 ^ 30) (h : TV cnt 0 (fun _ => B) (fun _ => B) (F, G, S) N L) : itr (mostMealsF S) cnt 0 = mmM cnt N true := by
  have hs := h.1.2.2.1
  have hso := h.2.2.2.1
  dsimp only at hs hso
  unfold mmM
  by_cases c : cnt = 0
  · rw [if_pos c, c]; rfl
  · rw [if_neg c]
    have e : itr (mostMealsF S) cnt 0 = itr (fun k a => imx a (S k 5)) (cnt - 1 + 1) 0 := by
      rw [Nat.sub_add_cancel (by omega)]
      rfl
    rw [e, imx_sh]
    obtain ⟨-, -, -, -, -, -, -, ⟨e0, e01, e02⟩, -⟩ := hso 0 (by omega)
    have ez : imx 0 (S 0 5) = N (ix 0 5) := by
      rw [hs 0 (by omega) 5 (by decide), e02]
      unfold imx
      by_cases z : (0 : Int32) < nI e0
      · rw [if_pos z]
      · rw [if_neg z]
        have : e0 = 0 := Nat.eq_zero_of_not_pos (fun q => z (show nI 0 < nI e0 from nI_lt q (by omega)))
        rw [this]; rfl
    rw [ez]
    refine itr_congr (fun k a hk => ?_) _
    rw [hs (k + 1) (by omega) 5 (by decide), if_pos rfl]
theorem q_nei (h8 : cnt ≤ 8) {a b : Nat} (ha : a < cnt) (hb : b < cnt) : neiF (nI cnt) (nI a) (nI b) = neM cnt a b := by
  unfold neiF neM
  rw [nI_p (by omega)]
  have n1 : ∀ {a b : Nat}, a < cnt → b < cnt → (nI b = (if nI a = nI (cnt - 1) then 0 else nI a + 1) ↔ nI (lfN cnt b) = nI a) := by
    intro a b ha hb
    have hlb := lf_lt hb
    rw [nI_eq (show lfN cnt b < 2 ^ 31 by omega) (show a < 2 ^ 31 by omega)]
    by_cases c : a = cnt - 1
    · rw [if_pos (by rw [c]), nI_0iff (by omega)]
      unfold lfN
      by_cases d : b = 0
      · rw [if_pos d]; exact ⟨fun _ => c.symm, fun _ => d⟩
      · rw [if_neg d]; exact ⟨fun q => absurd q d, fun q => by omega⟩
    · rw [if_neg (fun q => c ((nI_eq (by omega) (by omega)).mp q)), nI_1, nI_eq (by omega) (by omega)]
      unfold lfN
      by_cases d : b = 0
      · rw [if_pos d]; exact ⟨fun q => by omega, fun q => by omega⟩
      · rw [if_neg d]; exact ⟨fun q => by omega, fun q => by omega⟩
  by_cases c0 : nI a = nI b
  · rw [if_pos c0, if_pos c0]
  rw [if_neg c0, if_neg c0]
  by_cases c1 : nI (lfN cnt b) = nI a
  · rw [if_pos ((n1 ha hb).mpr c1), if_pos c1]
    by_cases c2 : nI (lfN cnt a) = nI b
    · rw [if_pos c2]
    · rw [if_neg c2]
  · rw [if_neg (fun q => c1 ((n1 ha hb).mp q)), if_neg c1]
    by_cases c2 : nI (lfN cnt a) = nI b
    · rw [if_pos ((n1 hb ha).mpr c2), if_pos c2]
    · rw [if_neg (fun q => c2 ((n1 hb ha).mp q)), if_neg c2]
theorem q_all5 (h : TV cnt 0 (fun _ => B) (fun _ => B) (F, G, S) N L) : itr (mealsOfAllF S) cnt 0 = itr (alM N 5) cnt 0 := itr_congr (fun k a hk => by
  have := h.1.2.2.1 k hk 5 (by decide)
  dsimp only at this
  unfold mealsOfAllF alM; rw [this]) 0
theorem q_all6 (h : TV cnt 0 (fun _ => B) (fun _ => B) (F, G, S) N L) : itr (waitsOfAllF S) cnt 0 = itr (alM N 6) cnt 0 := itr_congr (fun k a hk => by
  have := h.1.2.2.1 k hk 6 (by decide)
  dsimp only at this
  unfold waitsOfAllF alM; rw [this]) 0
theorem q_askers (h : TV cnt 0 (fun _ => B) (fun _ => B) (F, G, S) N L) : itr (askersF S) cnt 0 = N 6 := by
  obtain ⟨-, hr, hq, -⟩ := h
  dsimp only at hq
  have e1 : itr (askersF S) cnt 0 = itr (fun j (a : Int32) => if decide (S j 3 = 1) then a + 1 else a) cnt 0 := itr_congr (fun k a _ => by
    unfold askersF
    by_cases c : S k 3 = 1
    · rw [if_pos c, if_pos (decide_eq_true c)]
    · rw [if_neg c, if_neg (by simp [c])]) 0
  have e2 := cN_list (r := fun _ => true) L (bef_nd hq.2.1) (fun a ha => ((hq.1 a).mp ha).1)
  rw [List.countP_true] at e2
  rw [e1, itr_cN (p := fun j => decide (S j 3 = 1)), hr.2.1, ← e2]
  congr 1
  refine cN_congr (fun j hj => b_ext ?_)
  rw [Bool.and_true, decide_eq_true_iff, decide_eq_true_iff, hq.1 j]
  exact ⟨fun q => ⟨hj, q⟩, fun q => q.2⟩
theorem q_acc (h : TV cnt 0 (fun _ => B) (fun _ => B) (F, G, S) N L) {z p : Int32} {j : Nat} : accF cnt (F, G, S) z p j = acM cnt N z p j := by
  have a4 := q_all5 h
  have a8 := q_askers h
  obtain ⟨⟨hH, hl, hs, hn⟩, hr, hq, hso, ho, hb, hw, h8⟩ := h
  dsimp only at hH hl hs hn hr hq hso ho hb hw
  obtain ⟨x0, x1, x2, x3, x4, x5, x6⟩ := hH
  have a6 := (held_eq hl ho h8).2
  have a7 := (leave_cN hn h8).1
  match j with
  | 0 => exact x2.symm
  | 1 => exact x0.trans x1.symm
  | 2 => exact x3.symm
  | 3 => exact x4.symm
  | 4 => exact a4
  | 5 => exact x5.symm
  | 6 => exact a6.symm
  | 7 => exact a7
  | 8 => exact a8
  | 9 => exact x6.symm
  | 10 => exact rfl
  | n + 11 => exact rfl
/-- two lines are one as far as they go -/
def lnE (s t : (Nat → Int32) × Nat) : Prop := s.2 = t.2 ∧ ∀ i, i < s.2 → s.1 i = t.1 i
theorem lnE.wr {s t : (Nat → Int32) × Nat} (h : lnE s t) (v : Int32) : lnE (wrL v s) (wrL v t) := by
  obtain ⟨a, b⟩ := h
  refine ⟨by show s.2 + 1 = t.2 + 1; rw [a], fun i hi => ?_⟩
  have hi : i < s.2 + 1 := hi
  show upd s.1 s.2 v i = upd t.1 t.2 v i
  rw [← a]
  unfold upd
  by_cases c : i = s.2
  · rw [if_pos c, if_pos c]
  · rw [if_neg c, if_neg c]; exact b i (by omega)
theorem lnE.se {s t : (Nat → Int32) × Nat} (h : lnE s t) {k : Nat} {b : Bool} : lnE (seM N k b s) (seM N k b t) := by
  unfold seM
  dsimp only
  have h3 := ((h.wr (nI (48 + k))).wr (if N (ix k 0) = 0 then 108 else 114)).wr (ltH (N (ix k 3)))
  cases b with
  | true => rw [if_pos rfl, if_pos rfl]; exact h3.wr 33
  | false => rw [if_neg Bool.false_ne_true, if_neg Bool.false_ne_true]; exact h3
theorem q_line (h : TV cnt 0 (fun _ => B) (fun _ => B) (F, G, S) N L) {st : Int32} {K M : Nat → Int32} : lnE (itr (lnL S st) cnt (K, 0)) (itr (lnM N st) cnt (M, 0)) := by
  have hs := h.1.2.2.1
  dsimp only at hs
  have e : itr (lnL S st) cnt (K, 0) = itr (lnM N st) cnt (K, 0) := itr_congr (fun k a hk => by
    unfold lnL lnM seL seM
    rw [hs k hk 0 (by decide), hs k hk 3 (by decide)]) _
  rw [e]
  have h2 : ∀ n, lnE (itr (lnM N st) n (K, 0)) (itr (lnM N st) n (M, 0)) := by
    intro n
    induction n with
    | zero => exact ⟨rfl, fun i hi => absurd hi (Nat.not_lt_zero i)⟩
    | succ n ih =>
      rw [itr_s, itr_s]
      unfold lnM
      by_cases c : n = 0
      · rw [if_pos c, if_pos c]; exact ih.se
      · rw [if_neg c, if_neg c]; exact (ih.wr 32).se
  exact h2 cnt
end QRY
