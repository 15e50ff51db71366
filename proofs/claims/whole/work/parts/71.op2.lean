/-! ===== the other changes on both sides ===== -/
theorem hasS_k {cnt : Nat} {y : Int32} (h8 : cnt ≤ 8) (h : ¬ hasS (nI cnt) y = 0) : ∃ k, k < cnt ∧ y = nI k := by
  unfold hasS at h
  by_cases c : y < 0
  · rw [if_pos c] at h; exact absurd rfl h
  rw [if_neg c] at h
  obtain ⟨j, hj, rfl⟩ := nI_of c
  by_cases d : nI j < nI cnt
  · exact ⟨j, (nI_ltI (by omega) (by omega)).mp d, rfl⟩
  · rw [if_neg d] at h; exact absurd rfl h
/-- manners and clocks, set -/
theorem tv_set {B cnt : Nat} {F G : Nat → Int32} {S S' : Nat → Nat → Int32} {N N' : Nat → Int32} {L : List Nat} (h : TV cnt 0 (fun _ => B) (fun _ => B) (F, G, S) N L) (h1 : ∀ k, k < cnt → ∀ i, 3 ≤ i → S' k i = S k i) (h2 : ∀ i, i < 23 → N' i = N i) (h3 : SEq cnt S' N') (h4 : NI cnt S' N')
    (h5 : ∀ k, k < cnt → (S' k 0 = 0 ∨ S' k 0 = 1) ∧ (∃ a, 1 ≤ a ∧ a ≤ 9 ∧ S' k 1 = nI a) ∧ ∃ b, 1 ≤ b ∧ b ≤ 9 ∧ S' k 2 = nI b) : TV cnt 0 (fun _ => B) (fun _ => B) (F, G, S') N' L := by
  obtain ⟨⟨hH, hl, hs, hn⟩, hr, hq, hso, ho, hb, hw, h8⟩ := h
  dsimp only at hH hl hs hn hr hq hso ho hb hw
  obtain ⟨x0, x1, x2, x3, x4, x5, x6⟩ := hH
  obtain ⟨r1, r2, r3⟩ := hr
  refine TV.mk ⟨x0, (h2 0 (by decide)).trans x1, (h2 1 (by decide)).trans x2, (h2 2 (by decide)).trans x3, (h2 3 (by decide)).trans x4, (h2 4 (by decide)).trans x5, (h2 5 (by decide)).trans x6⟩ (fun j hj => (h2 _ (by unfold lx; omega)).trans (hl j hj)) h3 h4 ⟨r1, (h2 6 (by decide)).trans r2, fun i hi => (h2 _ (by unfold qx; omega)).trans (r3 i hi)⟩ (hq.cg (fun a ha => by rw [h1 a ha 3 (by decide)]) (fun a ha => h1 a ((hq.1 a).mp ha).1 7 (by decide)) (Nat.le_refl 0)) (fun j hj => ?_) (ho.cg (fun _ _ => rfl) h8 (fun i hi => by rw [h1 i hi 3 (by decide)]; exact ⟨Iff.rfl, Iff.rfl⟩)) hb hw h8
  obtain ⟨t3, -, -, -, t4, t7, t7', t5, t6⟩ := hso j hj
  obtain ⟨a0, a1, a2⟩ := h5 j hj
  unfold SO
  rw [h1 j hj 3 (by decide), h1 j hj 4 (by decide), h1 j hj 5 (by decide), h1 j hj 6 (by decide), h1 j hj 7 (by decide)]
  exact ⟨t3, a0, a1, a2, t4, t7, t7', t5, t6⟩
theorem op_manner {B : Nat} {s : Tb} {N : Nat → Int32} {cnt : Nat} {L : List Nat} {y m : Int32} (h : TV cnt 0 (fun _ => B) (fun _ => B) s N L) : opR B (manX cnt y m s) (turnX cnt y m N) := by
  obtain ⟨F, G, S⟩ := s
  have hk0 := h
  obtain ⟨⟨hH, hl, hs, hn⟩, hr, hq, hso, ho, hb, hw, h8⟩ := h
  dsimp only at hH hl hs hn hr hq hso ho hb hw
  unfold manX turnX
  dsimp only
  by_cases c0 : hasS (nI cnt) y = 0
  · have c0' : hasS (F 2) y = 0 := by rw [hH.1]; exact c0
    rw [if_pos c0, if_pos c0']; exact rfl
  have c0' : ¬ hasS (F 2) y = 0 := by rw [hH.1]; exact c0
  rw [if_neg c0, if_neg c0']
  obtain ⟨k, hk, rfl⟩ := hasS_k h8 c0
  rw [nI_clamp (by omega)]
  unfold manF turnM
  dsimp only
  rw [mn_in, hs k hk 0 (by decide)]
  by_cases c1 : inF m 0 1 = 0
  · rw [if_pos c1, if_pos c1]; exact rfl
  rw [if_neg c1, if_neg c1]
  by_cases c2 : S k 0 = m
  · rw [if_pos c2, if_pos c2]; exact rfl
  rw [if_neg c2, if_neg c2]
  have m01 := mn_01 c1
  obtain ⟨⟨hh, hh5, eh⟩, -⟩ := hso k hk
  refine ⟨(hs k hk 3 (by decide)).symm, by rw [eh]; exact fun q => (nI_m1 (by omega)).mp q, cnt, L, tv_set hk0 (fun j hj i hi => if_neg (by omega)) (fun i hi => upd_ne (by unfold ix; omega)) (hs.up (by decide)) (hn.up (by decide) (by decide)) (fun j hj => ?_)⟩
  obtain ⟨-, s0, s1, s2, -⟩ := hso j hj
  have e1 : up2 S k 0 m j 1 = S j 1 := if_neg (by omega)
  have e2 : up2 S k 0 m j 2 = S j 2 := if_neg (by omega)
  rw [e1, e2]
  refine ⟨?_, s1, s2⟩
  by_cases q : j = k
  · subst q
    have e0 : up2 S j 0 m j 0 = m := if_pos ⟨rfl, rfl⟩
    rw [e0]; exact m01
  · have e0 : up2 S k 0 m j 0 = S j 0 := if_neg (by omega)
    rw [e0]; exact s0
theorem op_clocks {B : Nat} {s : Tb} {N : Nat → Int32} {cnt : Nat} {L : List Nat} {y a b : Int32} (h : TV cnt 0 (fun _ => B) (fun _ => B) s N L) : opR B (cloX cnt y a b s) (timeX cnt y a b N) := by
  obtain ⟨F, G, S⟩ := s
  have hk0 := h
  obtain ⟨⟨hH, hl, hs, hn⟩, hr, hq, hso, ho, hb, hw, h8⟩ := h
  dsimp only at hH hl hs hn hr hq hso ho hb hw
  unfold cloX timeX
  dsimp only
  by_cases c0 : hasS (nI cnt) y = 0
  · have c0' : hasS (F 2) y = 0 := by rw [hH.1]; exact c0
    rw [if_pos c0, if_pos c0']; exact rfl
  have c0' : ¬ hasS (F 2) y = 0 := by rw [hH.1]; exact c0
  rw [if_neg c0, if_neg c0']
  obtain ⟨k, hk, rfl⟩ := hasS_k h8 c0
  rw [nI_clamp (by omega)]
  unfold cloF timeM
  dsimp only
  rw [ck_in, ck_in, hs k hk 1 (by decide), hs k hk 2 (by decide)]
  by_cases c1 : inF a 1 9 = 0
  · rw [if_pos c1, if_pos c1]; exact rfl
  rw [if_neg c1, if_neg c1]
  by_cases c2 : inF b 1 9 = 0
  · rw [if_pos c2, if_pos c2]; exact rfl
  rw [if_neg c2, if_neg c2]
  obtain ⟨ja, ja1, ja9, rfl⟩ := inF_nat (a := 1) (b := 9) (by decide) (by decide) c1
  obtain ⟨jb, jb1, jb9, rfl⟩ := inF_nat (a := 1) (b := 9) (by decide) (by decide) c2
  obtain ⟨-, -, ⟨x, x1, x9, ex⟩, ⟨z, z1, z9, ez⟩, -⟩ := hso k hk
  have ev : 10 * S k 1 + S k 2 = nI (10 * x + z) := by
    rw [ex, ez, show (10 : Int32) = nI 10 from rfl, nI_mul, nI_add]
  refine ⟨rfl, by rw [ev]; exact fun q => (nI_m1 (by omega)).mp q, cnt, L, tv_set hk0 (fun j hj i hi => (if_neg (by omega)).trans (if_neg (by omega))) (fun i hi => (upd_ne (by unfold ix; omega)).trans (upd_ne (by unfold ix; omega))) ((hs.up (by decide)).up (by decide)) ((hn.up (by decide) (by decide)).up (by decide) (by decide)) (fun j hj => ?_)⟩
  obtain ⟨-, s0, s1, s2, -⟩ := hso j hj
  have e0 : up2 (up2 S k 1 (nI ja)) k 2 (nI jb) j 0 = S j 0 := (if_neg (by omega)).trans (if_neg (by omega))
  rw [e0]
  by_cases q : j = k
  · subst q
    have e1 : up2 (up2 S j 1 (nI ja)) j 2 (nI jb) j 1 = nI ja := (if_neg (by omega)).trans (if_pos ⟨rfl, rfl⟩)
    have e2 : up2 (up2 S j 1 (nI ja)) j 2 (nI jb) j 2 = nI jb := if_pos ⟨rfl, rfl⟩
    rw [e1, e2]
    exact ⟨s0, ⟨ja, ja1, ja9, rfl⟩, jb, jb1, jb9, rfl⟩
  · have e1 : up2 (up2 S k 1 (nI ja)) k 2 (nI jb) j 1 = S j 1 := (if_neg (by omega)).trans (if_neg (by omega))
    have e2 : up2 (up2 S k 1 (nI ja)) k 2 (nI jb) j 2 = S j 2 := (if_neg (by omega)).trans (if_neg (by omega))
    rw [e1, e2]
    exact ⟨s0, s1, s2⟩
theorem op_waiter {B : Nat} {s : Tb} {N : Nat → Int32} {cnt : Nat} {L : List Nat} {y : Int32} (h : TV cnt 0 (fun _ => B) (fun _ => B) s N L) : opR B (waiF y s) (tellM y N) := by
  obtain ⟨F, G, S⟩ := s
  obtain ⟨⟨hH, hl, hs, hn⟩, hr, hq, hso, ho, hb, hw, h8⟩ := h
  dsimp only at hH hl hs hn hr hq hso ho hb hw
  obtain ⟨x0, x1, x2, x3, x4, x5, x6⟩ := hH
  unfold waiF tellM
  dsimp only
  rw [x4]
  have e : ∀ {α : Type} (u v : α), (if y < 0 then u else if 8 < y then u else v) = if inF y 0 8 = 0 then u else v := by
    intro α u v
    unfold inF
    by_cases a : y < 0
    · rw [if_pos a, if_pos a]; exact (if_pos rfl).symm
    · rw [if_neg a, if_neg a]
      by_cases b : 8 < y
      · rw [if_pos b, if_pos b]; exact (if_pos rfl).symm
      · rw [if_neg b, if_neg b]; exact (if_neg (by decide)).symm
  rw [e]
  by_cases c1 : inF y 0 8 = 0
  · rw [if_pos c1, if_pos c1]; exact rfl
  rw [if_neg c1, if_neg c1]
  by_cases c2 : y = F 3
  · rw [if_pos c2, if_pos c2.symm]; exact rfl
  rw [if_neg c2, if_neg (fun q => c2 q.symm)]
  obtain ⟨j, -, j8, rfl⟩ := inF_nat (a := 0) (b := 8) (by decide) (by decide) c1
  obtain ⟨w, w1, w2⟩ := hw
  refine ⟨rfl, by rw [w2]; exact fun q => (nI_m1 (by omega)).mp q, cnt, L, TV.mk ⟨(upd_ne (by decide)).trans x0, (upd_ne (by decide)).trans x1, ?_, ?_, by rw [upd_same, upd_same], ?_, ?_⟩ (hl.lo (by decide)) (hs.lo (by decide)) (hn.lo (by decide)) (hr.lo (by decide)) hq hso ho ?_ ⟨j, j8, upd_same⟩ h8⟩
  · rw [upd_ne (by decide), upd_ne (by decide)]; exact x2
  · rw [upd_ne (by decide), upd_ne (by decide)]; exact x3
  · rw [upd_ne (by decide), upd_ne (by decide)]; exact x5
  · rw [upd_ne (by decide), upd_ne (by decide)]; exact x6
  · obtain ⟨b, b1, b2⟩ := hb
    exact ⟨b, b1, (upd_ne (by decide)).trans b2⟩
theorem op_bring {B : Nat} {s : Tb} {N : Nat → Int32} {cnt : Nat} {L : List Nat} {y : Int32} (h : TV cnt 0 (fun _ => B) (fun _ => B) s N L) : opR B (briF y s) (brinM y N) := by
  obtain ⟨F, G, S⟩ := s
  obtain ⟨⟨hH, hl, hs, hn⟩, hr, hq, hso, ho, hb, hw, h8⟩ := h
  dsimp only at hH hl hs hn hr hq hso ho hb hw
  obtain ⟨x0, x1, x2, x3, x4, x5, x6⟩ := hH
  unfold briF brinM
  dsimp only
  rw [x3]
  have e : ∀ {α : Type} (u v : α), (if y < 1 then u else if 99 < y then u else v) = if inF y 1 99 = 0 then u else v := by
    intro α u v
    unfold inF
    by_cases a : y < 1
    · rw [if_pos a, if_pos a]; exact (if_pos rfl).symm
    · rw [if_neg a, if_neg a]
      by_cases b : 99 < y
      · rw [if_pos b, if_pos b]; exact (if_pos rfl).symm
      · rw [if_neg b, if_neg b]; exact (if_neg (by decide)).symm
  rw [e]
  by_cases c1 : inF y 1 99 = 0
  · rw [if_pos c1, if_pos c1]; exact rfl
  rw [if_neg c1, if_neg c1]
  by_cases c2 : 99 < F 4 + y
  · rw [if_pos c2, if_pos c2]; exact rfl
  rw [if_neg c2, if_neg c2]
  obtain ⟨j, -, j9, rfl⟩ := inF_nat (a := 1) (b := 99) (by decide) (by decide) c1
  obtain ⟨b, b1, b2⟩ := hb
  have ev : F 4 + nI j = nI (b + j) := by rw [b2, nI_add]
  rw [ev] at c2 ⊢
  have hbj : b + j ≤ 99 := Nat.le_of_not_lt (fun q => c2 (show nI 99 < nI (b + j) from nI_lt q (by omega)))
  refine ⟨rfl, fun q => (nI_m1 (by omega)).mp q, cnt, L, TV.mk ⟨(upd_ne (by decide)).trans x0, (upd_ne (by decide)).trans x1, ?_, by rw [upd_same, upd_same], ?_, ?_, ?_⟩ (hl.lo (by decide)) (hs.lo (by decide)) (hn.lo (by decide)) (hr.lo (by decide)) hq hso ho ⟨b + j, hbj, upd_same⟩ ?_ h8⟩
  · rw [upd_ne (by decide), upd_ne (by decide)]; exact x2
  · rw [upd_ne (by decide), upd_ne (by decide)]; exact x4
  · rw [upd_ne (by decide), upd_ne (by decide)]; exact x5
  · rw [upd_ne (by decide), upd_ne (by decide)]; exact x6
  · obtain ⟨w, w1, w2⟩ := hw
    exact ⟨w, w1, (upd_ne (by decide)).trans w2⟩
theorem op_take {B : Nat} {s : Tb} {N : Nat → Int32} {cnt : Nat} {L : List Nat} {y : Int32} (h : TV cnt 0 (fun _ => B) (fun _ => B) s N L) : opR B (takX cnt y s) (takeX cnt y N) := by
  obtain ⟨F, G, S⟩ := s
  obtain ⟨⟨hH, hl, hs, hn⟩, hr, hq, hso, ho, hb, hw, h8⟩ := h
  dsimp only at hH hl hs hn hr hq hso ho hb hw
  unfold takX takeX
  dsimp only
  by_cases c0 : hasS (nI cnt) y = 0
  · have c0' : hasS (F 2) y = 0 := by rw [hH.1]; exact c0
    rw [if_pos c0, if_pos c0']; exact rfl
  have c0' : ¬ hasS (F 2) y = 0 := by rw [hH.1]; exact c0
  rw [if_neg c0, if_neg c0']
  obtain ⟨k, hk, rfl⟩ := hasS_k h8 c0
  rw [nI_clamp (by omega)]
  unfold takF takeM
  dsimp only
  rw [hs k hk 3 (by decide)]
  by_cases c1 : S k 3 = 3
  · rw [if_pos c1, if_pos c1]
    have hlk := lf_lt hk
    have h0 := (hso k hk).2.1
    have hex := ho.2.2.2 k hk c1
    have el : l1N cnt G S k = tlN cnt N k := by
      unfold l1N tlN
      rw [lad_1 h0, lad_0 h0, hl k (by omega), Int32.add_sub_cancel]
      rcases h0 with q | q
      · rw [q]
        simp only [show ¬ (0 : Int32) = 1 by decide, if_false]
        by_cases z : G k = nI k
        · rw [if_neg (hex.mp z), if_pos z]
        · rw [if_neg z, if_pos (Classical.byContradiction fun x => z (hex.mpr x))]
      · rw [q]
        simp only [if_true]
    rw [el]
    have htl : tlN cnt N k < cnt := by unfold tlN; split <;> omega
    have hheld : G (tlN cnt N k) = nI k := by
      unfold tlN
      rw [hl k (by omega), Int32.add_sub_cancel]
      by_cases z : G k = nI k
      · rw [if_pos z]; exact z
      · rw [if_neg z]; exact Classical.byContradiction fun x => z (hex.mpr x)
    have honly : ∀ j, j < 8 → j ≠ tlN cnt N k → G j ≠ nI k := fun j hj hne q => by
      unfold tlN at hne
      rw [hl k (by omega), Int32.add_sub_cancel] at hne
      rcases Nat.lt_or_ge j cnt with c | c
      · rcases ho.1 j c with z | ⟨i, hi, z, z2, -⟩
        · rw [z] at q; exact sM hk h8 q.symm
        · have : i = k := (nI_eq (by omega) (by omega)).mp (z.symm.trans q)
          subst this
          by_cases w : G i = nI i
          · rw [if_pos w] at hne
            rcases z2 with z2 | z2
            · exact hne z2
            · exact hex.mp w (by rw [← z2]; exact q)
          · rw [if_neg w] at hne
            rcases z2 with z2 | z2
            · subst z2; exact w q
            · exact hne z2
      · rw [ho.2.1 j c hj] at q; exact sM hk h8 q.symm
    generalize tlN cnt N k = l at htl hheld honly
    obtain ⟨x0, x1, x2, x3, x4, x5, x6⟩ := hH
    have e3 : up2 S k 3 2 k 3 = 2 := if_pos ⟨rfl, rfl⟩
    have o : ∀ j i, ¬ (j = k ∧ i = 3) → up2 S k 3 2 j i = S j i := fun j i hj => if_neg hj
    have hl' := hl.la (k := l) (v := -1)
    have hs' := hs.up (k := k) (j := 3) (v := 2) (by decide)
    have hn' := hn.how2 (k := k) (x := 2) hk (by rw [c1]; decide)
    generalize up2 S k 3 2 = S' at e3 o hs' hn'
    have z1 : (-1 : Int32) + 1 = 0 := by decide
    rw [z1] at hl'
    refine ⟨rfl, fun q => (nI_m1 (by omega)).mp q, cnt, L, TV.mk ⟨(upd_ne (by decide)).trans x0, ?_, ?_, ?_, ?_, ?_, ?_⟩ ((hl'.hi).lo (by decide)) (fun a ha j hj => ?_) (fun a ha => ?_) (((hr.hi (by unfold lx; omega)).hi (by unfold ix; omega)).lo (by decide)) (hq.cg (fun a _ => ?_) (fun a _ => o a 7 (by omega)) (Nat.le_refl 0)) (fun j hj => ?_) (ho.put h8 hk (fun j hj => ?_) (fun i _ hi => o i 3 (by omega)) (by rw [e3]; decide)) ?_ ?_ h8⟩
    · rw [upd_ne (by decide), upd_ne (by unfold ix; omega), upd_ne (by unfold lx; omega)]; exact x1
    · rw [upd_ne (by decide), upd_ne (by unfold ix; omega), upd_ne (by unfold lx; omega), upd_ne (by decide)]; exact x2
    · rw [upd_ne (by decide), upd_ne (by unfold ix; omega), upd_ne (by unfold lx; omega), upd_ne (by decide)]; exact x3
    · rw [upd_ne (by decide), upd_ne (by unfold ix; omega), upd_ne (by unfold lx; omega), upd_ne (by decide)]; exact x4
    · rw [upd_ne (by decide), upd_ne (by unfold ix; omega), upd_ne (by unfold lx; omega), upd_ne (by decide)]; exact x5
    · rw [upd_same, upd_same, x6]
    · have := hs' a ha j hj
      rw [upd_ne (by unfold ix; omega), ← this]
      unfold upd
      by_cases q : ix a j = ix k 3
      · rw [if_pos q, if_pos q]
      · rw [if_neg q, if_neg q, if_neg (by unfold ix lx; omega)]
    · have := hn' a ha
      rw [upd_ne (by unfold ix; omega), ← this]
      unfold upd
      by_cases q : ix a 9 = ix k 3
      · rw [if_pos q, if_pos q]
      · rw [if_neg q, if_neg q, if_neg (by unfold ix lx; omega)]
    · by_cases q : a = k
      · rw [q, e3, c1]; decide
      · rw [o a 3 (by omega)]
    · by_cases q : j = k
      · subst q
        obtain ⟨-, s0, s1, s2, ⟨-, s4⟩, s7, -, s5, s6⟩ := hso j hj
        have n3 : ¬ (S j 3 = 0 ∨ S j 3 = 4) := by rw [c1]; decide
        have n2 : ¬ (S' j 3 = 0 ∨ S' j 3 = 4) := by rw [e3]; decide
        refine ⟨⟨2, by decide, e3⟩, by rw [o j 0 (by omega)]; exact s0, by rw [o j 1 (by omega)]; exact s1, by rw [o j 2 (by omega)]; exact s2, ⟨fun z => absurd z n2, fun _ => by rw [o j 4 (by omega)]; exact s4 n3⟩, by rw [o j 7 (by omega)]; exact s7, fun z => absurd z n2, by rw [o j 5 (by omega)]; exact s5, by rw [o j 6 (by omega)]; exact s6⟩
      · exact (hso j hj).cg (fun i _ => o j i (by omega)) (Nat.le_refl _) (Nat.le_refl _)
    · unfold upd
      by_cases q : j = l
      · rw [if_pos q, q, if_pos hheld]
      · rw [if_neg q, if_neg (honly j hj q)]
    · obtain ⟨b, b1, b2⟩ := hb
      exact ⟨b, b1, (upd_ne (by decide)).trans b2⟩
    · obtain ⟨w, w1, w2⟩ := hw
      exact ⟨w, w1, (upd_ne (by decide)).trans w2⟩
  · rw [if_neg c1, if_neg c1]; exact rfl
theorem tv_ticks {cnt B : Nat} {s : Tb} {N : Nat → Int32} {L : List Nat} (h2 : 2 ≤ cnt) (h : TV cnt 0 (fun _ => B) (fun _ => B) s N L) : ∀ n, B + n < 2 ^ 30 →
    ∃ L', TV cnt 0 (fun _ => B + n) (fun _ => B + n) (tksF cnt n s) (tksN cnt n N).1 L' ∧ ∃ c : Nat, c ≤ cnt * n ∧ (tksN cnt n N).2 = nI c ∧ itr (mealsOfAllF (tksF cnt n s).2.2) cnt 0 = itr (mealsOfAllF s.2.2) cnt 0 + nI c := by
  intro n
  induction n with
  | zero => intro _; exact ⟨L, h, 0, Nat.zero_le _, rfl, (Int32.add_zero _).symm⟩
  | succ n ih =>
    intro hn
    obtain ⟨L1, h1, c, hc, e1, e2⟩ := ih (by omega)
    have ea : tksF cnt (n + 1) s = tickF cnt (tksF cnt n s) := rfl
    have eb : tksN cnt (n + 1) N = ((tgN cnt (tksN cnt n N).1).1, (tksN cnt n N).2 + (tgN cnt (tksN cnt n N).1).2) := rfl
    rw [ea, eb]
    generalize tksF cnt n s = s1 at h1 e2 ⊢
    generalize tksN cnt n N = z at h1 e1 ⊢
    obtain ⟨N1, m1⟩ := z
    dsimp only at h1 e1 ⊢
    obtain ⟨⟨L2, h3⟩, -, c2, hc2, e3, e4⟩ := tv_tick h2 (by omega) h1
    refine ⟨L2, h3, c + c2, by rw [Nat.mul_succ]; omega, by rw [e1, e3, nI_add], ?_⟩
    rw [e4, e2, ← nI_add, Int32.add_assoc]
/-- ticks may pass: the two sides go along, with room for d -/
def Ik (cnt : Nat) (d : Nat) (N : Nat → Int32) : Prop := ∃ s L B, TV cnt 0 (fun _ => B) (fun _ => B) s N L ∧ B + d < 2 ^ 30
theorem Ik_TI {cnt : Nat} (h2 : 2 ≤ cnt) : TI cnt (Ik cnt) := by
  rintro d N ⟨s, L, B, h, hB⟩
  obtain ⟨⟨L2, h3⟩, hq, -⟩ := tv_tick h2 (by omega) h
  exact ⟨⟨h.1.1.2.1, ⟨L.length, h.2.1.1, h.2.1.2.1⟩, hq⟩, _, L2, B + 1, h3, by omega⟩
theorem op_pass {B : Nat} {s : Tb} {N : Nat → Int32} {cnt : Nat} {L : List Nat} {y : Int32} (hB : B + 99 < 2 ^ 30) (h : TV cnt 0 (fun _ => B) (fun _ => B) s N L) : opR (B + 99) (pasF cnt y s) (passM cnt y N) := by
  have h0 := h
  obtain ⟨⟨hH, -⟩, -, -, -, -, -, -, h8⟩ := h
  unfold pasF passM
  have e : ∀ {α : Type} (u v : α), (if y < 1 then u else if 99 < y then u else v) = if inF y 1 99 = 0 then u else v := by
    intro α u v
    unfold inF
    by_cases a : y < 1
    · rw [if_pos a, if_pos a]; exact (if_pos rfl).symm
    · rw [if_neg a, if_neg a]
      by_cases b : 99 < y
      · rw [if_pos b, if_pos b]; exact (if_pos rfl).symm
      · rw [if_neg b, if_neg b]; exact (if_neg (by decide)).symm
  rw [e, hH.1, hH.2.1]
  by_cases c1 : inF y 1 99 = 0
  · rw [if_pos c1, if_pos c1]; exact rfl
  rw [if_neg c1, if_neg c1]
  by_cases c2 : nI cnt < 2
  · rw [if_pos c2, if_pos c2]; exact rfl
  rw [if_neg c2, if_neg c2]
  have h2 : 2 ≤ cnt := Nat.le_of_not_lt (fun q => c2 (show nI cnt < nI 2 from nI_lt q (by decide)))
  obtain ⟨j, -, j9, rfl⟩ := inF_nat (a := 1) (b := 99) (by decide) (by decide) c1
  rw [nI_clamp (by omega)]
  obtain ⟨L1, h1, c, hc, e1, e2⟩ := tv_ticks h2 h0 j (by omega)
  have hc2 : c ≤ 8 * 99 := Nat.le_trans hc (Nat.mul_le_mul h8 j9)
  refine ⟨?_, ?_, cnt, L1, tv_w h1 (fun _ _ => by omega) (fun _ _ => by omega)⟩
  · rw [e2, e1, Int32.add_comm, Int32.add_sub_cancel]
  · rw [e2, Int32.add_comm, Int32.add_sub_cancel]
    exact fun q => (nI_m1 (by omega)).mp q
theorem opR_w {B B' : Nat} (h : B ≤ B') {p : (Int32 × Int32) ⊕ (Int32 × Tb)} {q : (Int32 × Int32) ⊕ (Int32 × (Nat → Int32))} (hr : opR B p q) : opR B' p q := by
  rcases p with p | ⟨v, s⟩ <;> rcases q with q | ⟨w, N⟩
  · exact hr
  · exact hr
  · exact hr
  · obtain ⟨a, b, cnt, L, c⟩ := hr
    exact ⟨a, b, cnt, L, tv_w c (fun _ _ => h) (fun _ _ => h)⟩
/-- how many numbers a command of a kind takes -/
def arK (k : Nat) : Nat := match k with
  | 0 => 3
  | 1 => 0
  | 2 => 2
  | 3 => 3
  | _ => 1
theorem op_any {B : Nat} {s : Tb} {N D E : Nat → Int32} {cnt : Nat} {L : List Nat} (hB : B + 99 < 2 ^ 30) (h : TV cnt 0 (fun _ => B) (fun _ => B) s N L) {k : Nat} (hk : k < 8) (hD : ∀ i, i < arK k → D i = E i) : opR (B + 99) (obF cnt k D s) (caM k E N) := by
  have hN : (N 0).toNatClampNeg = cnt := by rw [h.1.1.2.1]; exact nI_clamp (by have := h.2.2.2.2.2.2.2; omega)
  have hQ : (N 6).toNatClampNeg = L.length := by rw [h.2.1.2.1]; exact nI_clamp (by have := h.2.1.1; omega)
  have w : B ≤ B + 99 := Nat.le_add_right B 99
  unfold obF caM
  rw [hN, hQ]
  rcases (show k = 0 ∨ k = 1 ∨ k = 2 ∨ k = 3 ∨ k = 4 ∨ k = 5 ∨ k = 6 ∨ k = 7 by omega) with rfl | rfl | rfl | rfl | rfl | rfl | rfl | rfl
  · rw [hD 0 (by decide), hD 1 (by decide), hD 2 (by decide)]; exact opR_w w (op_join h)
  · exact opR_w w (op_leave h)
  · rw [hD 0 (by decide), hD 1 (by decide)]; exact opR_w w (op_manner h)
  · rw [hD 0 (by decide), hD 1 (by decide), hD 2 (by decide)]; exact opR_w w (op_clocks h)
  · rw [hD 0 (by decide)]; exact opR_w w (op_waiter h)
  · rw [hD 0 (by decide)]; exact opR_w w (op_bring h)
  · rw [hD 0 (by decide)]; exact opR_w w (op_take h)
  · rw [hD 0 (by decide)]; exact op_pass hB h
