/-! ===== a whole tick on both sides ===== -/
theorem wi_o {S : Nat → Nat → Int32} {k j : Nat} (h : j ≠ k) (i : Nat) : wiS S k j i = S j i := by
  unfold wiS
  by_cases a : S k 3 = 0
  · rw [if_pos a]
  · by_cases b : S k 3 = 4
    · rw [if_neg a, if_pos b]
    · rw [if_neg a, if_neg b]
      exact ((if_neg (fun q => h q.1)).trans (if_neg (fun q => h q.1))).trans (if_neg (fun q => h q.1))
theorem wi_k {S T : Nat → Nat → Int32} {k : Nat} (h : ∀ i, S k i = T k i) (i : Nat) : wiS S k k i = wiS T k k i := by
  unfold wiS
  rw [h 3, h 6, h 7, h 8]
  by_cases a : T k 3 = 0
  · rw [if_pos a, if_pos a]; exact h i
  · by_cases b : T k 3 = 4
    · rw [if_neg a, if_neg a, if_pos b, if_pos b]; exact h i
    · rw [if_neg a, if_neg a, if_neg b, if_neg b]
      unfold up2
      rw [h i]
theorem wi_all {S : Nat → Nat → Int32} : ∀ (n j i : Nat), itr (fun k s => wiS s k) n S j i = if j < n then wiS S j j i else S j i := by
  intro n
  induction n with
  | zero => intro j i; exact (if_neg (Nat.not_lt_zero j)).symm
  | succ n ih =>
    intro j i
    rw [itr_s]
    by_cases q : j = n
    · subst q
      rw [if_pos (Nat.lt_succ_self j)]
      exact wi_k (fun i => (ih j i).trans (if_neg (Nat.lt_irrefl j))) i
    · rw [wi_o q, ih j i]
      by_cases z : j < n
      · rw [if_pos z, if_pos (by omega)]
      · rw [if_neg z, if_neg (by omega)]
theorem inF_how {h : Nat} (hh : h < 5) : inF (nI h) 1 3 = 0 ↔ (nI h = 0 ∨ nI h = 4) := by
  rcases (show h = 0 ∨ h = 1 ∨ h = 2 ∨ h = 3 ∨ h = 4 by omega) with rfl | rfl | rfl | rfl | rfl <;> decide
/-- last in a tick: waits -/
theorem tv_p4 {cnt B : Nat} {s : Tb} {N : Nat → Int32} {L : List Nat} (hB : B + 1 < 2 ^ 30) (h : TV cnt cnt (fun _ => B + 1) (fun _ => B) s N L) : TV cnt 0 (fun _ => B + 1) (fun _ => B + 1) (s.1, s.2.1, itr (fun k s => wiS s k) cnt s.2.2) (itr q4N cnt N) L ∧ ∀ i, itr (fun k s => wiS s k) cnt s.2.2 i 5 = s.2.2 i 5 := by
  obtain ⟨F, G, S⟩ := s
  obtain ⟨⟨hH, hl, hs, hn⟩, hr, hq, hso, ho, hb, hw, h8⟩ := h
  dsimp only at hH hl hs hn hr hq hso ho hb hw ⊢
  -- the arrays go along
  have go : ∀ n, n ≤ cnt → HD cnt F (itr q4N n N) ∧ LEq G (itr q4N n N) ∧ SEq cnt (itr (fun k s => wiS s k) n S) (itr q4N n N) ∧ NI cnt (itr (fun k s => wiS s k) n S) (itr q4N n N) ∧ RQ (itr q4N n N) L := by
    intro n
    induction n with
    | zero => intro _; exact ⟨hH, hl, hs, hn, hr⟩
    | succ n ih =>
      intro hnc
      obtain ⟨h1, h2, h3, h4, h5⟩ := ih (by omega)
      have hk : n < cnt := by omega
      rw [itr_s, itr_s]
      have eS : ∀ i, itr (fun k s => wiS s k) n S n i = S n i := fun i => (wi_all n n i).trans (if_neg (Nat.lt_irrefl n))
      generalize itr (fun k s => wiS s k) n S = S1 at h3 h4 eS ⊢
      generalize itr q4N n N = N1 at h1 h2 h3 h4 h5 ⊢
      obtain ⟨⟨hh, hh5, eh⟩, -⟩ := hso n hk
      have m3 : N1 (ix n 3) = nI hh := (h3 n hk 3 (by decide)).trans ((eS 3).trans eh)
      have m6 : N1 (ix n 6) = S1 n 6 := h3 n hk 6 (by decide)
      have m7 : N1 (ix n 7) = S1 n 7 := h3 n hk 7 (by decide)
      have m8 : N1 (ix n 8) = S1 n 8 := h3 n hk 8 (by decide)
      have w3 : S1 n 3 = nI hh := (eS 3).trans eh
      unfold q4N wiS
      by_cases c : nI hh = 0 ∨ nI hh = 4
      · have e1 : inF (N1 (ix n 3)) 1 3 = 0 := by rw [m3]; exact (inF_how hh5).mpr c
        rw [if_pos e1]
        rcases c with c | c
        · rw [if_pos (w3.trans c)]; exact ⟨h1, h2, h3, h4, h5⟩
        · rw [if_neg (by rw [w3, c]; decide), if_pos (w3.trans c)]; exact ⟨h1, h2, h3, h4, h5⟩
      · have e1 : ¬ inF (N1 (ix n 3)) 1 3 = 0 := by rw [m3]; exact fun q => c ((inF_how hh5).mp q)
        have c0 : ¬ S1 n 3 = 0 := fun q => c (Or.inl (w3.symm.trans q))
        have c4 : ¬ S1 n 3 = 4 := fun q => c (Or.inr (w3.symm.trans q))
        rw [if_neg e1, if_neg c0, if_neg c4, m6, m7, m8]
        exact ⟨((h1.hi (by unfold ix; omega)).hi (by unfold ix; omega)).hi (by unfold ix; omega), ((h2.hi).hi).hi, (((h3.up (by decide)).up (by decide)).up (by decide)), (((h4.up (by decide) (by decide)).up (by decide) (by decide)).up (by decide) (by decide)), ((h5.hi (by unfold ix; omega)).hi (by unfold ix; omega)).hi (by unfold ix; omega)⟩
  obtain ⟨g1, g2, g3, g4, g5⟩ := go cnt (Nat.le_refl cnt)
  have pS : ∀ j i, itr (fun k s => wiS s k) cnt S j i = if j < cnt then wiS S j j i else S j i := wi_all cnt
  generalize itr (fun k s => wiS s k) cnt S = S' at g3 g4 pS ⊢
  -- one seat
  have stay : ∀ j, j < cnt → ∀ i, i ≠ 6 → i ≠ 7 → i ≠ 8 → S' j i = S j i := by
    intro j hj i h6 h7 h9
    rw [pS, if_pos hj]
    unfold wiS
    by_cases a : S j 3 = 0
    · rw [if_pos a]
    · by_cases b : S j 3 = 4
      · rw [if_neg a, if_pos b]
      · rw [if_neg a, if_neg b]
        exact ((if_neg (fun q => h9 q.2)).trans (if_neg (fun q => h7 q.2))).trans (if_neg (fun q => h6 q.2))
  have same : ∀ j, j < cnt → (S j 3 = 0 ∨ S j 3 = 4) → ∀ i, S' j i = S j i := by
    intro j hj c i
    rw [pS, if_pos hj]
    unfold wiS
    by_cases a : S j 3 = 0
    · rw [if_pos a]
    · rw [if_neg a, if_pos (c.resolve_left a)]
  have more : ∀ j, j < cnt → ¬ (S j 3 = 0 ∨ S j 3 = 4) → S' j 6 = S j 6 + 1 ∧ S' j 7 = S j 7 + 1 := by
    intro j hj c
    rw [pS, pS, if_pos hj, if_pos hj]
    unfold wiS
    rw [if_neg (fun q => c (Or.inl q)), if_neg (fun q => c (Or.inr q))]
    exact ⟨((if_neg (by omega)).trans (if_neg (by omega))).trans (if_pos ⟨rfl, rfl⟩), (if_neg (by omega)).trans (if_pos ⟨rfl, rfl⟩)⟩
  have asks : ∀ j, j ∈ L → j < cnt ∧ S j 3 = 1 ∧ ¬ (S j 3 = 0 ∨ S j 3 = 4) := fun j hj => by
    obtain ⟨a, b⟩ := (hq.1 j).mp hj
    exact ⟨a, b, by rw [b]; decide⟩
  have o5 : ∀ i, S' i 5 = S i 5 := by
    intro i
    by_cases a : i < cnt
    · exact stay i a 5 (by decide) (by decide) (by decide)
    · rw [pS, if_neg a]
  refine ⟨TV.mk g1 g2 g3 g4 g5 ⟨fun a => ?_, ?_, fun a ha => ?_⟩ (fun j hj => ?_) (ho.cg (fun _ _ => rfl) h8 (fun i hi => by rw [stay i hi 3 (by decide) (by decide) (by decide)]; exact ⟨Iff.rfl, Iff.rfl⟩)) hb hw h8, o5⟩
  · rw [hq.1 a]
    exact ⟨fun q => ⟨q.1, (stay a q.1 3 (by decide) (by decide) (by decide)).trans q.2⟩, fun q => ⟨q.1, (stay a q.1 3 (by decide) (by decide) (by decide)).symm.trans q.2⟩⟩
  · refine List.Pairwise.imp_of_mem (fun {a b} ha hb hab => ?_) hq.2.1
    obtain ⟨a1, a2, a3⟩ := asks a ha
    obtain ⟨b1, b2, b3⟩ := asks b hb
    obtain ⟨-, -, -, -, -, ⟨x, x1, x2⟩, -⟩ := hso a a1
    obtain ⟨-, -, -, -, -, ⟨y, y1, y2⟩, -⟩ := hso b b1
    unfold bef at hab ⊢
    rw [(more a a1 a3).2, (more b b1 b3).2]
    rw [x2, y2] at hab ⊢
    rw [nI_1, nI_1]
    rcases hab with q | q
    · have := (nI_ltI (by omega) (by omega)).mp q
      exact Or.inl (nI_lt (by omega) (by omega))
    · have := (nI_eq (by omega) (by omega)).mp q.1
      exact Or.inr ⟨by rw [this], q.2⟩
  · obtain ⟨a1, a2, a3⟩ := asks a ha
    obtain ⟨-, -, -, -, -, ⟨x, x1, x2⟩, -⟩ := hso a a1
    exact Or.inl ⟨x + 1, by omega, by omega, by rw [(more a a1 a3).2, x2, nI_1]⟩
  · have so := hso j hj
    by_cases c : S j 3 = 0 ∨ S j 3 = 4
    · exact so.cg (fun i _ => same j hj c i) (Nat.le_refl _) (Nat.le_succ B)
    · obtain ⟨t3, s0, s1, s2, ⟨s4, s4'⟩, ⟨w, w1, w2⟩, s7', s5, f, f1, f2⟩ := so
      obtain ⟨m6, m7⟩ := more j hj c
      have st := stay j hj
      have c' : ¬ (S' j 3 = 0 ∨ S' j 3 = 4) := by rw [st 3 (by decide) (by decide) (by decide)]; exact c
      refine ⟨by rw [st 3 (by decide) (by decide) (by decide)]; exact t3, by rw [st 0 (by decide) (by decide) (by decide)]; exact s0, by rw [st 1 (by decide) (by decide) (by decide)]; exact s1, by rw [st 2 (by decide) (by decide) (by decide)]; exact s2, ⟨fun q => absurd q c', fun _ => by rw [st 4 (by decide) (by decide) (by decide)]; exact s4' c⟩, ⟨w + 1, by omega, by rw [m7, w2, nI_1]⟩, fun q => absurd q c', by rw [o5]; exact s5, f + 1, by omega, by rw [m6, f2, nI_1]⟩
theorem tv_w {cnt k : Nat} {bm bw bm' bw' : Nat → Nat} {s : Tb} {N : Nat → Int32} {L : List Nat} (h : TV cnt k bm bw s N L) (h1 : ∀ j, j < cnt → bm j ≤ bm' j) (h2 : ∀ j, j < cnt → bw j ≤ bw' j) : TV cnt k bm' bw' s N L := by
  obtain ⟨a, b, c, d, e⟩ := h
  exact ⟨a, b, c, fun j hj => (d j hj).cg (fun _ _ => rfl) (h1 j hj) (h2 j hj), e⟩
theorem RQ_QV {cnt k : Nat} {S : Nat → Nat → Int32} {N : Nat → Int32} {L : List Nat} (h : RQ N L) (hq : QL cnt k S L) : QV cnt L.length N := by
  obtain ⟨a, b, c⟩ := h
  refine ⟨b, a, fun i hi => ⟨L[i], ?_, c i hi⟩⟩
  exact ((hq.1 _).mp (List.getElem_mem hi)).1
/-- a tick -/
theorem tv_tick {cnt B : Nat} {s : Tb} {N : Nat → Int32} {L : List Nat} (h2 : 2 ≤ cnt) (hB : B + 1 < 2 ^ 30) (h : TV cnt 0 (fun _ => B) (fun _ => B) s N L) :
    (∃ L', TV cnt 0 (fun _ => B + 1) (fun _ => B + 1) (tickF cnt s) (tgN cnt N).1 L') ∧ (∃ a, QV cnt a (ph1 cnt N).1) ∧ ∃ c : Nat, c ≤ cnt ∧ (tgN cnt N).2 = nI c ∧ itr (mealsOfAllF (tickF cnt s).2.2) cnt 0 = itr (mealsOfAllF s.2.2) cnt 0 + nI c := by
  -- the tick's number
  have h0 : TV cnt 0 (b1 B 0) (fun _ => B) (upd s.1 5 (s.1 5 + 1), s.2.1, s.2.2) (upd N 1 (N 1 + 1)) L := by
    obtain ⟨⟨hH, hl, hs, hn⟩, hr, hq, hso, ho, hb, hw, h8⟩ := h
    refine TV.mk ?_ (hl.lo (by decide)) (hs.lo (by decide)) (hn.lo (by decide)) (hr.lo (by decide)) hq (fun j hj => (hso j hj).cg (fun _ _ => rfl) (show B ≤ b1 B 0 j by unfold b1; split <;> omega) (Nat.le_refl _)) ho hb hw h8
    obtain ⟨x0, x1, x2, x3, x4, x5, x6⟩ := hH
    exact ⟨x0, by rw [upd_ne (by decide)]; exact x1, by rw [upd_same, upd_same, x2], by rw [upd_ne (by decide)]; exact x3, by rw [upd_ne (by decide)]; exact x4, by rw [upd_ne (by decide)]; exact x5, by rw [upd_ne (by decide)]; exact x6⟩
  have p1 : ∀ n, n ≤ cnt → ∃ L', TV cnt n (b1 B n) (fun _ => B) (itr (fun k (s : Tb) => (s.1, thG cnt s.2.1 s.2.2 k, thS s.2.2 k)) n (upd s.1 5 (s.1 5 + 1), s.2.1, s.2.2)) (itr (q1N cnt) n (upd N 1 (N 1 + 1), 0)).1 L' ∧ ∃ c : Nat, c ≤ n ∧ (itr (q1N cnt) n (upd N 1 (N 1 + 1), 0)).2 = nI c ∧ itr (mealsOfAllF (itr (fun k (s : Tb) => (s.1, thG cnt s.2.1 s.2.2 k, thS s.2.2 k)) n (upd s.1 5 (s.1 5 + 1), s.2.1, s.2.2)).2.2) cnt 0 = itr (mealsOfAllF s.2.2) cnt 0 + nI c := by
    intro n
    induction n with
    | zero => intro _; exact ⟨L, h0, 0, Nat.le_refl 0, rfl, (Int32.add_zero _).symm⟩
    | succ n ih =>
      intro hn
      obtain ⟨L1, hT, c, hc, e1, e2⟩ := ih (by omega)
      rw [itr_s, itr_s]
      generalize itr (fun k (s : Tb) => (s.1, thG cnt s.2.1 s.2.2 k, thS s.2.2 k)) n (upd s.1 5 (s.1 5 + 1), s.2.1, s.2.2) = s1 at hT e2 ⊢
      generalize hz : itr (q1N cnt) n (upd N 1 (N 1 + 1), 0) = z at hT e1 ⊢
      obtain ⟨N1, ml⟩ := z
      dsimp only at hT e1
      obtain ⟨L2, hT2, c2, hc2, e3, e4⟩ := tv_p1 (ml := ml) (by omega) (show n < cnt by omega) hT
      refine ⟨L2, hT2, c + c2, by omega, ?_, ?_⟩
      · rw [e3, e1, nI_add]
      · rw [e4, e2, ← nI_add, Int32.add_assoc]
  obtain ⟨L1, hT1, c, hc, e1, e2⟩ := p1 cnt (Nat.le_refl cnt)
  have hT1 := tv_w (bm' := fun _ => B + 1) (bw' := fun _ => B) hT1 (fun j hj => show b1 B cnt j ≤ B + 1 by unfold b1; split <;> omega) (fun _ _ => Nat.le_refl _)
  have hqv : QV cnt L1.length (ph1 cnt N).1 := RQ_QV hT1.2.1 hT1.2.2.1
  unfold tgN
  unfold tickF
  dsimp only
  have eph : itr (q1N cnt) cnt (upd N 1 (N 1 + 1), 0) = ph1 cnt N := rfl
  rw [eph] at e1 hT1
  have e6 : ((ph1 cnt N).1 6).toNatClampNeg = L1.length := by rw [hqv.1]; exact nI_clamp (by have := hqv.2.1; omega)
  rw [e6]
  have fin : ∀ (s1 : Tb) (x : Int32), TV cnt cnt (fun _ => B + 1) (fun _ => B) s1 (ph1 cnt N).1 L1 → itr (mealsOfAllF s1.2.2) cnt 0 = x →
      (∃ L', TV cnt 0 (fun _ => B + 1) (fun _ => B + 1) ((itr (tkF cnt) cnt (s1.1, s1.2.1, itr (fun _ s => gvF cnt s1.1 s) 8 s1.2.2)).1, (itr (tkF cnt) cnt (s1.1, s1.2.1, itr (fun _ s => gvF cnt s1.1 s) 8 s1.2.2)).2.1, itr (fun k s => wiS s k) cnt (itr (tkF cnt) cnt (s1.1, s1.2.1, itr (fun _ s => gvF cnt s1.1 s) 8 s1.2.2)).2.2) (itr q4N cnt (itr (grN cnt) cnt (q2N cnt L1.length (ph1 cnt N).1))) L') ∧ itr (mealsOfAllF (itr (fun k s => wiS s k) cnt (itr (tkF cnt) cnt (s1.1, s1.2.1, itr (fun _ s => gvF cnt s1.1 s) 8 s1.2.2)).2.2)) cnt 0 = x := by
    intro s1 x hT1 e2
    obtain ⟨F1, G1, S1⟩ := s1
    dsimp only at e2 ⊢
    obtain ⟨⟨L2, hT2⟩, o2⟩ := tv_p2 (bm := fun _ => B + 1) (bw := fun _ => B) (fun _ => by omega) L1 F1 G1 S1 (ph1 cnt N).1 8 (by have := hqv.2.1; exact this) hT1
    have p3 : ∀ n, n ≤ cnt → TV cnt cnt (fun _ => B + 1) (fun _ => B) (itr (tkF cnt) n (F1, G1, itr (fun _ s => gvF cnt F1 s) 8 S1)) (itr (grN cnt) n (q2N cnt L1.length (ph1 cnt N).1)) L2 ∧ ∀ i, (itr (tkF cnt) n (F1, G1, itr (fun _ s => gvF cnt F1 s) 8 S1)).2.2 i 5 = S1 i 5 := by
      intro n
      induction n with
      | zero => intro _; exact ⟨hT2, o2⟩
      | succ n ih =>
        intro hn
        obtain ⟨hT, ho⟩ := ih (by omega)
        rw [itr_s, itr_s]
        obtain ⟨hA, hA5⟩ := tv_A h2 (show n < cnt by omega) hT
        obtain ⟨hB2, hB5⟩ := tv_B h2 (show n < cnt by omega) hA
        exact ⟨hB2, fun i => (hB5 i).trans ((hA5 i).trans (ho i))⟩
    obtain ⟨hT3, o3⟩ := p3 cnt (Nat.le_refl cnt)
    obtain ⟨hT4, o4⟩ := tv_p4 hB hT3
    refine ⟨⟨L2, hT4⟩, ?_⟩
    rw [← e2]
    exact meals_eq (fun i _ => (o4 i).trans (o3 i))
  obtain ⟨f1, f2⟩ := fin _ _ hT1 e2
  exact ⟨f1, ⟨_, hqv⟩, c, hc, e1, f2⟩
