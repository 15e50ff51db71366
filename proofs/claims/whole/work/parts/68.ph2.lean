/-! ===== a tick on both sides: leave, ladles, waiting ===== -/
theorem dq_hi {n : Nat} {y : Int32} {N : Nat → Int32} {i : Nat} (h : 15 ≤ i) (hn : n ≤ 8) : dqN n y N i = N i := by
  unfold dqN
  cases ff (fun k => decide (N (qx k) = y)) n 0 with
  | none => rfl
  | some k =>
    show dpN n k N i = N i
    unfold dpN
    rw [if_neg (by omega), if_neg (by omega)]
theorem tv_p2 {cnt : Nat} {bm bw : Nat → Nat} (hbw : ∀ j, bw j < 2 ^ 30) : ∀ (L : List Nat) (F G : Nat → Int32) (S : Nat → Nat → Int32) (N : Nat → Int32) (d : Nat), L.length ≤ d → TV cnt cnt bm bw (F, G, S) N L →
    (∃ L', TV cnt cnt bm bw (F, G, itr (fun _ s => gvF cnt F s) d S) (q2N cnt L.length N) L') ∧ ∀ i, itr (fun _ s => gvF cnt F s) d S i 5 = S i 5 := by
  intro L
  induction L with
  | nil =>
    intro F G S N d hd h
    have hq := h.2.2.1
    have h8 := h.2.2.2.2.2.2.2
    have hb : ∀ j, j < cnt → ∃ w, w < 2 ^ 30 ∧ S j 7 = nI w := fun j hj => by
      obtain ⟨-, -, -, -, -, ⟨w, w1, w2⟩, -⟩ := h.2.2.2.1 j hj
      exact ⟨w, Nat.lt_of_le_of_lt w1 (hbw j), w2⟩
    have ha : ff (askP cnt S 0) cnt 0 = ([] : List Nat)[0]? := ask_at (p := 0) hq hb h8 (by decide)
    have hg : gvF cnt F S = S := by unfold gvF; rw [ha]; rfl
    rw [gv_stay hg]
    exact ⟨⟨[], h⟩, fun _ => rfl⟩
  | cons a L ih =>
    intro F G S N d hd h
    rw [List.length_cons] at hd
    obtain ⟨d, rfl⟩ : ∃ e, d = e + 1 := ⟨d - 1, by omega⟩
    have hall := h
    obtain ⟨⟨hH, hl, hs, hn⟩, hr, hq, hso, ho, hb, hw, h8⟩ := h
    dsimp only at hH hl hs hn hr hq hso ho hb hw
    have hbb : ∀ j, j < cnt → ∃ w, w < 2 ^ 30 ∧ S j 7 = nI w := fun j hj => by
      obtain ⟨-, -, -, -, -, ⟨w, w1, w2⟩, -⟩ := hso j hj
      exact ⟨w, Nat.lt_of_le_of_lt w1 (hbw j), w2⟩
    have ha : ff (askP cnt S 0) cnt 0 = (a :: L)[0]? := ask_at (p := 0) hq hbb h8 (by decide)
    have ha : ff (askP cnt S 0) cnt 0 = some a := ha
    have hml : moreF cnt F S = letM cnt N := more_lets (s := (F, G, S)) hall.1 h8
    obtain ⟨hac, ha3⟩ := (hq.1 a).mp List.mem_cons_self
    rw [List.length_cons]
    by_cases b : moreF cnt F S = 0
    · have hg : gvF cnt F S = S := by unfold gvF; rw [ha]; exact if_pos b
      rw [gv_stay hg]
      have e2 : q2N cnt (L.length + 1) N = N := by unfold q2N; rw [if_pos (hml ▸ b)]
      rw [e2]
      exact ⟨⟨a :: L, hall⟩, fun _ => rfl⟩
    · have hg : gvF cnt F S = up2 S a 3 2 := by unfold gvF; rw [ha]; exact if_neg b
      have e7 : N 7 = nI a := hr.2.2 0 (by rw [List.length_cons]; omega)
      have ec : (N 7).toNatClampNeg = a := by rw [e7]; exact nI_clamp (by omega)
      have e2 : q2N cnt (L.length + 1) N = q2N cnt L.length (upd (upd (dqN (L.length + 1) (N 7) N) (ix a 9) 1) (ix a 3) 2) := by rw [q2N, if_neg (fun q => b (hml.trans q)), ec]
      have rl := hr.1
      rw [List.length_cons] at rl
      rw [e2, ← itr_c, hg]
      have o : ∀ j, j ≠ a → ∀ i, up2 S a 3 2 j i = S j i := fun j hj i => if_neg (fun q => hj q.1)
      have e : ∀ i, i ≠ 3 → up2 S a 3 2 a i = S a i := fun i hi => if_neg (fun q => hi q.2)
      have e3 : up2 S a 3 2 a 3 = 2 := if_pos ⟨rfl, rfl⟩
      have o5 : ∀ i, up2 S a 3 2 i 5 = S i 5 := fun i => if_neg (by omega)
      have o7 : ∀ i, up2 S a 3 2 i 7 = S i 7 := fun i => if_neg (by omega)
      have dq : ∀ i, 15 ≤ i → dqN (L.length + 1) (N 7) N i = N i := fun i hi => dq_hi hi rl
      have dl : ∀ i, i < 6 → dqN (L.length + 1) (N 7) N i = N i := fun i hi => dqN_o hi
      have hH1 : HD cnt F (dqN (L.length + 1) (N 7) N) := by
        obtain ⟨x0, x1, x2, x3, x4, x5, x6⟩ := hH
        exact ⟨x0, by rw [dl 0 (by decide)]; exact x1, by rw [dl 1 (by decide)]; exact x2, by rw [dl 2 (by decide)]; exact x3, by rw [dl 3 (by decide)]; exact x4, by rw [dl 4 (by decide)]; exact x5, by rw [dl 5 (by decide)]; exact x6⟩
      have hl1 : LEq G (dqN (L.length + 1) (N 7) N) := fun j hj => by rw [dq _ (by unfold lx; omega)]; exact hl j hj
      have hs1 : SEq cnt S (dqN (L.length + 1) (N 7) N) := fun k hk j hj => by rw [dq _ (by unfold ix; omega)]; exact hs k hk j hj
      have hn1 : NI cnt S (dqN (L.length + 1) (N 7) N) := fun k hk => by rw [dq _ (by unfold ix; omega)]; exact hn k hk
      have hr1 : RQ (dqN (L.length + 1) (N 7) N) L := by
        refine ⟨by omega, ?_, fun i hi => ?_⟩
        · rw [dq_head]; exact if_pos rfl
        · have := hr.2.2 (i + 1) (by rw [List.length_cons]; omega)
          rw [dq_head]
          unfold dpN
          rw [if_neg (by unfold qx; omega), if_pos (by unfold qx; omega)]
          exact this
      have hs2 := (hs1.nine (k := a) (v := 1)).up (k := a) (j := 3) (by decide) (v := 2)
      have hn2 := hn1.how (k := a) (x := 2) (v := 1) (by decide)
      have hH2 : HD cnt F (upd (upd (dqN (L.length + 1) (N 7) N) (ix a 9) 1) (ix a 3) 2) := (hH1.hi (by unfold ix; omega)).hi (by unfold ix; omega)
      have hl2 : LEq G (upd (upd (dqN (L.length + 1) (N 7) N) (ix a 9) 1) (ix a 3) 2) := (hl1.hi).hi
      have hr2 : RQ (upd (upd (dqN (L.length + 1) (N 7) N) (ix a 9) 1) (ix a 3) 2) L := (hr1.hi (by unfold ix; omega)).hi (by unfold ix; omega)
      have hnd := bef_nd hq.2.1
      obtain ⟨hn3, hn4⟩ := List.nodup_cons.mp hnd
      have hq2 : QL cnt cnt (up2 S a 3 2) L := by
        refine ⟨fun c => ?_, ?_, fun c hc => Or.inr ((hq.1 c).mp (List.mem_cons_of_mem _ hc)).1⟩
        · by_cases q : c = a
          · subst q
            rw [e3]
            exact ⟨fun z => absurd z hn3, fun z => absurd z.2 (by decide)⟩
          · rw [o c q 3, ← hq.1 c]
            exact ⟨fun z => List.mem_cons_of_mem _ z, fun z => (List.mem_cons.mp z).resolve_left q⟩
        · refine (List.pairwise_cons.mp hq.2.1).2.imp (fun {c e} hce => ?_)
          unfold bef
          rw [o7 c, o7 e]
          exact hce
      have hT : TV cnt cnt bm bw (F, G, up2 S a 3 2) (upd (upd (dqN (L.length + 1) (N 7) N) (ix a 9) 1) (ix a 3) 2) L := by
        refine TV.mk hH2 hl2 hs2 hn2 hr2 hq2 (fun j hj => ?_) (ho.cg (fun _ _ => rfl) h8 (fun i _ => ?_)) hb hw h8
        · by_cases q : j = a
          · subst q
            obtain ⟨t3, s0, s1, s2, ⟨s4, s4'⟩, s7, s7', s5, s6⟩ := hso j hj
            have n04 : ¬ (S j 3 = 0 ∨ S j 3 = 4) := by rw [ha3]; decide
            refine ⟨⟨2, by decide, e3⟩, by rw [e 0 (by decide)]; exact s0, by rw [e 1 (by decide)]; exact s1, by rw [e 2 (by decide)]; exact s2, ⟨fun q => ?_, fun _ => by rw [e 4 (by decide)]; exact s4' n04⟩, by rw [o7]; exact s7, fun q => ?_, by rw [o5]; exact s5, by rw [e 6 (by decide)]; exact s6⟩
            · rw [e3] at q; exact absurd q (by decide)
            · rw [e3] at q; exact absurd q (by decide)
          · exact (hso j hj).cg (fun i _ => o j q i) (Nat.le_refl _) (Nat.le_refl _)
        · by_cases q : i = a
          · subst q; rw [e3, ha3]; decide
          · rw [o i q 3]; exact ⟨Iff.rfl, Iff.rfl⟩
      obtain ⟨⟨L', h1⟩, h2⟩ := ih F G (up2 S a 3 2) _ d (by omega) hT
      exact ⟨⟨L', h1⟩, fun i => (h2 i).trans (o5 i)⟩
theorem lad_in {cnt k : Nat} {S : Nat → Nat → Int32} (h : S k 0 = 0 ∨ S k 0 = 1) : ladN cnt S k 1 = k ∨ ladN cnt S k 1 = lfN cnt k := by
  rw [lad_1 h]
  split
  · exact Or.inl rfl
  · exact Or.inr rfl
theorem leq_lt {cnt : Nat} {G N : Nat → Int32} {S : Nat → Nat → Int32} (hl : LEq G N) (ho : HO cnt G S) (h8 : cnt ≤ 8) {j : Nat} (hj : j < cnt) : (N (lx j) - 1 < 0 ↔ G j = -1) ∧ N (lx j) - 1 = G j := by
  have e : N (lx j) - 1 = G j := by rw [hl j (by omega), Int32.add_sub_cancel]
  refine ⟨?_, e⟩
  rw [e]
  rcases ho.1 j hj with q | ⟨i, hi, q, -⟩
  · rw [q]; decide
  · rw [q]
    exact ⟨fun z => absurd z (nI_pos (by omega)), fun z => absurd z (sM hi h8)⟩
/-- the ladle that a seat with one ladle still wants: both ways to find it -/
theorem w2_l2 {cnt k : Nat} {G N : Nat → Int32} {S : Nat → Nat → Int32} (hl : LEq G N) (ho : HO cnt G S) (h8 : cnt ≤ 8) (hk : k < cnt) (s0 : S k 0 = 0 ∨ S k 0 = 1) (h3 : S k 3 = 3) : w2N cnt k N = l2N cnt G S k ∧ (l2N cnt G S k = if G k = nI k then lfN cnt k else k) := by
  have ex := ho.2.2.2 k hk h3
  have e : N (lx k) - 1 = G k := (leq_lt hl ho h8 hk).2
  have key : l2N cnt G S k = if G k = nI k then lfN cnt k else k := by
    unfold l2N
    rw [lad_1 s0, lad_0 s0]
    rcases s0 with q | q
    · have q1 : ¬ S k 0 = 1 := by rw [q]; decide
      rw [if_neg q1, if_neg q1]
      by_cases z : G k = nI k
      · rw [if_pos z, if_neg (ex.mp z)]
      · rw [if_neg z]
        by_cases y : G (lfN cnt k) = nI k
        · rw [if_pos y]
        · exact absurd (ex.mpr y) z
    · rw [if_pos q, if_pos q]
  refine ⟨?_, key⟩
  rw [key]
  unfold w2N
  rw [e]
theorem tv_A {cnt k : Nat} {bm bw : Nat → Nat} {s : Tb} {N : Nat → Int32} {L : List Nat} (h2 : 2 ≤ cnt) (hk : k < cnt) (h : TV cnt cnt bm bw s N L) : TV cnt cnt bm bw (tkA cnt k s) (grA cnt k N) L ∧ ∀ i, (tkA cnt k s).2.2 i 5 = s.2.2 i 5 := by
  have hall := h
  obtain ⟨F, G, S⟩ := s
  obtain ⟨⟨hH, hl, hs, hn⟩, hr, hq, hso, ho, hb, hw, h8⟩ := h
  dsimp only at hH hl hs hn hr hq hso ho hb hw
  obtain ⟨t3, s0, s1, s2, ⟨s4, s4'⟩, s7, s7', s5, s6⟩ := hso k hk
  have n3 : N (ix k 3) = S k 3 := hs k hk 3 (by decide)
  have n0 : N (ix k 0) = S k 0 := hs k hk 0 (by decide)
  have em : mlN cnt N k 1 = ladN cnt S k 1 := ml_eq n0 s0 (Or.inr rfl)
  have hlc : ladN cnt S k 1 < cnt := ladN_lt hk
  obtain ⟨q1, q2⟩ := leq_lt hl ho h8 hlc
  by_cases a : S k 3 = 2
  · by_cases b : G (ladN cnt S k 1) = -1
    · have eT : tkA cnt k (F, G, S) = (F, upd G (ladN cnt S k 1) (nI k), up2 S k 3 3) := by unfold tkA; dsimp only; rw [if_pos a, if_pos b]
      have eN : grA cnt k N = upd (upd N (lx (ladN cnt S k 1)) (nI k + 1)) (ix k 3) 3 := by unfold grA; rw [if_pos (n3.trans a), em, if_pos (q1.mpr b)]
      rw [eT, eN]
      have o : ∀ j, j ≠ k → ∀ i, up2 S k 3 3 j i = S j i := fun j hj i => if_neg (fun q => hj q.1)
      have e : ∀ i, i ≠ 3 → up2 S k 3 3 k i = S k i := fun i hi => if_neg (fun q => hi q.2)
      have e3 : up2 S k 3 3 k 3 = 3 := if_pos ⟨rfl, rfl⟩
      have o5 : ∀ i, up2 S k 3 3 i 5 = S i 5 := fun i => if_neg (by omega)
      have o7 : ∀ i, up2 S k 3 3 i 7 = S i 7 := fun i => if_neg (by omega)
      have none_ : ∀ j, j < cnt → ¬ G j = nI k := fun j hj q => by
        rcases ho.1 j hj with z | ⟨i, hi, z, -, y⟩
        · rw [z] at q; exact sM hk h8 q.symm
        · rw [z] at q
          have := (nI_eq (by omega) (by omega)).mp q
          subst this
          rw [a] at y
          exact absurd y (by decide)
      refine ⟨TV.mk ((hH.hi (by unfold lx; omega)).hi (by unfold ix; omega)) ((hl.la).hi) ((hs.lo (by unfold lx; omega)).up (by decide)) ((hn.lo (by unfold lx; omega)).how2 hk (by rw [a]; decide)) ((hr.hi (by unfold lx; omega)).hi (by unfold ix; omega)) (hq.cg (fun c _ => ?_) (fun c _ => o7 c) (Nat.le_refl _)) (fun j hj => ?_) (ho.get h8 hk (lad_in s0) b (fun i _ hi => o i hi 3) (Or.inl ⟨e3, none_ k hk, none_ _ (lf_lt hk), lf_ne hk h2⟩)) hb hw h8, o5⟩
      · by_cases q : c = k
        · rw [q, e3, a]; decide
        · rw [o c q 3]
      · by_cases q : j = k
        · subst q
          refine ⟨⟨3, by decide, e3⟩, by rw [e 0 (by decide)]; exact s0, by rw [e 1 (by decide)]; exact s1, by rw [e 2 (by decide)]; exact s2, ⟨fun q => ?_, fun _ => by rw [e 4 (by decide)]; exact s4' (by rw [a]; decide)⟩, by rw [o7]; exact s7, fun q => ?_, by rw [o5]; exact s5, by rw [e 6 (by decide)]; exact s6⟩
          · rw [e3] at q; exact absurd q (by decide)
          · rw [e3] at q; exact absurd q (by decide)
        · exact (hso j hj).cg (fun i _ => o j q i) (Nat.le_refl _) (Nat.le_refl _)
    · have eT : tkA cnt k (F, G, S) = (F, G, S) := by unfold tkA; dsimp only; rw [if_pos a, if_neg b]
      have eN : grA cnt k N = N := by unfold grA; rw [if_pos (n3.trans a), em, if_neg (fun q => b (q1.mp q))]
      rw [eT, eN]
      exact ⟨hall, fun _ => rfl⟩
  · have eT : tkA cnt k (F, G, S) = (F, G, S) := by unfold tkA; dsimp only; rw [if_neg a]
    have eN : grA cnt k N = N := by unfold grA; rw [if_neg (fun q => a (n3.symm.trans q))]
    rw [eT, eN]
    exact ⟨hall, fun _ => rfl⟩
theorem tv_B {cnt k : Nat} {bm bw : Nat → Nat} {s : Tb} {N : Nat → Int32} {L : List Nat} (h2 : 2 ≤ cnt) (hk : k < cnt) (h : TV cnt cnt bm bw s N L) : TV cnt cnt bm bw (tkB cnt k s) (grB cnt k N) L ∧ ∀ i, (tkB cnt k s).2.2 i 5 = s.2.2 i 5 := by
  have hall := h
  obtain ⟨F, G, S⟩ := s
  obtain ⟨⟨hH, hl, hs, hn⟩, hr, hq, hso, ho, ⟨bo, b99, eb⟩, hw, h8⟩ := h
  dsimp only at hH hl hs hn hr hq hso ho eb hw
  obtain ⟨t3, s0, s1, s2, ⟨s4, s4'⟩, s7, s7', s5, s6⟩ := hso k hk
  have n3 : N (ix k 3) = S k 3 := hs k hk 3 (by decide)
  have n2 : N (ix k 2) = S k 2 := hs k hk 2 (by decide)
  by_cases a : S k 3 = 3
  · obtain ⟨ew, el⟩ := w2_l2 hl ho h8 hk s0 a
    have hlc : l2N cnt G S k < cnt := l2N_lt hk
    obtain ⟨q1, q2⟩ := leq_lt hl ho h8 hlc
    have m2 : N 2 = F 4 := hH.2.2.2.1
    have m4 : N 4 = F 6 := hH.2.2.2.2.2.1
    by_cases b : G (l2N cnt G S k) = -1
    · by_cases d : 0 < F 4
      · have d2 : ¬ N 2 = 0 := fun q => by rw [m2] at q; rw [q] at d; exact absurd d (by decide)
        have bp : 1 ≤ bo := by
          rcases Nat.eq_zero_or_pos bo with z | z
          · rw [eb, z] at d; exact absurd d (by decide)
          · exact z
        have eT : tkB cnt k (F, G, S) = (upd (upd F 4 (F 4 - 1)) 6 (F 6 + 1), upd G (l2N cnt G S k) (nI k), beS S k) := by unfold tkB; dsimp only; rw [if_pos a, if_pos b, if_pos d]
        have eN : grB cnt k N = upd (upd (upd (upd (upd (upd N (lx (l2N cnt G S k)) (nI k + 1)) 2 (F 4 - 1)) 4 (F 6 + 1)) (ix k 3) 4) (ix k 4) (S k 2)) (ix k 7) 0 := by unfold grB; rw [if_pos (n3.trans a), ew, if_pos (q1.mpr b), if_neg d2, m2, m4, n2]
        rw [eT, eN]
        unfold beS
        have o : ∀ j, j ≠ k → ∀ i, up2 (up2 (up2 S k 3 4) k 4 (S k 2)) k 7 0 j i = S j i := fun j hj i => ((if_neg (fun q => hj q.1)).trans (if_neg (fun q => hj q.1))).trans (if_neg (fun q => hj q.1))
        have e : ∀ i, i ≠ 3 → i ≠ 4 → i ≠ 7 → up2 (up2 (up2 S k 3 4) k 4 (S k 2)) k 7 0 k i = S k i := fun i x1 x2 x3 => ((if_neg (fun q => x3 q.2)).trans (if_neg (fun q => x2 q.2))).trans (if_neg (fun q => x1 q.2))
        have e3 : up2 (up2 (up2 S k 3 4) k 4 (S k 2)) k 7 0 k 3 = 4 := ((if_neg (by omega)).trans (if_neg (by omega))).trans (if_pos ⟨rfl, rfl⟩)
        have e4 : up2 (up2 (up2 S k 3 4) k 4 (S k 2)) k 7 0 k 4 = S k 2 := (if_neg (by omega)).trans (if_pos ⟨rfl, rfl⟩)
        have e7 : up2 (up2 (up2 S k 3 4) k 4 (S k 2)) k 7 0 k 7 = 0 := if_pos ⟨rfl, rfl⟩
        have o5 : ∀ i, up2 (up2 (up2 S k 3 4) k 4 (S k 2)) k 7 0 i 5 = S i 5 := fun i => ((if_neg (by omega)).trans (if_neg (by omega))).trans (if_neg (by omega))
        have hs' := ((((((hs.lo (i := lx (l2N cnt G S k)) (by unfold lx; omega) (v := nI k + 1)).lo (i := 2) (by decide) (v := F 4 - 1)).lo (i := 4) (by decide) (v := F 6 + 1)).up (k := k) (j := 3) (by decide) (v := 4)).up (k := k) (j := 4) (by decide) (v := S k 2)).up (k := k) (j := 7) (by decide) (v := 0))
        have hn' := ((((((hn.lo (i := lx (l2N cnt G S k)) (by unfold lx; omega) (v := nI k + 1)).lo (i := 2) (by decide) (v := F 4 - 1)).lo (i := 4) (by decide) (v := F 6 + 1)).how2 (k := k) (x := 4) hk (by rw [a]; decide)).up (k := k) (j := 4) (by decide) (by decide) (v := S k 2)).up (k := k) (j := 7) (by decide) (by decide) (v := 0))
        have hl' := (((((hl.la (k := l2N cnt G S k) (v := nI k)).lo (i := 2) (by decide) (v := F 4 - 1)).lo (i := 4) (by decide) (v := F 6 + 1)).hi (k := k) (j := 3) (v := 4)).hi (k := k) (j := 4) (v := S k 2)).hi (k := k) (j := 7) (v := 0)
        have hr' : RQ (upd (upd (upd (upd (upd (upd N (lx (l2N cnt G S k)) (nI k + 1)) 2 (F 4 - 1)) 4 (F 6 + 1)) (ix k 3) 4) (ix k 4) (S k 2)) (ix k 7) 0) L := (((((hr.hi (by unfold lx; omega)).lo (by decide)).lo (by decide)).hi (by unfold ix; omega)).hi (by unfold ix; omega)).hi (by unfold ix; omega)
        have hH' : HD cnt (upd (upd F 4 (F 4 - 1)) 6 (F 6 + 1)) (upd (upd (upd (upd (upd (upd N (lx (l2N cnt G S k)) (nI k + 1)) 2 (F 4 - 1)) 4 (F 6 + 1)) (ix k 3) 4) (ix k 4) (S k 2)) (ix k 7) 0) := by
          have hH2 : HD cnt (upd (upd F 4 (F 4 - 1)) 6 (F 6 + 1)) (upd (upd (upd N (lx (l2N cnt G S k)) (nI k + 1)) 2 (F 4 - 1)) 4 (F 6 + 1)) := by
            obtain ⟨x0, x1, x2, x3, x4, x5, x6⟩ := hH
            have y : ∀ i, i < 6 → i ≠ 2 → i ≠ 4 → upd (upd (upd N (lx (l2N cnt G S k)) (nI k + 1)) 2 (F 4 - 1)) 4 (F 6 + 1) i = N i := fun i z1 z2 z3 => by rw [upd_ne z3, upd_ne z2, upd_ne (by unfold lx; omega)]
            exact ⟨x0, (y 0 (by decide) (by decide) (by decide)).trans x1, (y 1 (by decide) (by decide) (by decide)).trans x2, by rw [upd_ne (by decide), upd_same]; rfl, (y 3 (by decide) (by decide) (by decide)).trans x4, by rw [upd_same]; rfl, (y 5 (by decide) (by decide) (by decide)).trans x6⟩
          exact ((hH2.hi (by unfold ix; omega)).hi (by unfold ix; omega)).hi (by unfold ix; omega)
        generalize up2 (up2 (up2 S k 3 4) k 4 (S k 2)) k 7 0 = S' at o e e3 e4 e7 o5 hs' hn'
        have hex := ho.2.2.2 k hk a
        refine ⟨TV.mk hH' hl' hs' hn' hr' (hq.cg (fun c _ => ?_) (fun c hc => ?_) (Nat.le_refl _)) (fun j hj => ?_) (ho.get h8 hk ?_ b (fun i _ hi => o i hi 3) (Or.inr ⟨e3, fun z => ?_, fun z => ?_⟩)) ⟨bo - 1, by omega, ?_⟩ hw h8, o5⟩
        · by_cases q : c = k
          · rw [q, e3, a]; decide
          · rw [o c q 3]
        · have q : c ≠ k := fun z => by have := ((hq.1 c).mp hc).2; rw [z, a] at this; exact absurd this (by decide)
          exact o c q 7
        · by_cases q : j = k
          · subst q
            obtain ⟨t, t1, t9, et⟩ := s2
            refine ⟨⟨4, by decide, e3⟩, by rw [e 0 (by decide) (by decide) (by decide)]; exact s0, by rw [e 1 (by decide) (by decide) (by decide)]; exact s1, ⟨t, t1, t9, by rw [e 2 (by decide) (by decide) (by decide)]; exact et⟩, ⟨fun _ => ⟨t, t1, t9, e4.trans et⟩, fun q => absurd (Or.inr e3) q⟩, ⟨0, Nat.zero_le _, e7⟩, fun _ => e7, by rw [o5]; exact s5, by rw [e 6 (by decide) (by decide) (by decide)]; exact s6⟩
          · exact (hso j hj).cg (fun i _ => o j q i) (Nat.le_refl _) (Nat.le_refl _)
        · rw [el]
          split
          · exact Or.inr rfl
          · exact Or.inl rfl
        · rw [el] at z
          by_cases y : G k = nI k
          · rw [if_pos y] at z; exact absurd z (lf_ne hk h2)
          · by_cases x : G (lfN cnt k) = nI k
            · exact x
            · exact absurd (hex.mpr x) y
        · rw [el] at z
          by_cases y : G k = nI k
          · exact y
          · rw [if_neg y] at z; exact absurd z.symm (lf_ne hk h2)
        · show F 4 - 1 = nI (bo - 1)
          rw [eb, nI_p bp]
      · have d2 : N 2 = 0 := by
          rw [m2, eb] at *
          rcases Nat.eq_zero_or_pos bo with z | z
          · rw [z]; rfl
          · exact absurd (show nI 0 < nI bo from nI_lt z (by omega)) d
        have eT : tkB cnt k (F, G, S) = (F, G, S) := by unfold tkB; dsimp only; rw [if_pos a, if_pos b, if_neg d]
        have eN : grB cnt k N = N := by unfold grB; rw [if_pos (n3.trans a), ew, if_pos (q1.mpr b), if_pos d2]
        rw [eT, eN]
        exact ⟨hall, fun _ => rfl⟩
    · have eT : tkB cnt k (F, G, S) = (F, G, S) := by unfold tkB; dsimp only; rw [if_pos a, if_neg b]
      have eN : grB cnt k N = N := by unfold grB; rw [if_pos (n3.trans a), ew, if_neg (fun q => b (q1.mp q))]
      rw [eT, eN]
      exact ⟨hall, fun _ => rfl⟩
  · have eT : tkB cnt k (F, G, S) = (F, G, S) := by unfold tkB; dsimp only; rw [if_neg a]
    have eN : grB cnt k N = N := by unfold grB; rw [if_neg (fun q => a (n3.symm.trans q))]
    rw [eT, eN]
    exact ⟨hall, fun _ => rfl⟩
