/-! ===== a tick, part by part, on both sides ===== -/
theorem SO.cg {S S' : Nat → Nat → Int32} {k bm bw bm' bw' : Nat} (h : SO S k bm bw) (e : ∀ i, i < 9 → S' k i = S k i) (h1 : bm ≤ bm') (h2 : bw ≤ bw') : SO S' k bm' bw' := by
  unfold SO at h ⊢
  rw [e 0 (by decide), e 1 (by decide), e 2 (by decide), e 3 (by decide), e 4 (by decide), e 5 (by decide), e 6 (by decide), e 7 (by decide)]
  obtain ⟨a, b, c, d, f, ⟨w, w1, w2⟩, g, ⟨x, x1, x2⟩, y, y1, y2⟩ := h
  exact ⟨a, b, c, d, f, ⟨w, Nat.le_trans w1 h2, w2⟩, g, ⟨x, Nat.le_trans x1 h1, x2⟩, y, Nat.le_trans y1 h2, y2⟩
theorem QL.cg {cnt k k' : Nat} {S S' : Nat → Nat → Int32} {L : List Nat} (h : QL cnt k S L) (e : ∀ a, a < cnt → (S' a 3 = 1 ↔ S a 3 = 1)) (e7 : ∀ a, a ∈ L → S' a 7 = S a 7) (hk : k ≤ k') : QL cnt k' S' L := by
  obtain ⟨h1, h2, h3⟩ := h
  refine ⟨fun a => ?_, ?_, fun a ha => ?_⟩
  · rw [h1 a]
    exact ⟨fun q => ⟨q.1, (e a q.1).mpr q.2⟩, fun q => ⟨q.1, (e a q.1).mp q.2⟩⟩
  · refine List.Pairwise.imp_of_mem (fun {a b} ha hb hab => ?_) h2
    unfold bef
    rw [e7 a ha, e7 b hb]
    exact hab
  · rw [e7 a ha]
    rcases h3 a ha with q | q
    · exact Or.inl q
    · exact Or.inr (by omega)
theorem HO.cg {cnt : Nat} {G G' : Nat → Int32} {S S' : Nat → Nat → Int32} (h : HO cnt G S) (eG : ∀ j, j < 8 → G' j = G j) (h8 : cnt ≤ 8) (e : ∀ i, i < cnt → (S' i 3 = 3 ↔ S i 3 = 3) ∧ (S' i 3 = 4 ↔ S i 3 = 4)) : HO cnt G' S' := by
  obtain ⟨h1, h2, h3, h4⟩ := h
  refine ⟨fun j hj => ?_, fun j a b => ?_, fun i hi q => ?_, fun i hi q => ?_⟩
  · rw [eG j (by omega)]
    rcases h1 j hj with q | ⟨i, hi, a, b, c⟩
    · exact Or.inl q
    · refine Or.inr ⟨i, hi, a, b, ?_⟩
      rcases c with c | c
      · exact Or.inl ((e i hi).1.mpr c)
      · exact Or.inr ((e i hi).2.mpr c)
  · rw [eG j b]; exact h2 j a b
  · have hl := lf_lt hi
    rw [eG i (by omega), eG _ (by omega)]
    exact h3 i hi ((e i hi).2.mp q)
  · have hl := lf_lt hi
    rw [eG i (by omega), eG _ (by omega)]
    exact h4 i hi ((e i hi).1.mp q)
theorem sI {cnt : Nat} {i k : Nat} (hi : i < cnt) (hk : k < cnt) (h8 : cnt ≤ 8) (h : i ≠ k) : nI i ≠ nI k := fun q => h ((nI_eq (by omega) (by omega)).mp q)
theorem sM {cnt : Nat} {i : Nat} (hi : i < cnt) (h8 : cnt ≤ 8) : nI i ≠ -1 := fun q => (nI_m1 (by omega)).mp q
/-- a seat puts down what it holds; it doesn't hold any more -/
theorem HO.put {cnt k : Nat} {G G' : Nat → Int32} {S S' : Nat → Nat → Int32} (h : HO cnt G S) (h8 : cnt ≤ 8) (hk : k < cnt) (eG : ∀ j, j < 8 → G' j = if G j = nI k then -1 else G j) (e : ∀ i, i < cnt → i ≠ k → S' i 3 = S i 3) (ek : S' k 3 ≠ 3 ∧ S' k 3 ≠ 4) : HO cnt G' S' := by
  obtain ⟨h1, h2, h3, h4⟩ := h
  have key : ∀ p, p < 8 → ∀ i, i < cnt → i ≠ k → (G' p = nI i ↔ G p = nI i) := by
    intro p hp i hi hne
    rw [eG p hp]
    by_cases q : G p = nI k
    · rw [if_pos q, q]
      exact ⟨fun z => absurd z.symm (sM hi h8), fun z => absurd z.symm (sI hi hk h8 hne)⟩
    · rw [if_neg q]
  refine ⟨fun j hj => ?_, fun j a b => ?_, fun i hi q => ?_, fun i hi q => ?_⟩
  · rw [eG j (by omega)]
    by_cases q : G j = nI k
    · rw [if_pos q]; exact Or.inl rfl
    · rw [if_neg q]
      rcases h1 j hj with z | ⟨i, hi, a, b, c⟩
      · exact Or.inl z
      · have hne : i ≠ k := fun y => q (by rw [a, y])
        exact Or.inr ⟨i, hi, a, b, by rw [e i hi hne]; exact c⟩
  · rw [eG j b, h2 j a b, if_neg (fun q => sM hk h8 q.symm)]
  · have hne : i ≠ k := fun y => by rw [y] at q; exact ek.2 q
    rw [e i hi hne] at q
    have hl := lf_lt hi
    obtain ⟨a, b⟩ := h3 i hi q
    exact ⟨(key i (by omega) i hi hne).mpr a, (key _ (by omega) i hi hne).mpr b⟩
  · have hne : i ≠ k := fun y => by rw [y] at q; exact ek.1 q
    rw [e i hi hne] at q
    have hl := lf_lt hi
    rw [key i (by omega) i hi hne, key _ (by omega) i hi hne]
    exact h4 i hi q
/-- a seat takes a free ladle of its own -/
theorem HO.get {cnt k l : Nat} {G : Nat → Int32} {S S' : Nat → Nat → Int32} (h : HO cnt G S) (h8 : cnt ≤ 8) (hk : k < cnt) (hl : l = k ∨ l = lfN cnt k) (hf : G l = -1) (e : ∀ i, i < cnt → i ≠ k → S' i 3 = S i 3)
    (ek : (S' k 3 = 3 ∧ ¬ G k = nI k ∧ ¬ G (lfN cnt k) = nI k ∧ lfN cnt k ≠ k) ∨ (S' k 3 = 4 ∧ (l = k → G (lfN cnt k) = nI k) ∧ (l = lfN cnt k → G k = nI k))) : HO cnt (upd G l (nI k)) S' := by
  obtain ⟨h1, h2, h3, h4⟩ := h
  have hlk := lf_lt hk
  have hlc : l < cnt := by rcases hl with q | q <;> omega
  have key : ∀ p, ∀ i, i < cnt → i ≠ k → (upd G l (nI k) p = nI i ↔ G p = nI i) := by
    intro p i hi hne
    unfold upd
    by_cases q : p = l
    · rw [if_pos q, q, hf]
      exact ⟨fun z => absurd z.symm (sI hi hk h8 hne), fun z => absurd z.symm (sM hi h8)⟩
    · rw [if_neg q]
  refine ⟨fun j hj => ?_, fun j a b => ?_, fun i hi q => ?_, fun i hi q => ?_⟩
  · by_cases q : j = l
    · refine Or.inr ⟨k, hk, by rw [q]; exact upd_same, by rw [q]; exact hl, ?_⟩
      rcases ek with z | z
      · exact Or.inl z.1
      · exact Or.inr z.1
    · rw [upd_ne q]
      rcases h1 j hj with z | ⟨i, hi, a, b, c⟩
      · exact Or.inl z
      · refine Or.inr ⟨i, hi, a, b, ?_⟩
        by_cases hne : i = k
        · rw [hne]
          rcases ek with z | z
          · exact Or.inl z.1
          · exact Or.inr z.1
        · rw [e i hi hne]; exact c
  · rw [upd_ne (by omega)]; exact h2 j a b
  · by_cases hne : i = k
    · subst hne
      rcases ek with z | ⟨-, z1, z2⟩
      · rw [z.1] at q; exact absurd q (by decide)
      · unfold upd
        by_cases a : i = l
        · rw [if_pos a]
          refine ⟨rfl, ?_⟩
          by_cases b : lfN cnt i = l
          · rw [if_pos b]
          · rw [if_neg b]; exact z1 a.symm
        · rw [if_neg a]
          have b : l = lfN cnt i := by rcases hl with y | y; exact absurd y.symm a; exact y
          rw [if_pos b.symm]
          exact ⟨z2 b, rfl⟩
    · rw [e i hi hne] at q
      obtain ⟨a, b⟩ := h3 i hi q
      exact ⟨(key i i hi hne).mpr a, (key _ i hi hne).mpr b⟩
  · by_cases hne : i = k
    · subst hne
      rcases ek with ⟨-, z1, z2, z3⟩ | z
      · unfold upd
        by_cases a : i = l
        · rw [if_pos a, if_neg (fun y => z3 (y.trans a.symm))]
          exact ⟨fun _ => z2, fun _ => rfl⟩
        · have b : l = lfN cnt i := by rcases hl with y | y; exact absurd y.symm a; exact y
          rw [if_neg a, if_pos b.symm]
          exact ⟨fun y => absurd y z1, fun y => absurd rfl y⟩
      · rw [z.1] at q; exact absurd q (by decide)
    · rw [e i hi hne] at q
      rw [key i i hi hne, key _ i hi hne]
      exact h4 i hi q
/-- meals counted -/
theorem meals_up {S S' : Nat → Nat → Int32} {k : Nat} {d : Int32} (e : ∀ i, i ≠ k → S' i 5 = S i 5) (ek : S' k 5 = S k 5 + d) : ∀ {n : Nat}, k < n → itr (mealsOfAllF S') n 0 = itr (mealsOfAllF S) n 0 + d := by
  intro n
  induction n with
  | zero => intro h; omega
  | succ n ih =>
    intro h
    rw [itr_s, itr_s]
    unfold mealsOfAllF
    by_cases q : k = n
    · subst q
      have : itr (mealsOfAllF S') k 0 = itr (mealsOfAllF S) k 0 := itr_congr (fun j a hj => by unfold mealsOfAllF; rw [e j (by omega)]) 0
      unfold mealsOfAllF at this
      rw [this, ek, Int32.add_assoc]
    · have h2 := ih (show k < n by omega)
      unfold mealsOfAllF at h2
      rw [h2, e n (fun z => q z.symm), Int32.add_assoc, Int32.add_assoc, Int32.add_comm d]
theorem meals_eq {S S' : Nat → Nat → Int32} {n : Nat} (e : ∀ i, i < n → S' i 5 = S i 5) : itr (mealsOfAllF S') n 0 = itr (mealsOfAllF S) n 0 := itr_congr (fun j a hj => by unfold mealsOfAllF; rw [e j hj]) 0
theorem TV.mk {cnt k : Nat} {bm bw : Nat → Nat} {F G : Nat → Int32} {S : Nat → Nat → Int32} {N : Nat → Int32} {L : List Nat} (a : HD cnt F N) (b : LEq G N) (c : SEq cnt S N) (d : NI cnt S N) (e : RQ N L) (f : QL cnt k S L) (g : ∀ j, j < cnt → SO S j (bm j) (bw j)) (h : HO cnt G S) (i : ∃ b, b ≤ 99 ∧ F 4 = nI b) (j : ∃ w, w ≤ 8 ∧ F 3 = nI w) (l : cnt ≤ 8) : TV cnt k bm bw (F, G, S) N L := ⟨⟨a, b, c, d⟩, e, f, g, h, i, j, l⟩
def b1 (B k : Nat) : Nat → Nat := fun j => if j < k then B + 1 else B
theorem b1_le {B k j : Nat} : b1 B k j ≤ b1 B (k + 1) j := by unfold b1; split <;> split <;> omega
/-- first in a tick: a seat thinks or eats -/
theorem tv_p1 {cnt k B : Nat} {s : Tb} {N : Nat → Int32} {L : List Nat} {ml : Int32} (hB : B < 2 ^ 30) (hk : k < cnt) (h : TV cnt k (b1 B k) (fun _ => B) s N L) :
    ∃ L', TV cnt (k + 1) (b1 B (k + 1)) (fun _ => B) (s.1, thG cnt s.2.1 s.2.2 k, thS s.2.2 k) (q1N cnt k (N, ml)).1 L' ∧ ∃ c : Nat, c ≤ 1 ∧ (q1N cnt k (N, ml)).2 = ml + nI c ∧ itr (mealsOfAllF (thS s.2.2 k)) cnt 0 = itr (mealsOfAllF s.2.2) cnt 0 + nI c := by
  obtain ⟨F, G, S⟩ := s
  obtain ⟨⟨hd, hl, hs, hn⟩, hr, hq, hso, ho, hb, hw, h8⟩ := h
  dsimp only at hd hl hs hn hr hq hso ho hb hw ⊢
  have hk8 : k < 8 := by omega
  have n3 : N (ix k 3) = S k 3 := hs k hk 3 (by decide)
  have n4 : N (ix k 4) = S k 4 := hs k hk 4 (by decide)
  have n5 : N (ix k 5) = S k 5 := hs k hk 5 (by decide)
  have n1 : N (ix k 1) = S k 1 := hs k hk 1 (by decide)
  have so := hso k hk
  obtain ⟨⟨hh, hh5, eh⟩, s0, s1, s2, ⟨s4, s4'⟩, s7, s7', ⟨e5, e5b, s5⟩, s6⟩ := so
  have bk : b1 B k k = B := if_neg (Nat.lt_irrefl k)
  have bk1 : b1 B (k + 1) k = B + 1 := if_pos (by omega)
  have z0 : nI 0 = 0 := rfl
  have tick4 : ∀ l, 1 ≤ l → l ≤ 9 → nI l - 1 = nI (l - 1) := fun l a b => nI_p (by omega)
  by_cases a0 : S k 3 = 0
  · have a04 : ¬ S k 3 = 4 := by rw [a0]; decide
    have m0 : N (ix k 3) = 0 := n3.trans a0
    obtain ⟨l, l1, l9, el⟩ := s4 (Or.inl a0)
    have q4 : S k 4 - 1 = nI (l - 1) := by rw [el, tick4 l l1 l9]
    have w4 : N (ix k 4) - 1 = nI (l - 1) := by rw [n4, q4]
    have hid : idN k N = upd N (ix k 4) (nI (l - 1)) := by unfold idN; rw [w4]
    have eG : thG cnt G S k = G := by unfold thG; rw [if_neg a04]
    by_cases l2 : 0 < l - 1
    · -- it thinks on
      have c1 : 0 < nI (l - 1) := show nI 0 < nI (l - 1) from nI_lt l2 (by omega)
      have c2 : ¬ nI (l - 1) = 0 := nI_ne0 l2 (by omega)
      have eS : thS S k = up2 S k 4 (nI (l - 1)) := by unfold thS; rw [if_pos a0, if_pos (q4 ▸ c1), q4]
      have eQ : q1N cnt k (N, ml) = (upd N (ix k 4) (nI (l - 1)), ml) := by unfold q1N; dsimp only; rw [if_pos m0, if_neg (fun q => c2 (w4.symm.trans q)), hid]
      rw [eG, eS, eQ]
      dsimp only
      have o : ∀ j, j ≠ k → ∀ i, up2 S k 4 (nI (l - 1)) j i = S j i := fun j hj i => if_neg (fun q => hj q.1)
      have e : ∀ i, i ≠ 4 → up2 S k 4 (nI (l - 1)) k i = S k i := fun i hi => if_neg (fun q => hi q.2)
      have e4 : up2 S k 4 (nI (l - 1)) k 4 = nI (l - 1) := if_pos ⟨rfl, rfl⟩
      have hs' := hs.up (k := k) (j := 4) (by decide) (v := nI (l - 1))
      have hn' := hn.up (k := k) (j := 4) (by decide) (by decide) (v := nI (l - 1))
      generalize up2 S k 4 (nI (l - 1)) = S' at o e e4 hs' hn'
      have o3 : ∀ i, S' i 3 = S i 3 := fun i => by by_cases q : i = k; rw [q]; exact e 3 (by decide); exact o i q 3
      have o7 : ∀ i, S' i 7 = S i 7 := fun i => by by_cases q : i = k; rw [q]; exact e 7 (by decide); exact o i q 7
      refine ⟨L, TV.mk (hd.hi (by unfold ix; omega)) (hl.hi) (hs') (hn') (hr.hi (by unfold ix; omega)) (hq.cg (fun a _ => by rw [o3]) (fun a _ => o7 a) (by omega)) (fun j hj => ?_) (ho.cg (fun _ _ => rfl) h8 (fun i _ => by rw [o3]; exact ⟨Iff.rfl, Iff.rfl⟩)) (hb) (hw) (h8), 0, by omega, ?_, ?_⟩
      · by_cases q : j = k
        · subst q
          refine ⟨⟨hh, hh5, by rw [o3]; exact eh⟩, by rw [e 0 (by decide)]; exact s0, by rw [e 1 (by decide)]; exact s1, by rw [e 2 (by decide)]; exact s2, ⟨fun _ => ⟨l - 1, by omega, by omega, e4⟩, fun q => absurd (Or.inl ((o3 j).trans a0)) q⟩, by rw [o7]; exact s7, fun _ => by rw [o7]; exact s7' (Or.inl a0), ⟨e5, by rw [bk1]; rw [bk] at e5b; omega, by rw [e 5 (by decide)]; exact s5⟩, by rw [e 6 (by decide)]; exact s6⟩
        · exact (hso j hj).cg (fun i _ => o j q i) b1_le (Nat.le_refl _)
      · rw [z0, Int32.add_zero]
      · rw [z0, Int32.add_zero]
        exact meals_eq (fun i _ => by by_cases q : i = k; rw [q]; exact e 5 (by decide); exact o i q 5)
    · -- it asks
      obtain rfl : l = 1 := by omega
      have c1 : ¬ 0 < nI (1 - 1) := by decide
      have c2 : nI (1 - 1) = 0 := rfl
      have m1 : S k 7 = 0 := s7' (Or.inl a0)
      have kL : k ∉ L := fun q => by have := ((hq.1 k).mp q).2; rw [a0] at this; exact absurd this (by decide)
      have r6 : N 6 = nI L.length := hr.2.1
      have rl : L.length + 1 ≤ 8 := by
        have h2 : (L ++ [k]).Nodup := by
          rw [List.nodup_append]
          refine ⟨bef_nd hq.2.1, by simp, fun a ha b hb => ?_⟩
          rw [List.mem_singleton] at hb
          rw [hb]
          exact fun q => kL (q ▸ ha)
        have h3 := nd_len h2 (fun a ha => by
          rcases List.mem_append.mp ha with q | q
          · exact ((hq.1 a).mp q).1
          · rw [List.mem_singleton] at q; omega)
        rw [List.length_append, List.length_singleton] at h3
        omega
      have ec : (N 6).toNatClampNeg = L.length := by rw [r6]; exact nI_clamp (by omega)
      have eS : thS S k = up2 (up2 S k 4 (nI (1 - 1))) k 3 1 := by unfold thS; rw [if_pos a0, if_neg (fun q => c1 (q4 ▸ q)), q4]
      have eQ : q1N cnt k (N, ml) = (upd (upd (upd (upd N (ix k 4) (nI (1 - 1))) (ix k 3) 1) 6 (N 6 + 1)) (qx L.length) (nI k), ml) := by unfold q1N; dsimp only; rw [if_pos m0, if_pos (w4.trans c2), hid, ec]
      rw [eG, eS, eQ]
      dsimp only
      have o : ∀ j, j ≠ k → ∀ i, up2 (up2 S k 4 (nI (1 - 1))) k 3 1 j i = S j i := fun j hj i => (if_neg (fun q => hj q.1)).trans (if_neg (fun q => hj q.1))
      have e : ∀ i, i ≠ 4 → i ≠ 3 → up2 (up2 S k 4 (nI (1 - 1))) k 3 1 k i = S k i := fun i hi hi2 => (if_neg (fun q => hi2 q.2)).trans (if_neg (fun q => hi q.2))
      have e4 : up2 (up2 S k 4 (nI (1 - 1))) k 3 1 k 4 = 0 := (if_neg (by omega)).trans (if_pos ⟨rfl, rfl⟩)
      have e3 : up2 (up2 S k 4 (nI (1 - 1))) k 3 1 k 3 = 1 := if_pos ⟨rfl, rfl⟩
      have hs' := (hs.up (k := k) (j := 4) (by decide) (v := nI (1 - 1))).up (k := k) (j := 3) (by decide) (v := 1)
      have hn' := (hn.up (k := k) (j := 4) (by decide) (by decide) (v := nI (1 - 1))).how2 (k := k) (x := 1) hk (by
        have : up2 S k 4 (nI (1 - 1)) k 3 = 0 := (if_neg (by omega)).trans a0
        rw [this]
        decide)
      generalize up2 (up2 S k 4 (nI (1 - 1))) k 3 1 = S' at o e e4 e3 hs' hn'
      have o7 : ∀ i, S' i 7 = S i 7 := fun i => by by_cases q : i = k; rw [q]; exact e 7 (by decide) (by decide); exact o i q 7
      have hd' : HD cnt F (upd (upd N (ix k 4) (nI (1 - 1))) (ix k 3) 1) := (hd.hi (by unfold ix; omega)).hi (by unfold ix; omega)
      have hl' : LEq G (upd (upd N (ix k 4) (nI (1 - 1))) (ix k 3) 1) := (hl.hi).hi
      have hr' : RQ (upd (upd N (ix k 4) (nI (1 - 1))) (ix k 3) 1) L := (hr.hi (by unfold ix; omega)).hi (by unfold ix; omega)
      generalize upd (upd N (ix k 4) (nI (1 - 1))) (ix k 3) 1 = N' at hs' hn' hd' hl' hr'
      refine ⟨L ++ [k], TV.mk ((hd'.hi (by decide)).hi (by unfold qx; omega)) ((hl'.lo (by decide)).lo (by unfold qx; omega)) ((hs'.lo (by decide)).lo (by unfold qx; omega)) ((hn'.lo (by decide)).lo (by unfold qx; omega)) (⟨by rw [List.length_append, List.length_singleton]; exact rl, ?_, fun i hi => ?_⟩) (⟨fun a => ?_, ?_, fun a ha => ?_⟩) (fun j hj => ?_) (ho.cg (fun _ _ => rfl) h8 (fun i _ => ?_)) (hb) (hw) (h8), 0, by omega, ?_, ?_⟩
      · rw [upd_ne (by unfold qx; omega), upd_same, r6, List.length_append, List.length_singleton, nI_1]
      · rw [List.length_append, List.length_singleton] at hi
        by_cases q : i = L.length
        · subst q
          rw [upd_same, List.getElem_append_right (Nat.le_refl _)]
          simp
        · have hi2 : i < L.length := by omega
          rw [upd_ne (by unfold qx; omega), upd_ne (by unfold qx; omega), List.getElem_append_left hi2]
          exact hr'.2.2 i hi2
      · rw [List.mem_append, List.mem_singleton, hq.1 a]
        by_cases q : a = k
        · subst q
          exact ⟨fun _ => ⟨hk, e3⟩, fun _ => Or.inr rfl⟩
        · rw [o a q 3]
          exact ⟨fun z => z.resolve_right q, fun z => Or.inl z⟩
      · rw [List.pairwise_append]
        refine ⟨?_, List.pairwise_singleton _ _, fun a ha b hb => ?_⟩
        · refine hq.2.1.imp (fun {a b} hab => ?_)
          unfold bef
          rw [o7 a, o7 b]
          exact hab
        · rw [List.mem_singleton] at hb
          subst hb
          unfold bef
          rw [o7 a, o7 b, m1]
          rcases hq.2.2 a ha with ⟨w, w1, w2, w3⟩ | q
          · rw [w3]; exact Or.inl (show nI 0 < nI w from nI_lt (by omega) (by omega))
          · obtain ⟨-, -, -, -, -, ⟨w, w1, w3⟩, -⟩ := hso a ((hq.1 a).mp ha).1
            rw [w3]
            rcases Nat.eq_zero_or_pos w with y | y
            · rw [y]; exact Or.inr ⟨rfl, q⟩
            · exact Or.inl (show nI 0 < nI w from nI_lt y (by omega))
      · rcases List.mem_append.mp ha with q | q
        · rw [o7 a]
          rcases hq.2.2 a q with z | z
          · exact Or.inl z
          · exact Or.inr (by omega)
        · rw [List.mem_singleton] at q
          exact Or.inr (by omega)
      · by_cases q : j = k
        · subst q
          refine ⟨⟨1, by decide, e3⟩, by rw [e 0 (by decide) (by decide)]; exact s0, by rw [e 1 (by decide) (by decide)]; exact s1, by rw [e 2 (by decide) (by decide)]; exact s2, ⟨fun q => ?_, fun _ => e4⟩, by rw [o7]; exact s7, fun q => ?_, ⟨e5, by rw [bk1]; rw [bk] at e5b; omega, by rw [e 5 (by decide) (by decide)]; exact s5⟩, by rw [e 6 (by decide) (by decide)]; exact s6⟩
          · rw [e3] at q; exact absurd q (by decide)
          · rw [o7]; exact m1
        · exact (hso j hj).cg (fun i _ => o j q i) b1_le (Nat.le_refl _)
      · by_cases q : i = k
        · subst q
          rw [e3, a0]
          decide
        · rw [o i q 3]; exact ⟨Iff.rfl, Iff.rfl⟩
      · rw [z0, Int32.add_zero]
      · rw [z0, Int32.add_zero]
        exact meals_eq (fun i _ => by by_cases q : i = k; rw [q]; exact e 5 (by decide) (by decide); exact o i q 5)
  · have m0 : ¬ N (ix k 3) = 0 := fun q => a0 (n3.symm.trans q)
    by_cases a4 : S k 3 = 4
    · have m4 : N (ix k 3) = 4 := n3.trans a4
      obtain ⟨l, l1, l9, el⟩ := s4 (Or.inr a4)
      have q4 : S k 4 - 1 = nI (l - 1) := by rw [el, tick4 l l1 l9]
      have w4 : N (ix k 4) - 1 = nI (l - 1) := by rw [n4, q4]
      have hid : idN k N = upd N (ix k 4) (nI (l - 1)) := by unfold idN; rw [w4]
      by_cases l2 : 0 < l - 1
      · -- it eats on
        have c1 : 0 < nI (l - 1) := show nI 0 < nI (l - 1) from nI_lt l2 (by omega)
        have c2 : ¬ nI (l - 1) = 0 := nI_ne0 l2 (by omega)
        have eG : thG cnt G S k = G := by unfold thG; rw [if_pos a4, if_pos (q4 ▸ c1)]
        have eS : thS S k = up2 S k 4 (nI (l - 1)) := by unfold thS; rw [if_neg a0, if_pos a4, if_pos (q4 ▸ c1), q4]
        have eQ : q1N cnt k (N, ml) = (upd N (ix k 4) (nI (l - 1)), ml) := by unfold q1N; dsimp only; rw [if_neg m0, if_pos m4, if_neg (fun q => c2 (w4.symm.trans q)), hid]
        rw [eG, eS, eQ]
        dsimp only
        have o : ∀ j, j ≠ k → ∀ i, up2 S k 4 (nI (l - 1)) j i = S j i := fun j hj i => if_neg (fun q => hj q.1)
        have e : ∀ i, i ≠ 4 → up2 S k 4 (nI (l - 1)) k i = S k i := fun i hi => if_neg (fun q => hi q.2)
        have e4 : up2 S k 4 (nI (l - 1)) k 4 = nI (l - 1) := if_pos ⟨rfl, rfl⟩
        have hs' := hs.up (k := k) (j := 4) (by decide) (v := nI (l - 1))
        have hn' := hn.up (k := k) (j := 4) (by decide) (by decide) (v := nI (l - 1))
        generalize up2 S k 4 (nI (l - 1)) = S' at o e e4 hs' hn'
        have o3 : ∀ i, S' i 3 = S i 3 := fun i => by by_cases q : i = k; rw [q]; exact e 3 (by decide); exact o i q 3
        have o7 : ∀ i, S' i 7 = S i 7 := fun i => by by_cases q : i = k; rw [q]; exact e 7 (by decide); exact o i q 7
        refine ⟨L, TV.mk (hd.hi (by unfold ix; omega)) (hl.hi) (hs') (hn') (hr.hi (by unfold ix; omega)) (hq.cg (fun a _ => by rw [o3]) (fun a _ => o7 a) (by omega)) (fun j hj => ?_) (ho.cg (fun _ _ => rfl) h8 (fun i _ => by rw [o3]; exact ⟨Iff.rfl, Iff.rfl⟩)) (hb) (hw) (h8), 0, by omega, ?_, ?_⟩
        · by_cases q : j = k
          · subst q
            refine ⟨⟨hh, hh5, by rw [o3]; exact eh⟩, by rw [e 0 (by decide)]; exact s0, by rw [e 1 (by decide)]; exact s1, by rw [e 2 (by decide)]; exact s2, ⟨fun _ => ⟨l - 1, by omega, by omega, e4⟩, fun q => absurd (Or.inr ((o3 j).trans a4)) q⟩, by rw [o7]; exact s7, fun _ => by rw [o7]; exact s7' (Or.inr a4), ⟨e5, by rw [bk1]; rw [bk] at e5b; omega, by rw [e 5 (by decide)]; exact s5⟩, by rw [e 6 (by decide)]; exact s6⟩
          · exact (hso j hj).cg (fun i _ => o j q i) b1_le (Nat.le_refl _)
        · rw [z0, Int32.add_zero]
        · rw [z0, Int32.add_zero]
          exact meals_eq (fun i _ => by by_cases q : i = k; rw [q]; exact e 5 (by decide); exact o i q 5)
      · -- it has eaten
        obtain rfl : l = 1 := by omega
        have c1 : ¬ 0 < nI (1 - 1) := by decide
        have c2 : nI (1 - 1) = 0 := rfl
        have m1 : S k 7 = 0 := s7' (Or.inr a4)
        have eG : thG cnt G S k = upd (upd G (ladN cnt S k 1) (-1)) (ladN cnt S k 0) (-1) := by unfold thG; rw [if_pos a4, if_neg (fun q => c1 (q4 ▸ q))]
        have eS : thS S k = btS (up2 (up2 S k 4 (nI (1 - 1))) k 5 (S k 5 + 1)) k := by unfold thS; rw [if_neg a0, if_pos a4, if_neg (fun q => c1 (q4 ▸ q)), q4]
        have eQ : q1N cnt k (N, ml) = (upd (upd (upd (upd (upd (upd (upd N (ix k 4) (nI (1 - 1))) (lx k) 0) (lx (lfN cnt k)) 0) (ix k 5) (S k 5 + 1)) (ix k 9) 0) (ix k 3) 0) (ix k 4) (S k 1), ml + 1) := by unfold q1N; dsimp only; rw [if_neg m0, if_pos m4, if_pos (w4.trans c2), hid, n5, n1]
        rw [eG, eS, eQ]
        dsimp only
        have hlk := lf_lt hk
        obtain ⟨g1, g2⟩ := ho.2.2.1 k hk a4
        unfold btS
        have u1 : up2 (up2 S k 4 (nI (1 - 1))) k 5 (S k 5 + 1) k 1 = S k 1 := (if_neg (by omega)).trans (if_neg (by omega))
        rw [u1]
        have o : ∀ j, j ≠ k → ∀ i, up2 (up2 (up2 (up2 S k 4 (nI (1 - 1))) k 5 (S k 5 + 1)) k 3 0) k 4 (S k 1) j i = S j i := fun j hj i => (((if_neg (fun q => hj q.1)).trans (if_neg (fun q => hj q.1))).trans (if_neg (fun q => hj q.1))).trans (if_neg (fun q => hj q.1))
        have e : ∀ i, i ≠ 4 → i ≠ 3 → i ≠ 5 → up2 (up2 (up2 (up2 S k 4 (nI (1 - 1))) k 5 (S k 5 + 1)) k 3 0) k 4 (S k 1) k i = S k i := fun i h1 h2 h3 => (((if_neg (fun q => h1 q.2)).trans (if_neg (fun q => h2 q.2))).trans (if_neg (fun q => h3 q.2))).trans (if_neg (fun q => h1 q.2))
        have e4 : up2 (up2 (up2 (up2 S k 4 (nI (1 - 1))) k 5 (S k 5 + 1)) k 3 0) k 4 (S k 1) k 4 = S k 1 := if_pos ⟨rfl, rfl⟩
        have e3 : up2 (up2 (up2 (up2 S k 4 (nI (1 - 1))) k 5 (S k 5 + 1)) k 3 0) k 4 (S k 1) k 3 = 0 := (if_neg (by omega)).trans (if_pos ⟨rfl, rfl⟩)
        have e55 : up2 (up2 (up2 (up2 S k 4 (nI (1 - 1))) k 5 (S k 5 + 1)) k 3 0) k 4 (S k 1) k 5 = S k 5 + 1 := ((if_neg (by omega)).trans (if_neg (by omega))).trans (if_pos ⟨rfl, rfl⟩)
        have hs' := ((((((hs.up (k := k) (j := 4) (by decide) (v := nI (1 - 1))).lo (i := lx k) (by unfold lx; omega) (v := 0)).lo (i := lx (lfN cnt k)) (by unfold lx; omega) (v := 0)).up (k := k) (j := 5) (by decide) (v := S k 5 + 1)).nine (k := k) (v := 0)).up (k := k) (j := 3) (by decide) (v := 0)).up (k := k) (j := 4) (by decide) (v := S k 1)
        have hn' := ((((((hn.up (k := k) (j := 4) (by decide) (by decide) (v := nI (1 - 1))).lo (i := lx k) (by unfold lx; omega) (v := 0)).lo (i := lx (lfN cnt k)) (by unfold lx; omega) (v := 0)).up (k := k) (j := 5) (by decide) (by decide) (v := S k 5 + 1)).how (k := k) (x := 0) (v := 0) (by decide))).up (k := k) (j := 4) (by decide) (by decide) (v := S k 1)
        have hl0 : LEq (upd (upd G k (-1)) (lfN cnt k) (-1)) (upd (upd (upd N (ix k 4) (nI (1 - 1))) (lx k) 0) (lx (lfN cnt k)) 0) := (((hl.hi (k := k) (j := 4) (v := nI (1 - 1))).la (k := k) (v := -1)).la (k := lfN cnt k) (v := -1))
        have hl' := (((hl0.hi (k := k) (j := 5) (v := S k 5 + 1)).hi (k := k) (j := 9) (v := 0)).hi (k := k) (j := 3) (v := 0)).hi (k := k) (j := 4) (v := S k 1)
        have hd' : HD cnt F (upd (upd (upd (upd (upd (upd (upd N (ix k 4) (nI (1 - 1))) (lx k) 0) (lx (lfN cnt k)) 0) (ix k 5) (S k 5 + 1)) (ix k 9) 0) (ix k 3) 0) (ix k 4) (S k 1)) := ((((((hd.hi (by unfold ix; omega)).hi (by unfold lx; omega)).hi (by unfold lx; omega)).hi (by unfold ix; omega)).hi (by unfold ix; omega)).hi (by unfold ix; omega)).hi (by unfold ix; omega)
        have hr' : RQ (upd (upd (upd (upd (upd (upd (upd N (ix k 4) (nI (1 - 1))) (lx k) 0) (lx (lfN cnt k)) 0) (ix k 5) (S k 5 + 1)) (ix k 9) 0) (ix k 3) 0) (ix k 4) (S k 1)) L := ((((((hr.hi (by unfold ix; omega)).hi (by unfold lx; omega)).hi (by unfold lx; omega)).hi (by unfold ix; omega)).hi (by unfold ix; omega)).hi (by unfold ix; omega)).hi (by unfold ix; omega)
        generalize up2 (up2 (up2 (up2 S k 4 (nI (1 - 1))) k 5 (S k 5 + 1)) k 3 0) k 4 (S k 1) = S' at o e e4 e3 e55 hs' hn'
        generalize upd (upd (upd (upd (upd (upd (upd N (ix k 4) (nI (1 - 1))) (lx k) 0) (lx (lfN cnt k)) 0) (ix k 5) (S k 5 + 1)) (ix k 9) 0) (ix k 3) 0) (ix k 4) (S k 1) = N' at hs' hn' hl' hd' hr'
        have o7 : ∀ i, S' i 7 = S i 7 := fun i => by by_cases q : i = k; rw [q]; exact e 7 (by decide) (by decide) (by decide); exact o i q 7
        -- the ladles: both ways round
        have gEq : ∀ j, j < 8 → upd (upd G (ladN cnt S k 1) (-1)) (ladN cnt S k 0) (-1) j = upd (upd G k (-1)) (lfN cnt k) (-1) j := by
          intro j hj
          rw [lad_1 s0, lad_0 s0]
          unfold upd
          by_cases q : S k 0 = 1
          · rw [if_pos q, if_pos q]
          · rw [if_neg q, if_neg q]
            by_cases y1 : j = k <;> by_cases y2 : j = lfN cnt k <;> simp [y1, y2]
        have gHo : ∀ j, j < 8 → upd (upd G (ladN cnt S k 1) (-1)) (ladN cnt S k 0) (-1) j = if G j = nI k then -1 else G j := by
          intro j hj
          rw [gEq j hj]
          unfold upd
          by_cases y2 : j = lfN cnt k
          · rw [if_pos y2, y2, if_pos g2]
          · rw [if_neg y2]
            by_cases y1 : j = k
            · rw [if_pos y1, y1, if_pos g1]
            · rw [if_neg y1]
              by_cases y3 : G j = nI k
              · exfalso
                rcases Nat.lt_or_ge j cnt with jc | jc
                · rcases ho.1 j jc with z | ⟨i, hi, za, zb, zc⟩
                  · rw [z] at y3; exact sM hk h8 y3.symm
                  · rw [za] at y3
                    have := (nI_eq (by omega) (by omega)).mp y3
                    subst this
                    rcases zb with zb | zb
                    · exact y1 zb
                    · exact y2 zb
                · rw [ho.2.1 j jc hj] at y3; exact sM hk h8 y3.symm
              · rw [if_neg y3]
        refine ⟨L, TV.mk (hd') (fun j hj => by rw [gEq j hj]; exact hl' j hj) (hs') (hn') (hr') (hq.cg (fun a _ => ?_) (fun a _ => o7 a) (by omega)) (fun j hj => ?_) (ho.put h8 hk gHo (fun i _ hi => o i hi 3) (by rw [e3]; decide)) (hb) (hw) (h8), 1, Nat.le_refl 1, rfl, ?_⟩
        · by_cases q : a = k
          · rw [q, e3, a4]; decide
          · rw [o a q 3]
        · by_cases q : j = k
          · subst q
            obtain ⟨t, t1, t9, et⟩ := s1
            refine ⟨⟨0, by decide, e3⟩, by rw [e 0 (by decide) (by decide) (by decide)]; exact s0, ⟨t, t1, t9, by rw [e 1 (by decide) (by decide) (by decide)]; exact et⟩, by rw [e 2 (by decide) (by decide) (by decide)]; exact s2, ⟨fun _ => ⟨t, t1, t9, by rw [e4]; exact et⟩, fun q => absurd (Or.inl e3) q⟩, by rw [o7]; exact s7, fun _ => by rw [o7]; exact m1, ⟨e5 + 1, by rw [bk1]; rw [bk] at e5b; omega, by rw [e55, s5, nI_1]⟩, by rw [e 6 (by decide) (by decide) (by decide)]; exact s6⟩
          · exact (hso j hj).cg (fun i _ => o j q i) b1_le (Nat.le_refl _)
        · exact meals_up (fun i hi => o i hi 5) e55 hk
    · -- it waits, or asks
      have eG : thG cnt G S k = G := by unfold thG; rw [if_neg a4]
      have eS : thS S k = S := by unfold thS; rw [if_neg a0, if_neg a4]
      have eQ : q1N cnt k (N, ml) = (N, ml) := by unfold q1N; dsimp only; rw [if_neg m0, if_neg (fun q => a4 (n3.symm.trans q))]
      rw [eG, eS, eQ]
      dsimp only
      refine ⟨L, TV.mk (hd) (hl) (hs) (hn) (hr) (hq.cg (fun _ _ => Iff.rfl) (fun _ _ => rfl) (by omega)) (fun j hj => (hso j hj).cg (fun _ _ => rfl) b1_le (Nat.le_refl _)) (ho) (hb) (hw) (h8), 0, by omega, ?_, ?_⟩
      · rw [z0, Int32.add_zero]
      · rw [z0, Int32.add_zero]
