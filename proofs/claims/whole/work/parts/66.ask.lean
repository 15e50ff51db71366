/-! ===== who asks, in which order ===== -/
theorem nI_sub {a b : Nat} (h : b ≤ a) : nI a - nI b = nI (a - b) := by
  have e : nI a = nI (a - b) + nI b := by rw [nI_add, Nat.sub_add_cancel h]
  rw [e, Int32.add_sub_cancel]
theorem sub_toInt {a b : Nat} (ha : a < 2 ^ 30) (hb : b < 2 ^ 30) : (nI a - nI b).toInt = (a : Int) - (b : Int) := by
  rw [Int32.toInt_sub, nI_toInt (by omega), nI_toInt (by omega), Int.bmod_eq_of_le (by omega) (by omega)]
theorem sub_pos {a b : Nat} (ha : a < 2 ^ 30) (hb : b < 2 ^ 30) : 0 < nI a - nI b ↔ b < a := by
  rw [Int32.lt_iff_toInt_lt, sub_toInt ha hb]
  have : (0 : Int32).toInt = 0 := rfl
  rw [this]
  omega
theorem sub_zero_iff {a b : Nat} (ha : a < 2 ^ 30) (hb : b < 2 ^ 30) : nI a - nI b = 0 ↔ a = b := by
  rw [← Int32.toInt_inj, sub_toInt ha hb]
  have : (0 : Int32).toInt = 0 := rfl
  rw [this]
  omega
def befB (S : Nat → Nat → Int32) (a b : Nat) : Bool := decide (S b 7 < S a 7) || (decide (S a 7 = S b 7) && decide (a < b))
theorem befB_iff {S : Nat → Nat → Int32} {a b : Nat} : befB S a b = true ↔ bef S a b := by
  unfold befB bef
  simp only [Bool.or_eq_true, Bool.and_eq_true, decide_eq_true_eq]
theorem bef_asymm {S : Nat → Nat → Int32} {a b : Nat} (h : bef S a b) : ¬ bef S b a := by
  rintro (q | q)
  · rcases h with h | h
    · exact Int32.lt_irrefl (Int32.lt_trans h q)
    · rw [h.1] at q; exact Int32.lt_irrefl q
  · rcases h with h | h
    · rw [q.1] at h; exact Int32.lt_irrefl h
    · omega
theorem bef_irr {S : Nat → Nat → Int32} {a : Nat} : ¬ bef S a a := by
  rintro (q | q)
  · exact Int32.lt_irrefl q
  · exact Nat.lt_irrefl _ q.2
theorem cnt_pos {S : Nat → Nat → Int32} {L : List Nat} (hP : L.Pairwise (bef S)) {p : Nat} (hp : p < L.length) : L.countP (fun j => befB S j L[p]) = p := by
  have e : L = L.take p ++ L[p] :: L.drop (p + 1) := by rw [← List.drop_eq_getElem_cons hp, List.take_append_drop]
  generalize hi : L[p] = i at e
  have hP2 := hP
  rw [e] at hP2
  obtain ⟨h1, h2, h3⟩ := List.pairwise_append.mp hP2
  obtain ⟨h4, h5⟩ := List.pairwise_cons.mp h2
  have e2 := congrArg (List.countP (fun j => befB S j i)) e
  rw [e2, List.countP_append, List.countP_cons]
  have c1 : (L.take p).countP (fun j => befB S j i) = p := by
    rw [List.countP_eq_length.mpr (fun a ha => befB_iff.mpr (h3 a ha i List.mem_cons_self)), List.length_take]
    omega
  have c2 : (L.drop (p + 1)).countP (fun j => befB S j i) = 0 := List.countP_eq_zero.mpr (fun a ha q => bef_asymm (h4 a ha) (befB_iff.mp q))
  have c3 : ¬ befB S i i = true := fun q => bef_irr (befB_iff.mp q)
  rw [c1, c2, if_neg c3]
  omega
theorem befF_cN {cnt i : Nat} {S : Nat → Nat → Int32} (hb : ∀ j, j < cnt → ∃ w, w < 2 ^ 30 ∧ S j 7 = nI w) (hi : i < cnt) (h8 : cnt ≤ 8) : itr (befF S i) cnt 0 = nI (cN (fun j => decide (S j 3 = 1) && befB S j i) cnt) := by
  rw [← itr_cN]
  refine itr_congr (fun k a hk => ?_) 0
  unfold befF befB
  obtain ⟨w1, h1, e1⟩ := hb k hk
  obtain ⟨w2, h2, e2⟩ := hb i hi
  rw [e1, e2]
  have q1 := sub_pos h1 h2
  have q2 := sub_zero_iff h1 h2
  have q3 : nI w2 < nI w1 ↔ w2 < w1 := nI_ltI (by omega) (by omega)
  have q4 : nI w1 = nI w2 ↔ w1 = w2 := nI_eq (by omega) (by omega)
  have q5 : nI k < nI i ↔ k < i := nI_ltI (by omega) (by omega)
  by_cases a1 : S k 3 = 1
  · by_cases a2 : w2 < w1
    · simp [a1, q1, q3, a2]
    · by_cases a3 : w1 = w2
      · by_cases a4 : k < i
        · simp [a1, q1, q2, q3, q4, q5, a2, a3, a4]
        · simp [a1, q1, q2, q3, q4, q5, a2, a3, a4]
      · simp [a1, q1, q2, q3, q4, a2, a3]
  · simp [a1]
theorem bef_pos {cnt k : Nat} {S : Nat → Nat → Int32} {L : List Nat} (hQ : QL cnt k S L) (hb : ∀ j, j < cnt → ∃ w, w < 2 ^ 30 ∧ S j 7 = nI w) (h8 : cnt ≤ 8) {p : Nat} (hp : p < L.length) : itr (befF S L[p]) cnt 0 = nI p := by
  have hm : L[p] ∈ L := List.getElem_mem hp
  obtain ⟨hlt, -⟩ := (hQ.1 _).mp hm
  rw [befF_cN hb hlt h8]
  have e : cN (fun j => decide (S j 3 = 1) && befB S j L[p]) cnt = cN (fun j => decide (j ∈ L) && befB S j L[p]) cnt := cN_congr (fun j hj => by
    have : decide (S j 3 = 1) = decide (j ∈ L) := decide_eq_decide.mpr ⟨fun q => (hQ.1 j).mpr ⟨hj, q⟩, fun q => ((hQ.1 j).mp q).2⟩
    rw [this])
  rw [e, cN_list L (bef_nd hQ.2.1) (fun a ha => ((hQ.1 a).mp ha).1), cnt_pos hQ.2.1 hp]
theorem QL_len {cnt k : Nat} {S : Nat → Nat → Int32} {L : List Nat} (hQ : QL cnt k S L) : L.length ≤ cnt := nd_len (bef_nd hQ.2.1) (fun a ha => ((hQ.1 a).mp ha).1)
/-- the class's search for the one that asks at a place, against the queue -/
theorem ask_at {cnt k : Nat} {S : Nat → Nat → Int32} {L : List Nat} (hQ : QL cnt k S L) (hb : ∀ j, j < cnt → ∃ w, w < 2 ^ 30 ∧ S j 7 = nI w) (h8 : cnt ≤ 8) {p : Nat} (hp : p < 2 ^ 31) : ff (askP cnt S (nI p)) cnt 0 = L[p]? := by
  have hl := QL_len hQ
  have pos : ∀ i, S i 3 = 1 → i < cnt → ∃ p', ∃ h : p' < L.length, L[p'] = i ∧ itr (befF S i) cnt 0 = nI p' := by
    intro i h1 h2
    obtain ⟨p', h3, h4⟩ := List.getElem_of_mem ((hQ.1 i).mpr ⟨h2, h1⟩)
    exact ⟨p', h3, h4, by rw [← h4]; exact bef_pos hQ hb h8 h3⟩
  rcases Nat.lt_or_ge p L.length with h | h
  · rw [List.getElem?_eq_getElem h]
    have hm : L[p] ∈ L := List.getElem_mem h
    obtain ⟨hlt, h3⟩ := (hQ.1 _).mp hm
    refine ff_hit (Nat.zero_le _) (by omega) ?_ (fun i _ hi => ?_)
    · unfold askP
      exact decide_eq_true ⟨h3, bef_pos hQ hb h8 h⟩
    · unfold askP
      refine decide_eq_false (fun q => ?_)
      obtain ⟨p', h5, h6, h7⟩ := pos i q.1 (by omega)
      rw [h7] at q
      have := (nI_eq (by omega) hp).mp q.2
      subst this
      rw [h6] at hi
      exact Nat.lt_irrefl _ hi
  · rw [List.getElem?_eq_none h]
    refine ff_miss (fun i _ hi => ?_)
    unfold askP
    refine decide_eq_false (fun q => ?_)
    obtain ⟨p', h5, h6, h7⟩ := pos i q.1 (by omega)
    rw [h7] at q
    have := (nI_eq (by omega) hp).mp q.2
    omega
/-- leave: the class's count of bits, the reference's sum -/
theorem leave_cN {cnt : Nat} {S : Nat → Nat → Int32} {N : Nat → Int32} (h : NI cnt S N) (h8 : cnt ≤ 8) : bcI (itr (setWithLeaveF S) cnt 0) = itr (wlM N) cnt 0 ∧ itr (setWithLeaveF S) cnt 0 = setI (fun k => !decide (S k 3 < 2)) cnt := by
  have e : itr (setWithLeaveF S) cnt 0 = setI (fun k => !decide (S k 3 < 2)) cnt := by
    unfold setI
    refine itr_congr (fun k a hk => ?_) 0
    unfold setWithLeaveF
    by_cases q : S k 3 < 2 <;> simp [q]
  refine ⟨?_, e⟩
  rw [e, setI_bc h8, ← itr_cN]
  refine itr_congr (fun k a hk => ?_) 0
  unfold wlM
  rw [h k hk]
  by_cases q : S k 3 < 2 <;> simp [q]
theorem more_lets {cnt : Nat} {s : Tb} {N : Nat → Int32} (h : RC cnt s N) (h8 : cnt ≤ 8) : moreF cnt s.1 s.2.2 = letM cnt N := by
  obtain ⟨⟨-, -, -, -, h3, -, -⟩, -, -, h9⟩ := h
  unfold moreF letM
  rw [h3, (leave_cN h9 h8).1]
