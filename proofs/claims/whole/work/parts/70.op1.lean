/-! ===== each change on both sides ===== -/
/-- the class's table and the reference's array are one state, with waits and meals to B -/
def Rl (B : Nat) (s : Tb) (N : Nat → Int32) : Prop := ∃ cnt L, TV cnt 0 (fun _ => B) (fun _ => B) s N L
def opR (B : Nat) : (Int32 × Int32) ⊕ (Int32 × Tb) → (Int32 × Int32) ⊕ (Int32 × (Nat → Int32)) → Prop
  | .inl a, .inl b => a = b
  | .inr (v, s), .inr (w, N) => v = w ∧ v ≠ -1 ∧ Rl B s N
  | _, _ => False
theorem mn_in {m : Int32} : mnF m = inF m 0 1 := by
  unfold mnF inF
  by_cases a : m = 0
  · subst a; decide
  by_cases b : m = 1
  · subst b; decide
  rw [if_neg a, if_neg b]
  by_cases c : m < 0
  · rw [if_pos c]
  · rw [if_neg c]
    obtain ⟨j, hj, rfl⟩ := nI_of c
    have h0 : j ≠ 0 := fun q => a (by rw [q]; rfl)
    have h1 : j ≠ 1 := fun q => b (by rw [q]; rfl)
    rw [if_pos (show (1 : Int32) < nI j from (nI_lt (by omega) hj : nI 1 < nI j))]
theorem mn_01 {m : Int32} (h : ¬ inF m 0 1 = 0) : m = 0 ∨ m = 1 := by
  rw [← mn_in] at h
  unfold mnF at h
  by_cases a : m = 0
  · exact Or.inl a
  by_cases b : m = 1
  · exact Or.inr b
  rw [if_neg a, if_neg b] at h
  exact absurd rfl h
theorem ck_in {m : Int32} : ckF m = inF m 1 9 := rfl
theorem inF_nat {y : Int32} {a b : Nat} (ha : a < 2 ^ 31) (hb : b < 2 ^ 31) (h : ¬ inF y (nI a) (nI b) = 0) : ∃ j, a ≤ j ∧ j ≤ b ∧ y = nI j := by
  unfold inF at h
  by_cases c : y < nI a
  · rw [if_pos c] at h; exact absurd rfl h
  rw [if_neg c] at h
  by_cases d : nI b < y
  · rw [if_pos d] at h; exact absurd rfl h
  have y0 : ¬ y < 0 := fun q => c (Int32.lt_of_lt_of_le q (nI_pos' ha))
  obtain ⟨j, hj, rfl⟩ := nI_of y0
  exact ⟨j, Nat.le_of_not_lt (fun q => c (nI_lt q ha)), Nat.le_of_not_lt (fun q => d (nI_lt q hj)), rfl⟩
theorem cN_0 {p : Nat → Bool} : ∀ {n : Nat}, cN p n = 0 → ∀ j, j < n → p j = false := by
  intro n
  induction n with
  | zero => intro _ j h; omega
  | succ n ih =>
    intro h j hj
    rw [cN_s] at h
    by_cases q : j = n
    · subst q
      cases hp : p j with
      | false => rfl
      | true => rw [hp] at h; simp at h
    · exact ih (by omega) j (by omega)
theorem held_eq {cnt : Nat} {G N : Nat → Int32} {S : Nat → Nat → Int32} (hl : LEq G N) (ho : HO cnt G S) (h8 : cnt ≤ 8) : itr (heldF G) cnt 0 = nI (cN (fun k => !decide (G k = -1)) cnt) ∧ itr (hdM N) 8 0 = itr (heldF G) cnt 0 := by
  have e1 : itr (heldF G) cnt 0 = nI (cN (fun k => !decide (G k = -1)) cnt) := by
    rw [← itr_cN]
    refine itr_congr (fun k a _ => ?_) 0
    unfold heldF
    by_cases q : G k = -1 <;> simp [q]
  refine ⟨e1, ?_⟩
  have e2 : itr (hdM N) 8 0 = nI (cN (fun k => decide (k < cnt) && !decide (G k = -1)) 8) := by
    rw [← itr_cN]
    refine itr_congr (fun k a hk => ?_) 0
    unfold hdM
    rw [hl k hk]
    rcases Nat.lt_or_ge k cnt with hc | hc
    · rcases ho.1 k hc with q | ⟨i, hi, q, -⟩
      · rw [q]
        have : ¬ (0 : Int32) < -1 + 1 := by decide
        simp [this]
      · rw [q, nI_1]
        have : (0 : Int32) < nI (i + 1) := show nI 0 < nI (i + 1) from nI_lt (by omega) (by omega)
        have m := sM hi h8
        simp [this, hc, m]
    · rw [ho.2.1 k hc hk]
      have : ¬ (0 : Int32) < -1 + 1 := by decide
      simp [this]
  rw [e1, e2]
  have h2 := cN_cut (p := fun k => !decide (G k = -1)) (n := cnt) (8 - cnt)
  rw [Nat.add_sub_cancel' h8] at h2
  rw [h2]
/-- no ladle is held -/
theorem none_held {cnt : Nat} {G : Nat → Int32} {S : Nat → Nat → Int32} (ho : HO cnt G S) (h8 : cnt ≤ 8) (h : ¬ 0 < nI (cN (fun k => !decide (G k = -1)) cnt)) : (∀ j, j < 8 → G j = -1) ∧ ∀ i, i < cnt → ¬ (S i 3 = 3) ∧ ¬ (S i 3 = 4) := by
  have hc := cN_le (p := fun k => !decide (G k = -1)) cnt
  have h0 : cN (fun k => !decide (G k = -1)) cnt = 0 := by
    rcases Nat.eq_zero_or_pos (cN (fun k => !decide (G k = -1)) cnt) with q | q
    · exact q
    · exact absurd (show nI 0 < nI _ from nI_lt q (by omega)) h
  have hG : ∀ j, j < 8 → G j = -1 := fun j hj => by
    rcases Nat.lt_or_ge j cnt with q | q
    · have := cN_0 h0 j q
      simpa using this
    · exact ho.2.1 j q hj
  refine ⟨hG, fun i hi => ⟨fun q => ?_, fun q => ?_⟩⟩
  · have hx := ho.2.2.2 i hi q
    have hl := lf_lt hi
    rw [hG i (by omega), hG _ (by omega)] at hx
    have : ¬ (-1 : Int32) = nI i := fun z => sM hi h8 z.symm
    exact this (hx.mpr this)
  · have hx := (ho.2.2.1 i hi q).1
    rw [hG i (by omega)] at hx
    exact sM hi h8 hx.symm
theorem zer_itr {c : Nat} {M : Nat → Int32} : ∀ n, n ≤ 10 → (∀ j, j < n → itr (fun k N => upd N (ix c k) 0) n M (ix c j) = 0) ∧ ∀ i, (∀ j, j < n → i ≠ ix c j) → itr (fun k N => upd N (ix c k) 0) n M i = M i := by
  intro n
  induction n with
  | zero => intro _; exact ⟨fun j h => absurd h (Nat.not_lt_zero j), fun i _ => rfl⟩
  | succ n ih =>
    intro hn
    obtain ⟨h1, h2⟩ := ih (by omega)
    refine ⟨fun j hj => ?_, fun i hi => ?_⟩
    · rw [itr_s]
      unfold upd
      by_cases q : ix c j = ix c n
      · rw [if_pos q]
      · rw [if_neg q]
        exact h1 j (by
          rcases Nat.lt_or_ge j n with z | z
          · exact z
          · exact absurd (by rw [show j = n by omega]) q)
    · rw [itr_s]
      have q : i ≠ ix c n := hi n (by omega)
      have e : upd (itr (fun k N => upd N (ix c k) 0) n M) (ix c n) 0 i = itr (fun k N => upd N (ix c k) 0) n M i := upd_ne q
      rw [e]
      exact h2 i (fun j hj => hi j (by omega))
theorem op_join {B : Nat} {s : Tb} {N : Nat → Int32} {cnt : Nat} {L : List Nat} {m a b : Int32} (h : TV cnt 0 (fun _ => B) (fun _ => B) s N L) : opR B (addF cnt m a b s) (joinM cnt m a b N) := by
  obtain ⟨F, G, S⟩ := s
  obtain ⟨⟨hH, hl, hs, hn⟩, hr, hq, hso, ho, hb, hw, h8⟩ := h
  dsimp only at hH hl hs hn hr hq hso ho hb hw
  obtain ⟨x0, x1, x2, x3, x4, x5, x6⟩ := hH
  obtain ⟨he1, he2⟩ := held_eq hl ho h8
  unfold addF joinM
  dsimp only
  rw [mn_in, ck_in, ck_in, he2]
  by_cases c1 : inF m 0 1 = 0
  · rw [if_pos c1, if_pos c1]; exact rfl
  rw [if_neg c1, if_neg c1]
  by_cases c2 : inF a 1 9 = 0
  · rw [if_pos c2, if_pos c2]; exact rfl
  rw [if_neg c2, if_neg c2]
  by_cases c3 : inF b 1 9 = 0
  · rw [if_pos c3, if_pos c3]; exact rfl
  rw [if_neg c3, if_neg c3]
  by_cases c4 : cnt = 8
  · have d1 : N 0 = 8 := by rw [x1, c4]; rfl
    have d2 : ¬ F 2 < 8 := by rw [x0, c4]; decide
    rw [if_neg d2, if_pos d1]; exact rfl
  have hc : cnt < 8 := by omega
  have d1 : ¬ N 0 = 8 := by rw [x1]; exact fun q => c4 ((nI_eq (by omega) (by decide)).mp (show nI cnt = nI 8 from q))
  have d2 : F 2 < 8 := by rw [x0]; exact show nI cnt < nI 8 from nI_lt hc (by decide)
  rw [if_pos d2, if_neg d1]
  by_cases c5 : 0 < itr (heldF G) cnt 0
  · rw [if_pos c5, if_pos c5]; exact rfl
  rw [if_neg c5, if_neg c5]
  rw [he1] at c5
  obtain ⟨hG, hno⟩ := none_held ho h8 c5
  obtain ⟨ja, ja1, ja9, rfl⟩ := inF_nat (a := 1) (b := 9) (by decide) (by decide) c2
  obtain ⟨jb, jb1, jb9, rfl⟩ := inF_nat (a := 1) (b := 9) (by decide) (by decide) c3
  have m01 := mn_01 c1
  have hv : F 2 + 1 - 1 = nI cnt := by rw [x0, Int32.add_sub_cancel]
  refine ⟨hv, by rw [hv]; exact fun q => (nI_m1 (by omega)).mp q, cnt + 1, L, ?_⟩
  -- the class's seat
  have o : ∀ k, k ≠ cnt → ∀ i, bgS S cnt m (nI ja) (nI jb) k i = S k i := fun k hk i => by
    unfold bgS btS up2
    have : ∀ j, ¬ (k = cnt ∧ i = j) := fun j q => hk q.1
    simp only [this, if_false]
  have e : ∀ i, i < 9 → bgS S cnt m (nI ja) (nI jb) cnt i = (if i = 0 then m else if i = 1 then nI ja else if i = 2 then nI jb else if i = 4 then nI ja else 0) := fun i hi => by
    unfold bgS btS up2
    rcases (show i = 0 ∨ i = 1 ∨ i = 2 ∨ i = 3 ∨ i = 4 ∨ i = 5 ∨ i = 6 ∨ i = 7 ∨ i = 8 by omega) with rfl | rfl | rfl | rfl | rfl | rfl | rfl | rfl | rfl <;> simp
  have e3 : bgS S cnt m (nI ja) (nI jb) cnt 3 = 0 := e 3 (by decide)
  generalize bgS S cnt m (nI ja) (nI jb) = S' at o e e3
  -- the reference's
  obtain ⟨z1, z2⟩ := zer_itr (c := cnt) (M := upd N 0 (nI (cnt + 1))) 10 (Nat.le_refl 10)
  have f : ∀ i, (∀ j, j < 10 → i ≠ ix cnt j) → jnN cnt m (nI ja) (nI jb) N i = upd N 0 (nI (cnt + 1)) i := fun i hi => by
    unfold jnN
    rw [upd_ne (hi 4 (by decide)), upd_ne (hi 2 (by decide)), upd_ne (hi 1 (by decide)), upd_ne (hi 0 (by decide))]
    exact z2 i hi
  have g : ∀ j, j < 10 → jnN cnt m (nI ja) (nI jb) N (ix cnt j) = (if j = 0 then m else if j = 1 then nI ja else if j = 2 then nI jb else if j = 4 then nI ja else 0) := fun j hj => by
    unfold jnN
    rw [upd_ix (by decide) hj, upd_ix (by decide) hj, upd_ix (by decide) hj, upd_ix (by decide) hj, z1 j hj]
    rcases (show j = 0 ∨ j = 1 ∨ j = 2 ∨ j = 3 ∨ j = 4 ∨ j = 5 ∨ j = 6 ∨ j = 7 ∨ j = 8 ∨ j = 9 by omega) with rfl | rfl | rfl | rfl | rfl | rfl | rfl | rfl | rfl | rfl <;> simp
  have g9 : jnN cnt m (nI ja) (nI jb) N (ix cnt 9) = 0 := g 9 (by decide)
  generalize jnN cnt m (nI ja) (nI jb) N = N' at f g g9
  have f0 : ∀ i, i < 23 → i ≠ 0 → N' i = N i := fun i h1 h2 => (f i (fun j hj => by unfold ix; omega)).trans (upd_ne h2)
  have fk : ∀ k j, k ≠ cnt → j < 10 → N' (ix k j) = N (ix k j) := fun k j hk hj => (f (ix k j) (fun j2 hj2 q => hk ((ix_inj hj hj2).mp q).1)).trans (upd_ne (by unfold ix; omega))
  have u2 : ∀ i, i ≠ 2 → upd F 2 (F 2 + 1) i = F i := fun i hi => upd_ne hi
  refine TV.mk ⟨by rw [upd_same, x0, nI_1], ?_, by rw [f0 1 (by decide) (by decide), u2 5 (by decide)]; exact x2, by rw [f0 2 (by decide) (by decide), u2 4 (by decide)]; exact x3, by rw [f0 3 (by decide) (by decide), u2 3 (by decide)]; exact x4, by rw [f0 4 (by decide) (by decide), u2 6 (by decide)]; exact x5, by rw [f0 5 (by decide) (by decide), u2 7 (by decide)]; exact x6⟩ (fun j hj => ?_) (fun k hk j hj => ?_) (fun k hk => ?_) ⟨hr.1, ?_, fun i hi => ?_⟩ ⟨fun c => ?_, ?_, fun c hc => ?_⟩ (fun k hk => ?_) ⟨fun j hj => Or.inl (hG j (by omega)), fun j _ hj => hG j hj, fun i hi q => ?_, fun i hi q => ?_⟩ ?_ ?_ (by omega)
  · rw [f 0 (fun j hj => by unfold ix; omega)]; exact upd_same
  · rw [f0 (lx j) (by unfold lx; omega) (by unfold lx; omega)]; exact hl j hj
  · by_cases q : k = cnt
    · subst q; rw [g j (by omega), e j hj]
    · rw [fk k j q (by omega), o k q j]; exact hs k (by omega) j hj
  · by_cases q : k = cnt
    · subst q; rw [g9, e3]; decide
    · rw [fk k 9 q (by decide), o k q 3]; exact hn k (by omega)
  · rw [f0 6 (by decide) (by decide)]; exact hr.2.1
  · have := hr.1
    rw [f0 (qx i) (by unfold qx; omega) (by unfold qx; omega)]; exact hr.2.2 i hi
  · rw [hq.1 c]
    by_cases q : c = cnt
    · subst q
      rw [e3]
      exact ⟨fun z => absurd z.1 (Nat.lt_irrefl _), fun z => absurd z.2 (by decide)⟩
    · rw [o c q 3]
      exact ⟨fun z => ⟨by omega, z.2⟩, fun z => ⟨by omega, z.2⟩⟩
  · refine List.Pairwise.imp_of_mem (fun {c d} hc hd hcd => ?_) hq.2.1
    have c1 := ((hq.1 c).mp hc).1
    have d1 := ((hq.1 d).mp hd).1
    unfold bef
    rw [o c (by omega) 7, o d (by omega) 7]
    exact hcd
  · have c1 := ((hq.1 c).mp hc).1
    rw [o c (by omega) 7]
    exact hq.2.2 c hc
  · by_cases q : k = cnt
    · subst q
      unfold SO
      rw [e 0 (by decide), e 1 (by decide), e 2 (by decide), e 3 (by decide), e 4 (by decide), e 5 (by decide), e 6 (by decide), e 7 (by decide)]
      exact ⟨⟨0, by decide, rfl⟩, m01, ⟨ja, ja1, ja9, rfl⟩, ⟨jb, jb1, jb9, rfl⟩, ⟨fun _ => ⟨ja, ja1, ja9, rfl⟩, fun q => absurd (Or.inl rfl) q⟩, ⟨0, Nat.zero_le _, rfl⟩, fun _ => rfl, ⟨0, Nat.zero_le _, rfl⟩, 0, Nat.zero_le _, rfl⟩
    · exact (hso k (by omega)).cg (fun i _ => o k q i) (Nat.le_refl _) (Nat.le_refl _)
  · exfalso
    by_cases z : i = cnt
    · subst z; rw [e3] at q; exact absurd q (by decide)
    · rw [o i z 3] at q; exact (hno i (by omega)).2 q
  · exfalso
    by_cases z : i = cnt
    · subst z; rw [e3] at q; exact absurd q (by decide)
    · rw [o i z 3] at q; exact (hno i (by omega)).1 q
  · obtain ⟨bo, b1, b2⟩ := hb
    exact ⟨bo, b1, (u2 4 (by decide)).trans b2⟩
  · obtain ⟨w, w1, w2⟩ := hw
    exact ⟨w, w1, (u2 3 (by decide)).trans w2⟩
theorem op_leave {B : Nat} {s : Tb} {N : Nat → Int32} {cnt : Nat} {L : List Nat} (h : TV cnt 0 (fun _ => B) (fun _ => B) s N L) : opR B (remF cnt s) (leavM cnt L.length N) := by
  obtain ⟨F, G, S⟩ := s
  obtain ⟨⟨hH, hl, hs, hn⟩, hr, hq, hso, ho, hb, hw, h8⟩ := h
  dsimp only at hH hl hs hn hr hq hso ho hb hw
  obtain ⟨x0, x1, x2, x3, x4, x5, x6⟩ := hH
  obtain ⟨he1, he2⟩ := held_eq hl ho h8
  unfold remF leavM
  dsimp only
  rw [he2]
  by_cases c1 : cnt = 0
  · have d1 : F 2 = 0 := by rw [x0, c1]; rfl
    rw [if_pos c1, if_pos d1]; exact rfl
  have d1 : ¬ F 2 = 0 := by rw [x0]; exact fun q => nI_ne0 (by omega) (by omega) q
  rw [if_neg c1, if_neg d1]
  by_cases c5 : 0 < itr (heldF G) cnt 0
  · rw [if_pos c5, if_pos c5]; exact rfl
  rw [if_neg c5, if_neg c5]
  rw [he1] at c5
  obtain ⟨hG, hno⟩ := none_held ho h8 c5
  have hv : F 2 - 1 = nI (cnt - 1) := by rw [x0, nI_p (by omega)]
  -- the queue without the last seat
  have key : ∃ L', RQ (dqN L.length (nI (cnt - 1)) N) L' ∧ L'.Sublist L ∧ ∀ c, c ∈ L' ↔ (c ∈ L ∧ c ≠ cnt - 1) := by
    have hnd := bef_nd hq.2.1
    unfold dqN
    cases hf : ff (fun k => decide (N (qx k) = nI (cnt - 1))) L.length 0 with
    | none =>
      refine ⟨L, hr, List.Sublist.refl L, fun c => ⟨fun hc => ⟨hc, fun z => ?_⟩, fun z => z.1⟩⟩
      obtain ⟨i, hi, hci⟩ := List.getElem_of_mem hc
      have h9 := hr.2.2 i hi
      have : ∀ {d k : Nat}, ff (fun k => decide (N (qx k) = nI (cnt - 1))) d k = none → ∀ i, k ≤ i → i < k + d → ¬ N (qx i) = nI (cnt - 1) := by
        intro d
        induction d with
        | zero => intro k _ i a b; omega
        | succ d ih =>
          intro k hk i a b
          unfold ff at hk
          by_cases y : decide (N (qx k) = nI (cnt - 1)) = true
          · rw [if_pos y] at hk; cases hk
          · rw [if_neg y] at hk
            by_cases x : i = k
            · subst x; simpa using y
            · exact ih hk i (by omega) (by omega)
      exact this hf i (Nat.zero_le i) (by omega) (by rw [h9, hci, z])
    | some k =>
      obtain ⟨-, hk, hp⟩ := ff_some hf
      have hk : k < L.length := by omega
      have hp := of_decide_eq_true hp
      rw [hr.2.2 k hk] at hp
      have hlk : L[k] < cnt := ((hq.1 _).mp (List.getElem_mem hk)).1
      have ek : L[k] = cnt - 1 := (nI_eq (by omega) (by omega)).mp hp
      have h8L := hr.1
      refine ⟨L.eraseIdx k, ⟨?_, ?_, fun i hi => ?_⟩, List.eraseIdx_sublist L k, fun c => ?_⟩
      · have := List.length_eraseIdx_le L k; omega
      · rw [List.length_eraseIdx_of_lt hk]
        show dpN L.length k N 6 = _
        exact if_pos rfl
      · rw [List.length_eraseIdx_of_lt hk] at hi
        show dpN L.length k N (qx i) = _
        unfold dpN
        rw [if_neg (by unfold qx; omega), List.getElem_eraseIdx]
        by_cases z : i < k
        · rw [if_neg (by unfold qx; omega), dif_pos z]
          exact hr.2.2 i (by omega)
        · rw [if_pos (by unfold qx; omega), dif_neg z]
          exact hr.2.2 (i + 1) (by omega)
      · rw [List.mem_eraseIdx_iff_getElem]
        constructor
        · rintro ⟨i, hi, hne, rfl⟩
          refine ⟨List.getElem_mem hi, fun z => hne ?_⟩
          exact (List.getElem_inj hnd).mp (z.trans ek.symm)
        · rintro ⟨hc, hne⟩
          obtain ⟨i, hi, hci⟩ := List.getElem_of_mem hc
          exact ⟨i, hi, fun z => hne (by subst z; rw [← hci]; exact ek), hci⟩
  obtain ⟨L', hr', hsub, hmem⟩ := key
  refine ⟨hv, by rw [hv]; exact fun q => (nI_m1 (by omega)).mp q, cnt - 1, L', ?_⟩
  have dh : ∀ i, 15 ≤ i → dqN L.length (nI (cnt - 1)) N i = N i := fun i hi => dq_hi hi hr.1
  have dl : ∀ i, i < 6 → dqN L.length (nI (cnt - 1)) N i = N i := fun i hi => dqN_o hi
  generalize dqN L.length (nI (cnt - 1)) N = N' at hr' dh dl
  have f0 : ∀ i, i < 6 → i ≠ 0 → upd N' 0 (nI (cnt - 1)) i = N i := fun i h1 h2 => (upd_ne h2).trans (dl i h1)
  have fh : ∀ i, 15 ≤ i → upd N' 0 (nI (cnt - 1)) i = N i := fun i h1 => (upd_ne (by omega)).trans (dh i h1)
  have u2 : ∀ i, i ≠ 2 → upd F 2 (F 2 - 1) i = F i := fun i hi => upd_ne hi
  refine TV.mk ⟨by rw [upd_same, hv], upd_same, by rw [f0 1 (by decide) (by decide), u2 5 (by decide)]; exact x2, by rw [f0 2 (by decide) (by decide), u2 4 (by decide)]; exact x3, by rw [f0 3 (by decide) (by decide), u2 3 (by decide)]; exact x4, by rw [f0 4 (by decide) (by decide), u2 6 (by decide)]; exact x5, by rw [f0 5 (by decide) (by decide), u2 7 (by decide)]; exact x6⟩ (fun j hj => ?_) (fun k hk j hj => ?_) (fun k hk => ?_) (hr'.lo (by decide)) ⟨fun c => ?_, hq.2.1.sublist hsub, fun c hc => ?_⟩ (fun k hk => hso k (by omega)) ⟨fun j hj => Or.inl (hG j (by omega)), fun j _ hj => hG j hj, fun i hi q => absurd q (hno i (by omega)).2, fun i hi q => absurd q (hno i (by omega)).1⟩ ?_ ?_ (by omega)
  · rw [fh (lx j) (by unfold lx; omega)]; exact hl j hj
  · rw [fh _ (by unfold ix; omega)]; exact hs k (by omega) j hj
  · rw [fh _ (by unfold ix; omega)]; exact hn k (by omega)
  · rw [hmem c, hq.1 c]
    exact ⟨fun z => ⟨by omega, z.1.2⟩, fun z => ⟨⟨by omega, z.2⟩, by omega⟩⟩
  · exact hq.2.2 c ((hmem c).mp hc).1
  · obtain ⟨bo, b1, b2⟩ := hb
    exact ⟨bo, b1, (u2 4 (by decide)).trans b2⟩
  · obtain ⟨w, w1, w2⟩ := hw
    exact ⟨w, w1, (u2 3 (by decide)).trans w2⟩
