/-! ===== the changes keep what holds of every table; their answers are 0 or more ===== -/
def Iv (B : Nat) (s : Tb) : Prop := IvC (cntOf s) (fun _ => 0) (fun _ => B) s
theorem IvC.iv {cnt B : Nat} {lo hi : Nat → Nat} {s : Tb} (h : IvC cnt lo hi s) (hB : ∀ k, k < cnt → hi k ≤ B) : Iv B s := by
  unfold Iv
  rw [h.cnt]
  exact h.up (fun _ _ => Nat.zero_le _) hB
theorem Iv.mono {B B2 : Nat} {s : Tb} (h : Iv B s) (hB : B ≤ B2) : Iv B2 s := IvC.up h (fun _ _ => Nat.le_refl _) (fun _ _ => hB)
/-- an answer that isn't negative -/
def nn (v : Int32) : Prop := ∃ q : Nat, q < 2 ^ 31 ∧ v = nI q
theorem nn.pos {v : Int32} (h : nn v) : ¬ v < 0 := by
  obtain ⟨q, h1, rfl⟩ := h
  exact nI_pos h1
theorem nn.m1 {v : Int32} (h : nn v) : v ≠ -1 := by
  obtain ⟨q, h1, rfl⟩ := h
  exact fun z => (nI_m1 h1).mp z
theorem nn.m1001 {v : Int32} (h : nn v) : v ≠ -1001 := fun z => h.pos (by rw [z]; decide)
theorem nn_lt {q N : Nat} (h : q < N) (hN : N ≤ 2 ^ 31) : nn (nI q) := ⟨q, by omega, rfl⟩
theorem int_ex {x : Int32} {a b : Nat} (h0 : ¬ x < nI a) (h1 : ¬ nI b < x) (hb : b < 2 ^ 31) (hab : a ≤ b) : ∃ k, a ≤ k ∧ k ≤ b ∧ x = nI k := by
  have hx : ¬ x < 0 := fun z => h0 (Int32.lt_of_lt_of_le z (Int32.not_lt.mp (nI_pos (show a < 2 ^ 31 by omega))))
  obtain ⟨j, hj, rfl⟩ := nI_of hx
  exact ⟨j, Nat.le_of_not_lt (fun q => h0 (nI_lt q (by omega))), Nat.le_of_not_lt (fun q => h1 (nI_lt q hj)), rfl⟩
theorem held_0 {G : Nat → Int32} {cnt : Nat} (h8 : cnt ≤ 8) (h : ¬ 0 < itr (heldF G) cnt 0) : ∀ j, j < cnt → G j = -1 := by
  have g : ∀ m, m ≤ 8 → ∃ c : Nat, c ≤ m ∧ itr (heldF G) m 0 = nI c ∧ (c = 0 → ∀ j, j < m → G j = -1) := by
    intro m
    induction m with
    | zero => intro _; exact ⟨0, Nat.le_refl 0, rfl, fun _ j hj => absurd hj (Nat.not_lt_zero j)⟩
    | succ m ih =>
      intro hm
      obtain ⟨c, h1, h2, h3⟩ := ih (by omega)
      rw [itr_s]
      unfold heldF at h2 ⊢
      by_cases e : G m = -1
      · rw [if_pos e]
        exact ⟨c, by omega, h2, fun z j hj => by
          by_cases q : j = m
          · rw [q]; exact e
          · exact h3 z j (by omega)⟩
      · rw [if_neg e, h2, nI_1]
        exact ⟨c + 1, by omega, rfl, fun z => by omega⟩
  obtain ⟨c, h1, h2, h3⟩ := g cnt h8
  rw [h2] at h
  exact h3 (Nat.eq_zero_of_not_pos (fun z => h (show nI 0 < nI c from nI_lt z (by omega))))
theorem mn_ex {m : Int32} (h : ¬ mnF m = 0) : ∃ q : Nat, q < 2 ∧ m = nI q := by
  unfold mnF at h
  by_cases a : m = 0
  · exact ⟨0, by decide, a⟩
  · rw [if_neg a] at h
    by_cases b : m = 1
    · exact ⟨1, by decide, b⟩
    · rw [if_neg b] at h; exact absurd rfl h
theorem ck_ex {m : Int32} (h : ¬ ckF m = 0) : ∃ q : Nat, q < 10 ∧ m = nI q := by
  unfold ckF at h
  by_cases a : m < 1
  · rw [if_pos a] at h; exact absurd rfl h
  · rw [if_neg a] at h
    by_cases b : 9 < m
    · rw [if_pos b] at h; exact absurd rfl h
    · obtain ⟨k, _, h2, h3⟩ := int_ex (a := 1) (b := 9) a b (by decide) (by decide)
      exact ⟨k, by omega, h3⟩
theorem updv {F : Nat → Int32} {k j : Nat} {x v : Int32} (h : j ≠ k) (e : F j = v) : upd F k x j = v := (upd_ne h).trans e
theorem updw {F : Nat → Int32} {k : Nat} {x v : Int32} (e : x = v) : upd F k x k = v := upd_same.trans e
section INV
variable {cnt B : Nat} {s s2 : Tb} {v m a b y : Int32}
theorem add_inv (h : Iv B s) (e : addF (cntOf s) m a b s = .inr (v, s2)) : nn v ∧ Iv B s2 := by
  unfold Iv at h
  generalize cntOf s = cnt at h e
  obtain ⟨F, G, S⟩ := s
  have c2 : F 2 = nI cnt := h.c2
  have c8 := h.c8
  unfold addF at e
  dsimp only at e
  by_cases h1 : mnF m = 0
  · rw [if_pos h1] at e; cases e
  rw [if_neg h1] at e
  by_cases h2 : ckF a = 0
  · rw [if_pos h2] at e; cases e
  rw [if_neg h2] at e
  by_cases h3 : ckF b = 0
  · rw [if_pos h3] at e; cases e
  rw [if_neg h3] at e
  by_cases h4 : F 2 < 8
  · rw [if_pos h4] at e
    by_cases h5 : 0 < itr (heldF G) cnt 0
    · rw [if_pos h5] at e; cases e
    · rw [if_neg h5] at e
      have hc : cnt < 8 := Nat.lt_of_not_le (fun q => nI_nlt (show 8 ≤ cnt from q) (by omega) (show nI cnt < nI 8 by rw [← c2]; exact h4))
      cases e
      refine ⟨⟨cnt, by omega, by rw [c2, nI_1, nI_pred]⟩, ?_⟩
      have bn : ∀ {j i}, j ≠ cnt → bgS S cnt m a b j i = S j i := fun {j i} hj => by
        unfold bgS btS
        simp only [up2_o hj]
      refine IvC.iv (cnt := cnt + 1) (lo := fun _ => 0) (hi := fun _ => B) ⟨?_, by omega, fun j hj => ?_, fun j h1 h2 => ?_, h.g3, fun k hk => ?_, fun k hk => ?_, fun k hk => ?_, ?_, ?_, fun k hk => ?_⟩ (fun _ _ => Nat.le_refl _)
      · show upd F 2 (F 2 + 1) 2 = _
        rw [upd_same, c2, nI_1]
      · by_cases q : j < cnt
        · exact (h.g1 j q).imp id (fun z => z.imp fun i hi => ⟨by omega, hi.2⟩)
        · exact Or.inl (h.g2 j (by omega) (by omega))
      · exact h.g2 j (by omega) h2
      · by_cases q : k = cnt
        · subst q
          exact ⟨0, by decide, by show bgS S k m a b k 3 = _; unfold bgS btS; rw [up2_n (by decide)]; exact if_pos ⟨rfl, rfl⟩⟩
        · rw [show ((upd F 2 (F 2 + 1), G, bgS S cnt m a b) : Tb).2.2 k 3 = S k 3 from bn q]; exact h.how k (by omega)
      · by_cases q : k = cnt
        · subst q
          rw [show ((upd F 2 (F 2 + 1), G, bgS S k m a b) : Tb).2.2 k 0 = m by show bgS S k m a b k 0 = m; unfold bgS btS; simp only [up2_k, Nat.reduceEqDiff, ↓reduceIte]]
          exact mn_ex h1
        · rw [show ((upd F 2 (F 2 + 1), G, bgS S cnt m a b) : Tb).2.2 k 0 = S k 0 from bn q]; exact h.man k (by omega)
      · by_cases q : k = cnt
        · subst q
          rw [show ((upd F 2 (F 2 + 1), G, bgS S k m a b) : Tb).2.2 k 1 = a by show bgS S k m a b k 1 = a; unfold bgS btS; simp only [up2_k, Nat.reduceEqDiff, ↓reduceIte], show ((upd F 2 (F 2 + 1), G, bgS S k m a b) : Tb).2.2 k 2 = b by show bgS S k m a b k 2 = b; unfold bgS btS; simp only [up2_k, Nat.reduceEqDiff, ↓reduceIte]]
          exact ⟨ck_ex h2, ck_ex h3⟩
        · rw [show ((upd F 2 (F 2 + 1), G, bgS S cnt m a b) : Tb).2.2 k 1 = S k 1 from bn q, show ((upd F 2 (F 2 + 1), G, bgS S cnt m a b) : Tb).2.2 k 2 = S k 2 from bn q]; exact h.clk k (by omega)
      · exact h.wai.imp fun q z => ⟨z.1, updv (F := F) (k := 2) (x := F 2 + 1) (j := 3) (by decide) z.2⟩
      · exact h.bow.imp fun q z => ⟨z.1, updv (F := F) (k := 2) (x := F 2 + 1) (j := 4) (by decide) z.2⟩
      · by_cases q : k = cnt
        · subst q
          exact ⟨0, Nat.zero_le _, Nat.zero_le _, by show bgS S k m a b k 5 = _; unfold bgS btS; simp only [up2_k, Nat.reduceEqDiff, ↓reduceIte]; rfl⟩
        · rw [show ((upd F 2 (F 2 + 1), G, bgS S cnt m a b) : Tb).2.2 k 5 = S k 5 from bn q]; exact h.mea k (by omega)
  · rw [if_neg h4] at e; cases e
theorem rem_inv (h : Iv B s) (e : remF (cntOf s) s = .inr (v, s2)) : nn v ∧ Iv B s2 := by
  unfold Iv at h
  generalize cntOf s = cnt at h e
  obtain ⟨F, G, S⟩ := s
  have c2 : F 2 = nI cnt := h.c2
  have c8 := h.c8
  unfold remF at e
  dsimp only at e
  by_cases h1 : F 2 = 0
  · rw [if_pos h1] at e; cases e
  rw [if_neg h1] at e
  by_cases h5 : 0 < itr (heldF G) cnt 0
  · rw [if_pos h5] at e; cases e
  rw [if_neg h5] at e
  cases e
  have hp : 0 < cnt := Nat.pos_of_ne_zero (fun z => h1 (by rw [c2, z]; rfl))
  have ee : F 2 - 1 = nI (cnt - 1) := by rw [c2]; exact nI_p hp
  have hG := held_0 c8 h5
  refine ⟨⟨cnt - 1, by omega, ee⟩, ?_⟩
  refine IvC.iv (cnt := cnt - 1) (lo := fun _ => 0) (hi := fun _ => B) ⟨?_, by omega, fun j hj => Or.inl (hG j (by omega)), fun j h1 h2 => ?_, h.g3, fun k hk => h.how k (by omega), fun k hk => h.man k (by omega), fun k hk => h.clk k (by omega), ?_, ?_, fun k hk => h.mea k (by omega)⟩ (fun _ _ => Nat.le_refl _)
  · show upd F 2 (F 2 - 1) 2 = _
    rw [upd_same, ee]
  · by_cases q : j < cnt
    · exact hG j q
    · exact h.g2 j (by omega) h2
  · exact h.wai.imp fun q z => ⟨z.1, updv (F := F) (k := 2) (x := F 2 - 1) (j := 3) (by decide) z.2⟩
  · exact h.bow.imp fun q z => ⟨z.1, updv (F := F) (k := 2) (x := F 2 - 1) (j := 4) (by decide) z.2⟩
theorem has_k {cnt : Nat} (h8 : cnt ≤ 8) {x : Int32} (h : ¬ hasS (nI cnt) x = 0) : ∃ k, k < cnt ∧ x = nI k ∧ x.toNatClampNeg = k := by
  obtain ⟨k, hk, rfl⟩ := hasS_ex h8 h
  exact ⟨k, hk, rfl, nI_clamp (by omega)⟩
theorem man_inv (h : Iv B s) (e : manX (cntOf s) y m s = .inr (v, s2)) : nn v ∧ Iv B s2 := by
  unfold Iv at h
  generalize cntOf s = cnt at h e
  obtain ⟨F, G, S⟩ := s
  have c2 : F 2 = nI cnt := h.c2
  have c8 := h.c8
  unfold manX at e
  by_cases hk : hasS (F 2) y = 0
  · rw [if_pos hk] at e; cases e
  rw [if_neg hk] at e
  rw [c2] at hk
  obtain ⟨k, hk1, _, hk2⟩ := has_k c8 hk
  rw [hk2] at e
  unfold manF at e
  dsimp only at e
  by_cases h1 : mnF m = 0
  · rw [if_pos h1] at e; cases e
  rw [if_neg h1] at e
  by_cases h2 : S k 0 = m
  · rw [if_pos h2] at e; cases e
  rw [if_neg h2] at e
  cases e
  obtain ⟨q, q1, q2⟩ := h.how k hk1
  refine ⟨⟨q, by omega, q2⟩, ?_⟩
  refine IvC.iv (cnt := cnt) (lo := fun _ => 0) (hi := fun _ => B) ⟨c2, c8, h.g1, h.g2, h.g3, how_o h.how (by decide), fun j hj => ?_, fun j hj => ?_, h.wai, h.bow, mea_o h.mea (by decide)⟩ (fun _ _ => Nat.le_refl _)
  · show ∃ q : Nat, q < 2 ∧ up2 S k 0 m j 0 = nI q
    by_cases z : j = k
    · rw [show up2 S k 0 m j 0 = m from if_pos ⟨z, rfl⟩]; exact mn_ex h1
    · rw [up2_o z]; exact h.man j hj
  · show (∃ a : Nat, a < 10 ∧ up2 S k 0 m j 1 = nI a) ∧ (∃ a : Nat, a < 10 ∧ up2 S k 0 m j 2 = nI a)
    rw [up2_n (by decide), up2_n (by decide)]
    exact h.clk j hj
theorem clo_inv (h : Iv B s) (e : cloX (cntOf s) y a b s = .inr (v, s2)) : nn v ∧ Iv B s2 := by
  unfold Iv at h
  generalize cntOf s = cnt at h e
  obtain ⟨F, G, S⟩ := s
  have c2 : F 2 = nI cnt := h.c2
  have c8 := h.c8
  unfold cloX at e
  by_cases hk : hasS (F 2) y = 0
  · rw [if_pos hk] at e; cases e
  rw [if_neg hk] at e
  rw [c2] at hk
  obtain ⟨k, hk1, _, hk2⟩ := has_k c8 hk
  rw [hk2] at e
  unfold cloF at e
  dsimp only at e
  by_cases h1 : ckF a = 0
  · rw [if_pos h1] at e; cases e
  rw [if_neg h1] at e
  by_cases h2 : ckF b = 0
  · rw [if_pos h2] at e; cases e
  rw [if_neg h2] at e
  cases e
  obtain ⟨⟨p, p1, p2⟩, ⟨q, q1, q2⟩⟩ := h.clk k hk1
  have p2 : S k 1 = nI p := p2
  have q2 : S k 2 = nI q := q2
  refine ⟨⟨10 * p + q, by omega, by rw [p2, q2, show (10 : Int32) = nI 10 from rfl, nI_mul, nI_plus]⟩, ?_⟩
  refine IvC.iv (cnt := cnt) (lo := fun _ => 0) (hi := fun _ => B) ⟨c2, c8, h.g1, h.g2, h.g3, how_o (how_o h.how (by decide)) (by decide), fun j hj => ?_, fun j hj => ?_, h.wai, h.bow, mea_o (mea_o h.mea (by decide)) (by decide)⟩ (fun _ _ => Nat.le_refl _)
  · show ∃ q : Nat, q < 2 ∧ up2 (up2 S k 1 a) k 2 b j 0 = nI q
    rw [up2_n (by decide), up2_n (by decide)]
    exact h.man j hj
  · show (∃ q : Nat, q < 10 ∧ up2 (up2 S k 1 a) k 2 b j 1 = nI q) ∧ (∃ q : Nat, q < 10 ∧ up2 (up2 S k 1 a) k 2 b j 2 = nI q)
    by_cases z : j = k
    · rw [up2_n (by decide), show up2 S k 1 a j 1 = a from if_pos ⟨z, rfl⟩, show up2 (up2 S k 1 a) k 2 b j 2 = b from if_pos ⟨z, rfl⟩]
      exact ⟨ck_ex h1, ck_ex h2⟩
    · rw [up2_o z, up2_o z, up2_o z, up2_o z]
      exact h.clk j hj
theorem wai_inv (h : Iv B s) (e : waiF y s = .inr (v, s2)) : nn v ∧ Iv B s2 := by
  unfold Iv at h
  generalize cntOf s = cnt at h
  obtain ⟨F, G, S⟩ := s
  have c2 : F 2 = nI cnt := h.c2
  unfold waiF at e
  dsimp only at e
  by_cases h1 : y < 0
  · rw [if_pos h1] at e; cases e
  rw [if_neg h1] at e
  by_cases h2 : 8 < y
  · rw [if_pos h2] at e; cases e
  rw [if_neg h2] at e
  by_cases h3 : y = F 3
  · rw [if_pos h3] at e; cases e
  rw [if_neg h3] at e
  cases e
  obtain ⟨q, q1, q2⟩ := h.wai
  refine ⟨⟨q, by omega, q2⟩, ?_⟩
  refine IvC.iv (cnt := cnt) (lo := fun _ => 0) (hi := fun _ => B) ⟨?_, h.c8, h.g1, h.g2, h.g3, h.how, h.man, h.clk, ?_, ?_, h.mea⟩ (fun _ _ => Nat.le_refl _)
  · exact updv (F := F) (k := 3) (x := y) (j := 2) (by decide) c2
  · obtain ⟨k, _, k1, k2⟩ := int_ex (a := 0) (b := 8) h1 h2 (by decide) (by decide)
    exact ⟨k, by omega, updw (F := F) (k := 3) (x := y) k2⟩
  · exact h.bow.imp fun q z => ⟨z.1, updv (F := F) (k := 3) (x := y) (j := 4) (by decide) z.2⟩
theorem bri_inv (h : Iv B s) (e : briF y s = .inr (v, s2)) : nn v ∧ Iv B s2 := by
  unfold Iv at h
  generalize cntOf s = cnt at h
  obtain ⟨F, G, S⟩ := s
  have c2 : F 2 = nI cnt := h.c2
  unfold briF at e
  dsimp only at e
  by_cases h1 : y < 1
  · rw [if_pos h1] at e; cases e
  rw [if_neg h1] at e
  by_cases h2 : 99 < y
  · rw [if_pos h2] at e; cases e
  rw [if_neg h2] at e
  by_cases h3 : 99 < F 4 + y
  · rw [if_pos h3] at e; cases e
  rw [if_neg h3] at e
  cases e
  obtain ⟨q, q1, q2⟩ := h.bow
  have q2 : F 4 = nI q := q2
  obtain ⟨k, k0, k1, k2⟩ := int_ex (a := 1) (b := 99) h1 h2 (by decide) (by decide)
  have es : F 4 + y = nI (q + k) := by rw [q2, k2, nI_plus]
  have hs : q + k < 100 := by
    rw [es] at h3
    exact Nat.lt_of_not_le (fun z => h3 (show nI 99 < nI (q + k) from nI_lt z (by omega)))
  refine ⟨⟨q + k, by omega, es⟩, ?_⟩
  refine IvC.iv (cnt := cnt) (lo := fun _ => 0) (hi := fun _ => B) ⟨?_, h.c8, h.g1, h.g2, h.g3, h.how, h.man, h.clk, ?_, ?_, h.mea⟩ (fun _ _ => Nat.le_refl _)
  · exact updv (F := F) (k := 4) (x := F 4 + y) (j := 2) (by decide) c2
  · exact h.wai.imp fun q z => ⟨z.1, updv (F := F) (k := 4) (x := F 4 + y) (j := 3) (by decide) z.2⟩
  · exact ⟨q + k, hs, updw (F := F) (k := 4) (x := F 4 + y) es⟩
theorem l1N_lt {k : Nat} {G : Nat → Int32} {S : Nat → Nat → Int32} (hk : k < cnt) : l1N cnt G S k < cnt := by
  unfold l1N
  split <;> exact ladN_lt hk
theorem tak_inv (h : Iv B s) (e : takX (cntOf s) y s = .inr (v, s2)) : nn v ∧ Iv B s2 := by
  unfold Iv at h
  generalize cntOf s = cnt at h e
  obtain ⟨F, G, S⟩ := s
  have c2 : F 2 = nI cnt := h.c2
  have c8 := h.c8
  unfold takX at e
  by_cases hk : hasS (F 2) y = 0
  · rw [if_pos hk] at e; cases e
  rw [if_neg hk] at e
  rw [c2] at hk
  obtain ⟨k, hk1, _, hk2⟩ := has_k c8 hk
  rw [hk2] at e
  unfold takF at e
  dsimp only at e
  by_cases h1 : S k 3 = 3
  · rw [if_pos h1] at e
    cases e
    have hl := l1N_lt (G := G) (S := S) hk1
    refine ⟨⟨_, by omega, rfl⟩, ?_⟩
    refine IvC.iv (cnt := cnt) (lo := fun _ => 0) (hi := fun _ => B) ⟨?_, c8, seatI_upd h.g1 seat_m1, fun j h1 h2 => ?_, fun j hj => ?_, how_up h.how ⟨2, by decide, rfl⟩, fun j hj => ?_, fun j hj => ?_, ?_, ?_, mea_o h.mea (by decide)⟩ (fun _ _ => Nat.le_refl _)
    · exact updv (F := F) (k := 7) (x := F 7 + 1) (j := 2) (by decide) c2
    · exact (updG_hi hl h1).trans (h.g2 j h1 h2)
    · exact (updG_hi hl (by omega)).trans (h.g3 j hj)
    · show ∃ q : Nat, q < 2 ∧ up2 S k 3 2 j 0 = nI q
      rw [up2_n (by decide)]; exact h.man j hj
    · show (∃ q : Nat, q < 10 ∧ up2 S k 3 2 j 1 = nI q) ∧ (∃ q : Nat, q < 10 ∧ up2 S k 3 2 j 2 = nI q)
      rw [up2_n (by decide), up2_n (by decide)]; exact h.clk j hj
    · exact h.wai.imp fun q z => ⟨z.1, updv (F := F) (k := 7) (x := F 7 + 1) (j := 3) (by decide) z.2⟩
    · exact h.bow.imp fun q z => ⟨z.1, updv (F := F) (k := 7) (x := F 7 + 1) (j := 4) (by decide) z.2⟩
  · rw [if_neg h1] at e; cases e
/-- meals are summed -/
def sN (q : Nat → Nat) : Nat → Nat
  | 0 => 0
  | m + 1 => sN q m + q m
theorem sN_le {q r : Nat → Nat} : ∀ {m : Nat}, (∀ k, k < m → q k ≤ r k) → sN q m ≤ sN r m := by
  intro m
  induction m with
  | zero => intro _; exact Nat.le_refl _
  | succ m ih => intro h; exact Nat.add_le_add (ih fun k hk => h k (by omega)) (h m (by omega))
theorem sN_c {c : Nat} : ∀ {m : Nat}, sN (fun _ => c) m = m * c := by
  intro m
  induction m with
  | zero => rw [Nat.zero_mul]; rfl
  | succ m ih => rw [Nat.succ_mul, ← ih]; rfl
theorem meals_sN {q : Nat → Nat} {S : Nat → Nat → Int32} : ∀ {m : Nat}, (∀ k, k < m → S k 5 = nI (q k)) → itr (mealsOfAllF S) m 0 = nI (sN q m) := by
  intro m
  induction m with
  | zero => intro _; rfl
  | succ m ih =>
    intro h
    rw [itr_s, ih fun k hk => h k (by omega)]
    show nI (sN q m) + S m 5 = nI (sN q m + q m)
    rw [h m (by omega), nI_plus]
theorem mea_fun {cnt : Nat} {lo hi : Nat → Nat} {s : Tb} (h : IvC cnt lo hi s) : ∃ q : Nat → Nat, ∀ k, k < cnt → lo k ≤ q k ∧ q k ≤ hi k ∧ s.2.2 k 5 = nI (q k) := by
  refine ⟨fun k => if hk : k < cnt then Classical.choose (h.mea k hk) else 0, fun k hk => ?_⟩
  dsimp only
  rw [dif_pos hk]
  exact Classical.choose_spec (h.mea k hk)
theorem pas_inv (h : Iv B s) (hB : B < 2 ^ 24) (e : pasF (cntOf s) y s = .inr (v, s2)) : nn v ∧ Iv (B + 99) s2 := by
  unfold Iv at h
  generalize cntOf s = cnt at h e
  unfold pasF at e
  by_cases h1 : y < 1
  · rw [if_pos h1] at e; cases e
  rw [if_neg h1] at e
  by_cases h2 : 99 < y
  · rw [if_pos h2] at e; cases e
  rw [if_neg h2] at e
  by_cases h3 : s.1 2 < 2
  · rw [if_pos h3] at e; cases e
  rw [if_neg h3] at e
  obtain ⟨k, k0, k1, k2⟩ := int_ex (a := 1) (b := 99) h1 h2 (by decide) (by decide)
  rw [k2, nI_clamp (by omega)] at e
  obtain ⟨q, hq⟩ := mea_fun h
  have h' : IvC cnt q q s := ⟨h.c2, h.c8, h.g1, h.g2, h.g3, h.how, h.man, h.clk, h.wai, h.bow, fun j hj => ⟨q j, Nat.le_refl _, Nat.le_refl _, (hq j hj).2.2⟩⟩
  have h2 := Iv_tks (m := k) h'
  obtain ⟨r, hr⟩ := mea_fun h2
  have c8 := h.c8
  rw [meals_sN fun j hj => (hq j hj).2.2, meals_sN fun j hj => (hr j hj).2.2] at e
  have l1 : sN q cnt ≤ sN r cnt := sN_le fun j hj => (hr j hj).1
  have l2 : sN r cnt ≤ cnt * (B + 99) := by
    rw [← sN_c]
    exact sN_le fun j hj => Nat.le_trans (hr j hj).2.1 (by have := (hq j hj).2.1; omega)
  have l3 : cnt * (B + 99) ≤ 8 * (B + 99) := Nat.mul_le_mul_right _ c8
  rw [nI_sub l1] at e
  cases e
  refine ⟨⟨_, by omega, rfl⟩, h2.iv fun j hj => ?_⟩
  have := (hq j hj).2.1
  omega
theorem ob_inv (h : Iv B s) (hB : B < 2 ^ 24) {k : Nat} {D : Nat → Int32} (e : obF (cntOf s) k D s = .inr (v, s2)) : nn v ∧ Iv (B + 99) s2 := by
  have w : nn v ∧ Iv B s2 → nn v ∧ Iv (B + 99) s2 := fun z => ⟨z.1, z.2.mono (by omega)⟩
  unfold obF at e
  split at e
  · exact w (add_inv h e)
  · exact w (rem_inv h e)
  · exact w (man_inv h e)
  · exact w (clo_inv h e)
  · exact w (wai_inv h e)
  · exact w (bri_inv h e)
  · exact w (tak_inv h e)
  · exact pas_inv h hB e
end INV
