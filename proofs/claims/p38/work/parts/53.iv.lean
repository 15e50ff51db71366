/-! ===== what holds of every table ===== -/
theorem nI_plus {a b : Nat} : nI a + nI b = nI (a + b) := (Int32.ofNat_add a b).symm
theorem nI_sub {a b : Nat} (h : b ≤ a) : nI a - nI b = nI (a - b) := by
  have e : nI a = nI (a - b) + nI b := by rw [nI_plus, Nat.sub_add_cancel h]
  rw [e, Int32.add_sub_cancel]
theorem nI_mul {a b : Nat} : nI a * nI b = nI (a * b) := (Int32.ofNat_mul a b).symm
theorem nI_ge0 {j : Nat} (hj : j < 2 ^ 31) : ¬ nI j < 0 := nI_pos hj
/-- a table with cnt seats; the meals of each seat lie between two bounds -/
abbrev IvC (cnt : Nat) (lo hi : Nat → Nat) (s : Tb) : Prop :=
  (s.1 2 = nI cnt) ∧ (cnt ≤ 8) ∧ (∀ j, j < cnt → seatI cnt (s.2.1 j)) ∧ (∀ j, cnt ≤ j → j < 8 → s.2.1 j = -1) ∧ (∀ j, 8 ≤ j → s.2.1 j = 0) ∧ (∀ k, k < cnt → ∃ h : Nat, h < 5 ∧ s.2.2 k 3 = nI h) ∧ (∀ k, k < cnt → ∃ h : Nat, h < 2 ∧ s.2.2 k 0 = nI h) ∧ (∀ k, k < cnt → (∃ a : Nat, a < 10 ∧ s.2.2 k 1 = nI a) ∧ (∃ b : Nat, b < 10 ∧ s.2.2 k 2 = nI b)) ∧ (∃ q : Nat, q < 9 ∧ s.1 3 = nI q) ∧ (∃ q : Nat, q < 100 ∧ s.1 4 = nI q) ∧ (∀ k, k < cnt → ∃ q : Nat, lo k ≤ q ∧ q ≤ hi k ∧ s.2.2 k 5 = nI q)
theorem IvC.c2 {cnt : Nat} {lo hi : Nat → Nat} {s : Tb} (h : IvC cnt lo hi s) : s.1 2 = nI cnt := h.1
theorem IvC.c8 {cnt : Nat} {lo hi : Nat → Nat} {s : Tb} (h : IvC cnt lo hi s) : cnt ≤ 8 := h.2.1
theorem IvC.g1 {cnt : Nat} {lo hi : Nat → Nat} {s : Tb} (h : IvC cnt lo hi s) : ∀ j, j < cnt → seatI cnt (s.2.1 j) := h.2.2.1
theorem IvC.g2 {cnt : Nat} {lo hi : Nat → Nat} {s : Tb} (h : IvC cnt lo hi s) : ∀ j, cnt ≤ j → j < 8 → s.2.1 j = -1 := h.2.2.2.1
theorem IvC.g3 {cnt : Nat} {lo hi : Nat → Nat} {s : Tb} (h : IvC cnt lo hi s) : ∀ j, 8 ≤ j → s.2.1 j = 0 := h.2.2.2.2.1
theorem IvC.how {cnt : Nat} {lo hi : Nat → Nat} {s : Tb} (h : IvC cnt lo hi s) : ∀ k, k < cnt → ∃ h : Nat, h < 5 ∧ s.2.2 k 3 = nI h := h.2.2.2.2.2.1
theorem IvC.man {cnt : Nat} {lo hi : Nat → Nat} {s : Tb} (h : IvC cnt lo hi s) : ∀ k, k < cnt → ∃ h : Nat, h < 2 ∧ s.2.2 k 0 = nI h := h.2.2.2.2.2.2.1
theorem IvC.clk {cnt : Nat} {lo hi : Nat → Nat} {s : Tb} (h : IvC cnt lo hi s) : ∀ k, k < cnt → (∃ a : Nat, a < 10 ∧ s.2.2 k 1 = nI a) ∧ (∃ b : Nat, b < 10 ∧ s.2.2 k 2 = nI b) := h.2.2.2.2.2.2.2.1
theorem IvC.wai {cnt : Nat} {lo hi : Nat → Nat} {s : Tb} (h : IvC cnt lo hi s) : ∃ q : Nat, q < 9 ∧ s.1 3 = nI q := h.2.2.2.2.2.2.2.2.1
theorem IvC.bow {cnt : Nat} {lo hi : Nat → Nat} {s : Tb} (h : IvC cnt lo hi s) : ∃ q : Nat, q < 100 ∧ s.1 4 = nI q := h.2.2.2.2.2.2.2.2.2.1
theorem IvC.mea {cnt : Nat} {lo hi : Nat → Nat} {s : Tb} (h : IvC cnt lo hi s) : ∀ k, k < cnt → ∃ q : Nat, lo k ≤ q ∧ q ≤ hi k ∧ s.2.2 k 5 = nI q := h.2.2.2.2.2.2.2.2.2.2
theorem IvC.up {cnt : Nat} {lo hi lo2 hi2 : Nat → Nat} {s : Tb} (h : IvC cnt lo hi s) (h1 : ∀ k, k < cnt → lo2 k ≤ lo k) (h2 : ∀ k, k < cnt → hi k ≤ hi2 k) : IvC cnt lo2 hi2 s :=
  ⟨h.c2, h.c8, h.g1, h.g2, h.g3, h.how, h.man, h.clk, h.wai, h.bow, fun k hk => Exists.elim (h.mea k hk) fun q z => ⟨q, Nat.le_trans (h1 k hk) z.1, Nat.le_trans z.2.1 (h2 k hk), z.2.2⟩⟩
theorem IvC.cnt {cnt : Nat} {lo hi : Nat → Nat} {s : Tb} (h : IvC cnt lo hi s) : cntOf s = cnt := by
  unfold cntOf
  rw [h.c2]
  exact nI_clamp (by have := h.c8; omega)
/-- what a step changes of the seats: how, left, meals and waits of the seat k -/
theorem IvC.seat {cnt : Nat} {lo hi hi2 : Nat → Nat} {F F' G G' : Nat → Int32} {S S' : Nat → Nat → Int32} (h : IvC cnt lo hi (F, G, S))
    (hF2 : F' 2 = F 2) (hF3 : F' 3 = F 3) (hF4 : ∃ q : Nat, q < 100 ∧ F' 4 = nI q)
    (hG1 : ∀ j, j < cnt → seatI cnt (G' j)) (hG2 : ∀ j, cnt ≤ j → G' j = G j)
    (h0 : ∀ k, S' k 0 = S k 0) (h1 : ∀ k, S' k 1 = S k 1) (h2 : ∀ k, S' k 2 = S k 2) (h3 : ∀ k, k < cnt → ∃ h : Nat, h < 5 ∧ S' k 3 = nI h)
    (h5 : ∀ k, k < cnt → ∃ q : Nat, lo k ≤ q ∧ q ≤ hi2 k ∧ S' k 5 = nI q) : IvC cnt lo hi2 (F', G', S') :=
  ⟨hF2.trans h.c2, h.c8, hG1, fun j a b => (hG2 j a).trans (h.g2 j a b), fun j a => (hG2 j (Nat.le_trans h.c8 a)).trans (h.g3 j a), h3, fun k hk => by rw [show (F', G', S').2.2 k 0 = S k 0 from h0 k]; exact h.man k hk, fun k hk => by rw [show (F', G', S').2.2 k 1 = S k 1 from h1 k, show (F', G', S').2.2 k 2 = S k 2 from h2 k]; exact h.clk k hk, by rw [show (F', G', S').1 3 = F 3 from hF3]; exact h.wai, hF4, h5⟩
theorem up2_n {S : Nat → Nat → Int32} {k j a i : Nat} {x : Int32} (h : i ≠ j) : up2 S k j x a i = S a i := if_neg (fun z => h z.2)
theorem up2_o {S : Nat → Nat → Int32} {k j a i : Nat} {x : Int32} (h : a ≠ k) : up2 S k j x a i = S a i := if_neg (fun z => h z.1)
theorem how_up {cnt k : Nat} {S : Nat → Nat → Int32} (h : ∀ k, k < cnt → ∃ h : Nat, h < 5 ∧ S k 3 = nI h) {x : Int32} (hx : ∃ h : Nat, h < 5 ∧ x = nI h) : ∀ j, j < cnt → ∃ h : Nat, h < 5 ∧ up2 S k 3 x j 3 = nI h := by
  intro j hj
  by_cases e : j = k
  · rw [show up2 S k 3 x j 3 = x from if_pos ⟨e, rfl⟩]; exact hx
  · rw [up2_o e]; exact h j hj
theorem how_o {cnt k i : Nat} {S : Nat → Nat → Int32} (h : ∀ k, k < cnt → ∃ h : Nat, h < 5 ∧ S k 3 = nI h) {x : Int32} (hi : 3 ≠ i) : ∀ j, j < cnt → ∃ h : Nat, h < 5 ∧ up2 S k i x j 3 = nI h := fun j hj => by
  rw [up2_n hi]; exact h j hj
theorem mea_o {cnt k i : Nat} {lo hi : Nat → Nat} {S : Nat → Nat → Int32} (h : ∀ k, k < cnt → ∃ q : Nat, lo k ≤ q ∧ q ≤ hi k ∧ S k 5 = nI q) {x : Int32} (hi5 : 5 ≠ i) : ∀ j, j < cnt → ∃ q : Nat, lo j ≤ q ∧ q ≤ hi j ∧ up2 S k i x j 5 = nI q := fun j hj => by
  rw [up2_n hi5]; exact h j hj
theorem seat_m1 {cnt : Nat} : seatI cnt (-1) := Or.inl rfl
theorem seat_nI {cnt k : Nat} (h : k < cnt) : seatI cnt (nI k) := Or.inr ⟨k, h, rfl⟩
theorem updG_hi {cnt j k : Nat} {G : Nat → Int32} {x : Int32} (hk : k < cnt) (hj : cnt ≤ j) : upd G k x j = G j := upd_ne (by omega)
def hU (hi : Nat → Nat) (k : Nat) : Nat → Nat := fun j => if j = k then hi j + 1 else hi j
theorem Iv_think {cnt k : Nat} {lo hi : Nat → Nat} {s : Tb} (h : IvC cnt lo hi s) (hk : k < cnt) : IvC cnt lo (hU hi k) (s.1, thG cnt s.2.1 s.2.2 k, thS s.2.2 k) := by
  obtain ⟨F, G, S⟩ := s
  have hG : ∀ j, j < cnt → seatI cnt (thG cnt G S k j) := TG_thG h.g1
  have hl1 := ladN_lt (S := S) (b := 1) hk
  have hl0 := ladN_lt (S := S) (b := 0) hk
  refine h.seat rfl rfl h.bow hG (fun j hj => ?_) (fun j => ?_) (fun j => ?_) (fun j => ?_) ?_ ?_
  · show thG cnt G S k j = G j
    unfold thG
    (repeat' split) <;> first | rfl | (rw [updG_hi hl0 hj, updG_hi hl1 hj])
  · show thS S k j 0 = S j 0
    unfold thS btS
    (repeat' split) <;> simp only [up2_n (show 0 ≠ 3 by decide), up2_n (show 0 ≠ 4 by decide), up2_n (show 0 ≠ 5 by decide)]
  · show thS S k j 1 = S j 1
    unfold thS btS
    (repeat' split) <;> simp only [up2_n (show 1 ≠ 3 by decide), up2_n (show 1 ≠ 4 by decide), up2_n (show 1 ≠ 5 by decide)]
  · show thS S k j 2 = S j 2
    unfold thS btS
    (repeat' split) <;> simp only [up2_n (show 2 ≠ 3 by decide), up2_n (show 2 ≠ 4 by decide), up2_n (show 2 ≠ 5 by decide)]
  · show ∀ j, j < cnt → ∃ h : Nat, h < 5 ∧ thS S k j 3 = nI h
    have a0 := h.how
    unfold thS btS
    split
    · split
      · exact how_o a0 (by decide)
      · exact how_up (how_o a0 (by decide)) ⟨1, by decide, rfl⟩
    · split
      · split
        · exact how_o a0 (by decide)
        · exact how_o (how_up (how_o (how_o a0 (by decide)) (by decide)) ⟨0, by decide, rfl⟩) (by decide)
      · exact a0
  · intro j hj
    show ∃ q : Nat, lo j ≤ q ∧ q ≤ hU hi k j ∧ thS S k j 5 = nI q
    obtain ⟨q, q1, q2, q3⟩ := h.mea j hj
    have q3 : S j 5 = nI q := q3
    have w : ∀ x, x = S j 5 → ∃ q : Nat, lo j ≤ q ∧ q ≤ hU hi k j ∧ x = nI q := fun x hx => ⟨q, q1, by unfold hU; split <;> omega, hx.trans q3⟩
    unfold thS btS
    split
    · split
      · exact w _ (up2_n (by decide))
      · exact w _ ((up2_n (by decide)).trans (up2_n (by decide)))
    · split
      · split
        · exact w _ (up2_n (by decide))
        · rw [up2_n (show 5 ≠ 4 by decide), up2_n (show 5 ≠ 3 by decide)]
          by_cases e : j = k
          · refine ⟨q + 1, by omega, by unfold hU; rw [if_pos e]; omega, ?_⟩
            rw [show up2 (up2 S k 4 (S k 4 - 1)) k 5 (S k 5 + 1) j 5 = S k 5 + 1 from if_pos ⟨e, rfl⟩, ← e, q3, nI_1]
          · exact w _ ((up2_o e).trans (up2_o e))
      · exact w _ rfl
theorem Iv_give {cnt : Nat} {lo hi : Nat → Nat} {F F2 G : Nat → Int32} {S : Nat → Nat → Int32} (h : IvC cnt lo hi (F, G, S)) : IvC cnt lo hi (F, G, gvF cnt F2 S) := by
  have same : IvC cnt lo hi (F, G, S) := h
  unfold gvF
  split
  · exact same
  · split
    · exact same
    · exact h.seat rfl rfl h.bow h.g1 (fun j _ => rfl) (fun j => up2_n (by decide)) (fun j => up2_n (by decide)) (fun j => up2_n (by decide)) (how_up h.how ⟨2, by decide, rfl⟩) (mea_o h.mea (by decide))
theorem Iv_tkA {cnt k : Nat} {lo hi : Nat → Nat} {s : Tb} (h : IvC cnt lo hi s) (hk : k < cnt) : IvC cnt lo hi (tkA cnt k s) := by
  obtain ⟨F, G, S⟩ := s
  unfold tkA
  dsimp only
  split
  · split
    · exact h.seat rfl rfl h.bow (seatI_upd h.g1 (seat_nI hk)) (fun j hj => updG_hi (ladN_lt hk) hj) (fun j => up2_n (by decide)) (fun j => up2_n (by decide)) (fun j => up2_n (by decide)) (how_up h.how ⟨3, by decide, rfl⟩) (mea_o h.mea (by decide))
    · exact h
  · exact h
theorem Iv_tkB {cnt k : Nat} {lo hi : Nat → Nat} {s : Tb} (h : IvC cnt lo hi s) (hk : k < cnt) : IvC cnt lo hi (tkB cnt k s) := by
  obtain ⟨F, G, S⟩ := s
  unfold tkB beS
  dsimp only
  split
  · split
    · split
      · rename_i hb
        refine h.seat rfl rfl ?_ (seatI_upd h.g1 (seat_nI hk)) (fun j hj => updG_hi (l2N_lt hk) hj) (fun j => ?_) (fun j => ?_) (fun j => ?_) (how_o (how_o (how_up h.how ⟨4, by decide, rfl⟩) (by decide)) (by decide)) (mea_o (mea_o (mea_o h.mea (by decide)) (by decide)) (by decide))
        · obtain ⟨q, q1, q2⟩ := h.bow
          have q2 : F 4 = nI q := q2
          refine ⟨q - 1, by omega, ?_⟩
          show upd (upd F 4 (F 4 - 1)) 6 (F 6 + 1) 4 = nI (q - 1)
          rw [upd_ne (by decide), upd_same, q2, show (1 : Int32) = nI 1 from rfl, nI_sub]
          rw [q2] at hb
          exact Nat.pos_of_ne_zero (fun z => by subst z; exact absurd hb (by decide))
        · rw [up2_n (by decide), up2_n (by decide), up2_n (by decide)]
        · rw [up2_n (by decide), up2_n (by decide), up2_n (by decide)]
        · rw [up2_n (by decide), up2_n (by decide), up2_n (by decide)]
      · exact h
    · exact h
  · exact h
theorem Iv_wait {cnt k : Nat} {lo hi : Nat → Nat} {F G : Nat → Int32} {S : Nat → Nat → Int32} (h : IvC cnt lo hi (F, G, S)) : IvC cnt lo hi (F, G, wiS S k) := by
  unfold wiS
  split
  · exact h
  · split
    · exact h
    · exact h.seat rfl rfl h.bow h.g1 (fun j _ => rfl) (fun j => by rw [up2_n (by decide), up2_n (by decide), up2_n (by decide)]) (fun j => by rw [up2_n (by decide), up2_n (by decide), up2_n (by decide)]) (fun j => by rw [up2_n (by decide), up2_n (by decide), up2_n (by decide)]) (how_o (how_o (how_o h.how (by decide)) (by decide)) (by decide)) (mea_o (mea_o (mea_o h.mea (by decide)) (by decide)) (by decide))
theorem itr_J {α : Type} {f : Nat → α → α} {I : Nat → α → Prop} {n : Nat} (h : ∀ k a, k < n → I k a → I (k + 1) (f k a)) : ∀ a, I 0 a → I n (itr f n a) := by
  intro a h0
  have g : ∀ m, m ≤ n → I m (itr f m a) := by
    intro m
    induction m with
    | zero => intro _; exact h0
    | succ m ih => intro hm; rw [itr_s]; exact h m _ (by omega) (ih (by omega))
  exact g n (Nat.le_refl n)
theorem Iv_tick {cnt : Nat} {lo hi : Nat → Nat} {s : Tb} (h : IvC cnt lo hi s) : IvC cnt lo (fun k => hi k + 1) (tickF cnt s) := by
  obtain ⟨F, G, S⟩ := s
  unfold tickF
  dsimp only
  have h0 : IvC cnt lo hi (upd F 5 (F 5 + 1), G, S) := h.seat rfl rfl h.bow h.g1 (fun _ _ => rfl) (fun _ => rfl) (fun _ => rfl) (fun _ => rfl) h.how h.mea
  have h1 := itr_J (I := fun k (s : Tb) => IvC cnt lo (fun j => if j < k then hi j + 1 else hi j) s) (f := fun k (s : Tb) => ((s.1, thG cnt s.2.1 s.2.2 k, thS s.2.2 k) : Tb)) (n := cnt) (fun k a hk ha => (Iv_think ha hk).up (fun _ _ => Nat.le_refl _) (fun j _ => by
    unfold hU
    dsimp only
    by_cases e : j = k
    · rw [if_pos e, if_neg (by omega), if_pos (by omega)]; omega
    · rw [if_neg e]
      by_cases e2 : j < k
      · rw [if_pos e2, if_pos (by omega)]; omega
      · rw [if_neg e2, if_neg (by omega)]; omega)) (upd F 5 (F 5 + 1), G, S) (h0.up (fun _ _ => Nat.le_refl _) (fun j _ => by rw [if_neg (by omega)]; exact Nat.le_refl _))
  generalize itr (fun k (s : Tb) => ((s.1, thG cnt s.2.1 s.2.2 k, thS s.2.2 k) : Tb)) cnt (upd F 5 (F 5 + 1), G, S) = a at h1 ⊢
  have h2 : IvC cnt lo (fun k => hi k + 1) a := h1.up (fun _ _ => Nat.le_refl _) (fun j hj => by rw [if_pos hj]; exact Nat.le_refl _)
  obtain ⟨aF, aG, aS⟩ := a
  have h3 := itr_J (I := fun _ (S : Nat → Nat → Int32) => IvC cnt lo (fun k => hi k + 1) (aF, aG, S)) (f := fun _ S => gvF cnt aF S) (n := 8) (fun k a _ ha => Iv_give ha) aS h2
  have h4 := itr_J (I := fun _ (s : Tb) => IvC cnt lo (fun k => hi k + 1) s) (f := tkF cnt) (n := cnt) (fun k a hk ha => Iv_tkB (Iv_tkA ha hk) hk) _ h3
  dsimp only
  generalize itr (tkF cnt) cnt (aF, aG, itr (fun _ S => gvF cnt aF S) 8 aS) = c at h4 ⊢
  obtain ⟨cF, cG, cS⟩ := c
  exact itr_J (I := fun _ (S : Nat → Nat → Int32) => IvC cnt lo (fun k => hi k + 1) (cF, cG, S)) (f := fun k S => wiS S k) (n := cnt) (fun k a _ ha => Iv_wait ha) cS h4
theorem Iv_tks {cnt m : Nat} {lo hi : Nat → Nat} {s : Tb} (h : IvC cnt lo hi s) : IvC cnt lo (fun k => hi k + m) (tksF cnt m s) :=
  itr_J (I := fun j (s : Tb) => IvC cnt lo (fun k => hi k + j) s) (f := fun _ s => tickF cnt s) (n := m) (fun k a _ ha => (Iv_tick ha)) s h
