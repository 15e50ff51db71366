/-! ===== the other queries ===== -/
theorem most_ex {S : Nat → Nat → Int32} {B : Nat} : ∀ {m : Nat}, (∀ k, k < m → ∃ q : Nat, q ≤ B ∧ S k 5 = nI q) → ∃ q : Nat, q ≤ B ∧ itr (mostMealsF S) m 0 = nI q := by
  intro m
  induction m with
  | zero => intro _; exact ⟨0, Nat.zero_le B, rfl⟩
  | succ m ih =>
    intro h
    obtain ⟨q, q1, q2⟩ := ih fun k hk => h k (by omega)
    obtain ⟨r, r1, r2⟩ := h m (by omega)
    rw [itr_s, q2]
    show ∃ q' : Nat, q' ≤ B ∧ imx (nI q) (S m 5) = nI q'
    rw [r2]
    unfold imx
    split
    · exact ⟨r, r1, rfl⟩
    · exact ⟨q, q1, rfl⟩
theorem few_ex {S : Nat → Nat → Int32} {B cnt : Nat} (h : ∀ k, k < cnt → ∃ q : Nat, q ≤ B ∧ S k 5 = nI q) : ∃ q : Nat, q ≤ B ∧ fewF cnt S = nI q := by
  unfold fewF
  split
  · exact ⟨0, Nat.zero_le B, rfl⟩
  · rename_i hc
    have g : ∀ m, m ≤ cnt - 1 → ∃ q : Nat, q ≤ B ∧ itr (fun k a => imn a (S (k + 1) 5)) m (S 0 5) = nI q := by
      intro m
      induction m with
      | zero => intro _; exact h 0 (by omega)
      | succ m ih =>
        intro hm
        obtain ⟨q, q1, q2⟩ := ih (by omega)
        obtain ⟨r, r1, r2⟩ := h (m + 1) (by omega)
        rw [itr_s, q2, r2]
        unfold imn
        split
        · exact ⟨r, r1, rfl⟩
        · exact ⟨q, q1, rfl⟩
    exact g (cnt - 1) (Nat.le_refl _)
theorem mwV_n {s : Tb} : n64 (mwV s) = true := by
  unfold mwV
  split
  · decide +kernel
  · rename_i h
    exact n64_mean h
theorem faV_n {s : Tb} {B : Nat} (hg : Iv B s) (hB : B ≤ 2 ^ 24) : n32 (faV s) = true := by
  unfold faV
  split
  · decide +kernel
  · rename_i h
    have hm : ∀ k, k < cntOf s → ∃ q : Nat, q ≤ B ∧ s.2.2 k 5 = nI q := fun k hk => (hg.mea k hk).imp fun q z => ⟨z.2.1, z.2.2⟩
    obtain ⟨q, q1, q2⟩ := most_ex hm
    obtain ⟨r, r1, r2⟩ := few_ex hm
    rw [q2] at h ⊢
    rw [r2]
    refine n32_fair h ?_ ?_
    · rw [nI_toInt (by omega)]; omega
    · rw [nI_toInt (by omega)]; omega
section QRY2
variable {X : Cxt} {w w0 : Wld} {n x m N B : Nat} {Q : (Option Value ⊕ String) → Wld → Option Nat → Prop} {s : St}
theorem A_meanWait (hg : Iv B s.cur) (h : AW x w0 m N s w n) (hQ : ∀ w n, AW x w0 m (N + 1) s w n → Q (.inl (some (.double (mwV s.cur)))) w (some n)) : Ev X 108 0 [some (.ref x), none] [] w (some n) 0 0 Q := by
  obtain ⟨lt, w1, T, pa, be, Z, P, C, D, R, Lt, rfl, hw, a⟩ := h
  have hc : (T 0).1 2 = nI (cntOf s.cur) := by rw [a.hT]; exact hg.c2
  refine lh_meanWait cz ((sw_meanWait hc hg.c8 (fun z => n64_mean z)).mpr ?_)
  rw [a.hT]
  unfold mwV at hQ
  by_cases e : itr (mealsOfAllF s.cur.2.2) (cntOf s.cur) 0 = 0
  · rw [if_pos e] at hQ ⊢
    exact ⟨rfl, hQ _ _ ⟨lt, w1, T, pa, be, Z, P, C, D, R, Lt, rfl, hw, a.n1⟩⟩
  · rw [if_neg e] at hQ ⊢
    exact hQ _ _ ⟨lt, w1, T, pa, be, Z, P, C, D, R, Lt, rfl, hw, a.up (Nat.le_succ N)⟩
theorem A_fairness (hg : Iv B s.cur) (hB : B ≤ 2 ^ 24) (h : AW x w0 m N s w n) (hQ : ∀ w n, AW x w0 m (N + 1) s w n → Q (.inl (some (.float (faV s.cur)))) w (some n)) : Ev X 112 0 [some (.ref x), none] [] w (some n) 0 0 Q := by
  have hn := faV_n hg hB
  obtain ⟨lt, w1, T, pa, be, Z, P, C, D, R, Lt, rfl, hw, a⟩ := h
  have hc : (T 0).1 2 = nI (cntOf s.cur) := by rw [a.hT]; exact hg.c2
  unfold faV at hQ hn
  refine lh_fairness cz ((sw_fairness hc hg.c8 (fun z => ?_)).mpr ?_)
  · rw [a.hT] at z ⊢
    rw [if_neg z] at hn
    exact hn
  rw [a.hT]
  by_cases e : itr (mostMealsF s.cur.2.2) (cntOf s.cur) 0 = 0
  · rw [if_pos e] at hQ ⊢
    exact ⟨rfl, hQ _ _ ⟨lt, w1, T, pa, be, Z, P, C, D, R, Lt, rfl, hw, a.n1⟩⟩
  · rw [if_neg e] at hQ ⊢
    exact hQ _ _ ⟨lt, w1, T, pa, be, Z, P, C, D, R, Lt, rfl, hw, a.up (Nat.le_succ N)⟩
theorem AWd.mix10 {lt : List Int32} {T : Nat → Tb} {pa : Nat → Nat} {be : Nat} {Z P C R Lt : Nat → Int32} (a : AWd m N s lt T pa be Z P C R Lt n) : mixT T 1 0 1 = s.cur := by
  rw [a.mix (by decide) (by decide), updT_s, a.hT]
theorem A_mealsIn (hg : Iv B s.cur) {k : Nat} (hk : k < 100) (h : AW x w0 m N s w n) (hQ : ∀ w n, AW x w0 m (N + 1) s w n → Q (.inl (some (.int (miV s.cur k)))) w (some n)) : Ev X 135 0 [some (.ref x), some (.int (nI k)), none] [] w (some n) 0 0 Q := by
  obtain ⟨lt, w1, T, pa, be, Z, P, C, D, R, Lt, rfl, hw, a⟩ := h
  have hc : (T 0).1 2 = nI (cntOf s.cur) := by rw [a.hT]; exact hg.c2
  refine lh_mealsIn cz (sw_mealsIn hc hg.c8 hk (fun T2 h2 h3 => ?_))
  rw [a.mix10] at h3 ⊢
  rw [a.hT]
  refine hQ _ _ ⟨lt, w1, T2, pa, be, Z, P, C, D, R, Lt, rfl, hw, (a.up (Nat.le_succ N)).ahead h2 (fun j hj => ?_)⟩
  rw [h3 j (Nat.le_trans hg.c8 hj)]
  exact hg.g3 j hj
theorem A_mealsIn_bad {y : Int32} (hy : y < 0 ∨ 99 < y) (h : AW x w0 m N s w n) (hQ : ∀ w n, AW x w0 m (N + 1) s w n → Q (.inl (some (.int (-1001)))) w (some n)) : Ev X 135 0 [some (.ref x), some (.int y), none] [] w (some n) 0 0 Q := by
  obtain ⟨lt, w1, T, pa, be, Z, P, C, D, R, Lt, rfl, hw, a⟩ := h
  exact lh_mealsIn cz ((sw_mealsIn_bad hy).mpr ⟨_, List.mem_cons_self, hQ _ _ ⟨lt, w1, T, pa, be, Z, P, C, D, R, Lt, rfl, hw, a.n1⟩⟩)
theorem A_stuckIn (hg : Iv B s.cur) (h : AW x w0 m N s w n) (hQ : ∀ w n, AW x w0 m (N + 1) s w n → Q (.inl (some (.int (siV s.cur)))) w (some n)) : Ev X 137 0 [some (.ref x), none] [] w (some n) 0 0 Q := by
  obtain ⟨lt, w1, T, pa, be, Z, P, C, D, R, Lt, rfl, hw, a⟩ := h
  refine lh_stuckIn cz (sw_stuckIn (cnt := cntOf s.cur) ⟨by rw [a.hT]; exact hg.c2, by rw [a.hT]; exact hg.g1⟩ hg.c8 (fun T2 h2 h3 => ?_))
  rw [a.mix10] at h3 ⊢
  have ah : ∀ {N2 n2}, AWd m N2 s lt T pa be Z P C R Lt n2 → AWd m N2 s lt T2 pa be Z P C R Lt n2 := fun b => b.ahead h2 (fun j hj => by
    rw [h3 j (Nat.le_trans hg.c8 hj)]
    exact hg.g3 j hj)
  unfold siV at hQ
  cases e : (if cntOf s.cur < 2 then none else siF (cntOf s.cur) 100 0 s.cur) with
  | none =>
    rw [e] at hQ
    exact ⟨_, List.mem_cons_self, hQ _ _ ⟨lt, w1, T2, pa, be, Z, P, C, D, R, Lt, rfl, hw, ah a.n1⟩⟩
  | some i =>
    rw [e] at hQ
    exact hQ _ _ ⟨lt, w1, T2, pa, be, Z, P, C, D, R, Lt, rfl, hw, ah (a.up (Nat.le_succ N))⟩
theorem A_eaters (hg : Iv B s.cur) (h : AW x w0 m N s w n) (hQ : ∀ w n, AW x w0 m N s w n → Q (.inl (some (.int (itr (eatF s.cur.2.2) (cntOf s.cur) 0)))) w (some n)) : Ev X 97 0 [some (.ref x), none, none] [] w (some n) 0 0 Q := by
  obtain ⟨lt, w1, T, pa, be, Z, P, C, D, R, Lt, rfl, hw, a⟩ := h
  have hc : (T 0).1 2 = nI (cntOf s.cur) := by rw [a.hT]; exact hg.c2
  refine (sw_eaters hc hg.c8).mpr ?_
  rw [a.hT]
  exact hQ _ _ ⟨lt, w1, T, pa, be, Z, P, C, D, R, Lt, rfl, hw, a⟩
theorem A_ring (hg : Iv B s.cur) (h : AW x w0 m N s w n) (hQ : ∀ w n, AW x w0 m N s w n → Q (.inl (some (.int (itr (ringF (cntOf s.cur) s.cur.2.1 s.cur.2.2) (cntOf s.cur) 0)))) w (some n)) : Ev X 130 0 [some (.ref x)] [] w (some n) 0 0 Q := by
  obtain ⟨lt, w1, T, pa, be, Z, P, C, D, R, Lt, rfl, hw, a⟩ := h
  have hc : (T 0).1 2 = nI (cntOf s.cur) := by rw [a.hT]; exact hg.c2
  refine (sw_ring (by rw [a.hT]; exact hg.g1) hc hg.c8).mpr ?_
  rw [a.hT]
  exact hQ _ _ ⟨lt, w1, T, pa, be, Z, P, C, D, R, Lt, rfl, hw, a⟩
theorem A_stuck (hg : Iv B s.cur) (h : AW x w0 m N s w n) (hQ : ∀ w n, AW x w0 m N s w n → Q (.inl (some (.int (stuI (cntOf s.cur) s.cur.1 s.cur.2.1 s.cur.2.2)))) w (some n)) : Ev X 98 0 [some (.ref x)] [] w (some n) 0 0 Q := by
  obtain ⟨lt, w1, T, pa, be, Z, P, C, D, R, Lt, rfl, hw, a⟩ := h
  have hc : (T 0).1 2 = nI (cntOf s.cur) := by rw [a.hT]; exact hg.c2
  refine (sw_stuck (by rw [a.hT]; exact hg.g1) hc hg.c8).mpr ?_
  rw [a.hT]
  exact hQ _ _ ⟨lt, w1, T, pa, be, Z, P, C, D, R, Lt, rfl, hw, a⟩
theorem A_stuckAgain (hg : Iv B s.cur) (h : AW x w0 m N s w n) (hQ : ∀ w n, AW x w0 m N s w n → Q (.inl (some (.int (remI (cntOf s.cur) s.cur.1 s.cur.2.1 s.cur.2.2)))) w (some n)) : Ev X 133 0 [some (.ref x)] [] w (some n) 0 0 Q := by
  obtain ⟨lt, w1, T, pa, be, Z, P, C, D, R, Lt, rfl, hw, a⟩ := h
  have hc : (T 0).1 2 = nI (cntOf s.cur) := by rw [a.hT]; exact hg.c2
  refine (sw_stuckAgain hc hg.c8).mpr ?_
  rw [a.hT]
  exact hQ _ _ ⟨lt, w1, T, pa, be, Z, P, C, D, R, Lt, rfl, hw, a⟩
theorem A_rounds (hg : Iv B s.cur) (h : AW x w0 m N s w n) (hQ : ∀ w n, AW x w0 m N s w n → Q (.inl (some (.int (fewF (cntOf s.cur) s.cur.2.2)))) w (some n)) : Ev X 138 0 [some (.ref x)] [] w (some n) 0 0 Q := by
  obtain ⟨lt, w1, T, pa, be, Z, P, C, D, R, Lt, rfl, hw, a⟩ := h
  have hc : (T 0).1 2 = nI (cntOf s.cur) := by rw [a.hT]; exact hg.c2
  refine (sw_rounds hc hg.c8).mpr ?_
  rw [a.hT]
  exact hQ _ _ ⟨lt, w1, T, pa, be, Z, P, C, D, R, Lt, rfl, hw, a⟩
theorem A_isSure (hg : Iv B s.cur) (h : AW x w0 m N s w n) (hQ : ∀ w n, AW x w0 m N s w n → Q (.inl (some (.int (surF (cntOf s.cur) s.cur)))) w (some n)) : Ev X 83 0 [some (.ref x), none] [] w (some n) 0 0 Q := by
  obtain ⟨lt, w1, T, pa, be, Z, P, C, D, R, Lt, rfl, hw, a⟩ := h
  have hc : (T 0).1 2 = nI (cntOf s.cur) := by rw [a.hT]; exact hg.c2
  refine (sw_isSure hc hg.c8).mpr ?_
  rw [a.hT]
  exact hQ _ _ ⟨lt, w1, T, pa, be, Z, P, C, D, R, Lt, rfl, hw, a⟩
theorem A_faultPosition (h : AW x w0 m N s w n) (hQ : ∀ w n, AW x w0 m N s w n → Q (.inl (some (.int s.flt))) w (some n)) : Ev X 77 0 [some (.ref x)] [] w (some n) 0 0 Q := by
  obtain ⟨lt, w1, T, pa, be, Z, P, C, D, R, Lt, rfl, hw, a⟩ := h
  refine sw_faultPosition.mpr ?_
  rw [a.hf]
  exact hQ _ _ ⟨lt, w1, T, pa, be, Z, P, C, D, R, Lt, rfl, hw, a⟩
/-! the line -/
def chO (v : Int32) : Prop := okr (some .char) v = true
theorem ltH_ok {h : Nat} (h5 : h < 5) : chO (ltH (nI h)) := by
  unfold ltH
  rw [nI_clamp (by omega)]
  exact (chr_how h h5).2.1
theorem dig_ok : ∀ k, k < 8 → chO (nI (48 + k)) := by unfold chO; decide +kernel
/-- two runs of letters agree so far, all of them letters -/
def Lag (s t : (Nat → Int32) × Nat) : Prop := s.2 = t.2 ∧ (∀ i, i < s.2 → s.1 i = t.1 i) ∧ ∀ i, i < s.2 → chO (s.1 i)
theorem Lag.wr {s t : (Nat → Int32) × Nat} {v : Int32} (h : Lag s t) (hv : chO v) : Lag (wrL v s) (wrL v t) := by
  obtain ⟨h1, h2, h3⟩ := h
  unfold wrL
  refine ⟨by rw [h1], fun i hi => ?_, fun i hi => ?_⟩
  · dsimp only at hi ⊢
    rw [← h1]
    unfold upd
    split
    · rfl
    · exact h2 i (by omega)
  · dsimp only at hi ⊢
    unfold upd
    split
    · exact hv
    · exact h3 i (by omega)
theorem Lag.se {s t : (Nat → Int32) × Nat} {S : Nat → Nat → Int32} {k : Nat} {b : Bool} (h : Lag s t) (hk : k < 8) (hh : ∃ q : Nat, q < 5 ∧ S k 3 = nI q) : Lag (seL S k b s) (seL S k b t) := by
  obtain ⟨q, q1, q2⟩ := hh
  have g : Lag (wrL (ltH (S k 3)) (wrL (if S k 0 = 0 then 108 else 114) (wrL (nI (48 + k)) s))) (wrL (ltH (S k 3)) (wrL (if S k 0 = 0 then 108 else 114) (wrL (nI (48 + k)) t))) := by
    refine ((h.wr (dig_ok k hk)).wr ?_).wr (by rw [q2]; exact ltH_ok q1)
    unfold chO
    split <;> decide
  unfold seL
  cases b with
  | true => exact g.wr (by unfold chO; decide)
  | false => exact g
theorem Lag.ln {S : Nat → Nat → Int32} {st : Int32} {cnt : Nat} (h8 : cnt ≤ 8) (hh : ∀ k, k < cnt → ∃ q : Nat, q < 5 ∧ S k 3 = nI q) {L1 L2 : Nat → Int32} : Lag (itr (lnL S st) cnt (L1, 0)) (itr (lnL S st) cnt (L2, 0)) := by
  have g : ∀ m, m ≤ cnt → Lag (itr (lnL S st) m (L1, 0)) (itr (lnL S st) m (L2, 0)) := by
    intro m
    induction m with
    | zero => intro _; exact ⟨rfl, fun i hi => absurd hi (Nat.not_lt_zero i), fun i hi => absurd hi (Nat.not_lt_zero i)⟩
    | succ m ih =>
      intro hm
      rw [itr_s, itr_s]
      unfold lnL
      refine Lag.se ?_ (by omega) (hh m (by omega))
      split
      · exact ih (by omega)
      · exact (ih (by omega)).wr (by unfold chO; decide)
  exact g cnt (Nat.le_refl cnt)
def lnP (s : Tb) (L : Nat → Int32) : (Nat → Int32) × Nat := itr (lnL s.2.2 (stuI (cntOf s) s.1 s.2.1 s.2.2)) (cntOf s) (L, 0)
/-- the line's letters -/
def lnl (s : Tb) : List Int32 := (List.range (lnP s (fun _ => 0)).2).map (lnP s (fun _ => 0)).1
theorem lnl_len {s : Tb} : (lnl s).length = (lnP s (fun _ => 0)).2 := by unfold lnl; rw [List.length_map, List.length_range]
theorem A_line (hX : LitX X) (hg : Iv B s.cur) (h : AW x w0 m N s w n) (hQ : ∀ w n, AWL x w0 m N s (lnl s.cur) w n → Q (.inl (some (.int (nI (lnl s.cur).length)))) w (some n)) : Ev X 93 0 [some (.ref x), none, none] [] w (some n) 0 0 Q := by
  obtain ⟨lt, w1, T, pa, be, Z, P, C, D, R, Lt, rfl, hw, a⟩ := h
  have hc : (T 0).1 2 = nI (cntOf s.cur) := by rw [a.hT]; exact hg.c2
  refine (sw_line hX (by rw [a.hT]; exact hg.g1) hc hg.c8 (by rw [a.hT]; exact hg.how)).mpr ?_
  rw [a.hT]
  obtain ⟨g1, g2, g3⟩ := Lag.ln (st := stuI (cntOf s.cur) s.cur.1 s.cur.2.1 s.cur.2.2) hg.c8 hg.how (L1 := Lt) (L2 := fun _ => 0)
  have gl := lnL_le (S := s.cur.2.2) (st := stuI (cntOf s.cur) s.cur.1 s.cur.2.1 s.cur.2.2) (cntOf s.cur) Lt
  have e1 : (itr (lnL s.cur.2.2 (stuI (cntOf s.cur) s.cur.1 s.cur.2.1 s.cur.2.2)) (cntOf s.cur) (Lt, 0)).2 = (lnl s.cur).length := by rw [lnl_len]; exact g1
  have c8 := hg.c8
  have hg1 : (lnP s.cur (fun _ => 0)).1 = (itr (lnL s.cur.2.2 (stuI (cntOf s.cur) s.cur.1 s.cur.2.1 s.cur.2.2)) (cntOf s.cur) (fun _ => 0, 0)).1 := rfl
  rw [e1] at g2 g3 gl ⊢
  exact hQ _ _ ⟨w1, T, pa, be, _, P, C, D, R, _, rfl, hw, (AWd.mk a.mn a.nN a.hP ((upd_ne (by decide)).trans a.hZ5) a.h8 a.hT a.hh (by rw [show upd Z 11 (nI (lnl s.cur).length) 3 = Z 3 from upd_ne (by decide)]; exact a.hs) ((upd_ne (by decide)).trans a.hf) a.hR a.hp a.hc a.h60 (upd_same) (fun k hk => by
      rw [g2 k hk]
      unfold lnl
      rw [List.getElem?_map, List.getElem?_range (by rw [← lnl_len]; exact hk)]
      rfl) (by omega) (g3) a.hg)⟩
theorem A_character {lt : List Int32} {k : Nat} (hk : k < lt.length) (h : AWL x w0 m N s lt w n) (hQ : ∀ w n, AWL x w0 m (N + 1) s lt w n → Q (.inl (some (.int (lt.getD k 0)))) w (some n)) : Ev X 95 0 [some (.ref x), some (.int (nI k)), none] [] w (some n) 0 0 Q := by
  obtain ⟨w1, T, pa, be, Z, P, C, D, R, Lt, rfl, hw, a⟩ := h
  have h40 := a.h40
  refine lh_character cz ((sw_character a.hz a.h40 a.hk).mpr ?_)
  have e : ¬ hasS (nI lt.length) (nI k) = 0 := by
    unfold hasS
    rw [if_neg (nI_pos (by omega)), if_pos (nI_lt hk (by omega))]
    decide
  rw [if_neg e, nI_clamp (by omega)]
  have e2 : lt.getD k 0 = Lt k := by rw [List.getD_eq_getElem?_getD, a.hl k hk]; rfl
  rw [e2] at hQ
  exact hQ _ _ ⟨w1, T, pa, be, Z, P, C, D, R, Lt, rfl, hw, a.up (Nat.le_succ N)⟩
theorem A_character_out {lt : List Int32} {y : Int32} (hy : hasS (nI lt.length) y = 0) (h : AWL x w0 m N s lt w n) (hQ : ∀ w n, AWL x w0 m (N + 1) s lt w n → Q (.inl (some (.int (-1001)))) w (some n)) : Ev X 95 0 [some (.ref x), some (.int y), none] [] w (some n) 0 0 Q := by
  obtain ⟨w1, T, pa, be, Z, P, C, D, R, Lt, rfl, hw, a⟩ := h
  refine lh_character cz ((sw_character a.hz a.h40 a.hk).mpr ?_)
  rw [if_pos hy]
  exact ⟨_, List.mem_cons_self, hQ _ _ ⟨w1, T, pa, be, Z, P, C, D, R, Lt, rfl, hw, a.n1⟩⟩
theorem A_character_no {y : Int32} (hy : y < 0 ∨ ¬ y < 40) (h : AW x w0 m N s w n) (hQ : ∀ w n, AW x w0 m (N + 1) s w n → Q (.inl (some (.int (-1001)))) w (some n)) : Ev X 95 0 [some (.ref x), some (.int y), none] [] w (some n) 0 0 Q := by
  obtain ⟨lt, h⟩ := h
  have h40 : lt.length ≤ 40 := by
    obtain ⟨w1, T, pa, be, Z, P, C, D, R, Lt, rfl, hw, a⟩ := h
    exact a.h40
  refine A_character_out ?_ h (fun w n h => hQ w n h.aw)
  unfold hasS
  split
  · rfl
  · rename_i h0
    rw [if_neg]
    intro z
    rcases hy with y1 | y1
    · exact h0 y1
    · obtain ⟨j, hj, rfl⟩ := nI_of h0
      exact y1 (show nI j < nI 40 from nI_lt (by
        have : j < lt.length := Nat.lt_of_not_le (fun q => nI_nlt q hj z)
        omega) (by decide))
/-! the reason -/
theorem A_reason {y : Int32} (h0 : ¬ y < 0) (h2 : ¬ 2 < y) (hw : s.why.1 ≠ 0) (h : AW x w0 m N s w n) (hQ : ∀ w n, AW x w0 m (N + 1) s w n → Q (.inl (some (.int (if y = 0 then s.why.1 else if y = 1 then s.why.2.1 else s.why.2.2)))) w (some n)) : Ev X 19 0 [some (.ref x), some (.int y), none] [] w (some n) 0 0 Q := by
  obtain ⟨lt, w1, T, pa, be, Z, P, C, D, R, Lt, rfl, hw1, a⟩ := h
  refine lh_reason cz (sw_reason.mpr ?_)
  obtain ⟨r1, r2, r3⟩ := a.hR
  rw [if_neg h0, if_neg h2, r1, if_neg hw, r2, r3]
  exact hQ _ _ ⟨lt, w1, T, pa, be, Z, P, C, D, R, Lt, rfl, hw1, a.up (Nat.le_succ N)⟩
theorem A_reason_bad {y : Int32} (hy : y < 0 ∨ 2 < y) (h : AW x w0 m N s w n) (hQ : ∀ w n, AW x w0 m (N + 1) s w n → Q (.inl (some (.int (-1001)))) w (some n)) : Ev X 19 0 [some (.ref x), some (.int y), none] [] w (some n) 0 0 Q := by
  obtain ⟨lt, w1, T, pa, be, Z, P, C, D, R, Lt, rfl, hw1, a⟩ := h
  refine lh_reason cz (sw_reason.mpr ?_)
  have q : ∃ k, (IAE, k) ∈ [(IAE, (-1001 : Int32)), (NSE, -1002)] ∧ Q (.inl (some (.int k))) (SW w1 x T pa be Z P C D R Lt) (some (n + 1)) := ⟨_, List.mem_cons_self, hQ _ _ ⟨lt, w1, T, pa, be, Z, P, C, D, R, Lt, rfl, hw1, a.n1⟩⟩
  by_cases h0 : y < 0
  · rw [if_pos h0]; exact q
  · rw [if_neg h0, if_pos (hy.resolve_left h0)]; exact q
end QRY2
