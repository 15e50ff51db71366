/-! ===== changes, as the law sees them ===== -/
def pushH (h : List Tb) (t : Tb) : List Tb := if h.length = 8 then h.drop 1 ++ [t] else h ++ [t]
theorem pushH_len {h : List Tb} {t : Tb} (h8 : h.length ≤ 8) : (pushH h t).length = kpC h.length := by
  unfold pushH kpC
  by_cases e : h.length = 8
  · rw [if_pos e, if_pos e, List.length_append, List.length_drop, e]; rfl
  · rw [if_neg e, if_neg e, List.length_append]; rfl
def chS (s : St) : (Int32 × Int32) ⊕ (Int32 × Tb) → St
  | .inl r => (s.cur, s.hist, s.sav, (r.1, r.2, 0), s.flt, s.txt)
  | .inr r => (r.2, pushH s.hist s.cur, s.sav, s.why, s.flt, s.txt)
def chV : (Int32 × Int32) ⊕ (Int32 × Tb) → Int32
  | .inl _ => -1001
  | .inr r => r.1
section CHS
variable {m N n : Nat} {s : St} {lt : List Int32} {T : Nat → Tb} {pa : Nat → Nat} {be : Nat} {Z P C R Lt : Nat → Int32}
theorem AWd.done (a : AWd m N s lt T pa be Z P C R Lt n) {s2 : Tb} (h2 : ∀ j, 8 ≤ j → s2.2.1 j = 0) : AWd m N (s2, pushH s.hist s.cur, s.sav, s.why, s.flt, s.txt) lt (updT (mixT T be 0) 0 s2) (kpPa s.hist.length pa be) (kpBe s.hist.length pa) (upd Z 5 (nI (kpC s.hist.length))) P C R Lt n := by
  obtain ⟨p1, p2, p3, p4⟩ := a.hP
  have h8 := a.h8
  have hl := pushH_len (t := s.cur) h8
  have h12 : kpC s.hist.length ≤ 8 := by unfold kpC; split <;> omega
  rw [a.mix p2.2 (by decide)]
  refine ⟨a.mn, a.nN, a.hP.kp h8, ?_, ?_, updT_s, ?_, ?_, ?_, a.hR, a.hp, a.hc, a.h60, ?_, a.hl, a.h40, a.hk, ?_⟩
  · show upd Z 5 (nI (kpC s.hist.length)) 5 = nI (pushH s.hist s.cur).length
    rw [hl]; exact upd_same
  · show (pushH s.hist s.cur).length ≤ 8
    rw [hl]; exact h12
  · show ∀ k, k < (pushH s.hist s.cur).length → (pushH s.hist s.cur)[k]? = some (updT (updT T be (T 0)) 0 s2 (kpPa s.hist.length pa be k))
    rw [hl]
    intro k hk
    unfold pushH kpPa
    by_cases e : s.hist.length = 8
    · rw [if_pos e, if_pos e]
      have hk8 : k < 8 := by omega
      by_cases k7 : k < 7
      · rw [if_pos k7, List.getElem?_append_left (by rw [List.length_drop, e]; omega), List.getElem?_drop, Nat.add_comm, a.hh (k + 1) (by omega), updT_o (by have := (p1 (k + 1) (by omega)).1; omega), updT_o (p4 (k + 1) (by omega))]
      · have e7 : k = 7 := by omega
        subst e7
        rw [if_neg (by decide), if_pos rfl, List.getElem?_append_right (by rw [List.length_drop, e]; decide), updT_o (by omega), updT_s, a.hT, List.length_drop, e]
        rfl
    · rw [if_neg e, if_neg e]
      unfold kpC at hk
      rw [if_neg e] at hk
      by_cases ek : k = s.hist.length
      · rw [ek, List.getElem?_append_right (Nat.le_refl _), Nat.sub_self, show updT pa s.hist.length be s.hist.length = be from updT_s, updT_o (by omega), updT_s, a.hT]
        rfl
      · rw [List.getElem?_append_left (by omega), a.hh k (by omega), show updT pa s.hist.length be k = pa k from updT_o ek, updT_o (by have := (p1 k (by omega)).1; omega), updT_o (p4 k (by omega))]
  · rw [updT_o (by decide), updT_o (by omega), show upd Z 5 (nI (kpC s.hist.length)) 3 = Z 3 from upd_ne (by decide)]
    exact a.hs
  · exact (upd_ne (by decide)).trans a.hf
  · exact (upd_ne (by decide)).trans a.hz
  · intro i hi j hj
    unfold updT
    split
    · exact h2 j hj
    · split
      · exact a.hg 0 (by decide) j hj
      · exact a.hg i hi j hj
theorem AWd.tabs (a : AWd m N s lt T pa be Z P C R Lt n) : AWd m N s lt (mixT T be 0) pa be Z P C R Lt n := by
  obtain ⟨p1, p2, p3, p4⟩ := a.hP
  have h8 := a.h8
  rw [a.mix p2.2 (by decide)]
  exact (AWd.mk a.mn a.nN a.hP a.hZ5 a.h8 ((updT_o (by omega)).trans a.hT) (fun k hk => by rw [updT_o (p4 k (by omega))]; exact a.hh k hk) (by rw [updT_o (by omega)]; exact a.hs) a.hf a.hR a.hp a.hc a.h60 a.hz a.hl a.h40 a.hk (fun i hi j hj => by
      unfold updT
      split
      · exact a.hg 0 (by decide) j hj
      · exact a.hg i hi j hj))
theorem AWd.refs (a : AWd m N s lt T pa be Z P C R Lt n) {u v c : Int32} : AWd m N (s.cur, s.hist, s.sav, (u, v, c), s.flt, s.txt) lt T pa be Z P C (upd (upd (upd R 0 u) 1 v) 2 c) Lt n :=
  (AWd.mk a.mn a.nN a.hP a.hZ5 a.h8 a.hT a.hh a.hs a.hf (⟨rfl, rfl, rfl⟩) a.hp a.hc a.h60 a.hz a.hl a.h40 a.hk a.hg)
end CHS
section CHG2
variable {X : Cxt} {w w0 w1 : Wld} {n x m N B : Nat} {Q : (Option Value ⊕ String) → Wld → Option Nat → Prop} {s : St} {lt : List Int32} {T : Nat → Tb} {pa : Nat → Nat} {be : Nat} {Z P C D R Lt : Nat → Int32}
theorem A_aft (a : AWd m N s lt T pa be Z P C R Lt n) (hw : ∀ a, a < m → w1 a = w0 a) {r : (Int32 × Int32) ⊕ (Int32 × Tb)} (hr : ∀ v s2, r = .inr (v, s2) → ∀ j, 8 ≤ j → s2.2.1 j = 0) (hQ : ∀ w n, AW x w0 m (N + 1) (chS s r) w n → Q (.inl (some (.int (chV r)))) w (some n)) : aft (KH Q [(UOE, -1001)]) w1 x T pa be Z P C D R Lt s.hist.length (some n) r := by
  cases r with
  | inl r =>
    obtain ⟨u, v⟩ := r
    exact ⟨_, List.mem_cons_self, hQ _ _ ⟨lt, w1, _, pa, be, Z, P, C, D, _, Lt, rfl, hw, a.tabs.refs.n1⟩⟩
  | inr r =>
    obtain ⟨v, s2⟩ := r
    exact hQ _ _ ⟨lt, w1, _, _, _, _, P, C, D, R, Lt, rfl, hw, (a.done (hr v s2 rfl)).up (Nat.le_succ N)⟩
theorem Iv.g3' {B : Nat} {s : Tb} (h : Iv B s) : ∀ j, 8 ≤ j → s.2.1 j = 0 := h.g3
theorem A_join (hg : Iv B s.cur) {p q r : Int32} (h : AW x w0 m N s w n) (hQ : ∀ w n, AW x w0 m (N + 1) (chS s (addF (cntOf s.cur) p q r s.cur)) w n → Q (.inl (some (.int (chV (addF (cntOf s.cur) p q r s.cur))))) w (some n)) : Ev X 79 0 [some (.ref x), some (.int p), some (.int q), some (.int r), none] [] w (some n) 0 0 Q := by
  obtain ⟨lt, w1, T, pa, be, Z, P, C, D, R, Lt, rfl, hw, a⟩ := h
  have hc : (T 0).1 2 = nI (cntOf s.cur) := by rw [a.hT]; exact hg.c2
  refine lh_join cz ((sw_join a.hZ5 a.h8 a.hP hc hg.c8 (fun v s2 e => ?_)).mpr ?_)
  · rw [a.hT] at e
    exact (add_inv hg e).1.m1
  · rw [a.hT]
    exact A_aft a hw (fun v s2 e => (add_inv hg e).2.g3') hQ
theorem A_leave (hg : Iv B s.cur) (h : AW x w0 m N s w n) (hQ : ∀ w n, AW x w0 m (N + 1) (chS s (remF (cntOf s.cur) s.cur)) w n → Q (.inl (some (.int (chV (remF (cntOf s.cur) s.cur))))) w (some n)) : Ev X 81 0 [some (.ref x), none] [] w (some n) 0 0 Q := by
  obtain ⟨lt, w1, T, pa, be, Z, P, C, D, R, Lt, rfl, hw, a⟩ := h
  have hc : (T 0).1 2 = nI (cntOf s.cur) := by rw [a.hT]; exact hg.c2
  refine lh_leave cz ((sw_leave a.hZ5 a.h8 a.hP hc hg.c8 (fun v s2 e => ?_)).mpr ?_)
  · rw [a.hT] at e
    exact (rem_inv hg e).1.m1
  · rw [a.hT]
    exact A_aft a hw (fun v s2 e => (rem_inv hg e).2.g3') hQ
theorem A_manner (hg : Iv B s.cur) {y p : Int32} (h : AW x w0 m N s w n) (hQ : ∀ w n, AW x w0 m (N + 1) (chS s (manX (cntOf s.cur) y p s.cur)) w n → Q (.inl (some (.int (chV (manX (cntOf s.cur) y p s.cur))))) w (some n)) : Ev X 142 0 [some (.ref x), some (.int y), some (.int p), none] [] w (some n) 0 0 Q := by
  obtain ⟨lt, w1, T, pa, be, Z, P, C, D, R, Lt, rfl, hw, a⟩ := h
  have hc : (T 0).1 2 = nI (cntOf s.cur) := by rw [a.hT]; exact hg.c2
  refine lh_manner cz ((sw_manner a.hZ5 a.h8 a.hP hc hg.c8 (fun v s2 e => ?_)).mpr ?_)
  · rw [a.hT] at e
    exact (man_inv hg e).1.m1
  · rw [a.hT]
    exact A_aft a hw (fun v s2 e => (man_inv hg e).2.g3') hQ
theorem A_clocks (hg : Iv B s.cur) {y p q : Int32} (h : AW x w0 m N s w n) (hQ : ∀ w n, AW x w0 m (N + 1) (chS s (cloX (cntOf s.cur) y p q s.cur)) w n → Q (.inl (some (.int (chV (cloX (cntOf s.cur) y p q s.cur))))) w (some n)) : Ev X 144 0 [some (.ref x), some (.int y), some (.int p), some (.int q), none] [] w (some n) 0 0 Q := by
  obtain ⟨lt, w1, T, pa, be, Z, P, C, D, R, Lt, rfl, hw, a⟩ := h
  have hc : (T 0).1 2 = nI (cntOf s.cur) := by rw [a.hT]; exact hg.c2
  refine lh_clocks cz ((sw_clocks a.hZ5 a.h8 a.hP hc hg.c8 (fun v s2 e => ?_)).mpr ?_)
  · rw [a.hT] at e
    exact (clo_inv hg e).1.m1
  · rw [a.hT]
    exact A_aft a hw (fun v s2 e => (clo_inv hg e).2.g3') hQ
theorem A_waiter (hg : Iv B s.cur) {y : Int32} (h : AW x w0 m N s w n) (hQ : ∀ w n, AW x w0 m (N + 1) (chS s (waiF y s.cur)) w n → Q (.inl (some (.int (chV (waiF y s.cur))))) w (some n)) : Ev X 104 0 [some (.ref x), some (.int y), none] [] w (some n) 0 0 Q := by
  obtain ⟨lt, w1, T, pa, be, Z, P, C, D, R, Lt, rfl, hw, a⟩ := h
  refine lh_waiter cz ((sw_waiter a.hZ5 a.h8 a.hP (fun v s2 e => ?_)).mpr ?_)
  · rw [a.hT] at e
    exact (wai_inv hg e).1.m1
  · rw [a.hT]
    exact A_aft a hw (fun v s2 e => (wai_inv hg e).2.g3') hQ
theorem A_bring (hg : Iv B s.cur) {y : Int32} (h : AW x w0 m N s w n) (hQ : ∀ w n, AW x w0 m (N + 1) (chS s (briF y s.cur)) w n → Q (.inl (some (.int (chV (briF y s.cur))))) w (some n)) : Ev X 17 0 [some (.ref x), some (.int y), none] [] w (some n) 0 0 Q := by
  obtain ⟨lt, w1, T, pa, be, Z, P, C, D, R, Lt, rfl, hw, a⟩ := h
  refine lh_bring cz ((sw_bring a.hZ5 a.h8 a.hP (fun v s2 e => ?_)).mpr ?_)
  · rw [a.hT] at e
    exact (bri_inv hg e).1.m1
  · rw [a.hT]
    exact A_aft a hw (fun v s2 e => (bri_inv hg e).2.g3') hQ
theorem A_take (hg : Iv B s.cur) {y : Int32} (h : AW x w0 m N s w n) (hQ : ∀ w n, AW x w0 m (N + 1) (chS s (takX (cntOf s.cur) y s.cur)) w n → Q (.inl (some (.int (chV (takX (cntOf s.cur) y s.cur))))) w (some n)) : Ev X 146 0 [some (.ref x), some (.int y), none] [] w (some n) 0 0 Q := by
  obtain ⟨lt, w1, T, pa, be, Z, P, C, D, R, Lt, rfl, hw, a⟩ := h
  have hc : (T 0).1 2 = nI (cntOf s.cur) := by rw [a.hT]; exact hg.c2
  refine lh_take cz ((sw_take a.hZ5 a.h8 a.hP hc hg.c8 (fun v s2 e => ?_)).mpr ?_)
  · rw [a.hT] at e
    exact (tak_inv hg e).1.m1
  · rw [a.hT]
    exact A_aft a hw (fun v s2 e => (tak_inv hg e).2.g3') hQ
theorem A_pass (hg : Iv B s.cur) (hB : B < 2 ^ 24) {y : Int32} (h : AW x w0 m N s w n) (hQ : ∀ w n, AW x w0 m (N + 1) (chS s (pasF (cntOf s.cur) y s.cur)) w n → Q (.inl (some (.int (chV (pasF (cntOf s.cur) y s.cur))))) w (some n)) : Ev X 85 0 [some (.ref x), some (.int y), none] [] w (some n) 0 0 Q := by
  obtain ⟨lt, w1, T, pa, be, Z, P, C, D, R, Lt, rfl, hw, a⟩ := h
  have hc : (T 0).1 2 = nI (cntOf s.cur) := by rw [a.hT]; exact hg.c2
  refine lh_pass cz ((sw_pass a.hZ5 a.h8 a.hP hc hg.c8 (fun v s2 e => ?_)).mpr ?_)
  · rw [a.hT] at e
    exact (pas_inv hg hB e).1.m1
  · rw [a.hT]
    exact A_aft a hw (fun v s2 e => (pas_inv hg hB e).2.g3') hQ
theorem A_undo_no (hh : s.hist = []) (h : AW x w0 m N s w n) (hQ : ∀ w n, AW x w0 m (N + 1) s w n → Q (.inl (some (.int (-1001)))) w (some n)) : Ev X 8 0 [some (.ref x), none] [] w (some n) 0 0 Q := by
  obtain ⟨lt, w1, T, pa, be, Z, P, C, D, R, Lt, rfl, hw, a⟩ := h
  refine lh_undo cz ((sw_undo a.hZ5 a.h8 a.hP).mpr ?_)
  rw [if_pos (by rw [hh]; rfl)]
  exact ⟨_, List.mem_cons_self, hQ _ _ ⟨lt, w1, _, pa, be, Z, P, C, D, _, Lt, rfl, hw, a.n1⟩⟩
theorem A_undo {hs : List Tb} {t : Tb} (hh : s.hist = hs ++ [t]) (h : AW x w0 m N s w n) (hQ : ∀ w n, AW x w0 m (N + 1) (t, hs, s.sav, s.why, s.flt, s.txt) w n → Q (.inl (some (.int (nI hs.length)))) w (some n)) : Ev X 8 0 [some (.ref x), none] [] w (some n) 0 0 Q := by
  obtain ⟨lt, w1, T, pa, be, Z, P, C, D, R, Lt, rfl, hw, a⟩ := h
  have hl : s.hist.length = hs.length + 1 := by rw [hh, List.length_append]; rfl
  have h8 := a.h8
  obtain ⟨p1, p2, p3, p4⟩ := a.hP
  refine lh_undo cz ((sw_undo a.hZ5 a.h8 a.hP).mpr ?_)
  have ht : T (pa hs.length) = t := by
    have := a.hh hs.length (by omega)
    rw [hh, List.getElem?_append_right (Nat.le_refl _), Nat.sub_self] at this
    exact (Option.some.inj this).symm
  have p := p1 hs.length (by omega)
  rw [if_neg (by omega), hl, Nat.add_sub_cancel, a.mix (by decide) p.2, ht]
  exact hQ _ _ ⟨lt, w1, _, pa, be, _, P, C, D, R, Lt, rfl, hw, (AWd.mk a.mn (Nat.le_succ_of_le a.nN) a.hP (upd_same) (show hs.length ≤ 8 by omega) (updT_s) (fun k hk => by
      have hk : k < hs.length := hk
      have := a.hh k (by omega)
      rw [hh, List.getElem?_append_left hk] at this
      rw [updT_o (by have := (p1 k (by omega)).1; omega)]
      exact this) (by rw [updT_o (by decide), show upd Z 5 (nI hs.length) 3 = Z 3 from upd_ne (by decide)]; exact a.hs) ((upd_ne (by decide)).trans a.hf) a.hR a.hp a.hc a.h60 ((upd_ne (by decide)).trans a.hz) a.hl a.h40 a.hk (fun i hi j hj => by
      unfold updT
      split
      · rw [← ht]; exact a.hg _ p.2 j hj
      · exact a.hg i hi j hj))⟩
theorem A_save (h : AW x w0 m N s w n) (hQ : ∀ w n, AW x w0 m N (s.cur, s.hist, some s.cur, s.why, s.flt, s.txt) w n → Q (.inl (some (.int (s.cur.1 2)))) w (some n)) : Ev X 11 0 [some (.ref x)] [] w (some n) 0 0 Q := by
  obtain ⟨lt, w1, T, pa, be, Z, P, C, D, R, Lt, rfl, hw, a⟩ := h
  have h8 := a.h8
  obtain ⟨p1, p2, p3, p4⟩ := a.hP
  refine sw_save.mpr ?_
  rw [a.mix (by decide) (by decide), a.hT]
  exact hQ _ _ ⟨lt, w1, _, pa, be, _, P, C, D, R, Lt, rfl, hw, (AWd.mk a.mn a.nN a.hP ((upd_ne (by decide)).trans a.hZ5) a.h8 ((updT_o (by decide)).trans a.hT) (fun k hk => by
      have hk : k < s.hist.length := hk
      rw [updT_o (by have := (p1 k (by omega)).1; omega)]
      exact a.hh k hk) (⟨upd_same, updT_s⟩) ((upd_ne (by decide)).trans a.hf) a.hR a.hp a.hc a.h60 ((upd_ne (by decide)).trans a.hz) a.hl a.h40 a.hk (fun i hi j hj => by
      unfold updT
      split
      · rw [← a.hT]; exact a.hg _ (by decide) j hj
      · exact a.hg i hi j hj))⟩
theorem A_restore_no (hh : s.sav = none) (h : AW x w0 m N s w n) (hQ : ∀ w n, AW x w0 m (N + 1) s w n → Q (.inl (some (.int (-1001)))) w (some n)) : Ev X 10 0 [some (.ref x), none] [] w (some n) 0 0 Q := by
  obtain ⟨lt, w1, T, pa, be, Z, P, C, D, R, Lt, rfl, hw, a⟩ := h
  refine lh_restore cz (sw_restore.mpr ?_)
  have := a.hs
  rw [hh] at this
  rw [if_pos (show Z 3 = 0 from this)]
  exact ⟨_, List.mem_cons_self, hQ _ _ ⟨lt, w1, _, pa, be, Z, P, C, D, _, Lt, rfl, hw, a.n1⟩⟩
theorem A_restore {t : Tb} (hh : s.sav = some t) (h : AW x w0 m N s w n) (hQ : ∀ w n, AW x w0 m (N + 1) (t, [], s.sav, s.why, s.flt, s.txt) w n → Q (.inl (some (.int (t.1 2)))) w (some n)) : Ev X 10 0 [some (.ref x), none] [] w (some n) 0 0 Q := by
  obtain ⟨lt, w1, T, pa, be, Z, P, C, D, R, Lt, rfl, hw, a⟩ := h
  have h2 := a.hs
  rw [hh] at h2
  obtain ⟨z3, ht⟩ := h2
  refine lh_restore cz (sw_restore.mpr ?_)
  rw [if_neg (by rw [z3]; decide), a.mix (by decide) (by decide), ht]
  exact hQ _ _ ⟨lt, w1, _, pa, be, _, P, C, D, R, Lt, rfl, hw, (AWd.mk a.mn (Nat.le_succ_of_le a.nN) a.hP (upd_same) (Nat.zero_le _) (updT_s) (fun k hk => absurd hk (Nat.not_lt_zero k)) (by
      show svd s.sav _ _
      rw [hh]
      exact ⟨(upd_ne (by decide)).trans z3, (updT_o (by decide)).trans ht⟩) ((upd_ne (by decide)).trans a.hf) a.hR a.hp a.hc a.h60 ((upd_ne (by decide)).trans a.hz) a.hl a.h40 a.hk (fun i hi j hj => by
      unfold updT
      split
      · rw [← ht]; exact a.hg _ (by decide) j hj
      · exact a.hg i hi j hj))⟩
end CHG2
