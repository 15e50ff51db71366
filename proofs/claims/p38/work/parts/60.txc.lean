/-! ===== text, commands ===== -/
def chr16 (c : Int32) : Prop := ∃ j : Nat, j < 65536 ∧ c = nI j
section TXC
variable {X : Cxt} {w w0 w1 : Wld} {n x m N B : Nat} {Q : (Option Value ⊕ String) → Wld → Option Nat → Prop} {s : St}
theorem A_append {y : Int32} (hy : narrow .char (.int y) = .int y) (hl : s.txt.length < 60) (h : AW x w0 m N s w n) (hQ : ∀ w n, AW x w0 m (N + 1) (s.cur, s.hist, s.sav, s.why, s.flt, s.txt ++ [y]) w n → Q (.inl (some (.int (nI (s.txt.length + 1))))) w (some n)) : Ev X 22 0 [some (.ref x), some (.int y), none] [] w (some n) 0 0 Q := by
  obtain ⟨lt, w1, T, pa, be, Z, P, C, D, R, Lt, rfl, hw, a⟩ := h
  refine lh_append cz ((sw_append a.hp a.h60 hy).mpr ?_)
  rw [if_pos hl]
  have e : (s.txt ++ [y]).length = s.txt.length + 1 := by rw [List.length_append]; rfl
  exact hQ _ _ ⟨lt, w1, T, pa, be, Z, _, _, D, R, Lt, rfl, hw, (AWd.mk a.mn (Nat.le_succ_of_le a.nN) a.hP a.hZ5 a.h8 a.hT a.hh a.hs a.hf a.hR (by
      show upd P 1 _ 1 = nI (s.txt ++ [y]).length
      rw [e]; exact upd_same) (by
      show ∀ k, k < (s.txt ++ [y]).length → (s.txt ++ [y])[k]? = some (upd C s.txt.length y k)
      rw [e]
      intro k hk
      by_cases ek : k = s.txt.length
      · rw [ek, upd_same, List.getElem?_append_right (Nat.le_refl _), Nat.sub_self]
        rfl
      · rw [upd_ne ek, List.getElem?_append_left (by omega)]
        exact a.hc k (by omega)) (by
      show (s.txt ++ [y]).length ≤ 60
      omega) a.hz a.hl a.h40 a.hk a.hg)⟩
theorem A_append_no {y : Int32} (hy : narrow .char (.int y) = .int y) (hl : s.txt.length = 60) (h : AW x w0 m N s w n) (hQ : ∀ w n, AW x w0 m (N + 1) s w n → Q (.inl (some (.int (-1001)))) w (some n)) : Ev X 22 0 [some (.ref x), some (.int y), none] [] w (some n) 0 0 Q := by
  obtain ⟨lt, w1, T, pa, be, Z, P, C, D, R, Lt, rfl, hw, a⟩ := h
  refine lh_append cz ((sw_append a.hp a.h60 hy).mpr ?_)
  rw [if_neg (by omega)]
  exact ⟨_, List.mem_cons_self, hQ _ _ ⟨lt, w1, T, pa, be, Z, P, C, D, R, Lt, rfl, hw, a.n1⟩⟩
/-- what holds of the tables while the commands of a text run -/
def Icm (B d : Nat) (s : Tb) : Prop := ∃ b, b + 99 * d ≤ B ∧ Iv b s
theorem A_commands (hX : LitX X) (hg : Iv B s.cur) (hB : B + 5940 < 2 ^ 24) (hch : ∀ c, c ∈ s.txt → chr16 c) (h : AW x w0 m N s w n)
    (hQ1 : ∀ (C D : Nat → Int32) (q : Nat) w n, (∀ k, k < s.txt.length → s.txt[k]? = some (C k)) → fltN s.txt.length C 60 0 D = some q → AW x w0 m (N + 1) (s.cur, s.hist, s.sav, s.why, nI q, []) w n → Q (.inl (some (.int (-1001)))) w (some n))
    (hQ2 : ∀ (C D D1 : Nat → Int32) (j : Nat) (u v : Int32) w n, (∀ k, k < s.txt.length → s.txt[k]? = some (C k)) → fltN s.txt.length C 60 0 D = none → cmdR s.txt.length C 60 0 0 D1 s.cur = .inl (j, u, v) → AW x w0 m (N + 1) (s.cur, s.hist, s.sav, (u, v, nI j), -1, []) w n → Q (.inl (some (.int (-1002)))) w (some n))
    (hQ3 : ∀ (C D D1 : Nat → Int32) (j : Nat) (s2 : Tb) w n, (∀ k, k < s.txt.length → s.txt[k]? = some (C k)) → fltN s.txt.length C 60 0 D = none → cmdR s.txt.length C 60 0 0 D1 s.cur = .inr (j, s2) → Iv (B + 5940) s2 → AW x w0 m (N + 1) (s2, pushH s.hist s.cur, s.sav, s.why, -1, []) w n → Q (.inl (some (.int (nI j)))) w (some n)) :
    Ev X 76 0 [some (.ref x), none] [] w (some n) 0 0 Q := by
  obtain ⟨lt, w1, T, pa, be, Z, P, C, D, R, Lt, rfl, hw, a⟩ := h
  have hC : ∀ i, i < s.txt.length → ∃ j : Nat, j < 65536 ∧ C i = nI j := fun i hi => hch _ (List.mem_of_getElem? (a.hc i hi))
  have hI1 : ∀ d t, Icm (B + 5940) (d + 1) t → cntOf t ≤ 8 ∧ t.1 2 = nI (cntOf t) := fun d t z => by
    obtain ⟨b, b1, b2⟩ := z
    exact ⟨b2.c8, b2.c2⟩
  have hI2 : ∀ d t k D v s2, Icm (B + 5940) (d + 1) t → k < 8 → obF (cntOf t) k D t = .inr (v, s2) → v ≠ -1 ∧ Icm (B + 5940) d s2 := fun d t k D v s2 z _ e => by
    obtain ⟨b, b1, b2⟩ := z
    obtain ⟨c1, c2⟩ := ob_inv b2 (by omega) e
    exact ⟨c1.m1, b + 99, by omega, c2⟩
  have hI0 : Icm (B + 5940) 60 (T 0) := by rw [a.hT]; exact ⟨B, by omega, hg⟩
  obtain ⟨p1, p2, p3, p4⟩ := a.hP
  have ext : ∀ P2 : Nat → Int32, P2 1 = 0 → P2 1 = nI ([] : List Int32).length := fun P2 h => h
  refine lh_commands cz (sw_commands (c := s.hist.length) (L := s.txt.length) hX a.hZ5 a.h8 a.hP a.hp a.h60 hC hI1 hI2 hI0 (fun P2 D1 D2 s3 hP1 hI3 => ?_))
  obtain ⟨d3, b3, _, i3⟩ := hI3
  cases hf : fltN s.txt.length C 60 0 D with
  | some q =>
    refine ⟨_, List.mem_cons_self, hQ1 C D q _ _ a.hc hf ⟨lt, w1, T, pa, be, _, _, C, _, R, Lt, rfl, hw, AWd.n1 (AWd.mk a.mn a.nN a.hP ((upd_ne (by decide)).trans a.hZ5) a.h8 a.hT a.hh (by rw [show upd Z 8 (nI q) 3 = Z 3 from upd_ne (by decide)]; exact a.hs) (upd_same) a.hR (hP1) (fun k hk => absurd hk (Nat.not_lt_zero k)) (Nat.zero_le _) ((upd_ne (by decide)).trans a.hz) a.hl a.h40 a.hk a.hg)⟩⟩
  | none =>
    rw [a.hT]
    dsimp only
    cases hr : cmdR s.txt.length C 60 0 0 D1 s.cur with
    | inl r =>
      obtain ⟨j, u, v⟩ := r
      refine ⟨_, List.mem_cons_of_mem _ List.mem_cons_self, hQ2 C D D1 j u v _ _ a.hc hf hr ⟨lt, w1, _, pa, be, _, _, C, _, _, Lt, rfl, hw, ?_⟩⟩
      have b := a.tabs
      have e0 : (updT (mixT T be 0) 0 s3) 0 = s3 := updT_s
      have eb : (updT (mixT T be 0) 0 s3) be = s.cur := by rw [updT_o (by omega), a.mix p2.2 (by decide), updT_s, a.hT]
      have em : mixT (updT (mixT T be 0) 0 s3) 0 be = updT (updT (mixT T be 0) 0 s3) 0 s.cur := by
        rw [mix_eq (i := 0) (j := be) (by rw [e0]; exact i3.g3') (by rw [eb]; exact hg.g3'), eb]
      have eu : updT (updT (mixT T be 0) 0 s3) 0 s.cur = mixT T be 0 := by
        funext j
        unfold updT
        split
        · rename_i hj
          rw [hj]
          exact b.hT.symm
        · rfl
      rw [em, eu]
      exact (AWd.n1 (AWd.mk b.mn b.nN b.hP ((upd_ne (by decide)).trans a.hZ5) b.h8 b.hT b.hh (by rw [show upd Z 8 (-1) 3 = Z 3 from upd_ne (by decide)]; exact b.hs) (upd_same) (⟨rfl, rfl, rfl⟩) (hP1) (fun k hk => absurd hk (Nat.not_lt_zero k)) (Nat.zero_le _) ((upd_ne (by decide)).trans a.hz) b.hl b.h40 b.hk b.hg))
    | inr r =>
      obtain ⟨j, s2⟩ := r
      dsimp only
      intro e23
      have hi : Iv (B + 5940) s2 := by rw [e23]; exact i3.mono (by omega)
      have b := a.done (s2 := s2) hi.g3'
      refine hQ3 C D D1 j s2 _ _ a.hc hf hr hi ⟨lt, w1, _, _, _, _, _, C, _, R, Lt, rfl, hw, ?_⟩
      exact (AWd.mk b.mn (Nat.le_succ_of_le b.nN) b.hP ((upd_same.trans (show upd Z 5 (nI (kpC s.hist.length)) 5 = _ from upd_same).symm).trans b.hZ5) b.h8 b.hT b.hh (by
          have := b.hs
          rw [show upd Z 5 (nI (kpC s.hist.length)) 3 = Z 3 from upd_ne (by decide)] at this
          rw [show upd (upd Z 8 (-1)) 5 (nI (kpC s.hist.length)) 3 = Z 3 from (upd_ne (by decide)).trans (upd_ne (by decide))]
          exact this) ((upd_ne (by decide)).trans upd_same) b.hR (hP1) (fun k hk => absurd hk (Nat.not_lt_zero k)) (Nat.zero_le _) (((upd_ne (by decide)).trans (upd_ne (by decide))).trans a.hz) b.hl b.h40 b.hk b.hg)
end TXC
