/-! ===== queries that look ahead; undo, save, restore; accounts ===== -/
/-- the count, the waiter's number and the pot's likes are numbers of the table; the holders are its seats -/
def TG (cnt : Nat) (s : Tb) : Prop := s.1 2 = nI cnt ∧ ∀ j, j < cnt → seatI cnt (s.2.1 j)
theorem seatI_upd {cnt : Nat} {G : Nat → Int32} (h : ∀ j, j < cnt → seatI cnt (G j)) {k : Nat} {v : Int32} (hv : seatI cnt v) : ∀ j, j < cnt → seatI cnt (upd G k v j) := by
  intro j hj
  unfold upd
  split
  · exact hv
  · exact h j hj
theorem itr_I {α : Type} {f : Nat → α → α} {I : α → Prop} {n : Nat} (h : ∀ k a, k < n → I a → I (f k a)) : ∀ a, I a → I (itr f n a) := by
  induction n with
  | zero => intro a ha; exact ha
  | succ n ih => intro a ha; exact h n _ (by omega) (ih (fun k a hk => h k a (by omega)) a ha)
theorem TG_thG {cnt k : Nat} {G : Nat → Int32} {S : Nat → Nat → Int32} (h : ∀ j, j < cnt → seatI cnt (G j)) : ∀ j, j < cnt → seatI cnt (thG cnt G S k j) := by
  unfold thG
  (repeat' split) <;> first | exact h | exact seatI_upd (seatI_upd h (Or.inl rfl)) (Or.inl rfl)
theorem TG_tkA {cnt k : Nat} {s : Tb} (hk : k < cnt) (h : TG cnt s) : TG cnt (tkA cnt k s) := by
  unfold tkA
  (repeat' split) <;> first | exact h | exact ⟨h.1, seatI_upd h.2 (Or.inr ⟨k, hk, rfl⟩)⟩
theorem TG_tkB {cnt k : Nat} {s : Tb} (hk : k < cnt) (h : TG cnt s) : TG cnt (tkB cnt k s) := by
  unfold tkB
  (repeat' split) <;> first | exact h | exact ⟨h.1, seatI_upd h.2 (Or.inr ⟨k, hk, rfl⟩)⟩
theorem TG_tick {cnt : Nat} {s : Tb} (h : TG cnt s) : TG cnt (tickF cnt s) := by
  refine ⟨by rw [F2_tickF]; exact h.1, ?_⟩
  unfold tickF
  dsimp only
  have h1 : TG cnt (itr (fun k (s : Tb) => (s.1, thG cnt s.2.1 s.2.2 k, thS s.2.2 k)) cnt (upd s.1 5 (s.1 5 + 1), s.2.1, s.2.2)) := itr_I (I := TG cnt) (f := fun k (s : Tb) => (s.1, thG cnt s.2.1 s.2.2 k, thS s.2.2 k)) (n := cnt) (fun k a hk ha => ⟨ha.1, TG_thG (S := a.2.2) (k := k) ha.2⟩) _ ⟨h.1, h.2⟩
  have h2 := itr_I (I := TG cnt) (f := tkF cnt) (n := cnt) (fun k a hk ha => TG_tkB hk (TG_tkA hk ha)) _ (show TG cnt ((itr (fun k (s : Tb) => (s.1, thG cnt s.2.1 s.2.2 k, thS s.2.2 k)) cnt (upd s.1 5 (s.1 5 + 1), s.2.1, s.2.2)).1, (itr (fun k (s : Tb) => (s.1, thG cnt s.2.1 s.2.2 k, thS s.2.2 k)) cnt (upd s.1 5 (s.1 5 + 1), s.2.1, s.2.2)).2.1, itr (fun _ s2 => gvF cnt (itr (fun k (s : Tb) => (s.1, thG cnt s.2.1 s.2.2 k, thS s.2.2 k)) cnt (upd s.1 5 (s.1 5 + 1), s.2.1, s.2.2)).1 s2) 8 (itr (fun k (s : Tb) => (s.1, thG cnt s.2.1 s.2.2 k, thS s.2.2 k)) cnt (upd s.1 5 (s.1 5 + 1), s.2.1, s.2.2)).2.2) from ⟨h1.1, h1.2⟩)
  exact h2.2
/-- the first tick from i on, of d, at which a seat is stuck -/
theorem hi_th {cnt k j : Nat} {G : Nat → Int32} {S : Nat → Nat → Int32} (hk : k < cnt) (hj : cnt ≤ j) : thG cnt G S k j = G j := by
  have h1 := ladN_lt (S := S) (b := 1) hk
  have h0 := ladN_lt (S := S) (b := 0) hk
  unfold thG
  (repeat' split) <;> first | rfl | (rw [upd_ne (by omega), upd_ne (by omega)])
theorem hi_tk {cnt k j : Nat} {s : Tb} (hk : k < cnt) (hj : cnt ≤ j) : (tkF cnt k s).2.1 j = s.2.1 j := by
  have e1 : (tkA cnt k s).2.1 j = s.2.1 j := by
    have h1 := ladN_lt (S := s.2.2) (b := 1) hk
    unfold tkA
    (repeat' split) <;> first | rfl | exact upd_ne (by omega)
  have h2 := l2N_lt (G := (tkA cnt k s).2.1) (S := (tkA cnt k s).2.2) hk
  rw [← e1]
  unfold tkF tkB
  (repeat' split) <;> first | rfl | exact upd_ne (by omega)
theorem tick_hi {cnt j : Nat} {s : Tb} (hj : cnt ≤ j) : (tickF cnt s).2.1 j = s.2.1 j := by
  unfold tickF
  dsimp only
  rw [itr_I (I := fun (u : Tb) => u.2.1 j = s.2.1 j) (f := tkF cnt) (n := cnt) (fun k a hk ha => (hi_tk hk hj).trans ha)]
  dsimp only
  exact itr_I (I := fun (u : Tb) => u.2.1 j = s.2.1 j) (f := fun k (s : Tb) => ((s.1, thG cnt s.2.1 s.2.2 k, thS s.2.2 k) : Tb)) (n := cnt) (fun k a hk ha => (hi_th hk hj).trans ha) _ rfl
def siF (cnt : Nat) : Nat → Nat → Tb → Option Nat
  | 0, _, _ => none
  | d + 1, i, s => if stuI cnt s.1 s.2.1 s.2.2 = 0 then siF cnt d (i + 1) (tickF cnt s) else some i
section AHE
variable {X : Cxt} {w : Wld} {n : Option Nat} {Q : (Option Value ⊕ String) → Wld → Option Nat → Prop} {x cnt c : Nat} {T : Nat → Tb} {pa : Nat → Nat} {be : Nat} {Z P C D R Lt : Nat → Int32}
theorem sw_copy1 : Ev X 6 0 [some (.ref (x + 12)), some (.ref (x + 1)), none] [] (SW w x T pa be Z P C D R Lt) n 0 0 Q ↔ Q (.inl none) (SW w x (mixT T 1 0) pa be Z P C D R Lt) n := sw_copy (i := 1) (j := 0) (by decide) (by decide) (by decide)
theorem sw_mealsIn_bad {y : Int32} (h : y < 0 ∨ 99 < y) : Ev X 134 0 [some (.ref x), some (.int y), none] [] (SW w x T pa be Z P C D R Lt) n 0 0 Q ↔ Q (.inr IAE) (SW w x T pa be Z P C D R Lt) (n.map (· + 1)) := by
  by_cases h1 : y < 0
  · simp only [X5_mealsIn_0, X5_mealsIn_1, X5_mealsIn_4, X5_mealsIn_5, X5_mealsIn_7, X5_mealsIn_10, X5_mealsIn_20, X5_mealsIn_21, X5_mealsIn_24, X5_mealsIn_25, X5_mealsIn_28, X5_mealsIn_31, X5_mealsIn_32, X5_mealsIn_33, X5_mealsIn_34, X5_mealsIn_35, X5_mealsIn_38, X5_mealsIn_39, X5_mealsIn_42, X5_mealsIn_45, X5_mealsIn_48, X5_mealsIn_49, X5_mealsIn_52, X5_mealsIn_55, X5_mealsIn_58, X5_mealsIn_61, X5_mealsIn_62, X5_mealsIn_65, X5_mealsIn_68, X5_mealsIn_69, X5_mealsIn_72, X5_mealsIn_75, X5_mealsIn_76, h1, if_true, IAE]
  · have h2 := h.resolve_left h1
    simp only [X5_mealsIn_0, X5_mealsIn_1, X5_mealsIn_4, X5_mealsIn_5, X5_mealsIn_7, X5_mealsIn_10, X5_mealsIn_20, X5_mealsIn_21, X5_mealsIn_24, X5_mealsIn_25, X5_mealsIn_28, X5_mealsIn_31, X5_mealsIn_32, X5_mealsIn_33, X5_mealsIn_34, X5_mealsIn_35, X5_mealsIn_38, X5_mealsIn_39, X5_mealsIn_42, X5_mealsIn_45, X5_mealsIn_48, X5_mealsIn_49, X5_mealsIn_52, X5_mealsIn_55, X5_mealsIn_58, X5_mealsIn_61, X5_mealsIn_62, X5_mealsIn_65, X5_mealsIn_68, X5_mealsIn_69, X5_mealsIn_72, X5_mealsIn_75, X5_mealsIn_76, h1, h2, if_true, if_false, IAE]
theorem sw_mealsIn (hc : (T 0).1 2 = nI cnt) (h8 : cnt ≤ 8) {m : Nat} (hm : m < 100) (hQ : ∀ T2 : Nat → Tb, (∀ i, i ≠ 1 → T2 i = T i) → (∀ j, cnt ≤ j → (T2 1).2.1 j = (mixT T 1 0 1).2.1 j) → Q (.inl (some (.int (if cnt < 2 then 0 else itr (mealsOfAllF (tksF cnt m (mixT T 1 0 1)).2.2) cnt 0 - itr (mealsOfAllF (T 0).2.2) cnt 0)))) (SW w x T2 pa be Z P C D R Lt) n) : Ev X 134 0 [some (.ref x), some (.int (nI m)), none] [] (SW w x T pa be Z P C D R Lt) n 0 0 Q := by
  have e1 : (1 : Int32) = 0 ↔ False := by decide
  have h1 : ¬ nI m < 0 := nI_pos (by omega)
  have h2 : ¬ 99 < nI m := fun q => nI_nlt (show m ≤ 99 by omega) (by decide) (show nI 99 < nI m from q)
  have hm1 : (mixT T 1 0 1).1 2 = nI cnt := hc
  have tail : ∀ (k : Nat) (s : Tb), s.1 2 = nI cnt → (∀ j, cnt ≤ j → s.2.1 j = (mixT T 1 0 1).2.1 j) → itr (mealsOfAllF s.2.2) cnt 0 - itr (mealsOfAllF (T 0).2.2) cnt 0 = (if cnt < 2 then 0 else itr (mealsOfAllF (tksF cnt m (mixT T 1 0 1)).2.2) cnt 0 - itr (mealsOfAllF (T 0).2.2) cnt 0) → Ev X 134 61 [some (.ref x), some (.int (nI m)), some (.int (nI k))] [] (SW w x (updT T 1 s) pa be Z P C D R Lt) n 0 0 Q := by
    intro k s hs hs8 he
    have hc1 : (updT T 1 s 1).1 2 = nI cnt := by rw [updT_s]; exact hs
    have hc0 : (updT T 1 s 0).1 2 = nI cnt := hc
    have u0 : updT T 1 s 0 = T 0 := updT_o (by decide)
    simp only [X5_mealsIn_0, X5_mealsIn_1, X5_mealsIn_4, X5_mealsIn_5, X5_mealsIn_7, X5_mealsIn_10, X5_mealsIn_20, X5_mealsIn_21, X5_mealsIn_24, X5_mealsIn_25, X5_mealsIn_28, X5_mealsIn_31, X5_mealsIn_32, X5_mealsIn_33, X5_mealsIn_34, X5_mealsIn_35, X5_mealsIn_38, X5_mealsIn_39, X5_mealsIn_42, X5_mealsIn_45, X5_mealsIn_48, X5_mealsIn_49, X5_mealsIn_52, X5_mealsIn_55, X5_mealsIn_58, X5_mealsIn_61, X5_mealsIn_62, X5_mealsIn_65, X5_mealsIn_68, X5_mealsIn_69, X5_mealsIn_72, X5_mealsIn_75, X5_mealsIn_76, gz0, gz1, Option.some.injEq, exists_eq_left', eq_self, okz0, okz1, ht, cz0, cz1, sw_mealsOfAll1 hc1 h8, sw_mealsOfAll hc0 h8, Kr_v, Kj_v, updT_s, u0, he]
    exact hQ _ (fun i hi => updT_o hi) (by rw [updT_s]; exact hs8)
  have hmx : mixT T 1 0 = updT T 1 (mixT T 1 0 1) := by unfold mixT; rw [updT_s]
  have z0 : (0 : Int32) = nI 0 := rfl
  by_cases hlt2 : cnt < 2
  · have f2 : nI cnt < 2 := show nI cnt < nI 2 from nI_lt hlt2 (by decide)
    have hcc : ∀ T' : Nat → Tb, (T' 1).1 2 = nI cnt → (if (T' 1).1 2 < 2 then (0 : Int32) else 1) = 0 := fun T' h => by rw [h, if_pos f2]
    have T1 := hcc (mixT T 1 0) hc
    by_cases hm0 : m = 0
    · subst hm0
      have hl : nI 0 < nI 0 ↔ False := by decide
      rw [X5_mealsIn_0, X5_mealsIn_1, if_neg h1, X5_mealsIn_4, X5_mealsIn_5, X5_mealsIn_7, if_neg h2]
      simp only [X5_mealsIn_20, X5_mealsIn_21, X5_mealsIn_24, X5_mealsIn_25, gz0, gz1, Option.some.injEq, exists_eq_left', eq_self, okz0, okz1, ht, X5_mealsIn_28 cz1, sw_copy1, Kr_n, Kj_n, X5_mealsIn_31, X5_mealsIn_32, X5_mealsIn_33, X5_mealsIn_34, z0, X5_mealsIn_35, hl, if_false]
      rw [hmx]
      exact tail 0 _ hm1 (fun _ _ => rfl) (by rw [if_pos hlt2]; show itr (mealsOfAllF (T 0).2.2) cnt 0 - itr (mealsOfAllF (T 0).2.2) cnt 0 = 0; exact Int32.sub_self _)
    · have hl : nI 0 < nI m := nI_lt (by omega) (by omega)
      rw [X5_mealsIn_0, X5_mealsIn_1, if_neg h1, X5_mealsIn_4, X5_mealsIn_5, X5_mealsIn_7, if_neg h2]
      simp only [X5_mealsIn_20, X5_mealsIn_21, X5_mealsIn_24, X5_mealsIn_25, gz0, gz1, Option.some.injEq, exists_eq_left', eq_self, okz0, okz1, ht, X5_mealsIn_28 cz1, sw_copy1, Kr_n, Kj_n, X5_mealsIn_31, X5_mealsIn_32, X5_mealsIn_33, X5_mealsIn_34]
      rw [z0]
      simp only [X5_mealsIn_35, hl, if_true, X5_mealsIn_38, X5_mealsIn_39, gz1, Option.some.injEq, exists_eq_left', eq_self, okz0, okz1, ht, X5_mealsIn_42 cz1, sw_canTick1, Kr_v, Kj_v, X5_mealsIn_45, T1]
      rw [hmx]
      exact tail 0 _ hm1 (fun _ _ => rfl) (by rw [if_pos hlt2]; show itr (mealsOfAllF (T 0).2.2) cnt 0 - itr (mealsOfAllF (T 0).2.2) cnt 0 = 0; exact Int32.sub_self _)
  · have f2 : ¬ nI cnt < 2 := fun q => nI_nlt (show 2 ≤ cnt by omega) (by omega) (show nI cnt < nI 2 from q)
    have hL := loop_upI (P := fun k (s : Tb) => Ev X 134 33 [some (.ref x), some (.int (nI m)), some (.int (nI k))] [] (SW w x (updT T 1 s) pa be Z P C D R Lt) n 0 0 Q) (f := fun _ s => tickF cnt s) (n := m) (a0 := mixT T 1 0 1) (I := fun _ s => s.1 2 = nI cnt ∧ ∀ j, cnt ≤ j → s.2.1 j = (mixT T 1 0 1).2.1 j) ⟨hm1, fun _ _ => rfl⟩ (fun k s _ hs => ⟨by rw [F2_tickF]; exact hs.1, fun j hj => (tick_hi hj).trans (hs.2 j hj)⟩) (fun k s hk hs' => by
      have hs := hs'.1
      have hlt : nI k < nI m := nI_lt hk (by omega)
      have hc1 : (updT T 1 s 1).1 2 = nI cnt := by rw [updT_s]; exact hs
      have hu : updT (updT T 1 s) 1 (tickF cnt s) = updT T 1 (tickF cnt s) := by
        funext j
        unfold updT
        split <;> rfl
      rw [X5_mealsIn_33]
      simp only [X5_mealsIn_34, X5_mealsIn_35, hlt, if_true, X5_mealsIn_38, X5_mealsIn_39, gz1, Option.some.injEq, exists_eq_left', eq_self, okz0, okz1, ht, X5_mealsIn_42 cz1, sw_canTick1, hs, f2, if_false, Kr_v, Kj_v, X5_mealsIn_45, e1, X5_mealsIn_48, X5_mealsIn_49, X5_mealsIn_52 cz1, sw_tick1 hc1 h8, Kr_n, Kj_n, X5_mealsIn_55, X5_mealsIn_58, nI_1, updT_s, hu])
    obtain ⟨hL, hI⟩ := hL
    rw [X5_mealsIn_0, X5_mealsIn_1, if_neg h1, X5_mealsIn_4, X5_mealsIn_5, X5_mealsIn_7, if_neg h2]
    simp only [X5_mealsIn_20, X5_mealsIn_21, X5_mealsIn_24, X5_mealsIn_25, gz0, gz1, Option.some.injEq, exists_eq_left', eq_self, okz0, okz1, ht, X5_mealsIn_28 cz1, sw_copy1, Kr_n, Kj_n, X5_mealsIn_31, X5_mealsIn_32]
    rw [hmx]
    refine hL.mpr ?_
    simp only [X5_mealsIn_33, X5_mealsIn_34, X5_mealsIn_35, Int32.lt_irrefl, if_false]
    exact tail m _ hI.1 hI.2 (by rw [if_neg hlt2]; rfl)
theorem sw_stuckIn (h : TG cnt (T 0)) (h8 : cnt ≤ 8) (hQ : ∀ T2 : Nat → Tb, (∀ i, i ≠ 1 → T2 i = T i) → (∀ j, cnt ≤ j → (T2 1).2.1 j = (mixT T 1 0 1).2.1 j) → match (if cnt < 2 then none else siF cnt 100 0 (mixT T 1 0 1)) with | none => Q (.inr NSE) (SW w x T2 pa be Z P C D R Lt) (n.map (· + 1)) | some i => Q (.inl (some (.int (nI i)))) (SW w x T2 pa be Z P C D R Lt) n) : Ev X 136 0 [some (.ref x), none] [] (SW w x T pa be Z P C D R Lt) n 0 0 Q := by
  have e1 : (1 : Int32) = 0 ↔ False := by decide
  have hm1 : TG cnt (mixT T 1 0 1) := ⟨h.1, fun j hj => by show seatI cnt (mixG _ _ j); unfold mixG; rw [if_pos (by omega)]; exact h.2 j hj⟩
  have hmx : mixT T 1 0 = updT T 1 (mixT T 1 0 1) := by unfold mixT; rw [updT_s]
  have z0 : (0 : Int32) = nI 0 := rfl
  simp only [X5_stuckIn_0, X5_stuckIn_1, X5_stuckIn_4, X5_stuckIn_5, gz0, gz1, Option.some.injEq, exists_eq_left', eq_self, okz0, okz1, ht, X5_stuckIn_8 cz1, sw_copy1, Kr_n, Kj_n, X5_stuckIn_11, X5_stuckIn_12]
  rw [z0]
  by_cases hlt2 : cnt < 2
  · have f2 : nI cnt < 2 := show nI cnt < nI 2 from nI_lt hlt2 (by decide)
    have hcc : (mixT T 1 0 1).1 2 = nI cnt := hm1.1
    have g0 : 99 < nI 0 ↔ False := by decide
    rw [if_pos hlt2] at hQ
    simp only [X5_stuckIn_13, X5_stuckIn_14, X5_stuckIn_16, g0, if_false, X5_stuckIn_19, X5_stuckIn_20, gz1, Option.some.injEq, exists_eq_left', eq_self, okz0, okz1, ht, X5_stuckIn_23 cz1, sw_canTick1, hcc, f2, if_true, Kr_v, Kj_v, X5_stuckIn_26, X5_stuckIn_54]
    exact hQ _ (fun i hi => by unfold mixT; exact updT_o hi) (fun _ _ => rfl)
  · have f2 : ¬ nI cnt < 2 := fun q => nI_nlt (show 2 ≤ cnt by omega) (by omega) (show nI cnt < nI 2 from q)
    rw [if_neg hlt2] at hQ
    rw [hmx]
    have hL : ∀ d i (s : Tb), i + d = 100 → TG cnt s → (∀ j, cnt ≤ j → s.2.1 j = (mixT T 1 0 1).2.1 j) → (∀ T2 : Nat → Tb, (∀ i, i ≠ 1 → T2 i = T i) → (∀ j, cnt ≤ j → (T2 1).2.1 j = (mixT T 1 0 1).2.1 j) → match siF cnt d i s with | none => Q (.inr NSE) (SW w x T2 pa be Z P C D R Lt) (n.map (· + 1)) | some i => Q (.inl (some (.int (nI i)))) (SW w x T2 pa be Z P C D R Lt) n) → Ev X 136 13 [some (.ref x), some (.int (nI i))] [] (SW w x (updT T 1 s) pa be Z P C D R Lt) n 0 0 Q := by
      intro d
      induction d with
      | zero =>
        intro i s hi hs hs8 hq
        have hlt : 99 < nI i := show nI 99 < nI i from nI_lt (by omega) (by omega)
        simp only [X5_stuckIn_13, X5_stuckIn_14, X5_stuckIn_16, hlt, if_true, X5_stuckIn_54]
        exact hq _ (fun i hi => updT_o hi) (by rw [updT_s]; exact hs8)
      | succ d ih =>
        intro i s hi hs hs8 hq
        have hlt : ¬ 99 < nI i := fun q => nI_nlt (show i ≤ 99 by omega) (by decide) (show nI 99 < nI i from q)
        have hc1 : (updT T 1 s 1).1 2 = nI cnt := by rw [updT_s]; exact hs.1
        have hG1 : ∀ j, j < cnt → seatI cnt ((updT T 1 s 1).2.1 j) := by rw [updT_s]; exact hs.2
        by_cases b : stuI cnt s.1 s.2.1 s.2.2 = 0
        · have hu : updT (updT T 1 s) 1 (tickF cnt s) = updT T 1 (tickF cnt s) := by
            funext j
            unfold updT
            split <;> rfl
          rw [X5_stuckIn_13]
          simp only [X5_stuckIn_14, X5_stuckIn_16, hlt, if_false, X5_stuckIn_19, X5_stuckIn_20, gz1, Option.some.injEq, exists_eq_left', eq_self, okz0, okz1, ht, X5_stuckIn_23 cz1, sw_canTick1, hs.1, f2, Kr_v, Kj_v, X5_stuckIn_26, e1, X5_stuckIn_29, X5_stuckIn_30, X5_stuckIn_33, sw_stuckOf1 hG1 hc1 h8, updT_s, b, X5_stuckIn_36, if_true, X5_stuckIn_41, X5_stuckIn_42, X5_stuckIn_45 cz1, sw_tick1 hc1 h8, Kr_n, Kj_n, hu, X5_stuckIn_48, X5_stuckIn_51, nI_1]
          refine ih (i + 1) _ (by omega) (TG_tick hs) (fun j hj => (tick_hi hj).trans (hs8 j hj)) (fun T2 h2 h3 => ?_)
          have := hq T2 h2 h3
          rw [siF, if_pos b] at this
          exact this
        · rw [X5_stuckIn_13]
          simp only [X5_stuckIn_14, X5_stuckIn_16, hlt, if_false, X5_stuckIn_19, X5_stuckIn_20, gz1, Option.some.injEq, exists_eq_left', eq_self, okz0, okz1, ht, X5_stuckIn_23 cz1, sw_canTick1, hs.1, f2, Kr_v, Kj_v, X5_stuckIn_26, e1, X5_stuckIn_29, X5_stuckIn_30, X5_stuckIn_33, sw_stuckOf1 hG1 hc1 h8, updT_s, b, X5_stuckIn_36, X5_stuckIn_39, X5_stuckIn_40]
          have := hq (updT T 1 s) (fun i hi => updT_o hi) (by rw [updT_s]; exact hs8)
          rw [siF, if_neg b] at this
          exact this
    exact hL 100 0 _ rfl hm1 (fun _ _ => rfl) hQ
theorem sw_undo {c : Nat} (hZ : Z 5 = nI c) (hc : c ≤ 8) (hP : Pm pa be) : Ev X 7 0 [some (.ref x)] [] (SW w x T pa be Z P C D R Lt) n 0 0 Q ↔ if c = 0 then Q (.inr ISE) (SW w x T pa be Z P C D R Lt) (n.map (· + 1)) else Q (.inl (some (.int (nI (c - 1))))) (SW w x (mixT T 0 (pa (c - 1))) pa be (upd Z 5 (nI (c - 1))) P C D R Lt) n := by
  by_cases a : c = 0
  · subst a
    have z : nI 0 = 0 := rfl
    rw [if_pos rfl]
    simp only [X5_undo_0, X5_undo_1, X5_undo_4, X5_undo_7, X5_undo_18, X5_undo_19, X5_undo_20, X5_undo_23, X5_undo_24, X5_undo_25, X5_undo_28, X5_undo_29, X5_undo_32, X5_undo_33, X5_undo_36, X5_undo_37, X5_undo_40, X5_undo_41, X5_undo_44, X5_undo_45, X5_undo_48, gz5, Option.some.injEq, exists_eq_left', eq_self, okz0, okz1, ht, hZ, z, if_true, ISE]
  · have hc1 : c - 1 < 8 := by omega
    have h0 : nI c = 0 ↔ False := ⟨fun q => nI_ne0 (by omega) (by omega) q, False.elim⟩
    have e : nI c - 1 = nI (c - 1) := nI_p (by omega)
    have hp := hP.1 (c - 1) hc1
    have cp : ∀ {n Q Z}, Ev X 6 0 [some (.ref (x + 1)), some (.ref (x + tof (pa (c - 1)))), none] [] (SW w x T pa be Z P C D R Lt) n 0 0 Q ↔ Q (.inl none) (SW w x (mixT T 0 (pa (c - 1))) pa be Z P C D R Lt) n := sw_copy (i := 0) (by decide) hp.2 (by omega)
    rw [if_neg a]
    simp only [X5_undo_0, X5_undo_1, X5_undo_4, X5_undo_7, X5_undo_18, X5_undo_19, X5_undo_20, X5_undo_23, X5_undo_24, X5_undo_25, X5_undo_28, X5_undo_29, X5_undo_32, X5_undo_33, X5_undo_36, X5_undo_37, X5_undo_40, X5_undo_41, X5_undo_44, X5_undo_45, X5_undo_48, gz0, gz4, gz5, Option.some.injEq, exists_eq_left', eq_self, okz0, okz1, ht, hZ, h0, if_false, e, pz (show 5 = 3 ∨ 5 = 5 ∨ 5 = 8 ∨ 5 = 11 by decide) (fun q => absurd q (by decide)), upd_same, gza hc1, cz0, cp, Kr_n, Kj_n]
theorem sw_copy2 : Ev X 6 0 [some (.ref (x + 23)), some (.ref (x + 1)), none] [] (SW w x T pa be Z P C D R Lt) n 0 0 Q ↔ Q (.inl none) (SW w x (mixT T 2 0) pa be Z P C D R Lt) n := sw_copy (i := 2) (j := 0) (by decide) (by decide) (by decide)
theorem sw_copyB : Ev X 6 0 [some (.ref (x + 1)), some (.ref (x + 23)), none] [] (SW w x T pa be Z P C D R Lt) n 0 0 Q ↔ Q (.inl none) (SW w x (mixT T 0 2) pa be Z P C D R Lt) n := sw_copy (i := 0) (j := 2) (by decide) (by decide) (by decide)
theorem sw_save : Ev X 11 0 [some (.ref x)] [] (SW w x T pa be Z P C D R Lt) n 0 0 Q ↔ Q (.inl (some (.int ((T 0).1 2)))) (SW w x (mixT T 2 0) pa be (upd Z 3 1) P C D R Lt) n := by
  have m0 : mixT T 2 0 0 = T 0 := updT_o (by decide)
  simp only [X5_save_0, X5_save_1, X5_save_4, X5_save_5, X5_save_8, X5_save_11, X5_save_12, X5_save_13, X5_save_16, X5_save_17, X5_save_20, X5_save_23, gz0, gz2, Option.some.injEq, exists_eq_left', eq_self, okz0, okz1, ht, cz2, sw_copy2, Kr_n, Kj_n, pz (show 3 = 3 ∨ 3 = 5 ∨ 3 = 8 ∨ 3 = 11 by decide) (fun _ => (by decide : okv .boolean (.int 1) = true)), gtb (show 2 ≤ 2 by decide) (show 2 < 8 by decide), m0]
theorem sw_restore : Ev X 9 0 [some (.ref x)] [] (SW w x T pa be Z P C D R Lt) n 0 0 Q ↔ if Z 3 = 0 then Q (.inr ISE) (SW w x T pa be Z P C D R Lt) (n.map (· + 1)) else Q (.inl (some (.int ((T 2).1 2)))) (SW w x (mixT T 0 2) pa be (upd Z 5 0) P C D R Lt) n := by
  have m0 : (mixT T 0 2 0).1 = (T 2).1 := by unfold mixT; rw [updT_s]
  by_cases a : Z 3 = 0
  · rw [if_pos a]
    simp only [X5_restore_0, X5_restore_1, X5_restore_4, X5_restore_7, X5_restore_18, X5_restore_19, X5_restore_22, X5_restore_23, X5_restore_26, X5_restore_29, X5_restore_30, X5_restore_31, X5_restore_34, X5_restore_35, X5_restore_38, X5_restore_41, gz3, Option.some.injEq, exists_eq_left', eq_self, okz0, okz1, ht, a, if_true, ISE]
  · rw [if_neg a]
    simp only [X5_restore_0, X5_restore_1, X5_restore_4, X5_restore_7, X5_restore_18, X5_restore_19, X5_restore_22, X5_restore_23, X5_restore_26, X5_restore_29, X5_restore_30, X5_restore_31, X5_restore_34, X5_restore_35, X5_restore_38, X5_restore_41, gz0, gz2, gz3, Option.some.injEq, exists_eq_left', eq_self, okz0, okz1, ht, a, if_false, cz0, sw_copyB, Kr_n, Kj_n, pz (show 5 = 3 ∨ 5 = 5 ∨ 5 = 8 ∨ 5 = 11 by decide) (fun q => absurd q (by decide)), gtb (show 2 ≤ 2 by decide) (show 2 < 8 by decide), m0]
end AHE
