/-! ===== the opening's tables ===== -/
/-- after the bowls were brought: k seats that think, of alternating manners -/
def jS (k : Nat) : Nat → Nat → Int32 := fun a j => if a < k then (if j = 0 then nI (a % 2) else if j = 1 then 1 else if j = 2 then 9 else if j = 4 then 1 else 0) else 0
def jF (k : Nat) : Nat → Int32 := fun j => if j = 2 then nI k else if j = 4 then 99 else 0
def jT (k : Nat) : Tb := (jF k, s00.2.1, jS k)
def pT : Tb := tickF 8 (jT 8)
theorem p_held : itr (heldF pT.2.1) 8 0 = 7 := by decide +kernel
theorem p_line : lnl pT = LBY.getD 11 [] := by decide +kernel
theorem p_eat : itr (eatF pT.2.2) 8 0 = 41 := by decide +kernel
theorem p_stuck : stuI 8 pT.1 pT.2.1 pT.2.2 = 0 := by decide +kernel
theorem p_w2 : waV pT 2 = 1 := by decide +kernel
theorem p_w7 : waV pT 7 = 0 := by decide +kernel
theorem p_cnt : cntOf pT = 8 := by decide +kernel
theorem p_meals : itr (mealsOfAllF pT.2.2) 8 0 = 0 := by decide +kernel
theorem j_sure : surF 8 (jT 8) = 1 := by decide +kernel
theorem j_held : ∀ k, k < 9 → itr (heldF (jT k).2.1) 8 0 = 0 := by decide +kernel
/-! the line is compared -/
section ISL
variable {X : Cxt} {w w0 : Wld} {n x m N B : Nat} {Q : (Option Value ⊕ String) → Wld → Option Nat → Prop} {s : St}
theorem A_isLine (hX : LitX X) (hg : Iv B s.cur) {a : Nat} {L : List Int32} (hS : ∀ w, StrIn X w a L) (hA : Asc L) (e : lnl s.cur = L) (h : AW x w0 m N s w n) (hQ : ∀ w n, AW x w0 m (N + L.length + 1) s w n → Q (.inl (some (.int 1))) w (some n)) : Ev X 96 0 [some (.ref x), some (.ref a), none] [] w (some n) 0 0 Q := by
  refine L_isLine_0.mpr ((L_isLine_1 h.c).mpr ?_)
  refine A_line hX hg h ?_
  clear h
  intro w p h
  rw [e] at h ⊢
  have h40 : L.length ≤ 40 := by
    obtain ⟨w1, T, pa, be, Z, P, C, D, R, Lt, rfl, hw, a⟩ := h
    exact a.h40
  refine L_isLine_4.mpr (?_)
  refine (L_isLine_5 (hS _).hs).mpr ?_
  refine (S_len (hS _)).mpr ?_
  refine L_isLine_8.mpr (ifT (rfl) ?_)
  refine L_isLine_13.mpr (L_isLine_14.mpr (?_))
  refine lpN (α := Unit) (E := fun k _ w p => Ev X 96 15 [some (.ref x), some (.ref a), some (.int (nI k))] [] w (some p) 0 0 Q) (A := fun k w p => AWL x w0 m (N + k) s L w p) (f := fun _ u => u) (n := L.length) (a0 := ()) (fun k _ w p hk h next => ?_) (fun w p h => ?_) w p h
  · refine L_isLine_15.mpr (L_isLine_16.mpr (?_))
    refine (L_isLine_17 (hS _).hs).mpr ?_
    refine (S_len (hS _)).mpr ?_
    refine L_isLine_20.mpr (ifT (nI_lt hk (by omega)) ?_)
    refine L_isLine_23.mpr (L_isLine_24.mpr (?_))
    refine L_isLine_25.mpr ?_
    refine A_character hk h ?_
    clear h
    intro w p h
    refine L_isLine_28.mpr (L_isLine_29.mpr (?_))
    refine (L_isLine_30 (hS _).hs).mpr ?_
    refine (S_at (hS _) hA hk (by omega)).mpr ?_
    refine L_isLine_33.mpr (ifT (rfl) ?_)
    refine L_isLine_38.mpr (L_isLine_41.mpr (?_))
    rw [nI_1]
    exact next _ _ h
  · refine L_isLine_15.mpr (L_isLine_16.mpr (?_))
    refine (L_isLine_17 (hS _).hs).mpr ?_
    refine (S_len (hS _)).mpr ?_
    refine L_isLine_20.mpr (ifF (iirr) ?_)
    refine L_isLine_44.mpr (L_isLine_45.mpr (?_))
    refine (L_isLine_46 (hS _).hs).mpr ?_
    refine (S_len (hS _)).mpr ?_
    refine L_isLine_49.mpr ?_
    refine A_character_out has_self h ?_
    clear h
    intro w p h
    refine L_isLine_52.mpr (?_)
    refine L_isLine_55.mpr (ifT (rfl) ?_)
    refine L_isLine_58.mpr (L_isLine_59.mpr (?_))
    exact (L_isLine_63 okz1).mpr (hQ _ _ h.aw)
end ISL
theorem upd_jF {k : Nat} {v : Int32} (h : v = nI (k + 1)) : upd (jF k) 2 v = jF (k + 1) := by
  subst h
  funext j
  unfold upd jF
  by_cases a : j = 2
  · rw [if_pos a, if_pos a]
  · rw [if_neg a, if_neg a, if_neg a]
theorem bg_jS {k l : Nat} (hl : l = k ∨ l = k + 1) {v : Int32} (h : v = nI (k % 2)) : bgS (jS l) k v 1 9 = jS (k + 1) := by
  subst h
  funext a j
  unfold bgS btS
  have e1 : up2 (up2 (up2 (up2 (up2 (up2 (up2 (up2 (jS l) k 0 (nI (k % 2))) k 1 1) k 2 9) k 5 0) k 6 0) k 7 0) k 8 0) k 3 0 k 1 = 1 := by
    simp only [up2_k, Nat.reduceEqDiff, ↓reduceIte]
  by_cases c : a = k
  · subst c
    unfold jS
    rw [if_pos (Nat.lt_succ_self a)]
    by_cases c0 : j = 0
    · subst c0; simp only [up2_k, Nat.reduceEqDiff, ↓reduceIte]
    by_cases c1 : j = 1
    · subst c1; simp only [up2_k, Nat.reduceEqDiff, ↓reduceIte]
    by_cases c2 : j = 2
    · subst c2; simp only [up2_k, Nat.reduceEqDiff, ↓reduceIte]
    by_cases c4 : j = 4
    · subst c4; simp only [up2_k, Nat.reduceEqDiff, ↓reduceIte]
    rw [if_neg c0, if_neg c1, if_neg c2, if_neg c4]
    simp only [up2_k, c4, c0, c1, c2, if_false]
    (repeat' split) <;> first | rfl | (rw [if_neg c0, if_neg c1, if_neg c2, if_neg c4])
  · simp only [up2_o c]
    unfold jS
    simp only [show (a < l) = (a < k + 1) from propext (by omega)]
theorem cnt_jT {k : Nat} (h : k < 9) : cntOf (jT k) = k := nI_clamp (by omega)
theorem s00_iv : Iv 0 s00 := by
  have e : IvC 0 (fun _ => 0) (fun _ => 0) s00 := ⟨rfl, by decide, fun j hj => absurd hj (Nat.not_lt_zero j), fun j _ h => if_pos h, fun j h => if_neg (by omega), fun k hk => absurd hk (Nat.not_lt_zero k), fun k hk => absurd hk (Nat.not_lt_zero k), fun k hk => absurd hk (Nat.not_lt_zero k), ⟨0, by decide, rfl⟩, ⟨20, by decide, rfl⟩, fun k hk => absurd hk (Nat.not_lt_zero k)⟩
  exact e.iv (fun _ _ => Nat.le_refl 0)
theorem o_bri : briF 79 s00 = .inr (99, jT 0) := by
  have e1 : upd s00.1 4 (s00.1 4 + 79) = jF 0 := by
    funext j
    unfold upd jF s00
    dsimp only
    by_cases a : j = 4
    · subst a; rfl
    · rw [if_neg a, if_neg a, if_neg a]
      split <;> rfl
  have e2 : s00.2.2 = jS 0 := by
    funext a j
    exact (if_neg (Nat.not_lt_zero a)).symm
  unfold briF
  rw [if_neg (by decide), if_neg (by decide), if_neg (by decide), e1, e2]
  rfl
theorem j_held0 {k : Nat} (h : k < 9) : itr (heldF (jT k).2.1) k 0 = 0 := held_z (fun j hj => if_pos (show j < 8 by omega))
theorem o_add {k : Nat} (h : k < 8) {v : Int32} (hv : v = nI (k % 2)) : addF (cntOf (jT k)) v 1 9 (jT k) = .inr (nI k, jT (k + 1)) := by
  rw [cnt_jT (by omega)]
  have e2 : (jT k).1 2 = nI k := rfl
  have n1 : ¬ mnF v = 0 := by rw [hv]; exact mnF_ok (Nat.mod_lt _ (by decide))
  unfold addF
  rw [if_neg n1, if_neg (by decide), if_neg (by decide), e2, if_pos (show nI k < 8 from nI_lt h (by decide)), j_held0 (by omega), if_neg (by decide), nI_1, nI_pred]
  show (Sum.inr (nI k, (upd (jF k) 2 (nI (k + 1)), s00.2.1, bgS (jS k) k v 1 9)) : (Int32 × Int32) ⊕ (Int32 × Tb)) = _
  rw [upd_jF rfl, bg_jS (Or.inl rfl) hv]
  rfl
/-- after a seat has left the eight -/
def kT : Tb := (jF 7, s00.2.1, jS 8)
theorem o_rem : remF (cntOf (jT 8)) (jT 8) = .inr (7, kT) := by
  rw [cnt_jT (by decide)]
  unfold remF
  rw [if_neg (by decide), j_held0 (by decide), if_neg (by decide)]
  have e1 : upd (jT 8).1 2 ((jT 8).1 2 - 1) = jF 7 := by
    funext j
    show upd (jF 8) 2 (jF 8 2 - 1) j = _
    unfold upd jF
    by_cases a : j = 2
    · rw [if_pos a, if_pos a]; rfl
    · rw [if_neg a, if_neg a, if_neg a]
  rw [e1]
  rfl
theorem o_add8 : addF (cntOf (jT 8)) 0 1 1 (jT 8) = .inl (2, 8) := by
  unfold addF
  rw [if_neg (by decide), if_neg (by decide), if_neg (by decide), if_neg (by decide)]
theorem o_addk : addF (cntOf kT) 1 1 9 kT = .inr (7, jT 8) := by
  have e0 : cntOf kT = 7 := by decide
  rw [e0]
  unfold addF
  rw [if_neg (by decide), if_neg (by decide), if_neg (by decide), if_pos (by decide), show itr (heldF kT.2.1) 7 0 = 0 from held_z (fun j hj => if_pos (show j < 8 by omega)), if_neg (by decide)]
  show (Sum.inr (nI 7 + 1 - 1, (upd (jF 7) 2 (nI 7 + 1), s00.2.1, bgS (jS 8) 7 1 1 9)) : (Int32 × Int32) ⊕ (Int32 × Tb)) = _
  rw [upd_jF (k := 7) (v := nI 7 + 1) rfl, bg_jS (k := 7) (l := 8) (Or.inr rfl) (v := 1) rfl]
  rfl
theorem j_meals : itr (mealsOfAllF (jT 8).2.2) 8 0 = 0 := by decide +kernel
theorem o_pas : pasF (cntOf (jT 8)) 1 (jT 8) = .inr (0, pT) := by
  have e0 : cntOf (jT 8) = 8 := cnt_jT (by decide)
  have e1 : tksF 8 (1 : Int32).toNatClampNeg (jT 8) = pT := by
    rw [show (1 : Int32).toNatClampNeg = 1 from by decide]
    unfold tksF pT
    rw [itr_s]
    rfl
  rw [e0]
  unfold pasF
  rw [if_neg (by decide), if_neg (by decide), if_neg (by decide), e1, p_meals, j_meals]
  rfl
theorem j_iv : ∀ k, k < 9 → Iv 0 (jT k) := by
  intro k
  induction k with
  | zero => intro _; exact (bri_inv s00_iv o_bri).2
  | succ k ih => intro h; exact (add_inv (ih (by omega)) (o_add (by omega) rfl)).2
theorem k_iv : Iv 0 kT := (rem_inv (j_iv 8 (by decide)) o_rem).2
theorem p_iv : Iv 99 pT := (pas_inv (j_iv 8 (by decide)) (by decide) o_pas).2
