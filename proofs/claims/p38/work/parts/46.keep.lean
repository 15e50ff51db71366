/-! ===== what is kept behind a change ===== -/
def kpPa (c : Nat) (pa : Nat → Nat) (be : Nat) : Nat → Nat := if c = 8 then (fun k => if k < 7 then pa (k + 1) else if k = 7 then be else pa k) else updT pa c be
def kpBe (c : Nat) (pa : Nat → Nat) : Nat := if c = 8 then pa 0 else pa c
def kpC (c : Nat) : Nat := if c = 8 then 8 else c + 1
/-- the tables of past and before: 3 to 11, each once -/
def Pm (pa : Nat → Nat) (be : Nat) : Prop := (∀ k, k < 8 → 3 ≤ pa k ∧ pa k < 12) ∧ (3 ≤ be ∧ be < 12) ∧ (∀ j k, j < 8 → k < 8 → pa j = pa k → j = k) ∧ ∀ k, k < 8 → pa k ≠ be
theorem Pm.kp {pa : Nat → Nat} {be c : Nat} (h : Pm pa be) (hc : c ≤ 8) : Pm (kpPa c pa be) (kpBe c pa) := by
  obtain ⟨h1, h2, h3, h4⟩ := h
  unfold kpPa kpBe
  by_cases e : c = 8
  · rw [if_pos e, if_pos e]
    refine ⟨fun k hk => ?_, h1 0 (by decide), fun j k hj hk q => ?_, fun k hk q => ?_⟩
    · dsimp only
      by_cases a : k < 7
      · rw [if_pos a]; exact h1 _ (by omega)
      · rw [if_neg a, if_pos (by omega)]; exact h2
    · dsimp only at q
      by_cases a : j < 7
      · rw [if_pos a] at q
        by_cases b : k < 7
        · rw [if_pos b] at q
          have := h3 _ _ (by omega) (by omega) q
          omega
        · rw [if_neg b, if_pos (by omega)] at q
          exact absurd q (h4 _ (by omega))
      · rw [if_neg a, if_pos (by omega)] at q
        by_cases b : k < 7
        · rw [if_pos b] at q
          exact absurd q.symm (h4 _ (by omega))
        · omega
    · dsimp only at q
      by_cases a : k < 7
      · rw [if_pos a] at q
        have := h3 _ _ (by omega) (by omega) q
        omega
      · rw [if_neg a, if_pos (by omega)] at q
        exact absurd q.symm (h4 _ (by decide))
  · rw [if_neg e, if_neg e]
    have hc8 : c < 8 := by omega
    refine ⟨fun k hk => ?_, h1 c hc8, fun j k hj hk q => ?_, fun k hk q => ?_⟩
    · unfold updT
      split
      · exact h2
      · exact h1 k hk
    · unfold updT at q
      by_cases a : j = c
      · rw [if_pos a] at q
        by_cases b : k = c
        · omega
        · rw [if_neg b] at q
          exact absurd q.symm (h4 k hk)
      · rw [if_neg a] at q
        by_cases b : k = c
        · rw [if_pos b] at q
          exact absurd q (h4 j hj)
        · rw [if_neg b] at q
          exact h3 _ _ hj hk q
    · unfold updT at q
      by_cases a : k = c
      · rw [if_pos a] at q
        exact absurd q.symm (h4 c hc8)
      · rw [if_neg a] at q
        exact a (h3 _ _ hk hc8 q)
section KEEP
variable {X : Cxt} {w : Wld} {n : Option Nat} {Q : (Option Value ⊕ String) → Wld → Option Nat → Prop} {x cnt c : Nat} {T : Nat → Tb} {pa : Nat → Nat} {be : Nat} {Z P C D R Lt : Nat → Int32}
/-- the places move down by one -/
theorem rot_eq {pa : Nat → Nat} : itr (fun k (p : Nat → Nat) => updT p k (p (k + 1))) 7 pa = fun k => if k < 7 then pa (k + 1) else pa k := by
  have h : ∀ m, m ≤ 7 → itr (fun k (p : Nat → Nat) => updT p k (p (k + 1))) m pa = fun k => if k < m then pa (k + 1) else pa k := by
    intro m
    induction m with
    | zero => intro _; funext k; exact (if_neg (Nat.not_lt_zero k)).symm
    | succ m ih =>
      intro hm
      rw [itr_s, ih (by omega)]
      funext k
      unfold updT
      dsimp only
      by_cases a : k = m
      · rw [if_pos a, if_neg (by omega), if_pos (by omega), a]
      · rw [if_neg a]
        by_cases b : k < m
        · rw [if_pos b, if_pos (by omega)]
        · rw [if_neg b, if_neg (by omega)]
  exact h 7 (Nat.le_refl 7)
theorem sw_keepBefore (hZ : Z 5 = nI c) (hc : c ≤ 8) (hP : Pm pa be) : Ev X 14 0 [some (.ref x), none, none] [] (SW w x T pa be Z P C D R Lt) n 0 0 Q ↔ Q (.inl none) (SW w x T (kpPa c pa be) (kpBe c pa) (upd Z 5 (nI (kpC c))) P C D R Lt) n := by
  have tail : ∀ (l1 l2 : Option Value) (pa : Nat → Nat) (Z : Nat → Int32) (c : Nat), Z 5 = nI c → c < 8 → be < 12 → (Ev X 14 62 [some (.ref x), l1, l2] [] (SW w x T pa be Z P C D R Lt) n 0 0 Q ↔ Q (.inl none) (SW w x T (updT pa c be) (pa c) (upd Z 5 (nI (c + 1))) P C D R Lt) n) := by
    intro l1 l2 pa Z c hZ hc hb
    simp only [X5_keepBefore_62, X5_keepBefore_63, gz4, Option.some.injEq, exists_eq_left', eq_self, okz0, okz1, ht, X5_keepBefore_66, X5_keepBefore_67, gz5, hZ, X5_keepBefore_70, gza hc, X5_keepBefore_71, X5_keepBefore_72, X5_keepBefore_73, X5_keepBefore_76, X5_keepBefore_77, X5_keepBefore_80, X5_keepBefore_81, gz6, X5_keepBefore_84, sza hc hb, X5_keepBefore_85, X5_keepBefore_86, X5_keepBefore_87, pz6, X5_keepBefore_90, X5_keepBefore_91, X5_keepBefore_92, X5_keepBefore_95, X5_keepBefore_96, nI_1, X5_keepBefore_97, pz (show 5 = 3 ∨ 5 = 5 ∨ 5 = 8 ∨ 5 = 11 by decide) (fun q => absurd q (by decide)), X5_keepBefore_100]
  unfold kpPa kpBe kpC
  by_cases e : c = 8
  · subst e
    rw [if_pos rfl, if_pos rfl, if_pos rfl]
    have z0 : (0 : Int32) = nI 0 := rfl
    have z1 : (1 : Int32) = nI 1 := rfl
    have z7 : (7 : Int32) = nI 7 := rfl
    have z8 : nI 8 = (8 : Int32) := rfl
    have g0 : (ga (SW w x T pa be Z P C D R Lt) (x + 34) 4 0).or (ga (SW w x T pa be Z P C D R Lt) (x + 34) 5 0) = some (.ref (x + tof (pa 0))) := gza (k := 0) (by decide)
    have hL := loop_upI (P := fun k (p : Nat → Nat) => Ev X 14 18 [some (.ref x), some (.ref (x + tof (pa 0))), some (.int (nI (k + 1)))] [] (SW w x T p be Z P C D R Lt) n 0 0 Q) (f := fun k (p : Nat → Nat) => updT p k (p (k + 1))) (n := 7) (a0 := pa) (I := fun _ p => ∀ k, k < 8 → p k < 12) (fun k hk => (hP.1 k hk).2) (fun k p hk hp j hj => by
      unfold updT
      split
      · exact hp _ (by omega)
      · exact hp _ hj) (fun k p hk hp => by
      have hlt : nI (k + 1) < 8 := show nI (k + 1) < nI 8 from nI_lt (by omega) (by decide)
      have e1 : nI (k + 1) - 1 = nI k := nI_pred k
      simp only [X5_keepBefore_18, X5_keepBefore_19, X5_keepBefore_21, hlt, if_true, X5_keepBefore_24, X5_keepBefore_25, gz4, Option.some.injEq, exists_eq_left', eq_self, okz0, okz1, ht, X5_keepBefore_28, X5_keepBefore_29, X5_keepBefore_30, e1, X5_keepBefore_31, X5_keepBefore_32, X5_keepBefore_35, X5_keepBefore_36, gza (show k + 1 < 8 by omega), X5_keepBefore_37, sza (show k < 8 by omega) (hp (k + 1) (by omega)), X5_keepBefore_38, X5_keepBefore_41, nI_1])
    obtain ⟨hL, hI⟩ := hL
    rw [rot_eq] at hL hI
    have h7 : (if 7 < 7 then pa (7 + 1) else pa 7) < 12 := hI 7 (by decide)
    have hlt8 : nI (7 + 1) < 8 ↔ False := by decide
    have hlt9 : (8 : Int32) < 8 ↔ False := by decide
    have s7 : saq (SW w x T (fun k => if k < 7 then pa (k + 1) else pa k) be Z P C D R Lt) (x + 34) 7 (x + tof (pa 0)) = some (SW w x T (updT (fun k => if k < 7 then pa (k + 1) else pa k) 7 (pa 0)) be Z P C D R Lt) := sza (k := 7) (by decide) (hP.1 0 (by decide)).2
    have e87 : (8 : Int32) - 1 = nI 7 := by decide
    simp only [X5_keepBefore_0, X5_keepBefore_1, gz5, Option.some.injEq, exists_eq_left', eq_self, okz0, okz1, ht, hZ, z8, X5_keepBefore_4, X5_keepBefore_6, if_true, X5_keepBefore_9, X5_keepBefore_10, gz4, X5_keepBefore_13, X5_keepBefore_14, g0, X5_keepBefore_15, X5_keepBefore_16, X5_keepBefore_17]
    refine hL.trans ?_
    simp only [X5_keepBefore_18, X5_keepBefore_19, X5_keepBefore_21, hlt8, hlt9, if_false, X5_keepBefore_44, X5_keepBefore_45, gz4, Option.some.injEq, exists_eq_left', eq_self, okz0, okz1, ht, X5_keepBefore_48, X5_keepBefore_50, X5_keepBefore_51, s7, X5_keepBefore_52, X5_keepBefore_53, X5_keepBefore_54, gz5, hZ, z8, X5_keepBefore_57, X5_keepBefore_58, e87, X5_keepBefore_59, pz (show 5 = 3 ∨ 5 = 5 ∨ 5 = 8 ∨ 5 = 11 by decide) (fun q => absurd q (by decide))]
    rw [tail _ _ _ _ 7 upd_same (by decide) hP.2.1.2, upd_upd, updT_s]
    have eP : updT (updT (fun k => if k < 7 then pa (k + 1) else pa k) 7 (pa 0)) 7 be = fun k => if k < 7 then pa (k + 1) else if k = 7 then be else pa k := by
      funext k
      unfold updT
      by_cases a : k = 7
      · rw [if_pos a, if_neg (by omega), if_pos a]
      · rw [if_neg a, if_neg a]
        dsimp only
        by_cases b : k < 7
        · rw [if_pos b, if_pos b]
        · rw [if_neg b, if_neg b, if_neg a]
    rw [eP]
    exact Iff.rfl
  · rw [if_neg e, if_neg e, if_neg e]
    have h8 : nI c = 8 ↔ False := ⟨fun q => e ((nI_eq (by omega) (by decide)).mp (show nI c = nI 8 from q)), False.elim⟩
    simp only [X5_keepBefore_0, X5_keepBefore_1, gz5, Option.some.injEq, exists_eq_left', eq_self, okz0, okz1, ht, hZ, X5_keepBefore_4, X5_keepBefore_6, h8, if_false]
    exact tail none none pa Z c hZ (by omega) hP.2.1.2
theorem sw_kept_ok (hZ : Z 5 = nI c) (hc : c ≤ 8) (hP : Pm pa be) {v : Int32} (hv : v ≠ -1) : Ev X 15 0 [some (.ref x), some (.int v)] [] (SW w x T pa be Z P C D R Lt) n 0 0 Q ↔ Q (.inl (some (.int v))) (SW w x T (kpPa c pa be) (kpBe c pa) (upd Z 5 (nI (kpC c))) P C D R Lt) n := by
  simp only [X5_kept_0, X5_kept_1, X5_kept_2, hv, if_false, X5_kept_24, X5_kept_25 cz, sw_keepBefore hZ hc hP, Kr_n, Kj_n, X5_kept_28, X5_kept_29]
theorem sw_kept_no : Ev X 15 0 [some (.ref x), some (.int (-1))] [] (SW w x T pa be Z P C D R Lt) n 0 0 Q ↔ Q (.inr "java/lang/UnsupportedOperationException") (SW w x T pa be Z P C D (upd R 2 0) Lt) (n.map (· + 1)) := by
  simp only [X5_kept_0, X5_kept_1, X5_kept_2, if_true, X5_kept_5, X5_kept_6, gz9, Option.some.injEq, exists_eq_left', eq_self, okz0, okz1, ht, X5_kept_9, X5_kept_10, pzR (show 2 < 3 by decide), X5_kept_13]
/-- the tables once the one numbered 0 was copied to the one numbered i -/
def mixT (T : Nat → Tb) (i j : Nat) : Nat → Tb := updT T i ((T j).1, mixG (T i).2.1 (T j).2.1, (T j).2.2)
theorem SW_Tbl {i : Nat} (hi : i < 12) : Tbl (SW w x T pa be Z P C D R Lt) (x + tof i) (T i) := fun a h1 h2 => by
  rw [SW_tab hi h1 h2]
  exact bk_in h1 h2
theorem tof_dis {i j : Nat} (hi : i < 12) (hj : j < 12) (h : i ≠ j) : x + tof j + 11 ≤ x + tof i ∨ x + tof i + 11 ≤ x + tof j := by
  unfold tof
  (repeat' split) <;> omega
theorem sw_copy {i j : Nat} (hi : i < 12) (hj : j < 12) (h : i ≠ j) : Ev X 6 0 [some (.ref (x + tof i)), some (.ref (x + tof j)), none] [] (SW w x T pa be Z P C D R Lt) n 0 0 Q ↔ Q (.inl none) (SW w x (mixT T i j) pa be Z P C D R Lt) n := by
  have h1 := sp_tableCopy (X := X) (n := n) (Q := Q) (w := SW w x T pa be Z P C D R Lt) (t := x + tof i) (u := x + tof j) (F := (T i).1) (G := (T i).2.1) (S := (T i).2.2) (F' := (T j).1) (G' := (T j).2.1) (S' := (T j).2.2) (tof_dis hi hj h) (SW_Tbl hj)
  have e1 := SW_id (w := w) (x := x) (T := T) (pa := pa) (be := be) (Z := Z) (P := P) (C := C) (D := D) (R := R) (Lt := Lt) hi
  have e2 := SW_up (w := w) (x := x) (T := T) (pa := pa) (be := be) (Z := Z) (P := P) (C := C) (D := D) (R := R) (Lt := Lt) hi (s := ((T j).1, mixG (T i).2.1 (T j).2.1, (T j).2.2))
  unfold bk at e1 e2
  rw [e1] at h1
  dsimp only at e2
  rw [e2] at h1
  exact h1
/-- the end of a change: refused for a reason, or done and kept -/
def aft (Q : (Option Value ⊕ String) → Wld → Option Nat → Prop) (w : Wld) (x : Nat) (T : Nat → Tb) (pa : Nat → Nat) (be : Nat) (Z P C D R Lt : Nat → Int32) (c : Nat) (n : Option Nat) : (Int32 × Int32) ⊕ (Int32 × Tb) → Prop
  | .inl (a, b) => Q (.inr "java/lang/UnsupportedOperationException") (SW w x (mixT T be 0) pa be Z P C D (upd (upd (upd R 0 a) 1 b) 2 0) Lt) (n.map (· + 1))
  | .inr (v, s2) => Q (.inl (some (.int v))) (SW w x (updT (mixT T be 0) 0 s2) (kpPa c pa be) (kpBe c pa) (upd Z 5 (nI (kpC c))) P C D R Lt) n
theorem mixT_0 {be : Nat} (h : 3 ≤ be) : mixT T be 0 0 = T 0 := updT_o (by omega)
/-- a change of the table numbered 0, in a SoupTable's world -/
theorem sw_ans {r : (Int32 × Int32) ⊕ (Int32 × Tb)} : ans Q (SW w x T pa be Z P C D R Lt) (x + 49) (x + 1) R (T 0) n r ↔ match r with
    | .inl (a, b) => Q (.inl (some (.int (-1)))) (SW w x T pa be Z P C D (upd (upd R 0 a) 1 b) Lt) n
    | .inr (v, s2) => Q (.inl (some (.int v))) (SW w x (updT T 0 s2) pa be Z P C D R Lt) n := by
  cases r with
  | inl q =>
    obtain ⟨a, b⟩ := q
    show Q _ (bk (rfc _ _ _) _ _) n ↔ _
    rw [SW_R, SW_id0]
  | inr q =>
    obtain ⟨v, s2⟩ := q
    show Q _ (bk (rfc _ _ _) _ _) n ↔ _
    rw [SW_R, SW_up0]
theorem R_own : blk (rfc (SW w x T pa be Z P C D R Lt) (x + 49) R) (x + 1) (T 0).1 (T 0).2.1 (T 0).2.2 = SW w x T pa be Z P C D R Lt := by
  rw [SW_R]
  exact SW_id0
theorem r49 : x + 49 < x + 1 ∨ x + 1 + 11 ≤ x + 49 := Or.inr (by omega)
end KEEP
