/-! ===== commands ===== -/
def cntOf (s : Tb) : Nat := (s.1 2).toNatClampNeg
/-- the commands of a text carried out from the place p on: refused at one, or done -/
def cmdR (L : Nat) (C : Nat → Int32) : Nat → Nat → Nat → (Nat → Int32) → Tb → (Nat × Int32 × Int32) ⊕ (Nat × Tb)
  | 0, i, _, _, s => .inr (i, s)
  | d + 1, i, p, D, s => match cmdN L C p D with
    | none => .inr (i, s)
    | some (k, b, q, D2) => if b then (match obF (cntOf s) k D2 s with
      | .inl (u, v) => .inl (i, u, v)
      | .inr (_, s2) => cmdR L C d (i + 1) (if q < L ∧ C q = 59 then q + 1 else q) D2 s2) else .inr (i, s)
section CMD
variable {X : Cxt} {w : Wld} {n : Option Nat} {Q : (Option Value ⊕ String) → Wld → Option Nat → Prop} {x c L : Nat} {T : Nat → Tb} {pa : Nat → Nat} {be : Nat} {Z P C D R Lt : Nat → Int32}
theorem sw_findFault (hX : LitX X) (hP1 : P 1 = nI L) (hL : L ≤ 60) (hC : ∀ i, i < L → ∃ j : Nat, j < 65536 ∧ C i = nI j) (hQ : ∀ P2 D2, P2 1 = nI L → Q (.inl (some (.int (oI (fltN L C 60 0 D))))) (SW w x T pa be Z P2 C D2 R Lt) n) : Ev X 48 0 [some (.ref (x + 46)), none] [] (SW w x T pa be Z P C D R Lt) n 0 0 Q := by
  rw [← SW_X (P := P) (C := C) (D := D) (P2 := P) (C2 := C) (D2 := D)]
  refine sp_findFault hX hP1 hL hC (fun P2 D2 h => ?_)
  rw [SW_X]
  exact hQ P2 D2 h
theorem sw_readsCommand (hX : LitX X) {p : Nat} (hP1 : P 1 = nI L) (hp : P 2 = nI p) (hL : L ≤ 60) (hpL : p ≤ L) (hC : ∀ i, i < L → ∃ j : Nat, j < 65536 ∧ C i = nI j) : Ev X 46 0 [some (.ref (x + 46)), none, none] [] (SW w x T pa be Z P C D R Lt) n 0 0 Q ↔ match cmdN L C p D with
    | none => Q (.inl (some (.int 0))) (SW w x T pa be Z (upd P 3 (-1)) C D R Lt) n
    | some (k, b, q, D2) => Q (.inl (some (.int (if b then 1 else 0)))) (SW w x T pa be Z (upd (upd P 3 (nI k)) 2 (nI q)) C D2 R Lt) n := by
  have e := sp_readsCommand (X := X) (w := SW w x T pa be Z P C D R Lt) (n := n) (Q := Q) (t := x + 46) (D := D) hX hP1 hp hL hpL hC
  rw [SW_X] at e
  refine e.trans ?_
  cases cmdN L C p D with
  | none => dsimp only; rw [SW_X]
  | some v => obtain ⟨k, b, q, D2⟩ := v; dsimp only; rw [SW_X]
theorem sw_skip {p : Nat} (hp : P 2 = nI p) (h60 : P 2 < P 1 → p < 60) : Ev X 47 0 [some (.ref (x + 46)), none] [] (SW w x T pa be Z P C D R Lt) n 0 0 Q ↔ if skB P C p then Q (.inl (some (.int 1))) (SW w x T pa be Z (upd P 2 (P 2 + 1)) C D R Lt) n else Q (.inl (some (.int 0))) (SW w x T pa be Z P C D R Lt) n := by
  have e := sp_skipSemicolon (X := X) (w := SW w x T pa be Z P C D R Lt) (n := n) (Q := Q) (t := x + 46) (P := P) (C := C) (D := D) hp h60
  rw [SW_X, SW_X] at e
  exact e
theorem upd_23 {F : Nat → Int32} {a b : Int32} : upd (upd F 3 a) 2 b = upd (upd F 2 b) 3 a := by
  funext j
  unfold upd
  by_cases h : j = 2
  · rw [if_pos h, if_neg (by omega), if_pos h]
  · rw [if_neg h, if_neg h]
/-- the loop of commands -/
theorem sw_cmdLoop (hX : LitX X) (hL : L ≤ 60) (hC : ∀ i, i < L → ∃ j : Nat, j < 65536 ∧ C i = nI j) {I : Nat → Tb → Prop} (hI0 : ∀ d s, I (d + 1) s → cntOf s ≤ 8 ∧ s.1 2 = nI (cntOf s)) (hI : ∀ d s k D v s2, I (d + 1) s → k < 8 → obF (cntOf s) k D s = .inr (v, s2) → v ≠ -1 ∧ I d s2) :
    ∀ (d i p : Nat) (P D : Nat → Int32) (s : Tb), i + d = 60 → p ≤ L → P 1 = nI L → P 2 = nI p → I d s →
    (∀ (P2 D2 : Nat → Int32) (s3 : Tb), (∃ d, I d s3) → match cmdR L C d i p D s with
      | .inl (j, u, v) => Ev X 75 119 [some (.ref x), some (.int (nI (j + 1))), some (.int 1)] [] (SW w x (updT T 0 s3) pa be Z P2 C D2 (upd (upd R 0 u) 1 v) Lt) n 0 0 Q
      | .inr (j, s2) => s2 = s3 → Ev X 75 119 [some (.ref x), some (.int (nI j)), some (.int 0)] [] (SW w x (updT T 0 s2) pa be Z P2 C D2 R Lt) n 0 0 Q) →
    Ev X 75 60 [some (.ref x), some (.int (nI i)), some (.int 0)] [] (SW w x (updT T 0 s) pa be Z P C D R Lt) n 0 0 Q := by
  have e1 : (1 : Int32) = 0 ↔ False := by decide
  intro d
  induction d with
  | zero =>
    intro i p P D s hi hp h1 h2 hs hq
    have hlt : nI i < 60 ↔ False := ⟨fun q => nI_nlt (show 60 ≤ i by omega) (by omega) (show nI i < nI 60 from q), False.elim⟩
    rw [X5_commands_60, X5_commands_61, X5_commands_63]
    simp only [hlt, if_false]
    exact hq P D s ⟨_, hs⟩ rfl
  | succ d ih =>
    intro i p P D s hi hp h1 h2 hs hq
    have hlt : nI i < 60 := show nI i < nI 60 from nI_lt (by omega) (by decide)
    rw [X5_commands_60, X5_commands_61, X5_commands_63]
    simp only [hlt, if_true, X5_commands_66, X5_commands_67, X5_commands_70, X5_commands_71, gz7, Option.some.injEq, exists_eq_left', eq_self, okz0, okz1, ht, X5_commands_74 czX, sw_readsCommand hX h1 h2 hL hp hC]
    cases hc : cmdN L C p D with
    | none =>
      simp only [Kr_v, Kj_v, X5_commands_77, if_true]
      have := hq (upd P 3 (-1)) D s ⟨_, hs⟩
      rw [cmdR, hc] at this
      exact this rfl
    | some v =>
      obtain ⟨k, b, q, D2⟩ := v
      obtain ⟨v1, v2, v3, v4⟩ := cmdN_inv hc
      cases b with
      | false =>
        simp only [Kr_v, Kj_v, Bool.false_eq_true, if_false, X5_commands_77, if_true]
        have := hq (upd (upd P 3 (nI k)) 2 (nI q)) D2 s ⟨_, hs⟩
        rw [cmdR, hc] at this
        exact this rfl
      | true =>
        obtain ⟨i1, i2⟩ := hI0 d s hs
        have u2 : upd (upd P 3 (nI k)) 2 (nI q) 2 = nI q := upd_same
        have u1 : upd (upd P 3 (nI k)) 2 (nI q) 1 = nI L := h1
        have u3 : upd (upd P 3 (nI k)) 2 (nI q) 3 = nI k := by rw [upd_ne (by decide)]; exact upd_same
        have i60 : upd (upd P 3 (nI k)) 2 (nI q) 2 < upd (upd P 3 (nI k)) 2 (nI q) 1 → q < 60 := fun z => by
          rw [u2, u1] at z
          have : q < L := Nat.lt_of_not_le (fun y => nI_nlt y (by omega) z)
          omega
        have hc0 : (updT T 0 s 0).1 2 = nI (cntOf s) := by rw [updT_s]; exact i2
        have hu : ∀ s2 : Tb, updT (updT T 0 s) 0 s2 = updT T 0 s2 := fun s2 => by
          funext j
          unfold updT
          split <;> rfl
        simp only [Kr_v, Kj_v, if_true, X5_commands_77, e1, if_false, X5_commands_80, X5_commands_81, X5_commands_84, X5_commands_85, X5_commands_88, X5_commands_89, gz0, gz7, gz9, Option.some.injEq, exists_eq_left', eq_self, okz0, okz1, ht, X5_commands_92 cz0, sw_obey hc0 i1 v2 u3, updT_s]
        cases ho : obF (cntOf s) k D2 s with
        | inl r =>
          obtain ⟨a, b⟩ := r
          have hq' := fun P2 D2 s3 h => hq P2 D2 s3 h
          simp only [cmdR, hc, if_true, ho] at hq'
          simp only [ansS, Kr_v, Kj_v, X5_commands_95, X5_commands_96, if_true, X5_commands_99, X5_commands_100, X5_commands_104, X5_commands_105, X5_commands_106, gz7, Option.some.injEq, exists_eq_left', eq_self, okz0, okz1, ht, X5_commands_109 czX, sw_skip u2 i60]
          have fin : ∀ P2, Ev X 75 60 [some (.ref x), some (.int (nI (i + 1))), some (.int 1)] [] (SW w x (updT T 0 s) pa be Z P2 C D2 (upd (upd R 0 a) 1 b) Lt) n 0 0 Q := by
            intro P2
            rw [X5_commands_60, X5_commands_61, X5_commands_63]
            by_cases h6 : nI (i + 1) < 60
            · rw [if_pos h6, X5_commands_66, X5_commands_67, if_neg (by decide)]
              exact hq' P2 D2 s ⟨_, hs⟩
            · rw [if_neg h6]
              exact hq' P2 D2 s ⟨_, hs⟩
          split
          · simp only [Kr_v, Kj_v, X5_commands_112, X5_commands_113, X5_commands_116, nI_1]
            exact fin _
          · simp only [Kr_v, Kj_v, X5_commands_112, X5_commands_113, X5_commands_116, nI_1]
            exact fin _
        | inr r =>
          obtain ⟨v, s2⟩ := r
          obtain ⟨hv, hs2⟩ := hI d s k D2 v s2 hs v2 ho
          have hq' := fun P2 D2 s3 h => hq P2 D2 s3 h
          simp only [cmdR, hc, if_true, ho] at hq'
          simp only [ansS, Kr_v, Kj_v, X5_commands_95, X5_commands_96, hv, if_false, X5_commands_103, X5_commands_104, X5_commands_105, X5_commands_106, gz7, Option.some.injEq, exists_eq_left', eq_self, okz0, okz1, ht, X5_commands_109 czX, sw_skip u2 i60, hu]
          by_cases sk : skB (upd (upd P 3 (nI k)) 2 (nI q)) C q = true
          · have sk2 : q < L ∧ C q = 59 := by
              unfold skB at sk
              rw [u2, u1] at sk
              have sk := of_decide_eq_true sk
              exact ⟨Nat.lt_of_not_le (fun y => nI_nlt y (by omega) sk.1), sk.2⟩
            simp only [sk2, and_self, if_true] at hq'
            rw [if_pos sk]
            simp only [Kr_v, Kj_v, X5_commands_112, X5_commands_113, X5_commands_116, nI_1, u2]
            exact ih (i + 1) (q + 1) _ D2 s2 (by omega) (by omega) h1 upd_same hs2 hq'
          · have sk2 : ¬ (q < L ∧ C q = 59) := by
              intro z
              apply sk
              unfold skB
              rw [u2, u1]
              exact decide_eq_true ⟨nI_lt z.1 (by omega), z.2⟩
            simp only [sk2, if_false] at hq'
            rw [if_neg sk]
            simp only [Kr_v, Kj_v, X5_commands_112, X5_commands_113, X5_commands_116, nI_1]
            exact ih (i + 1) q _ D2 s2 (by omega) v4 h1 u2 hs2 hq'
theorem sw_commands (hX : LitX X) (hZ : Z 5 = nI c) (hc8 : c ≤ 8) (hP : Pm pa be) (hP1 : P 1 = nI L) (hL : L ≤ 60) (hC : ∀ i, i < L → ∃ j : Nat, j < 65536 ∧ C i = nI j) {I : Nat → Tb → Prop} (hI0 : ∀ d s, I (d + 1) s → cntOf s ≤ 8 ∧ s.1 2 = nI (cntOf s)) (hI : ∀ d s k D v s2, I (d + 1) s → k < 8 → obF (cntOf s) k D s = .inr (v, s2) → v ≠ -1 ∧ I d s2) (h0 : I 60 (T 0))
    (hQ : ∀ (P2 D1 D2 : Nat → Int32) (s3 : Tb), P2 1 = 0 → (∃ d, I d s3) → match fltN L C 60 0 D with
      | some q => Q (.inr IAE) (SW w x T pa be (upd Z 8 (nI q)) P2 C D2 R Lt) (n.map (· + 1))
      | none => match cmdR L C 60 0 0 D1 (T 0) with
        | .inl (j, u, v) => Q (.inr UOE) (SW w x (mixT (updT (mixT T be 0) 0 s3) 0 be) pa be (upd Z 8 (-1)) P2 C D2 (upd (upd (upd R 0 u) 1 v) 2 (nI j)) Lt) (n.map (· + 1))
        | .inr (j, s2) => s2 = s3 → Q (.inl (some (.int (nI j)))) (SW w x (updT (mixT T be 0) 0 s2) (kpPa c pa be) (kpBe c pa) (upd (upd Z 8 (-1)) 5 (nI (kpC c))) P2 C D2 R Lt) n) : Ev X 75 0 [some (.ref x), none, none] [] (SW w x T pa be Z P C D R Lt) n 0 0 Q := by
  have e1 : (1 : Int32) = 0 ↔ False := by decide
  simp only [X5_commands_0, X5_commands_1, X5_commands_2, gz7, Option.some.injEq, exists_eq_left', eq_self, okz0, okz1, ht, X5_commands_5 czX]
  refine sw_findFault hX hP1 hL hC (fun P2 D1 h1 => ?_)
  simp only [Kr_v, Kj_v, X5_commands_8, pz (show 8 = 3 ∨ 8 = 5 ∨ 8 = 8 ∨ 8 = 11 by decide) (fun q => absurd q (by decide)), Option.some.injEq, exists_eq_left', eq_self, okz0, okz1, ht, X5_commands_11, X5_commands_12, gz8, upd_same, X5_commands_15, X5_commands_16]
  cases hf : fltN L C 60 0 D with
  | some q =>
    have hq := hQ (upd P2 1 0) D1 D1 (T 0) upd_same ⟨_, h0⟩
    rw [hf] at hq
    by_cases hm : oI (some q) = -1
    · exfalso
      have hq60 : q ≤ 60 := by
        have h : ∀ d p D, p ≤ L → fltN L C d p D = some q → q ≤ L := by
          intro d
          induction d with
          | zero => intro p D hp h; unfold fltN at h; cases h; exact hp
          | succ d ih =>
            intro p D hp h
            unfold fltN at h
            cases hc : cmdN L C p D with
            | none => rw [hc] at h; cases h; exact hp
            | some v =>
              obtain ⟨k, b, q2, D2⟩ := v
              obtain ⟨v1, v2, v3, v4⟩ := cmdN_inv hc
              rw [hc] at h
              dsimp only at h
              split at h
              · split at h
                · split at h
                  · exact ih _ _ (by omega) h
                  · cases h; exact v4
                · cases h
              · cases h; exact v4
        have := h 60 0 D (Nat.zero_le L) hf
        omega
      exact (nI_m1 (by omega)).mp hm
    · simp only [hm, if_false, X5_commands_19, X5_commands_20, gz7, Option.some.injEq, exists_eq_left', eq_self, okz0, okz1, ht, X5_commands_23, X5_commands_24, pzX (show 1 ≤ 1 by decide) (show 1 < 4 by decide), X5_commands_27]
      exact hq
  | none =>
    have hm : oI none = -1 := rfl
    have hq0 := fun P3 D2 s3 h hi => hQ P3 D1 D2 s3 h hi
    rw [hf] at hq0
    dsimp only at hq0
    have hb := hP.2.1
    have hm0 : mixT T be 0 = updT (mixT T be 0) 0 (T 0) := by
      funext j
      unfold updT
      split
      · rename_i hj; rw [hj]; exact mixT_0 hb.1
      · rfl
    simp only [hm, if_true, X5_commands_37, X5_commands_38, X5_commands_41, X5_commands_42, gz0, gz6, gz7, Option.some.injEq, exists_eq_left', eq_self, okz0, okz1, ht, X5_commands_45 (czT hb.2), sw_copy0 hb.2 hb.1, Kr_n, Kj_n, X5_commands_48, X5_commands_49, X5_commands_50, X5_commands_51, X5_commands_52, X5_commands_53, X5_commands_56, X5_commands_57, pzX (show 1 ≤ 2 by decide) (show 2 < 4 by decide)]
    rw [hm0]
    have z0 : nI 0 = 0 := rfl
    have hloop := sw_cmdLoop (X := X) (w := w) (n := n) (Q := Q) (x := x) (T := mixT T be 0) (pa := pa) (be := be) (Z := upd Z 8 (-1)) (R := R) (Lt := Lt) hX hL hC hI0 hI 60 0 0 (upd P2 2 0) D1 (T 0) rfl (Nat.zero_le L) h1 upd_same h0
    rw [z0] at hloop
    refine hloop (fun P3 D3 s3 hI3 => ?_)
    cases hr : cmdR L C 60 0 0 D1 (T 0) with
    | inl r =>
      obtain ⟨j, u, v⟩ := r
      have hq := hq0 (upd P3 1 0) D3 s3 upd_same hI3
      rw [hr] at hq
      have ej : nI (j + 1) - 1 = nI j := nI_pred j
      have cp : ∀ {n Q T R}, Ev X 6 0 [some (.ref (x + 1)), some (.ref (x + tof be)), none] [] (SW w x T pa be (upd Z 8 (-1)) (upd P3 1 0) C D3 R Lt) n 0 0 Q ↔ Q (.inl none) (SW w x (mixT T 0 be) pa be (upd Z 8 (-1)) (upd P3 1 0) C D3 R Lt) n := sw_copy (i := 0) (by decide) hb.2 (by omega)
      simp only [X5_commands_119, X5_commands_120, gz7, Option.some.injEq, exists_eq_left', eq_self, okz0, okz1, ht, X5_commands_123, X5_commands_124, pzX (show 1 ≤ 1 by decide) (show 1 < 4 by decide), X5_commands_127, X5_commands_128, e1, if_false, X5_commands_131, X5_commands_132, gz9, X5_commands_135, X5_commands_136, X5_commands_137, ej, X5_commands_138, pzR (show 2 < 3 by decide), X5_commands_141, X5_commands_142, gz0, X5_commands_145, X5_commands_146, gz6, X5_commands_149 cz0, cp, Kr_n, Kj_n, X5_commands_152]
      exact hq
    | inr r =>
      obtain ⟨j, s2⟩ := r
      dsimp only
      intro e3
      have hq := hq0 (upd P3 1 0) D3 s2 upd_same (e3 ▸ hI3)
      rw [hr] at hq
      have hZ2 : upd Z 8 (-1) 5 = nI c := hZ
      simp only [X5_commands_119, X5_commands_120, gz7, Option.some.injEq, exists_eq_left', eq_self, okz0, okz1, ht, X5_commands_123, X5_commands_124, pzX (show 1 ≤ 1 by decide) (show 1 < 4 by decide), X5_commands_127, X5_commands_128, if_true, X5_commands_162, X5_commands_163 cz, sw_keepBefore hZ2 hc8 hP, Kr_n, Kj_n, X5_commands_166, X5_commands_167]
      exact hq rfl
end CMD
