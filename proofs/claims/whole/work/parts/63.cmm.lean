/-! ===== the reference's commands ===== -/
def caM (k : Nat) (D N : Nat → Int32) : (Int32 × Int32) ⊕ (Int32 × (Nat → Int32)) := match k with
  | 0 => joinM (N 0).toNatClampNeg (D 0) (D 1) (D 2) N
  | 1 => leavM (N 0).toNatClampNeg (N 6).toNatClampNeg N
  | 2 => turnX (N 0).toNatClampNeg (D 0) (D 1) N
  | 3 => timeX (N 0).toNatClampNeg (D 0) (D 1) (D 2) N
  | 4 => tellM (D 0) N
  | 5 => brinM (D 0) N
  | 6 => takeX (N 0).toNatClampNeg (D 0) N
  | _ => passM (N 0).toNatClampNeg (D 0) N
/-- what must hold for commands to be carried out, and goes on to hold -/
def JI (J : Nat → (Nat → Int32) → Prop) : Prop := (∀ d N, J (d + 1) N → ∃ cnt a, cnt ≤ 8 ∧ N 0 = nI cnt ∧ a ≤ 8 ∧ N 6 = nI a ∧ ∃ I, TI cnt I ∧ (2 ≤ cnt → ∀ k, k < 100 → I k N)) ∧ ∀ d N k D v N2, J (d + 1) N → k < 8 → caM k D N = .inr (v, N2) → J d N2
theorem numsM_D {L : Nat} {C : Nat → Int32} : ∀ (fs : List Int32) (i p : Nat) (D D' : Nat → Int32), (numsM L C fs i p D).1 = (numsM L C fs i p D').1 ∧ (numsM L C fs i p D).2.1 = (numsM L C fs i p D').2.1 := by
  intro fs
  induction fs with
  | nil => intro i p D D'; exact ⟨rfl, rfl⟩
  | cons f fs ih =>
    intro i p D D'
    unfold numsM
    cases numN L C f p with
    | none => exact ⟨rfl, rfl⟩
    | some r => obtain ⟨v, q⟩ := r; exact ih (i + 1) q _ _
theorem cmdM_D {L p : Nat} {C D D2 : Nat → Int32} {k q : Nat} {b : Bool} (h : cmdM L C p D = some (k, b, q, D2)) (D' : Nat → Int32) : ∃ D3, cmdM L C p D' = some (k, b, q, D3) := by
  unfold cmdM at h ⊢
  by_cases a : p < L
  · rw [if_pos a] at h ⊢
    cases hk : kndF (C p) with
    | none => rw [hk] at h; cases h
    | some k9 =>
      rw [hk] at h
      have h : some (k9, numsM L C (LBY.getD (shN k9) []) 0 (p + 1) D) = some (k, b, q, D2) := h
      have h := Option.some.inj h
      obtain ⟨rfl, h2⟩ := Prod.mk.inj h
      obtain ⟨e1, e2⟩ := numsM_D (L := L) (C := C) (LBY.getD (shN k9) []) 0 (p + 1) D D'
      rw [h2] at e1 e2
      refine ⟨(numsM L C (LBY.getD (shN k9) []) 0 (p + 1) D').2.2, ?_⟩
      show some (k9, numsM L C (LBY.getD (shN k9) []) 0 (p + 1) D') = _
      congr 2
      exact Prod.ext e1.symm (Prod.ext e2.symm rfl)
  · rw [if_neg a] at h; cases h
theorem cmdM_D0 {L p : Nat} {C D : Nat → Int32} (h : cmdM L C p D = none) (D' : Nat → Int32) : cmdM L C p D' = none := by
  cases h2 : cmdM L C p D' with
  | none => rfl
  | some r =>
    obtain ⟨k, b, q, D2⟩ := r
    obtain ⟨D3, h3⟩ := cmdM_D h2 D
    rw [h] at h3
    cases h3
theorem numsM_le {L : Nat} {C : Nat → Int32} : ∀ (fs : List Int32) (i p : Nat) (D : Nat → Int32), p ≤ L → p ≤ (numsM L C fs i p D).2.1 ∧ (numsM L C fs i p D).2.1 ≤ L := by
  intro fs
  induction fs with
  | nil => intro i p D h; exact ⟨Nat.le_refl p, h⟩
  | cons f fs ih =>
    intro i p D h
    unfold numsM
    cases hn : numN L C f p with
    | none => exact ⟨Nat.le_refl p, h⟩
    | some r =>
      obtain ⟨v, q⟩ := r
      obtain ⟨a, b⟩ := numN_le hn
      obtain ⟨c, d⟩ := ih (i + 1) q (upd D i v) b
      exact ⟨Nat.le_trans (Nat.le_of_lt a) c, d⟩
theorem cmdM_inv {L p : Nat} {C D D2 : Nat → Int32} {k q : Nat} {b : Bool} (h : cmdM L C p D = some (k, b, q, D2)) : p < L ∧ k < 8 ∧ p < q ∧ q ≤ L ∧ kndF (C p) = some k := by
  unfold cmdM at h
  by_cases a : p < L
  · rw [if_pos a] at h
    cases hk : kndF (C p) with
    | none => rw [hk] at h; cases h
    | some k9 =>
      rw [hk] at h
      have h : some (k9, numsM L C (LBY.getD (shN k9) []) 0 (p + 1) D) = some (k, b, q, D2) := h
      have h := Option.some.inj h
      obtain ⟨rfl, h2⟩ := Prod.mk.inj h
      have h3 := numsM_le (L := L) (C := C) (LBY.getD (shN k9) []) 0 (p + 1) D (by omega)
      rw [h2] at h3
      dsimp only at h3
      exact ⟨a, kndF_lt hk, by omega, h3.2, rfl⟩
  · rw [if_neg a] at h; cases h
/-- the reference's first way through a text -/
def clM (L : Nat) (C : Nat → Int32) : Nat → Bool → Nat → (Nat → Int32) → Bool × Nat × (Nat → Int32)
  | 0, b, q, D => (b, q, D)
  | d + 1, b, q, D => if b then (if q < L then (if C q = 59 then (match cmdM L C (q + 1) D with
    | none => (false, q + 1, D)
    | some (_, b2, q2, D2) => clM L C d b2 q2 D2) else (false, q, D)) else (true, q, D)) else (false, q, D)
def faM (L : Nat) (C D : Nat → Int32) : Bool × Nat × (Nat → Int32) := match cmdM L C 0 D with
  | none => (false, 0, D)
  | some (_, b, q, D2) => clM L C 60 b q D2
/-- from p on there is no fault, in at most d commands -/
def nfM (L : Nat) (C : Nat → Int32) : Nat → Nat → Bool
  | 0, _ => false
  | d + 1, p => match cmdM L C p (fun _ => 0) with
    | some (_, true, q, _) => if q < L then (if C q = 59 then nfM L C d (q + 1) else false) else true
    | _ => false
/-- the reference's second way -/
def crM (L : Nat) (C : Nat → Int32) : Nat → Nat → Nat → (Nat → Int32) → (Nat → Int32) → (Nat × Int32 × Int32 × (Nat → Int32)) ⊕ (Nat × (Nat → Int32))
  | 0, i, _, _, N => .inr (i, N)
  | d + 1, i, p, D, N => match cmdM L C p D with
    | none => .inr (i, N)
    | some (k, _, q, D2) => match caM k D2 N with
      | .inl (a, b) => .inl (i, a, b, N)
      | .inr (_, N2) => if q < L ∧ C q = 59 then crM L C d (i + 1) (q + 1) D2 N2 else .inr (i + 1, N2)
def sameV (V' V : Nat → Int32) : Prop := ∀ j, j ≠ 11 → j ≠ 12 → j ≠ 18 → V' j = V j
theorem sameV.rf {V : Nat → Int32} : sameV V V := fun _ _ _ _ => rfl
theorem sameV.tr {V V1 V2 : Nat → Int32} (h : sameV V V1) (h2 : sameV V1 V2) : sameV V V2 := fun j a b c => (h j a b c).trans (h2 j a b c)
theorem sameV.up {V' V : Nat → Int32} (h : sameV V' V) {k : Nat} {x : Int32} : sameV (upd V' k x) (upd V k x) := fun j a b c => by
  unfold upd
  split
  · rfl
  · exact h j a b c
theorem sameV.j11 {V' V : Nat → Int32} (h : sameV V' V) {x : Int32} : sameV (upd V' 11 x) V := fun j a b c => (upd_ne a).trans (h j a b c)
theorem sameV.j12 {V' V : Nat → Int32} (h : sameV V' V) {x : Int32} : sameV (upd V' 12 x) V := fun j a b c => (upd_ne b).trans (h j a b c)
theorem sameV.j18 {V' V : Nat → Int32} (h : sameV V' V) {x : Int32} : sameV (upd V' 18 x) V := fun j a b c => (upd_ne c).trans (h j a b c)
section CMM
variable {X : Cxt} {w : Wld} {n : Option Nat} {Q : (Option Value ⊕ String) → Wld → Option Nat → Prop} {m L c : Nat} {V N C : Nat → Int32} {A : Nat → Nat → Int32}
theorem mIn_Kr {M pc : Nat} {ls : Lcs} {r : (Int32 × Int32) ⊕ (Int32 × (Nat → Int32))} (h0 : ∀ (w2 : Wld), Ev X M pc ls [.int 0] w2 n 0 0 Q ↔ Q (.inl (some (.int 0))) w2 n) (h1 : ∀ (w2 : Wld), Ev X M pc ls [.int 1] w2 n 0 0 Q ↔ Q (.inl (some (.int 1))) w2 n) : mIn (Kr X M pc ls [] 0 0 Q) w m V N A n r ↔ mIn Q w m V N A n r := by
  cases r with
  | inl q => obtain ⟨a, b⟩ := q; exact h0 _
  | inr q => obtain ⟨v, N2⟩ := q; exact h1 _
theorem gao0 : ga (MW w m V N A) (m + 8) 0 0 = some (.int (A 8 0)) := gao (k := 0) (by decide)
theorem gao1 : ga (MW w m V N A) (m + 8) 0 1 = some (.int (A 8 1)) := gao (k := 1) (by decide)
theorem gao2 : ga (MW w m V N A) (m + 8) 0 2 = some (.int (A 8 2)) := gao (k := 2) (by decide)
theorem mw_carries {cnt a : Nat} {I : Nat → (Nat → Int32) → Prop} (h8 : cnt ≤ 8) (hN : N 0 = nI cnt) (ha : a ≤ 8) (hA : N 6 = nI a) (hT : TI cnt I) (hI : 2 ≤ cnt → ∀ k, k < 100 → I k N) {k : Nat} (hk : kndF (V 12) = some k) : Ev X 187 0 [some (.ref m)] [] (MW w m V N A) n 0 0 Q ↔ mIn Q w m V N A n (caM k (A 8) N) := by
  have ec : (N 0).toNatClampNeg = cnt := by rw [hN]; exact nI_clamp (by omega)
  have ea : (N 6).toNatClampNeg = a := by rw [hA]; exact nI_clamp (by omega)
  rcases kndF_inv hk with ⟨rfl, hc⟩ | ⟨rfl, hc⟩ | ⟨rfl, hc⟩ | ⟨rfl, hc⟩ | ⟨rfl, hc⟩ | ⟨rfl, hc⟩ | ⟨rfl, hc⟩ | ⟨rfl, hc⟩
  · have e : caM 0 (A 8) N = joinM cnt (A 8 0) (A 8 1) (A 8 2) N := by unfold caM; rw [ec]; rfl
    rw [e]
    simp only [X6_carries_0, X6_carries_1, gm12, hc, Option.some.injEq, exists_eq_left', eq_self, okz0, okz1, ht, X6_carries_4_43, X6_carries_72, X6_carries_73, X6_carries_74, gm13, X6_carries_77, X6_carries_78, gao0, X6_carries_79, X6_carries_80, X6_carries_83, X6_carries_84, gao1, X6_carries_85, X6_carries_86, X6_carries_89, X6_carries_90, gao2, X6_carries_91 cm, mw_joins hN h8]
    exact mIn_Kr (fun w2 => X6_carries_94 okz0) (fun w2 => X6_carries_94 okz1)
  · have e : caM 1 (A 8) N = leavM cnt a N := by unfold caM; rw [ec, ea]; rfl
    rw [e]
    simp only [X6_carries_0, X6_carries_1, gm12, hc, Option.some.injEq, exists_eq_left', eq_self, okz0, okz1, ht, X6_carries_4_45, X6_carries_95, X6_carries_96 cm, mw_leaves hN h8 hA ha]
    exact mIn_Kr (fun w2 => X6_carries_99 okz0) (fun w2 => X6_carries_99 okz1)
  · have e : caM 2 (A 8) N = turnX cnt (A 8 0) (A 8 1) N := by unfold caM; rw [ec]; rfl
    rw [e]
    simp only [X6_carries_0, X6_carries_1, gm12, hc, Option.some.injEq, exists_eq_left', eq_self, okz0, okz1, ht, X6_carries_4_109, X6_carries_100, X6_carries_101, X6_carries_102, gm13, X6_carries_105, X6_carries_106, gao0, X6_carries_107, X6_carries_108, X6_carries_111, X6_carries_112, gao1, X6_carries_113 cm, mw_turns hN h8]
    exact mIn_Kr (fun w2 => X6_carries_116 okz0) (fun w2 => X6_carries_116 okz1)
  · have e : caM 3 (A 8) N = timeX cnt (A 8 0) (A 8 1) (A 8 2) N := by unfold caM; rw [ec]; rfl
    rw [e]
    simp only [X6_carries_0, X6_carries_1, gm12, hc, Option.some.injEq, exists_eq_left', eq_self, okz0, okz1, ht, X6_carries_4_107, X6_carries_117, X6_carries_118, X6_carries_119, gm13, X6_carries_122, X6_carries_123, gao0, X6_carries_124, X6_carries_125, X6_carries_128, X6_carries_129, gao1, X6_carries_130, X6_carries_131, X6_carries_134, X6_carries_135, gao2, X6_carries_136 cm, mw_times hN h8]
    exact mIn_Kr (fun w2 => X6_carries_139 okz0) (fun w2 => X6_carries_139 okz1)
  · have e : caM 4 (A 8) N = tellM (A 8 0) N := rfl
    rw [e]
    simp only [X6_carries_0, X6_carries_1, gm12, hc, Option.some.injEq, exists_eq_left', eq_self, okz0, okz1, ht, X6_carries_4_119, X6_carries_140, X6_carries_141, X6_carries_142, gm13, X6_carries_145, X6_carries_146, gao0, X6_carries_147 cm, mw_tells]
    exact mIn_Kr (fun w2 => X6_carries_150 okz0) (fun w2 => X6_carries_150 okz1)
  · have e : caM 5 (A 8) N = brinM (A 8 0) N := rfl
    rw [e]
    simp only [X6_carries_0, X6_carries_1, gm12, hc, Option.some.injEq, exists_eq_left', eq_self, okz0, okz1, ht, X6_carries_4_112, X6_carries_162, X6_carries_163, X6_carries_164, gm13, X6_carries_167, X6_carries_168, gao0, X6_carries_169 cm, mw_brings]
    exact mIn_Kr (fun w2 => X6_carries_172 okz0) (fun w2 => X6_carries_172 okz1)
  · have e : caM 6 (A 8) N = takeX cnt (A 8 0) N := by unfold caM; rw [ec]; rfl
    rw [e]
    simp only [X6_carries_0, X6_carries_1, gm12, hc, Option.some.injEq, exists_eq_left', eq_self, okz0, okz1, ht, X6_carries_4_100, X6_carries_151, X6_carries_152, X6_carries_153, gm13, X6_carries_156, X6_carries_157, gao0, X6_carries_158 cm, mw_takes hN h8]
    exact mIn_Kr (fun w2 => X6_carries_161 okz0) (fun w2 => X6_carries_161 okz1)
  · have e : caM 7 (A 8) N = passM cnt (A 8 0) N := by unfold caM; rw [ec]; rfl
    rw [e]
    simp only [X6_carries_0, X6_carries_1, gm12, hc, Option.some.injEq, exists_eq_left', eq_self, okz0, okz1, ht, X6_carries_4_116, X6_carries_173, X6_carries_174, X6_carries_175, gm13, X6_carries_178, X6_carries_179, gao0, X6_carries_180 cm, mw_passes hT hN h8 hI]
    exact mIn_Kr (fun w2 => X6_carries_183 okz0) (fun w2 => X6_carries_183 okz1)
/-- the first way's loop -/
theorem mw_cl1 (hL : L ≤ 60) (hC : ∀ i, i < L → okv .char (.int (A 7 i)) = true) : ∀ (d : Nat) (b : Bool) (q : Nat) (V D : Nat → Int32), L ≤ q + d → q ≤ L → V 10 = nI L → V 11 = nI q →
    (∀ V', sameV V' V → V' 11 = nI (clM L (A 7) d b q D).2.1 → Ev X 189 59 [some (.ref m), some (.int (if (clM L (A 7) d b q D).1 then 1 else 0)), none, none] [] (MW w m V' N (updT A 8 (clM L (A 7) d b q D).2.2)) n 0 0 Q) →
    Ev X 189 19 [some (.ref m), some (.int (if b then 1 else 0)), none, none] [] (MW w m V N (updT A 8 D)) n 0 0 Q := by
  have e1 : (1 : Int32) = 0 ↔ False := by decide
  have u7 : ∀ f, updT A 8 f 7 = A 7 := fun f => updT_o (by decide)
  intro d
  induction d with
  | zero =>
    intro b q V D h1 h2 hV hp hQ
    have hq := hQ V sameV.rf hp
    rw [X6_commands_19]
    cases b with
    | false =>
      simp only [Bool.false_eq_true, if_false, X6_commands_20, if_true]
      exact hq
    | true =>
      have hl : ¬ nI q < nI L := nI_nlt (by omega) (by omega)
      simp only [if_true, X6_commands_20, e1, if_false, X6_commands_23, X6_commands_24, X6_commands_27, X6_commands_28, gm10, gm11, hV, hp, Option.some.injEq, exists_eq_left', eq_self, okz0, okz1, ht, X6_commands_31, hl]
      exact hq
  | succ d ih =>
    intro b q V D h1 h2 hV hp hQ
    rw [X6_commands_19]
    cases b with
    | false =>
      have hq := hQ V sameV.rf hp
      simp only [Bool.false_eq_true, if_false, X6_commands_20, if_true]
      exact hq
    | true =>
      by_cases a : q < L
      · have a' : nI q < nI L := nI_lt a (by omega)
        by_cases s : A 7 q = 59
        · have v10 : upd V 11 (nI (q + 1)) 10 = nI L := hV
          have hcl : clM L (A 7) (d + 1) true q D = match cmdM L (A 7) (q + 1) D with | none => (false, q + 1, D) | some (_, b2, q2, D2) => clM L (A 7) d b2 q2 D2 := by
            rw [clM, if_pos rfl, if_pos a, if_pos s]
          rw [hcl] at hQ
          simp only [if_true, X6_commands_20, e1, if_false, X6_commands_23, X6_commands_24, X6_commands_27, X6_commands_28, gm10, gm11, hV, hp, Option.some.injEq, exists_eq_left', eq_self, okz0, okz1, ht, X6_commands_31, a', X6_commands_34, X6_commands_35, X6_commands_37 cm, mw_sign hV hp hL h2, u7, a, s, and_self, Kr_v, X6_commands_40, X6_commands_43, X6_commands_44 cm]
          refine mw_isCommand v10 upd_same hL (by omega) (by rw [u7]; exact hC) ?_
          rw [u7, updT_s]
          cases hc : cmdM L (A 7) (q + 1) D with
          | none =>
            rw [hc] at hQ
            intro v12
            simp only [Kr_v, X6_commands_47, if_true, X6_commands_54, X6_commands_55, X6_commands_56]
            rw [X6_commands_19]
            simp only [X6_commands_20, if_true]
            have hq := hQ _ ((sameV.rf.j11 (x := nI (q + 1))).j12 (x := v12)) (by rw [upd_ne (by decide)]; exact upd_same)
            simp only [Bool.false_eq_true, if_false] at hq
            exact hq
          | some r =>
            obtain ⟨k, b2, q2, D2⟩ := r
            obtain ⟨i1, i2, i3, i4, i5⟩ := cmdM_inv hc
            rw [hc] at hQ
            dsimp only at hQ ⊢
            rw [updT_T]
            have sv : sameV (upd (upd (upd V 11 (nI (q + 1))) 12 (A 7 (q + 1))) 11 (nI q2)) V := ((sameV.rf.j11).j12).j11
            have hih := ih b2 q2 (upd (upd (upd V 11 (nI (q + 1))) 12 (A 7 (q + 1))) 11 (nI q2)) D2 (by omega) i4 hV upd_same (fun V' h hq => hQ V' (h.tr sv) hq)
            cases b2 with
            | true =>
              simp only [if_true] at hih
              simp only [if_true, Kr_v, X6_commands_47, e1, if_false, X6_commands_50, X6_commands_51, X6_commands_55, X6_commands_56]
              exact hih
            | false =>
              simp only [Bool.false_eq_true, if_false] at hih
              simp only [Bool.false_eq_true, if_false, Kr_v, X6_commands_47, if_true, X6_commands_54, X6_commands_55, X6_commands_56]
              exact hih
        · have hcl : clM L (A 7) (d + 1) true q D = (false, q, D) := by rw [clM, if_pos rfl, if_pos a, if_neg s]
          rw [hcl] at hQ
          have hq := hQ V sameV.rf hp
          simp only [if_true, X6_commands_20, e1, if_false, X6_commands_23, X6_commands_24, X6_commands_27, X6_commands_28, gm10, gm11, hV, hp, Option.some.injEq, exists_eq_left', eq_self, okz0, okz1, ht, X6_commands_31, a', X6_commands_34, X6_commands_35, X6_commands_37 cm, mw_sign hV hp hL h2, u7, s, and_false, Kr_v, X6_commands_40, X6_commands_54, X6_commands_55, X6_commands_56]
          rw [X6_commands_19]
          simp only [X6_commands_20, if_true]
          simp only [Bool.false_eq_true, if_false] at hq
          exact hq
      · have a' : ¬ nI q < nI L := nI_nlt (by omega) (by omega)
        have hcl : clM L (A 7) (d + 1) true q D = (true, q, D) := by rw [clM, if_pos rfl, if_neg a]
        rw [hcl] at hQ
        have hq := hQ V sameV.rf hp
        simp only [if_true, X6_commands_20, e1, if_false, X6_commands_23, X6_commands_24, X6_commands_27, X6_commands_28, gm10, gm11, hV, hp, Option.some.injEq, exists_eq_left', eq_self, okz0, okz1, ht, X6_commands_31, a']
        exact hq
/-- the second way's loop -/
theorem mw_cl2 {J : Nat → (Nat → Int32) → Prop} (hJ : JI J) (hL : L ≤ 60) (hC : ∀ i, i < L → okv .char (.int (A 7 i)) = true) : ∀ (d i p : Nat) (V D N : Nat → Int32) (l1 : Option Value), nfM L (A 7) d p = true → p ≤ L → V 10 = nI L → V 11 = nI p → J d N →
    (match crM L (A 7) d i p D N with
      | .inl (j, a, b, N2) => ∀ V' D', sameV V' (rfV V a b) → Ev X 189 144 [some (.ref m), some (.int 0), some (.int (nI j)), some (.int 0)] [] (MW w m V' N2 (updT A 8 D')) n 0 0 Q
      | .inr (j, N2) => ∀ V' D', sameV V' V → Ev X 189 144 [some (.ref m), some (.int 1), some (.int (nI j)), some (.int 0)] [] (MW w m V' N2 (updT A 8 D')) n 0 0 Q) →
    Ev X 189 91 [some (.ref m), l1, some (.int (nI i)), some (.int 1)] [] (MW w m V N (updT A 8 D)) n 0 0 Q := by
  have e1 : (1 : Int32) = 0 ↔ False := by decide
  have u7 : ∀ f, updT A 8 f 7 = A 7 := fun f => updT_o (by decide)
  intro d
  induction d with
  | zero => intro i p V D N l1 hn; cases hn
  | succ d ih =>
    intro i p V D N l1 hn hpL hV hp hJN hQ
    rw [X6_commands_91]
    simp only [X6_commands_92, e1, if_false, X6_commands_95, X6_commands_96 cm]
    refine mw_isCommand hV hp hL hpL (by rw [u7]; exact hC) ?_
    rw [u7, updT_s]
    cases hc : cmdM L (A 7) p D with
    | none =>
      exfalso
      have h0 := cmdM_D0 hc (fun _ => 0)
      unfold nfM at hn
      rw [h0] at hn
      cases hn
    | some r =>
      obtain ⟨k, b, q, D2⟩ := r
      obtain ⟨D3, h3⟩ := cmdM_D hc (fun _ => 0)
      unfold nfM at hn
      rw [h3] at hn
      obtain ⟨i1, i2, i3, i4, i5⟩ := cmdM_inv hc
      cases b with
      | false => cases hn
      | true =>
        dsimp only at hn ⊢
        rw [updT_T]
        have v12 : upd (upd V 12 (A 7 p)) 11 (nI q) 12 = A 7 p := by rw [upd_ne (by decide)]; exact upd_same
        obtain ⟨cnt, a, g1, g2, g3, g4, I, g5, g6⟩ := hJ.1 d N hJN
        simp only [if_true, Kr_v, X6_commands_99, e1, if_false, X6_commands_102, X6_commands_103 cm]
        rw [mw_carries g1 g2 g3 g4 g5 g6 (k := k) (by rw [v12]; exact i5), updT_s]
        unfold crM at hQ
        rw [hc] at hQ
        dsimp only at hQ
        have v10 : upd (upd V 12 (A 7 p)) 11 (nI q) 10 = nI L := hV
        cases ho : caM k D2 N with
        | inl r =>
          obtain ⟨a, b⟩ := r
          rw [ho] at hQ
          dsimp only at hQ
          simp only [mIn, Kr_v, X6_commands_106, if_true, X6_commands_113, X6_commands_114, X6_commands_115, X6_commands_116, X6_commands_122, X6_commands_123, X6_commands_139, X6_commands_140, X6_commands_141]
          rw [X6_commands_91]
          simp only [X6_commands_92, if_true]
          refine hQ _ _ (fun j h1 h2 h4 => ?_)
          unfold rfV
          exact (((((sameV.rf (V := V)).j12).j11).up (k := 15) (x := a)).up (k := 16) (x := b)).up (k := 17) (x := 0) j h1 h2 h4
        | inr r =>
          obtain ⟨v, N2⟩ := r
          have hJ2 := hJ.2 d N k D2 v N2 hJN i2 ho
          rw [ho] at hQ
          dsimp only at hQ
          have v18 : upd (upd (upd V 12 (A 7 p)) 11 (nI q)) 18 v 10 = nI L := hV
          have w18 : upd (upd (upd V 12 (A 7 p)) 11 (nI q)) 18 v 11 = nI q := by rw [upd_ne (by decide)]; exact upd_same
          have sv : sameV (upd (upd (upd V 12 (A 7 p)) 11 (nI q)) 18 v) V := ((sameV.rf.j12).j11).j18
          simp only [mIn, Kr_v, X6_commands_106, e1, if_false, X6_commands_109, X6_commands_110, X6_commands_114, X6_commands_115, X6_commands_116, X6_commands_119, X6_commands_122, X6_commands_123, X6_commands_126, X6_commands_127, X6_commands_129 cm, mw_sign v18 w18 hL i4, u7, nI_1]
          by_cases s : q < L ∧ A 7 q = 59
          · rw [if_pos s] at hQ ⊢
            rw [if_pos s.1, if_pos s.2] at hn
            have sv2 : sameV (upd (upd (upd (upd V 12 (A 7 p)) 11 (nI q)) 18 v) 11 (nI (q + 1))) V := sv.j11
            simp only [Kr_v, X6_commands_132, e1, if_false, X6_commands_135, X6_commands_136, X6_commands_140, X6_commands_141]
            refine ih (i + 1) (q + 1) _ D2 N2 _ hn (by omega) v18 upd_same hJ2 ?_
            cases hr : crM L (A 7) d (i + 1) (q + 1) D2 N2 with
            | inl r =>
              obtain ⟨j, a, b, N3⟩ := r
              rw [hr] at hQ
              dsimp only at hQ ⊢
              intro V' D' h
              exact hQ V' D' (h.tr (by unfold rfV; exact ((sv2.up).up).up))
            | inr r =>
              obtain ⟨j, N3⟩ := r
              rw [hr] at hQ
              dsimp only at hQ ⊢
              intro V' D' h
              exact hQ V' D' (h.tr sv2)
          · rw [if_neg s] at hQ ⊢
            simp only [Kr_v, X6_commands_132, if_true, X6_commands_139, X6_commands_140, X6_commands_141]
            rw [X6_commands_91]
            simp only [X6_commands_92, if_true]
            exact hQ _ D2 sv
theorem mw_commands {J : Nat → (Nat → Int32) → Prop} (hJ : JI J) (hJN : J 61 N) (hV4 : V 4 = nI c) (hc8 : c ≤ 8) (hV : V 10 = nI L) (hL : L ≤ 60) (hC : ∀ i, i < L → okv .char (.int (A 7 i)) = true) (hnf : (faM L (A 7) (A 8)).1 = true → nfM L (A 7) 61 0 = true)
    (hQ : if (faM L (A 7) (A 8)).1 = true then (∀ D1, match crM L (A 7) 61 0 0 D1 N with
        | .inl (j, a, b, N2) => ∀ V' D', sameV V' (upd (upd (upd (rfV (upd (upd (upd (upd V 19 0) 11 0) 14 (-1)) 11 0) a b) 10 0) 17 (nI j)) 19 2) → Q (.inl (some (.int 0))) (MW w m V' (cpN (cpN N (A 2)) N2) (updT (updT A 2 (cpN N (A 2))) 8 D')) n
        | .inr (j, N2) => ∀ V' D', sameV V' (upd (upd (upd (upd (upd (upd V 19 0) 11 0) 14 (-1)) 11 0) 10 0) 4 (nI (kpC c))) → Q (.inl (some (.int (nI j)))) (MW w m V' N2 (updT (updT (updT A 2 (cpN N (A 2))) 8 D') 4 (kpK c (A 4) (cpN N (A 2))))) n)
      else ∀ V' D', sameV V' (upd (upd (upd (upd (upd (upd V 19 0) 11 0) 14 (-1)) 14 (nI (faM L (A 7) (A 8)).2.1)) 10 0) 19 1) → Q (.inl (some (.int 0))) (MW w m V' N (updT (updT A 2 (cpN N (A 2))) 8 D')) n) : Ev X 189 0 [some (.ref m), none, none, none] [] (MW w m V N A) n 0 0 Q := by
  have e1 : (1 : Int32) = 0 ↔ False := by decide
  generalize hA2 : updT A 2 (cpN N (A 2)) = A2 at hQ
  have a7 : A2 7 = A 7 := by rw [← hA2]; exact updT_o (by decide)
  have a8 : A2 8 = A 8 := by rw [← hA2]; exact updT_o (by decide)
  have a4 : A2 4 = A 4 := by rw [← hA2]; exact updT_o (by decide)
  have a2 : A2 2 = cpN N (A 2) := by rw [← hA2]; exact updT_s
  have u7 : ∀ f, updT A2 8 f 7 = A 7 := fun f => (updT_o (by decide)).trans a7
  have z0 : (0 : Int32) = nI 0 := rfl
  have hCa : ∀ i, i < L → okv .char (.int (A2 7 i)) = true := by rw [a7]; exact hC
  generalize hV1 : upd (upd (upd V 19 0) 11 0) 14 (-1) = V1 at hQ
  have v10 : V1 10 = nI L := by rw [← hV1]; exact hV
  have v11 : V1 11 = nI 0 := by rw [← hV1, upd_ne (by decide)]; exact upd_same
  have v4 : V1 4 = nI c := by rw [← hV1]; exact hV4
  -- behind the first way
  have after : ∀ (r : Bool × Nat × (Nat → Int32)), r = faM L (A 7) (A 8) → ∀ V', sameV V' V1 → V' 11 = nI r.2.1 → Ev X 189 59 [some (.ref m), some (.int (if r.1 then 1 else 0)), none, none] [] (MW w m V' N (updT A2 8 r.2.2)) n 0 0 Q := by
    intro r hr V' hs h11
    rw [← hr] at hQ hnf
    obtain ⟨b, q, D⟩ := r
    cases b with
    | false =>
      have hQ2 := hQ
      simp only [Bool.false_eq_true, if_false] at hQ2
      simp only [Bool.false_eq_true, if_false, X6_commands_59, X6_commands_60, if_true, X6_commands_63, X6_commands_64, X6_commands_65, gm11, h11, Option.some.injEq, exists_eq_left', eq_self, okz0, okz1, ht, X6_commands_68, p14, X6_commands_71, X6_commands_72, X6_commands_73, p10, X6_commands_76, X6_commands_77, X6_commands_78 cm, mw_raises, Kr_v, X6_commands_81]
      exact hQ2 _ D (((hs.up).up).up)
    | true =>
      have hQ2 := hQ
      simp only [if_true] at hQ2
      have hQ3 := hQ2 D
      simp only [if_true, X6_commands_59, X6_commands_60, e1, if_false, X6_commands_82, X6_commands_83, X6_commands_84, p11, Option.some.injEq, exists_eq_left', eq_self, okz0, okz1, ht, X6_commands_87, X6_commands_88, X6_commands_89, X6_commands_90]
      rw [z0]
      have w10 : upd V' 11 (nI 0) 10 = nI L := by rw [upd_ne (by decide)]; exact (hs 10 (by decide) (by decide) (by decide)).trans v10
      have s2 : sameV (upd V' 11 (nI 0)) (upd V1 11 0) := hs.up
      refine mw_cl2 hJ hL hCa 61 0 0 _ D N _ (by rw [a7]; exact hnf rfl) (Nat.zero_le L) w10 upd_same hJN ?_
      rw [a7]
      cases hr2 : crM L (A 7) 61 0 0 D N with
      | inl r =>
        obtain ⟨j, a, b, N2⟩ := r
        rw [hr2] at hQ3
        dsimp only at hQ3 ⊢
        intro V2 D2 h2
        have u2 : updT A2 8 D2 2 = cpN N (A 2) := (updT_o (by decide)).trans a2
        simp only [X6_commands_144, X6_commands_145, X6_commands_146, p10, Option.some.injEq, exists_eq_left', eq_self, okz0, okz1, ht, X6_commands_149, X6_commands_150, if_true, X6_commands_159, X6_commands_160, X6_commands_161, p17, X6_commands_164, X6_commands_165 cm, mw_comesBack, u2, Kr_n, X6_commands_168, X6_commands_169, X6_commands_170 cm, mw_raises, Kr_v, X6_commands_173]
        refine hQ3 _ D2 ?_
        exact (((h2.tr (by unfold rfV; exact ((s2.up).up).up)).up).up).up
      | inr r =>
        obtain ⟨j, N2⟩ := r
        rw [hr2] at hQ3
        dsimp only at hQ3 ⊢
        intro V2 D2 h2
        have u2 : updT A2 8 D2 2 = cpN N (A 2) := (updT_o (by decide)).trans a2
        have u4 : updT A2 8 D2 4 = A 4 := (updT_o (by decide)).trans a4
        have w4 : upd V2 10 0 4 = nI c := by
          rw [upd_ne (by decide)]
          refine (h2 4 (by decide) (by decide) (by decide)).trans ?_
          rw [upd_ne (by decide)]
          exact (hs 4 (by decide) (by decide) (by decide)).trans v4
        simp only [X6_commands_144, X6_commands_145, X6_commands_146, p10, Option.some.injEq, exists_eq_left', eq_self, okz0, okz1, ht, X6_commands_149, X6_commands_150, e1, if_false, X6_commands_153, X6_commands_154, X6_commands_155 cm, mw_keeps w4 hc8, u2, u4, Kr_v, X6_commands_158]
        refine hQ3 _ D2 ?_
        exact ((h2.tr s2).up).up
  simp only [X6_commands_0, X6_commands_1 cm, mw_tries, hA2, Kr_n, X6_commands_4, X6_commands_5, X6_commands_6, p11, Option.some.injEq, exists_eq_left', eq_self, okz0, okz1, ht, X6_commands_9, X6_commands_10, X6_commands_11, p14, hV1, X6_commands_14, X6_commands_15 cm]
  refine mw_isCommand v10 v11 hL (Nat.zero_le L) hCa ?_
  rw [a7, a8]
  cases hc : cmdM L (A 7) 0 (A 8) with
  | none =>
    have hf : faM L (A 7) (A 8) = (false, 0, A 8) := by unfold faM; rw [hc]
    intro v12
    have h := after (false, 0, A 8) hf.symm (upd V1 12 v12) (sameV.rf.j12) (by rw [upd_ne (by decide)]; exact v11)
    have e8 : updT A2 8 (A 8) = A2 := by rw [← a8]; exact updT_id
    rw [e8] at h
    simp only [Bool.false_eq_true, if_false] at h
    simp only [Kr_v, X6_commands_18]
    rw [X6_commands_19]
    simp only [X6_commands_20, if_true]
    exact h
  | some r =>
    obtain ⟨k, b, q, D2⟩ := r
    obtain ⟨i1, i2, i3, i4, i5⟩ := cmdM_inv hc
    have hf : faM L (A 7) (A 8) = clM L (A 7) 60 b q D2 := by unfold faM; rw [hc]
    dsimp only
    have s1 : sameV (upd (upd V1 12 (A 7 0)) 11 (nI q)) V1 := (sameV.rf.j12).j11
    have h := mw_cl1 (X := X) (w := w) (n := n) (Q := Q) (m := m) (N := N) (A := A2) hL hCa 60 b q (upd (upd V1 12 (A 7 0)) 11 (nI q)) D2 (by omega) i4 v10 upd_same (fun V' hs h11 => by
      rw [a7] at h11 ⊢
      exact after _ hf.symm V' (hs.tr s1) h11)
    simp only [Kr_v, X6_commands_18]
    exact h
end CMM
