/-! ===== commands on both sides ===== -/
section PRS
variable {L : Nat} {C : Nat → Int32}
theorem nums_eq : ∀ (fs : List Int32) (i p : Nat) (D E : Nat → Int32), (numsN L C fs i p D).1 = (numsM L C fs i p E).1 ∧ (numsN L C fs i p D).2.1 = (numsM L C fs i p E).2.1 ∧ ((numsN L C fs i p D).1 = true → (∀ j, j < i → D j = E j) → ∀ j, j < i + fs.length → (numsN L C fs i p D).2.2 j = (numsM L C fs i p E).2.2 j) := by
  intro fs
  induction fs with
  | nil => intro i p D E; exact ⟨rfl, rfl, fun _ h j hj => h j hj⟩
  | cons f fs ih =>
    intro i p D E
    unfold numsN numsM
    cases numN L C f p with
    | none => exact ⟨rfl, rfl, fun q => absurd q Bool.false_ne_true⟩
    | some r =>
      obtain ⟨v, q⟩ := r
      obtain ⟨h1, h2, h3⟩ := ih (i + 1) q (upd D i v) (upd E i v)
      refine ⟨h1, h2, fun a b j hj => h3 a (fun j2 hj2 => ?_) j (by rw [List.length_cons] at hj; omega)⟩
      unfold upd
      by_cases c : j2 = i
      · rw [if_pos c, if_pos c]
      · rw [if_neg c, if_neg c]; exact b j2 (by omega)
theorem ar_len : ∀ k, k < 8 → (LBY.getD (shN k) []).length = arK k := by decide +kernel
theorem cmd_eq {p : Nat} {D E : Nat → Int32} : (cmdN L C p D = none ∧ cmdM L C p E = none) ∨ ∃ k b q D2 E2, cmdN L C p D = some (k, b, q, D2) ∧ cmdM L C p E = some (k, b, q, E2) ∧ k < 8 ∧ p < q ∧ q ≤ L ∧ (b = true → ∀ i, i < arK k → D2 i = E2 i) := by
  by_cases a : p < L
  · cases hk : kndF (C p) with
    | none =>
      refine Or.inl ⟨?_, ?_⟩
      · unfold cmdN; rw [if_pos a, hk]; rfl
      · unfold cmdM; rw [if_pos a, hk]; rfl
    | some k =>
      have hk8 := kndF_lt hk
      obtain ⟨h1, h2, h3⟩ := nums_eq (L := L) (C := C) (LBY.getD (shN k) []) 0 (p + 1) D E
      have e1 : cmdN L C p D = some (k, (numsN L C (LBY.getD (shN k) []) 0 (p + 1) D).1, (numsN L C (LBY.getD (shN k) []) 0 (p + 1) D).2.1, (numsN L C (LBY.getD (shN k) []) 0 (p + 1) D).2.2) := by
        unfold cmdN; rw [if_pos a, hk]; rfl
      have e2 : cmdM L C p E = some (k, (numsN L C (LBY.getD (shN k) []) 0 (p + 1) D).1, (numsN L C (LBY.getD (shN k) []) 0 (p + 1) D).2.1, (numsM L C (LBY.getD (shN k) []) 0 (p + 1) E).2.2) := by
        unfold cmdM; rw [if_pos a, hk, h1, h2]; rfl
      obtain ⟨-, -, g1, g2⟩ := cmdN_inv e1
      refine Or.inr ⟨_, _, _, _, _, e1, e2, hk8, g1, g2, fun b i hi => h3 b (fun j hj => absurd hj (Nat.not_lt_zero j)) i ?_⟩
      rw [ar_len k hk8]; omega
  · refine Or.inl ⟨?_, ?_⟩
    · unfold cmdN; rw [if_neg a]
    · unfold cmdM; rw [if_neg a]
/-- the reference's first way from the place p on -/
def fwM (L : Nat) (C : Nat → Int32) (e p : Nat) (E : Nat → Int32) : Bool × Nat × (Nat → Int32) := match cmdM L C p E with
  | none => (false, p, E)
  | some (_, b, q, D2) => clM L C e b q D2
theorem flt_eq : ∀ (d p : Nat) (D E : Nat → Int32) (e : Nat), p ≤ L → L < p + 2 * d → L < p + 2 * e → match fltN L C d p D with
    | none => (fwM L C e p E).1 = true
    | some q => (fwM L C e p E).1 = false ∧ (fwM L C e p E).2.1 = q := by
  intro d
  induction d with
  | zero => intro p D E e h1 h2; omega
  | succ d ih =>
    intro p D E e h1 h2 h3
    unfold fltN fwM
    rcases cmd_eq (L := L) (C := C) (p := p) (D := D) (E := E) with ⟨a, b⟩ | ⟨k, b, q, D2, E2, e1, e2, hk, hq1, hq2, -⟩
    · rw [a, b]
      exact ⟨rfl, rfl⟩
    · rw [e1, e2]
      dsimp only
      obtain ⟨e, rfl⟩ : ∃ e', e = e' + 1 := ⟨e - 1, by omega⟩
      unfold clM
      cases b with
      | false => exact ⟨rfl, rfl⟩
      | true =>
        rw [if_pos rfl, if_pos rfl]
        by_cases c : q < L
        · rw [if_pos c, if_pos c]
          by_cases c2 : C q = 59
          · rw [if_pos c2, if_pos c2]
            exact ih (q + 1) D2 E2 e (by omega) (by omega) (by omega)
          · rw [if_neg c2, if_neg c2]
            exact ⟨rfl, rfl⟩
        · rw [if_neg c, if_neg c]
theorem fw_nf : ∀ (d p : Nat) (E : Nat → Int32) (e : Nat), p ≤ L → L < p + 2 * d → L < p + 2 * e → (fwM L C e p E).1 = true → nfM L C d p = true := by
  intro d
  induction d with
  | zero => intro p E e h1 h2; omega
  | succ d ih =>
    intro p E e h1 h2 h3 h4
    unfold fwM at h4
    cases hc : cmdM L C p E with
    | none => rw [hc] at h4; exact absurd h4 Bool.false_ne_true
    | some r =>
      obtain ⟨k, b, q, D2⟩ := r
      rw [hc] at h4
      dsimp only at h4
      obtain ⟨g1, g2, g3, g4, -⟩ := cmdM_inv hc
      obtain ⟨D3, e3⟩ := cmdM_D hc (fun _ => 0)
      obtain ⟨e, rfl⟩ : ∃ e', e = e' + 1 := ⟨e - 1, by omega⟩
      unfold clM at h4
      unfold nfM
      rw [e3]
      cases b with
      | false => rw [if_neg Bool.false_ne_true] at h4; exact absurd h4 Bool.false_ne_true
      | true =>
        rw [if_pos rfl] at h4
        dsimp only
        by_cases c : q < L
        · rw [if_pos c] at h4 ⊢
          by_cases c2 : C q = 59
          · rw [if_pos c2] at h4 ⊢
            exact ih (q + 1) D2 e (by omega) (by omega) (by omega) h4
          · rw [if_neg c2] at h4; exact absurd h4 Bool.false_ne_true
        · rw [if_neg c]
/-- how the two ways of carrying out end -/
def crR (B : Nat) : (Nat × Int32 × Int32) ⊕ (Nat × Tb) → (Nat × Int32 × Int32 × (Nat → Int32)) ⊕ (Nat × (Nat → Int32)) → Prop
  | .inl (i, u, v), .inl (j, a, b, _) => i = j ∧ u = a ∧ v = b
  | .inr (i, s), .inr (j, N) => i = j ∧ Rl B s N
  | _, _ => False
theorem Rl.w {B B' : Nat} {s : Tb} {N : Nat → Int32} (h : Rl B s N) (hb : B ≤ B') : Rl B' s N := by
  obtain ⟨cnt, L, c⟩ := h
  exact ⟨cnt, L, tv_w c (fun _ _ => hb) (fun _ _ => hb)⟩
theorem Rl.any {B : Nat} {s : Tb} {N D E : Nat → Int32} (h : Rl B s N) (hB : B + 99 < 2 ^ 30) {k : Nat} (hk : k < 8) (hD : ∀ i, i < arK k → D i = E i) : opR (B + 99) (obF (cntOf s) k D s) (caM k E N) := by
  obtain ⟨cnt, Q, c⟩ := h
  have : cntOf s = cnt := by
    unfold cntOf
    rw [c.1.1.1]
    exact nI_clamp (by have := c.2.2.2.2.2.2.2; omega)
  rw [this]
  exact op_any hB c hk hD
theorem cr_end {d i : Nat} {D : Nat → Int32} {s : Tb} : cmdR L C d i L D s = .inr (i, s) := by
  cases d with
  | zero => rfl
  | succ d =>
    unfold cmdR
    have : cmdN L C L D = none := by unfold cmdN; rw [if_neg (Nat.lt_irrefl L)]
    rw [this]
theorem cr_eq : ∀ (d e f i p B : Nat) (D E : Nat → Int32) (s : Tb) (N : Nat → Int32), p ≤ L → L < p + 2 * d → L < p + 2 * e → nfM L C f p = true → Rl B s N → B + 99 * d < 2 ^ 30 → crR (B + 99 * d) (cmdR L C d i p D s) (crM L C e i p E N) := by
  intro d
  induction d with
  | zero => intro e f i p B D E s N h1 h2; omega
  | succ d ih =>
    intro e f i p B D E s N h1 h2 h3 hf hr hB
    obtain ⟨e, rfl⟩ : ∃ e', e = e' + 1 := ⟨e - 1, by omega⟩
    cases f with
    | zero => exact absurd hf Bool.false_ne_true
    | succ f =>
      unfold nfM at hf
      cases hc : cmdM L C p (fun _ => 0) with
      | none => rw [hc] at hf; exact absurd hf Bool.false_ne_true
      | some r =>
        obtain ⟨k0, b0, q0, D0⟩ := r
        rw [hc] at hf
        rcases cmd_eq (L := L) (C := C) (p := p) (D := D) (E := E) with ⟨a, b⟩ | ⟨k, b, q, D2, E2, e1, e2, hk, hq1, hq2, hD⟩
        · obtain ⟨D3, e3⟩ := cmdM_D hc E
          rw [b] at e3; cases e3
        · obtain ⟨D3, e3⟩ := cmdM_D hc E
          rw [e2] at e3
          have e3 := Option.some.inj e3
          obtain ⟨rfl, e4⟩ := Prod.mk.inj e3
          obtain ⟨rfl, e5⟩ := Prod.mk.inj e4
          obtain ⟨rfl, -⟩ := Prod.mk.inj e5
          cases b with
          | false => exact absurd hf Bool.false_ne_true
          | true =>
            dsimp only at hf
            have ho := hr.any (D := D2) (E := E2) (by omega) hk (hD rfl)
            unfold cmdR crM
            rw [e1, e2]
            dsimp only
            rw [if_pos rfl]
            cases hx : obF (cntOf s) k D2 s with
            | inl uv =>
              cases hy : caM k E2 N with
              | inl ab =>
                rw [hx, hy] at ho
                have ho : uv = ab := ho
                subst ho
                obtain ⟨u, v⟩ := uv
                exact ⟨rfl, rfl, rfl⟩
              | inr ab => rw [hx, hy] at ho; exact ho.elim
            | inr vs =>
              obtain ⟨v, s2⟩ := vs
              cases hy : caM k E2 N with
              | inl ab => rw [hx, hy] at ho; exact ho.elim
              | inr ab =>
                obtain ⟨v2, N2⟩ := ab
                rw [hx, hy] at ho
                obtain ⟨-, -, hr2⟩ := (ho : v = v2 ∧ v ≠ -1 ∧ Rl (B + 99) s2 N2)
                dsimp only
                by_cases c : q < L
                · rw [if_pos c] at hf
                  by_cases c2 : C q = 59
                  · rw [if_pos c2] at hf
                    rw [if_pos ⟨c, c2⟩, if_pos ⟨c, c2⟩]
                    have := ih e f (i + 1) (q + 1) (B + 99) D2 E2 s2 N2 (by omega) (by omega) (by omega) hf hr2 (by omega)
                    rw [show B + 99 * (d + 1) = B + 99 + 99 * d by omega]
                    exact this
                  · rw [if_neg c2] at hf; exact absurd hf Bool.false_ne_true
                · have hqL : q = L := by omega
                  rw [if_neg (fun z => c z.1), if_neg (fun z => c z.1), hqL, cr_end]
                  exact ⟨rfl, hr2.w (by omega)⟩
end PRS
/-- the class's side may carry out d more commands -/
def IC (d : Nat) (s : Tb) : Prop := ∃ B N, Rl B s N ∧ B + 100 * d < 2 ^ 30
theorem IC_0 (d : Nat) (s : Tb) (h : IC (d + 1) s) : cntOf s ≤ 8 ∧ s.1 2 = nI (cntOf s) := by
  obtain ⟨B, N, ⟨cnt, L, c⟩, -⟩ := h
  have h8 := c.2.2.2.2.2.2.2
  have : cntOf s = cnt := by
    unfold cntOf
    rw [c.1.1.1]
    exact nI_clamp (by omega)
  rw [this]
  exact ⟨h8, c.1.1.1⟩
theorem IC_1 (d : Nat) (s : Tb) (k : Nat) (D : Nat → Int32) (v : Int32) (s2 : Tb) (h : IC (d + 1) s) (hk : k < 8) (e : obF (cntOf s) k D s = .inr (v, s2)) : v ≠ -1 ∧ IC d s2 := by
  obtain ⟨B, N, hr, hB⟩ := h
  have ho := hr.any (D := D) (E := D) (by omega) hk (fun _ _ => rfl)
  rw [e] at ho
  cases hy : caM k D N with
  | inl ab => rw [hy] at ho; exact ho.elim
  | inr ab =>
    obtain ⟨v2, N2⟩ := ab
    rw [hy] at ho
    obtain ⟨-, a, hr2⟩ := (ho : v = v2 ∧ v ≠ -1 ∧ Rl (B + 99) s2 N2)
    exact ⟨a, B + 99, N2, hr2, by omega⟩
/-- the reference's side may carry out d more commands -/
def JC (d : Nat) (N : Nat → Int32) : Prop := ∃ B s, Rl B s N ∧ B + 100 * d < 2 ^ 30
theorem JC_JI : JI JC := by
  constructor
  · rintro d N ⟨B, s, ⟨cnt, L, c⟩, hB⟩
    refine ⟨cnt, L.length, c.2.2.2.2.2.2.2, c.1.1.2.1, c.2.1.1, c.2.1.2.1, ?_⟩
    by_cases h2 : 2 ≤ cnt
    · exact ⟨Ik cnt, Ik_TI h2, fun _ k hk => ⟨s, L, B, c, by omega⟩⟩
    · exact ⟨fun _ _ => False, fun _ _ h => h.elim, fun h => absurd h h2⟩
  · rintro d N k D v N2 ⟨B, s, hr, hB⟩ hk e
    have ho := hr.any (D := D) (E := D) (by omega) hk (fun _ _ => rfl)
    rw [e] at ho
    cases hy : obF (cntOf s) k D s with
    | inl ab => rw [hy] at ho; exact ho.elim
    | inr ab =>
      obtain ⟨v2, s2⟩ := ab
      rw [hy] at ho
      obtain ⟨-, -, hr2⟩ := (ho : v2 = v ∧ v2 ≠ -1 ∧ Rl (B + 99) s2 N2)
      exact ⟨B + 99, s2, hr2, by omega⟩
