/-! ===== ways: of a step on the numbers below c, c being none ===== -/
/-- t steps -/
def pw (f : Nat → Nat) : Nat → Nat → Nat
  | 0, k => k
  | t + 1, k => pw f t (f k)
/-- a set of numbers, as a test -/
noncomputable def pB (P : Nat → Prop) : Nat → Bool := fun k => @Decidable.decide (P k) (Classical.propDecidable (P k))
theorem pB_t {P : Nat → Prop} {k : Nat} : pB P k = true ↔ P k := by unfold pB; exact @decide_eq_true_iff (P k) (Classical.propDecidable (P k))
theorem pB_f {P : Nat → Prop} {k : Nat} : pB P k = false ↔ ¬ P k := by unfold pB; exact @decide_eq_false_iff_not (P k) (Classical.propDecidable (P k))
theorem b_ext {a b : Bool} (h : a = true ↔ b = true) : a = b := by
  cases a <;> cases b <;> simp_all
section WAY
variable {f : Nat → Nat} {c : Nat}
theorem pw_s : ∀ (t k : Nat), pw f (t + 1) k = f (pw f t k) := by
  intro t
  induction t with
  | zero => intro k; rfl
  | succ t ih => intro k; exact ih (f k)
theorem pw_add (s : Nat) : ∀ (t k : Nat), pw f (t + s) k = pw f t (pw f s k) := by
  intro t
  induction t with
  | zero => intro k; rw [Nat.zero_add]; rfl
  | succ t ih =>
    intro k
    rw [show t + 1 + s = (t + s) + 1 by omega, pw_s (t + s) k, ih k]
    exact (pw_s (f := f) t (pw f s k)).symm
/-- the way stays among the numbers, or ends at none -/
def St0 (f : Nat → Nat) (c : Nat) : Prop := f c = c ∧ ∀ k, k < c → f k ≤ c
theorem pw_c (h : St0 f c) : ∀ t, pw f t c = c := by
  intro t
  induction t with
  | zero => rfl
  | succ t ih => rw [pw_s, ih]; exact h.1
theorem pw_le (h : St0 f c) {k : Nat} (hk : k ≤ c) : ∀ t, pw f t k ≤ c := by
  intro t
  induction t with
  | zero => exact hk
  | succ t ih =>
    rw [pw_s]
    rcases Nat.lt_or_ge (pw f t k) c with q | q
    · exact h.2 _ q
    · rw [Nat.le_antisymm ih q, h.1]; exact Nat.le_refl c
theorem pw_end (h : St0 f c) {k s t : Nat} (hs : s ≤ t) (e : pw f s k = c) : pw f t k = c := by
  rw [show t = (t - s) + s by omega, pw_add, e]
  exact pw_c h _
theorem pw_in (h : St0 f c) {k s t : Nat} (hk : k ≤ c) (hs : s ≤ t) (e : pw f t k < c) : pw f s k < c := by
  rcases Nat.lt_or_ge (pw f s k) c with q | q
  · exact q
  · have := pw_end h hs (Nat.le_antisymm (pw_le h hk s) q)
    omega
/-- on a ring -/
def Rg (f : Nat → Nat) (c k : Nat) : Prop := k < c ∧ ∃ t, 1 ≤ t ∧ t ≤ c ∧ pw f t k = k
/-- the way never ends -/
def Cr (f : Nat → Nat) (c k : Nat) : Prop := ∀ t, pw f t k < c
theorem pw_mul {k p : Nat} (e : pw f p k = k) : ∀ n, pw f (n * p) k = k := by
  intro n
  induction n with
  | zero => rw [Nat.zero_mul]; rfl
  | succ n ih => rw [Nat.succ_mul, pw_add, e, ih]
theorem Rg.cr (h : St0 f c) {k : Nat} (hr : Rg f c k) : Cr f c k := by
  obtain ⟨hk, t, h1, h2, e⟩ := hr
  intro s
  refine pw_in h (t := s * t) (Nat.le_of_lt hk) ?_ (by rw [pw_mul e]; exact hk)
  have := Nat.mul_le_mul_left s h1
  omega
theorem Cr.next {k : Nat} (h : Cr f c k) : Cr f c (f k) := fun t => h (t + 1)
theorem Cr.lt {k : Nat} (h : Cr f c k) : k < c := h 0
theorem Cr.back {k : Nat} (hk : k < c) (h : Cr f c (f k)) : Cr f c k := by
  intro t
  cases t with
  | zero => exact hk
  | succ t => exact h t
/-- a way of c steps that hasn't ended comes to a ring before them -/
theorem to_ring (h : St0 f c) {k : Nat} (hk : k ≤ c) (e : pw f c k < c) : ∃ i, i < c ∧ Rg f c (pw f i k) := by
  refine Classical.byContradiction fun hn => ?_
  have hnd : ((List.range (c + 1)).map (fun i => pw f i k)).Nodup := by
    rw [List.Nodup, List.pairwise_map]
    refine List.Pairwise.imp_of_mem (fun {i j} hi hj hij => ?_) List.pairwise_lt_range
    have hj' := List.mem_range.mp hj
    intro q
    refine hn ⟨i, by omega, pw_in h hk (by omega) e, j - i, by omega, by omega, ?_⟩
    rw [← pw_add, show j - i + i = j by omega, q]
  have := nd_len hnd (n := c) (fun a ha => by
    obtain ⟨i, hi, rfl⟩ := List.mem_map.mp ha
    have := List.mem_range.mp hi
    exact pw_in h hk (by omega) e)
  rw [List.length_map, List.length_range] at this
  omega
theorem ring_cr (h : St0 f c) {k i : Nat} (hk : k ≤ c) (hr : Rg f c (pw f i k)) : Cr f c k := by
  intro t
  rcases Nat.lt_or_ge t i with q | q
  · exact pw_in h hk (Nat.le_of_lt q) hr.1
  · rw [show t = (t - i) + i by omega, pw_add]
    exact hr.cr h _
theorem cr_iff (h : St0 f c) {k : Nat} (hk : k ≤ c) : Cr f c k ↔ pw f c k < c := by
  constructor
  · intro q; exact q c
  · intro q
    obtain ⟨i, -, hr⟩ := to_ring h hk q
    exact ring_cr h hk hr
/-- a ring within r steps -/
def Dr (f : Nat → Nat) (c r k : Nat) : Prop := k < c ∧ ∃ i, i ≤ r ∧ Rg f c (pw f i k)
theorem Dr_0 {k : Nat} : Dr f c 0 k ↔ Rg f c k := by
  constructor
  · rintro ⟨-, i, hi, q⟩
    have : i = 0 := by omega
    subst this
    exact q
  · intro q; exact ⟨q.1, 0, Nat.le_refl 0, q⟩
theorem Dr_s (h : St0 f c) {r k : Nat} (hk : k < c) : Dr f c (r + 1) k ↔ (Dr f c r k ∨ (f k < c ∧ Dr f c r (f k))) := by
  constructor
  · rintro ⟨-, i, hi, q⟩
    cases i with
    | zero => exact Or.inl ⟨hk, 0, Nat.zero_le r, q⟩
    | succ i =>
      have e : pw f (i + 1) k = pw f i (f k) := rfl
      rw [e] at q
      have hf : f k < c := by
        rcases Nat.lt_or_ge (f k) c with z | z
        · exact z
        · have e2 := Nat.le_antisymm (h.2 k hk) z
          rw [e2, pw_c h] at q
          exact absurd q.1 (Nat.lt_irrefl c)
      exact Or.inr ⟨hf, hf, i, by omega, q⟩
  · rintro (⟨-, i, hi, q⟩ | ⟨-, -, i, hi, q⟩)
    · exact ⟨hk, i, by omega, q⟩
    · exact ⟨hk, i + 1, by omega, q⟩
theorem Dr_cr (h : St0 f c) {r k : Nat} (q : Dr f c r k) : Cr f c k := by
  obtain ⟨hk, i, -, q⟩ := q
  exact ring_cr h (Nat.le_of_lt hk) q
theorem cr_Dr (h : St0 f c) {r k : Nat} (hr : c ≤ r + 1) (q : Cr f c k) : Dr f c r k := by
  obtain ⟨i, hi, z⟩ := to_ring h (Nat.le_of_lt q.lt) (q c)
  exact ⟨q.lt, i, by omega, z⟩
end WAY
