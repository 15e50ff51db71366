/-! ===== counting, and sets of seats as bits ===== -/
def cN (p : Nat → Bool) : Nat → Nat
  | 0 => 0
  | n + 1 => cN p n + (if p n then 1 else 0)
theorem cN_s {p : Nat → Bool} {n : Nat} : cN p (n + 1) = cN p n + (if p n then 1 else 0) := rfl
theorem cN_congr {p q : Nat → Bool} : ∀ {n : Nat}, (∀ j, j < n → p j = q j) → cN p n = cN q n := by
  intro n
  induction n with
  | zero => intro _; rfl
  | succ n ih => intro h; unfold cN; rw [ih (fun j hj => h j (by omega)), h n (by omega)]
theorem cN_le {p : Nat → Bool} : ∀ (n : Nat), cN p n ≤ n := by
  intro n
  induction n with
  | zero => exact Nat.le_refl 0
  | succ n ih => unfold cN; split <;> omega
theorem cN_mono {p q : Nat → Bool} : ∀ {n : Nat}, (∀ j, j < n → p j = true → q j = true) → cN p n ≤ cN q n := by
  intro n
  induction n with
  | zero => intro _; exact Nat.le_refl 0
  | succ n ih =>
    intro h
    unfold cN
    have h1 := ih (fun j hj => h j (by omega))
    have h2 := h n (by omega)
    cases hp : p n with
    | false => simp only [Bool.false_eq_true, if_false]; omega
    | true => rw [h2 hp]; simp only [if_true]; omega
theorem cN_lt {p q : Nat → Bool} : ∀ {n : Nat}, (∀ j, j < n → p j = true → q j = true) → ∀ {a : Nat}, a < n → p a = false → q a = true → cN p n < cN q n := by
  intro n
  induction n with
  | zero => intro _ a ha; omega
  | succ n ih =>
    intro h a ha h1 h2
    unfold cN
    by_cases e : a = n
    · subst e
      have := cN_mono (fun j hj => h j (Nat.lt_succ_of_lt hj))
      rw [h1, h2]
      simp only [Bool.false_eq_true, if_false, if_true]
      omega
    · have h3 := ih (fun j hj => h j (by omega)) (show a < n by omega) h1 h2
      have h4 := h n (by omega)
      cases hp : p n with
      | false => simp only [Bool.false_eq_true, if_false]; omega
      | true => rw [h4 hp]; simp only [if_true]; omega
theorem cN_one {p q : Nat → Bool} : ∀ {n a : Nat}, (∀ j, j ≠ a → p j = q j) → a < n → p a = true → q a = false → cN p n = cN q n + 1 := by
  intro n
  induction n with
  | zero => intro a _ h; omega
  | succ n ih =>
    intro a h ha h1 h2
    unfold cN
    by_cases e : a = n
    · subst e
      rw [cN_congr (fun j hj => h j (by omega)), h1, h2]
      rfl
    · rw [ih h (by omega) h1 h2, h n (by omega)]
      omega
/-- the members of a list without doubles, counted -/
theorem cN_list {n : Nat} {r : Nat → Bool} : ∀ (L : List Nat), L.Nodup → (∀ a, a ∈ L → a < n) → cN (fun j => decide (j ∈ L) && r j) n = L.countP r := by
  intro L
  induction L with
  | nil =>
    intro _ _
    have h : ∀ m, cN (fun j => decide (j ∈ ([] : List Nat)) && r j) m = 0 := by
      intro m
      induction m with
      | zero => rfl
      | succ m ih => unfold cN; rw [ih]; simp
    exact h n
  | cons a L ih =>
    intro hn hl
    obtain ⟨h1, h2⟩ := List.nodup_cons.mp hn
    have h3 := ih h2 (fun b hb => hl b (List.mem_cons_of_mem _ hb))
    rw [List.countP_cons, ← h3]
    cases hr : r a with
    | true =>
      rw [if_pos rfl]
      refine cN_one (a := a) (fun j hj => ?_) (hl a List.mem_cons_self) ?_ ?_
      · simp [hj]
      · simp [hr]
      · simp [h1]
    | false =>
      rw [if_neg (by decide), Nat.add_zero]
      refine cN_congr (fun j hj => ?_)
      by_cases e : j = a
      · subst e; simp [hr]
      · simp [e]
/-- pigeons -/
theorem nd_len {n : Nat} {L : List Nat} (h : L.Nodup) (hl : ∀ a, a ∈ L → a < n) : L.length ≤ n := by
  have h1 := cN_list (r := fun _ => true) L h hl
  rw [List.countP_true] at h1
  have h2 := cN_le (p := fun j => decide (j ∈ L) && true) n
  omega
theorem itr_cN {p : Nat → Bool} : ∀ (n : Nat), itr (fun j (a : Int32) => if p j then a + 1 else a) n 0 = nI (cN p n) := by
  intro n
  induction n with
  | zero => rfl
  | succ n ih =>
    rw [itr_s, ih, cN_s]
    split
    · rw [nI_1]
    · rfl
/-- the set of the seats below n with p -/
def setI (p : Nat → Bool) (n : Nat) : Int32 := itr (fun k (a : Int32) => if p k then a ||| (1 <<< (nI k &&& 31)) else a) n 0
def bit (x : Int32) (i : Nat) : Bool := x.toBitVec.getLsbD i
theorem bit_ext {x y : Int32} (h : ∀ i, i < 32 → bit x i = bit y i) : x = y := Int32.toBitVec_inj.mp (BitVec.eq_of_getLsbD_eq h)
theorem bit_or {x y : Int32} {i : Nat} : bit (x ||| y) i = (bit x i || bit y i) := by
  unfold bit
  rw [Int32.toBitVec_or, BitVec.getLsbD_or]
theorem bit_and {x y : Int32} {i : Nat} : bit (x &&& y) i = (bit x i && bit y i) := by
  unfold bit
  rw [Int32.toBitVec_and, BitVec.getLsbD_and]
theorem bit_not {x : Int32} {i : Nat} (hi : i < 32) : bit (x ^^^ -1) i = !bit x i := by
  unfold bit
  rw [Int32.toBitVec_xor, BitVec.getLsbD_xor]
  have : (-1 : Int32).toBitVec = BitVec.allOnes 32 := by decide
  rw [this, BitVec.getLsbD_allOnes, decide_eq_true hi]
  simp
theorem one_k : ∀ k, k < 8 → ((1 : Int32) <<< (nI k &&& 31)).toBitVec = BitVec.twoPow 32 k := by decide +kernel
theorem bit_one {k i : Nat} (hk : k < 8) : bit ((1 : Int32) <<< (nI k &&& 31)) i = decide (k = i) := by
  unfold bit
  rw [one_k k hk, BitVec.getLsbD_twoPow, decide_eq_true (show k < 32 by omega)]
  simp
theorem bit_0 {i : Nat} : bit 0 i = false := by
  unfold bit
  have : (0 : Int32).toBitVec = 0#32 := by decide
  rw [this, BitVec.getLsbD_zero]
theorem bit_set {p : Nat → Bool} {i : Nat} : ∀ {n : Nat}, n ≤ 8 → bit (setI p n) i = (decide (i < n) && p i) := by
  intro n
  induction n with
  | zero =>
    intro _
    show bit 0 i = _
    rw [bit_0]
    simp
  | succ n ih =>
    intro hn
    have e : setI p (n + 1) = if p n then setI p n ||| (1 <<< (nI n &&& 31)) else setI p n := rfl
    rw [e]
    by_cases h : p n = true
    · rw [if_pos h, bit_or, ih (by omega), bit_one (show n < 8 by omega)]
      by_cases q : n = i
      · subst q; simp [h]
      · have : decide (i < n) = decide (i < n + 1) := decide_eq_decide.mpr (by omega)
        rw [this]
        simp [q]
    · rw [if_neg h, ih (by omega)]
      by_cases q : n = i
      · subst q; simp [h]
      · have : decide (i < n) = decide (i < n + 1) := decide_eq_decide.mpr (by omega)
        rw [this]
theorem setI_congr {p q : Nat → Bool} {n : Nat} (h : ∀ k, k < n → p k = q k) : setI p n = setI q n := by
  unfold setI
  exact itr_congr (fun k a hk => by rw [h k hk]) 0
theorem setI_or1 {p : Nat → Bool} {n k : Nat} (hn : n ≤ 8) (hk : k < n) : setI p n ||| (1 <<< (nI k &&& 31)) = setI (fun i => p i || decide (i = k)) n := by
  refine bit_ext (fun i _ => ?_)
  rw [bit_or, bit_set hn, bit_set hn, bit_one (by omega)]
  by_cases q : k = i
  · subst q; simp [hk]
  · have : ¬ i = k := fun z => q z.symm
    simp [q, this]
theorem setI_or {p q : Nat → Bool} {n : Nat} (hn : n ≤ 8) : setI p n ||| setI q n = setI (fun i => p i || q i) n := by
  refine bit_ext (fun i _ => ?_)
  rw [bit_or, bit_set hn, bit_set hn, bit_set hn]
  cases decide (i < n) <;> simp
theorem setI_del {p : Nat → Bool} {n k : Nat} (hn : n ≤ 8) (hk : k < n) : setI p n &&& ((1 <<< (nI k &&& 31)) ^^^ -1) = setI (fun i => p i && !decide (i = k)) n := by
  refine bit_ext (fun i hi => ?_)
  rw [bit_and, bit_set hn, bit_set hn, bit_not hi, bit_one (by omega)]
  by_cases q : k = i
  · subst q; simp
  · have : ¬ i = k := fun z => q z.symm
    simp [q, this]
theorem setI_sub {p q : Nat → Bool} {n : Nat} (hn : n ≤ 8) : setI p n &&& (setI q n ^^^ -1) = 0 ↔ ∀ k, k < n → p k = true → q k = true := by
  constructor
  · intro h k hk hp
    have h2 : bit (setI p n &&& (setI q n ^^^ -1)) k = false := by rw [h]; exact bit_0
    rw [bit_and, bit_not (by omega), bit_set hn, bit_set hn, decide_eq_true hk, hp] at h2
    simpa using h2
  · intro h
    refine bit_ext (fun i hi => ?_)
    rw [bit_and, bit_not hi, bit_set hn, bit_set hn, bit_0]
    by_cases a : i < n
    · cases hp : p i with
      | false => simp
      | true => simp [a, h i a hp]
    · simp [a]
theorem setI_all : ∀ n, n < 9 → ((1 : Int32) <<< (nI n &&& 31)) - 1 = setI (fun _ => true) n := by decide +kernel
/-- a set as a number -/
def setN (p : Nat → Bool) : Nat → Nat
  | 0 => 0
  | n + 1 => if p n then setN p n ||| 2 ^ n else setN p n
theorem setN_lt {p : Nat → Bool} : ∀ n, n ≤ 8 → setN p n < 256 := by
  intro n
  induction n with
  | zero => intro _; exact (by decide : (0 : Nat) < 256)
  | succ n ih =>
    intro hn
    unfold setN
    split
    · exact Nat.or_lt_two_pow (n := 8) (ih (by omega)) (Nat.pow_lt_pow_right (by decide) (by omega))
    · exact ih (by omega)
theorem or_tab : ∀ m, m < 256 → ∀ k, k < 8 → nI m ||| (1 <<< (nI k &&& 31)) = nI (m ||| 2 ^ k) := by decide +kernel
theorem setI_N {p : Nat → Bool} : ∀ n, n ≤ 8 → setI p n = nI (setN p n) := by
  intro n
  induction n with
  | zero => intro _; rfl
  | succ n ih =>
    intro hn
    have e : setI p (n + 1) = if p n then setI p n ||| (1 <<< (nI n &&& 31)) else setI p n := rfl
    rw [e]
    unfold setN
    split
    · rw [ih (by omega), or_tab _ (setN_lt n (by omega)) n (by omega)]
    · exact ih (by omega)
theorem setN_bit {p : Nat → Bool} {i : Nat} : ∀ n, n ≤ 8 → (setN p n).testBit i = (decide (i < n) && p i) := by
  intro n
  induction n with
  | zero => intro _; show (0 : Nat).testBit i = _; simp
  | succ n ih =>
    intro hn
    unfold setN
    by_cases h : p n = true
    · rw [if_pos h, Nat.testBit_or, ih (by omega), Nat.testBit_two_pow]
      by_cases q : n = i
      · subst q; simp [h]
      · have : decide (i < n) = decide (i < n + 1) := decide_eq_decide.mpr (by omega)
        rw [this]
        simp [q]
    · rw [if_neg h, ih (by omega)]
      by_cases q : n = i
      · subst q; simp [h]
      · have : decide (i < n) = decide (i < n + 1) := decide_eq_decide.mpr (by omega)
        rw [this]
theorem test_tab : ∀ m, m < 256 → ∀ j, j < 8 → (nI m >>> (nI j &&& 31)) &&& 1 = if m.testBit j then 1 else 0 := by decide +kernel
theorem setI_test {p : Nat → Bool} {n j : Nat} (hn : n ≤ 8) (hj : j < n) : (setI p n >>> (nI j &&& 31)) &&& 1 = if p j then 1 else 0 := by
  rw [setI_N n hn, test_tab _ (setN_lt n hn) j (by omega), setN_bit n hn]
  simp [hj]
theorem setI_m1 {p : Nat → Bool} {n : Nat} (hn : n ≤ 8) : setI p n ≠ -1 := by
  rw [setI_N n hn]
  have := setN_lt (p := p) n hn
  exact fun q => (nI_m1 (by omega)).mp q
theorem bc_tab : ∀ m, m < 256 → bcI (nI m) = nI (cN (fun i => m.testBit i) 8) := by decide +kernel
theorem cN_cut {p : Nat → Bool} {n : Nat} : ∀ d, cN (fun i => decide (i < n) && p i) (n + d) = cN p n := by
  intro d
  induction d with
  | zero => exact cN_congr (fun j hj => by simp [show j < n from hj])
  | succ d ih =>
    rw [← Nat.add_assoc, cN_s, ih]
    have : ¬ n + d < n := by omega
    simp [this]
theorem setI_bc {p : Nat → Bool} {n : Nat} (hn : n ≤ 8) : bcI (setI p n) = nI (cN p n) := by
  rw [setI_N n hn, bc_tab _ (setN_lt n hn)]
  congr 1
  have h1 : cN (fun i => (setN p n).testBit i) 8 = cN (fun i => decide (i < n) && p i) 8 := cN_congr (fun j _ => setN_bit n hn)
  rw [h1]
  have h2 := cN_cut (p := p) (n := n) (8 - n)
  rw [Nat.add_sub_cancel' hn] at h2
  exact h2
theorem setI_0 {p : Nat → Bool} {n : Nat} (hn : n ≤ 8) : setI p n = 0 ↔ ∀ k, k < n → p k = false := by
  constructor
  · intro h k hk
    have h2 : bit (setI p n) k = false := by rw [h]; exact bit_0
    rw [bit_set hn, decide_eq_true hk] at h2
    simpa using h2
  · intro h
    refine bit_ext (fun i _ => ?_)
    rw [bit_set hn, bit_0]
    by_cases a : i < n
    · simp [h i a]
    · simp [a]
theorem ff_hit {p : Nat → Bool} {j : Nat} : ∀ {d k : Nat}, k ≤ j → j < k + d → p j = true → (∀ i, k ≤ i → i < j → p i = false) → ff p d k = some j := by
  intro d
  induction d with
  | zero => intro k h1 h2; omega
  | succ d ih =>
    intro k h1 h2 h3 h4
    unfold ff
    by_cases e : k = j
    · subst e; rw [if_pos h3]
    · rw [if_neg (by rw [h4 k (Nat.le_refl k) (by omega)]; decide)]
      exact ih (by omega) (by omega) h3 (fun i a b => h4 i (by omega) b)
theorem ff_miss {p : Nat → Bool} : ∀ {d k : Nat}, (∀ i, k ≤ i → i < k + d → p i = false) → ff p d k = none := by
  intro d
  induction d with
  | zero => intro k _; rfl
  | succ d ih =>
    intro k h
    unfold ff
    rw [if_neg (by rw [h k (Nat.le_refl k) (by omega)]; decide)]
    exact ih (fun i a b => h i (by omega) (by omega))
