/-! ===== who is stuck: the class's way ===== -/
section STK
variable {cnt : Nat} {F G : Nat → Int32} {S : Nat → Nat → Int32}
/-- what the looks at the seats that wait need -/
def WH (cnt : Nat) (G : Nat → Int32) (S : Nat → Nat → Int32) : Prop := cnt ≤ 8 ∧ (∀ j, j < cnt → seatI cnt (G j)) ∧ (∀ j, j < cnt → ∀ i, i < cnt → G j = nI i → S i 3 = 3 ∨ S i 3 = 4) ∧ itr (setWithLeaveF S) cnt 0 = setI (fun k => !decide (S k 3 < 2)) cnt
/-- the seat that a seat waits for; cnt for none -/
def nx (cnt : Nat) (G : Nat → Int32) (S : Nat → Nat → Int32) : Nat → Nat := fun k => if k < cnt then (if awF cnt G S k = -1 then cnt else (awF cnt G S k).toNatClampNeg) else cnt
def eS (cnt k : Nat) : Int32 := if k < cnt then nI k else -1
theorem eS_l {k : Nat} (h : k < cnt) : eS cnt k = nI k := if_pos h
theorem eS_c : eS cnt cnt = -1 := if_neg (Nat.lt_irrefl cnt)
theorem eS_i (h8 : cnt ≤ 8) {x i : Nat} (hi : i < cnt) : eS cnt x = nI i ↔ x = i := by
  unfold eS
  by_cases h : x < cnt
  · rw [if_pos h]; exact nI_eq (by omega) (by omega)
  · rw [if_neg h]
    exact ⟨fun q => absurd q.symm (sM hi h8), fun q => absurd hi (by omega)⟩
theorem nx_of (hW : WH cnt G S) {k : Nat} (hk : k < cnt) : (awF cnt G S k = -1 ∧ nx cnt G S k = cnt) ∨ ∃ i, i < cnt ∧ awF cnt G S k = nI i ∧ nx cnt G S k = i := by
  obtain ⟨h8, hG, -, -⟩ := hW
  unfold nx
  rw [if_pos hk]
  rcases aw_seat hG hk with q | ⟨i, hi, q⟩
  · exact Or.inl ⟨q, if_pos q⟩
  · refine Or.inr ⟨i, hi, q, ?_⟩
    rw [if_neg (by rw [q]; exact sM hi h8), q]
    exact nI_clamp (by omega)
theorem nx_c : nx cnt G S cnt = cnt := if_neg (Nat.lt_irrefl cnt)
theorem nx_0 (hW : WH cnt G S) : St0 (nx cnt G S) cnt := by
  refine ⟨nx_c, fun k hk => ?_⟩
  rcases nx_of hW hk with ⟨-, q⟩ | ⟨i, hi, -, q⟩
  · omega
  · omega
theorem e_nx (hW : WH cnt G S) {k : Nat} (hk : k < cnt) : eS cnt (nx cnt G S k) = awF cnt G S k := by
  rcases nx_of hW hk with ⟨a, q⟩ | ⟨i, hi, a, q⟩
  · rw [q, eS_c, a]
  · rw [q, eS_l hi, a]
theorem nxI_e (hW : WH cnt G S) {k : Nat} (hk : k ≤ cnt) : nxI cnt G S (eS cnt k) = eS cnt (nx cnt G S k) := by
  unfold nxI
  rcases Nat.lt_or_ge k cnt with h | h
  · have h8 := hW.1
    rw [eS_l h, if_neg (sM h h8), nI_clamp (by omega), e_nx hW h]
  · rw [Nat.le_antisymm hk h, eS_c, if_pos rfl, nx_c, eS_c]
/-- a seat that is waited for holds a ladle; one that waits for a seat waits or holds -/
theorem nx_how (hW : WH cnt G S) {k : Nat} (hk : k < cnt) (h : nx cnt G S k < cnt) : (S (nx cnt G S k) 3 = 3 ∨ S (nx cnt G S k) 3 = 4) ∧ (S k 3 = 2 ∨ S k 3 = 3) := by
  rcases nx_of hW hk with ⟨-, q⟩ | ⟨i, hi, a, q⟩
  · omega
  · rw [q]
    obtain ⟨h8, -, hw, -⟩ := hW
    unfold awF at a
    by_cases c2 : S k 3 = 2
    · rw [if_pos c2] at a
      exact ⟨hw _ (ladN_lt hk) i hi a, Or.inl c2⟩
    · rw [if_neg c2] at a
      by_cases c3 : S k 3 = 3
      · rw [if_pos c3] at a
        refine ⟨?_, Or.inr c3⟩
        by_cases d : G (ladN cnt S k 1) = nI k
        · rw [if_pos d] at a; exact hw _ (ladN_lt hk) i hi a
        · rw [if_neg d] at a; exact hw _ (ladN_lt hk) i hi a
      · rw [if_neg c3] at a
        exact absurd (by rw [← a]; rfl) (nI_pos (show i < 2 ^ 31 by omega))
theorem cb_iff (hW : WH cnt G S) {i : Nat} (hi : i < cnt) : ∀ (d x : Nat), x ≤ cnt → (cbF cnt G S i d (eS cnt x) = true ↔ ∃ t, 1 ≤ t ∧ t ≤ d ∧ pw (nx cnt G S) t x = i) := by
  intro d
  induction d with
  | zero => intro x _; exact ⟨fun q => absurd q (by unfold cbF; exact Bool.false_ne_true), fun ⟨t, a, b, _⟩ => absurd a (by omega)⟩
  | succ d ih =>
    intro x hx
    unfold cbF
    rw [nxI_e hW hx]
    have hle : nx cnt G S x ≤ cnt := by
      rcases Nat.lt_or_ge x cnt with q | q
      · exact (nx_0 hW).2 x q
      · rw [Nat.le_antisymm hx q, nx_c]; exact Nat.le_refl cnt
    by_cases q : eS cnt (nx cnt G S x) = nI i
    · rw [if_pos q]
      exact ⟨fun _ => ⟨1, Nat.le_refl 1, by omega, (eS_i hW.1 hi).mp q⟩, fun _ => rfl⟩
    · rw [if_neg q, ih _ hle]
      constructor
      · rintro ⟨t, a, b, e⟩
        exact ⟨t + 1, by omega, by omega, e⟩
      · rintro ⟨t, a, b, e⟩
        cases t with
        | zero => omega
        | succ t =>
          cases t with
          | zero => exact absurd ((eS_i hW.1 hi).mpr e) q
          | succ t => exact ⟨t + 1, by omega, by omega, e⟩
theorem ring_set (hW : WH cnt G S) : itr (ringF cnt G S) cnt 0 = setI (pB (Rg (nx cnt G S) cnt)) cnt := by
  unfold setI
  refine itr_congr (fun k a hk => ?_) 0
  unfold ringF
  have e : cbF cnt G S k cnt (nI k) = pB (Rg (nx cnt G S) cnt) k := by
    refine b_ext ?_
    rw [← eS_l hk, cb_iff hW hk cnt k (Nat.le_of_lt hk), pB_t]
    exact ⟨fun q => ⟨hk, q⟩, fun q => q.2⟩
  rw [e]
theorem wfo_set (hW : WH cnt G S) {p : Nat → Bool} : itr (wfoF cnt G S (setI p cnt)) cnt 0 = setI (pB (fun k => nx cnt G S k < cnt ∧ p (nx cnt G S k) = true)) cnt := by
  have h8 := hW.1
  show _ = itr _ cnt 0
  refine itr_congr (fun k a hk => ?_) 0
  unfold wfoF
  rcases nx_of hW hk with ⟨e, q⟩ | ⟨i, hi, e, q⟩
  · have : pB (fun k => nx cnt G S k < cnt ∧ p (nx cnt G S k) = true) k = false := pB_f.mpr (fun z => by rw [q] at z; exact absurd z.1 (Nat.lt_irrefl cnt))
    rw [if_pos e, this]
    exact (if_neg Bool.false_ne_true).symm
  · rw [e, if_neg (sM hi h8), setI_test h8 hi]
    cases hp : p i with
    | true =>
      have : pB (fun k => nx cnt G S k < cnt ∧ p (nx cnt G S k) = true) k = true := pB_t.mpr (by rw [q]; exact ⟨hi, hp⟩)
      rw [this, if_pos rfl, if_pos rfl]
      exact (if_pos rfl).symm
    | false =>
      have : pB (fun k => nx cnt G S k < cnt ∧ p (nx cnt G S k) = true) k = false := pB_f.mpr (by rw [q, hp]; exact fun z => absurd z.2 Bool.false_ne_true)
      rw [this, if_neg Bool.false_ne_true, if_neg (by decide)]
      exact (if_neg Bool.false_ne_true).symm
theorem stkA_set (hW : WH cnt G S) : stkA cnt G S = setI (pB (Cr (nx cnt G S) cnt)) cnt := by
  have h8 := hW.1
  unfold stkA
  rw [ring_set hW]
  have h : ∀ r, itr (fun (_ : Nat) s => s ||| itr (wfoF cnt G S s) cnt 0) r (setI (pB (Rg (nx cnt G S) cnt)) cnt) = setI (pB (Dr (nx cnt G S) cnt r)) cnt := by
    intro r
    induction r with
    | zero => exact setI_congr (fun k _ => b_ext (by rw [pB_t, pB_t]; exact Dr_0.symm))
    | succ r ih =>
      rw [itr_s, ih, wfo_set hW, setI_or h8]
      refine setI_congr (fun k hk => b_ext ?_)
      rw [Bool.or_eq_true, pB_t, pB_t, pB_t, pB_t, Dr_s (nx_0 hW) hk]
  rw [h cnt]
  exact setI_congr (fun k _ => b_ext (by rw [pB_t, pB_t]; exact ⟨fun q => Dr_cr (nx_0 hW) q, fun q => cr_Dr (nx_0 hW) (by omega) q⟩))
/-- the seats that are stuck -/
def stP (cnt : Nat) (F G : Nat → Int32) (S : Nat → Nat → Int32) (k : Nat) : Prop := Cr (nx cnt G S) cnt k ∨ (S k 3 = 1 ∧ moreF cnt F S = 0 ∧ ∀ j, j < cnt → ¬ S j 3 < 2 → Cr (nx cnt G S) cnt j)
theorem itr_set {p : Nat → Bool} {q : Nat → Bool} (h8 : cnt ≤ 8) : ∀ n, n ≤ cnt → itr (fun k (a : Int32) => if q k then a ||| (1 <<< (nI k &&& 31)) else a) n (setI p cnt) = setI (fun i => p i || (decide (i < n) && q i)) cnt := by
  intro n
  induction n with
  | zero => intro _; exact setI_congr (fun k _ => by simp)
  | succ n ih =>
    intro hn
    rw [itr_s, ih (by omega)]
    cases hq : q n with
    | true =>
      rw [if_pos rfl, setI_or1 h8 (by omega)]
      refine setI_congr (fun k _ => b_ext ?_)
      simp only [Bool.or_eq_true, Bool.and_eq_true, decide_eq_true_iff]
      constructor
      · rintro ((a | ⟨a, b⟩) | a)
        · exact Or.inl a
        · exact Or.inr ⟨by omega, b⟩
        · exact Or.inr ⟨by omega, by rw [a]; exact hq⟩
      · rintro (a | ⟨a, b⟩)
        · exact Or.inl (Or.inl a)
        · by_cases z : k = n
          · exact Or.inr z
          · exact Or.inl (Or.inr ⟨by omega, b⟩)
    | false =>
      rw [if_neg Bool.false_ne_true]
      refine setI_congr (fun k _ => b_ext ?_)
      simp only [Bool.or_eq_true, Bool.and_eq_true, decide_eq_true_iff]
      constructor
      · rintro (a | ⟨a, b⟩)
        · exact Or.inl a
        · exact Or.inr ⟨by omega, b⟩
      · rintro (a | ⟨a, b⟩)
        · exact Or.inl a
        · by_cases z : k = n
          · rw [z, hq] at b; exact absurd b Bool.false_ne_true
          · exact Or.inr ⟨by omega, b⟩
theorem stuI_set (hW : WH cnt G S) : stuI cnt F G S = setI (pB (stP cnt F G S)) cnt := by
  have h8 := hW.1
  unfold stuI
  rw [stkA_set hW, hW.2.2.2]
  have e : itr (stkF cnt F S (setI (fun k => !decide (S k 3 < 2)) cnt &&& (setI (pB (Cr (nx cnt G S) cnt)) cnt ^^^ -1))) cnt (setI (pB (Cr (nx cnt G S) cnt)) cnt) = itr (fun k (a : Int32) => if pB (fun k => S k 3 = 1 ∧ moreF cnt F S = 0 ∧ ∀ j, j < cnt → ¬ S j 3 < 2 → Cr (nx cnt G S) cnt j) k then a ||| (1 <<< (nI k &&& 31)) else a) cnt (setI (pB (Cr (nx cnt G S) cnt)) cnt) := by
    refine itr_congr (fun k a hk => ?_) _
    have hs := setI_sub (p := fun k => !decide (S k 3 < 2)) (q := pB (Cr (nx cnt G S) cnt)) h8
    unfold stkF
    by_cases c1 : S k 3 = 1
    · by_cases c2 : moreF cnt F S = 0
      · by_cases c3 : setI (fun k => !decide (S k 3 < 2)) cnt &&& (setI (pB (Cr (nx cnt G S) cnt)) cnt ^^^ -1) = 0
        · have : pB (fun k => S k 3 = 1 ∧ moreF cnt F S = 0 ∧ ∀ j, j < cnt → ¬ S j 3 < 2 → Cr (nx cnt G S) cnt j) k = true := pB_t.mpr ⟨c1, c2, fun j hj hl => pB_t.mp (hs.mp c3 j hj (by simp [hl]))⟩
          rw [if_pos c1, if_pos c2, if_pos c3, if_pos this]
        · have : ¬ pB (fun k => S k 3 = 1 ∧ moreF cnt F S = 0 ∧ ∀ j, j < cnt → ¬ S j 3 < 2 → Cr (nx cnt G S) cnt j) k = true := fun q => c3 (hs.mpr (fun j hj hl => pB_t.mpr ((pB_t.mp q).2.2 j hj (by simpa using hl))))
          rw [if_pos c1, if_pos c2, if_neg c3, if_neg this]
      · have : ¬ pB (fun k => S k 3 = 1 ∧ moreF cnt F S = 0 ∧ ∀ j, j < cnt → ¬ S j 3 < 2 → Cr (nx cnt G S) cnt j) k = true := fun q => c2 (pB_t.mp q).2.1
        rw [if_pos c1, if_neg c2, if_neg this]
    · have : ¬ pB (fun k => S k 3 = 1 ∧ moreF cnt F S = 0 ∧ ∀ j, j < cnt → ¬ S j 3 < 2 → Cr (nx cnt G S) cnt j) k = true := fun q => c1 (pB_t.mp q).1
      rw [if_neg c1, if_neg this]
  rw [e, itr_set h8 cnt (Nat.le_refl cnt)]
  refine setI_congr (fun k hk => b_ext ?_)
  simp only [Bool.or_eq_true, Bool.and_eq_true, decide_eq_true_iff, pB_t]
  exact ⟨fun q => q.elim Or.inl (fun z => Or.inr z.2), fun q => q.elim Or.inl (fun z => Or.inr ⟨hk, z⟩)⟩
/-- a seat can't go on as long as those of p are left -/
def NG (cnt : Nat) (F G : Nat → Int32) (S : Nat → Nat → Int32) (p : Nat → Bool) (i : Nat) : Prop := ¬ S i 3 = 0 ∧ ¬ S i 3 = 4 ∧ (S i 3 = 1 → moreF cnt F S = 0 ∧ ∀ j, j < cnt → ¬ S j 3 < 2 → p j = true) ∧ (¬ S i 3 = 1 → nx cnt G S i < cnt ∧ p (nx cnt G S i) = true)
theorem gon_iff (hW : WH cnt G S) {p : Nat → Bool} {i : Nat} (hi : i < cnt) : gonF cnt F G S (setI p cnt) i = 0 ↔ NG cnt F G S p i := by
  have h8 := hW.1
  unfold gonF NG
  have e1 : ¬ (1 : Int32) = 0 := by decide
  by_cases c0 : S i 3 = 0
  · rw [if_pos c0]; exact ⟨fun q => absurd q e1, fun q => absurd c0 q.1⟩
  rw [if_neg c0]
  by_cases c4 : S i 3 = 4
  · rw [if_pos c4]; exact ⟨fun q => absurd q e1, fun q => absurd c4 q.2.1⟩
  rw [if_neg c4]
  by_cases c1 : S i 3 = 1
  · rw [if_pos c1]
    by_cases c2 : moreF cnt F S = 0
    · rw [if_pos c2, hW.2.2.2]
      have hs := setI_sub (p := fun k => !decide (S k 3 < 2)) (q := p) h8
      by_cases c3 : setI (fun k => !decide (S k 3 < 2)) cnt &&& (setI p cnt ^^^ -1) = 0
      · rw [if_pos c3]
        exact ⟨fun _ => ⟨c0, c4, fun _ => ⟨c2, fun j hj hl => hs.mp c3 j hj (by simp [hl])⟩, fun q => absurd c1 q⟩, fun _ => rfl⟩
      · rw [if_neg c3]
        exact ⟨fun q => absurd q e1, fun q => absurd (hs.mpr (fun j hj hl => (q.2.2.1 c1).2 j hj (by simpa using hl))) c3⟩
    · rw [if_neg c2]
      exact ⟨fun q => absurd q e1, fun q => absurd (q.2.2.1 c1).1 c2⟩
  · rw [if_neg c1]
    rcases nx_of hW hi with ⟨e, q⟩ | ⟨j, hj, e, q⟩
    · rw [if_pos e]
      exact ⟨fun z => absurd z e1, fun z => by have := (z.2.2.2 c1).1; omega⟩
    · rw [e, if_neg (sM hj h8), setI_test h8 hj, q]
      cases hp : p j with
      | true =>
        rw [if_pos rfl, if_neg e1]
        exact ⟨fun _ => ⟨c0, c4, fun z => absurd z c1, fun _ => ⟨hj, rfl⟩⟩, fun _ => rfl⟩
      | false =>
        rw [if_neg Bool.false_ne_true, if_pos rfl]
        exact ⟨fun z => absurd z e1, fun z => absurd (z.2.2.2 c1).2 Bool.false_ne_true⟩
theorem NG.mono {p q : Nat → Bool} {i : Nat} (h : NG cnt F G S q i) (hpq : ∀ j, j < cnt → q j = true → p j = true) : NG cnt F G S p i := by
  obtain ⟨a, b, c, d⟩ := h
  exact ⟨a, b, fun z => ⟨(c z).1, fun j hj hl => hpq j hj ((c z).2 j hj hl)⟩, fun z => ⟨(d z).1, hpq _ (d z).1 (d z).2⟩⟩
theorem stP_NG (hW : WH cnt G S) {p : Nat → Bool} (h : ∀ j, j < cnt → stP cnt F G S j → p j = true) {i : Nat} (hi : i < cnt) (hs : stP cnt F G S i) : NG cnt F G S p i := by
  rcases hs with hs | ⟨c1, c2, c3⟩
  · have hn := hs.next.lt
    have hh := (nx_how hW hi hn).2
    refine ⟨?_, ?_, fun z => ?_, fun _ => ⟨hn, h _ hn (Or.inl hs.next)⟩⟩
    · rcases hh with q | q <;> rw [q] <;> decide
    · rcases hh with q | q <;> rw [q] <;> decide
    · rcases hh with q | q <;> rw [q] at z <;> exact absurd z (by decide)
  · exact ⟨by rw [c1]; decide, by rw [c1]; decide, fun _ => ⟨c2, fun j hj hl => h j hj (Or.inl (c3 j hj hl))⟩, fun z => absurd c1 z⟩
theorem rem_round (hW : WH cnt G S) {p : Nat → Bool} (h : ∀ j, j < cnt → stP cnt F G S j → p j = true) : ∀ n, n ≤ cnt → ∃ q : Nat → Bool, itr (remR cnt F G S) n (setI p cnt) = setI q cnt ∧ (∀ i, i < cnt → q i = true → p i = true) ∧ (∀ i, i < cnt → stP cnt F G S i → q i = true) ∧ ∀ i, i < n → q i = true → NG cnt F G S p i := by
  have h8 := hW.1
  intro n
  induction n with
  | zero => intro _; exact ⟨p, rfl, fun _ _ q => q, h, fun i hi => absurd hi (Nat.not_lt_zero i)⟩
  | succ n ih =>
    intro hn
    obtain ⟨q, e, h1, h2, h3⟩ := ih (by omega)
    rw [itr_s, e]
    unfold remR
    by_cases c : gonF cnt F G S (setI q cnt) n = 0
    · rw [if_pos c]
      refine ⟨q, rfl, h1, h2, fun i hi z => ?_⟩
      by_cases y : i = n
      · subst y; exact ((gon_iff hW (by omega)).mp c).mono h1
      · exact h3 i (by omega) z
    · rw [if_neg c, setI_del h8 (by omega)]
      refine ⟨_, rfl, fun i hi z => ?_, fun i hi z => ?_, fun i hi z => ?_⟩
      · rw [Bool.and_eq_true] at z
        exact h1 i hi z.1
      · have y : i ≠ n := fun y => by subst y; exact c ((gon_iff hW hi).mpr (stP_NG hW h2 hi z))
        rw [h2 i hi z]
        simp [y]
      · rw [Bool.and_eq_true] at z
        have y : i ≠ n := fun y => by rw [y] at z; simp at z
        exact h3 i (by omega) z.1
theorem remI_set (hW : WH cnt G S) : remI cnt F G S = setI (pB (stP cnt F G S)) cnt := by
  have h8 := hW.1
  unfold remI
  rw [setI_all cnt (by omega)]
  have h : ∀ t, ∃ p : Nat → Bool, itr (fun (_ : Nat) rr => itr (remR cnt F G S) cnt rr) t (setI (fun _ => true) cnt) = setI p cnt ∧ (∀ i, i < cnt → stP cnt F G S i → p i = true) ∧ ∀ i, i < cnt → p i = true → ¬ S i 3 = 1 → pw (nx cnt G S) t i < cnt := by
    intro t
    induction t with
    | zero => exact ⟨_, rfl, fun _ _ _ => rfl, fun i hi _ _ => hi⟩
    | succ t ih =>
      obtain ⟨p, e, h1, h2⟩ := ih
      obtain ⟨q, e2, g1, g2, g3⟩ := rem_round hW h1 cnt (Nat.le_refl cnt)
      refine ⟨q, by rw [itr_s, e, e2], g2, fun i hi z c => ?_⟩
      obtain ⟨a, b⟩ := (g3 i hi z).2.2.2 c
      have hh := (nx_how hW hi a).1
      exact h2 _ a b (by rcases hh with y | y <;> rw [y] <;> decide)
  obtain ⟨p, e, h1, h2⟩ := h cnt
  obtain ⟨q, e2, g1, g2, g3⟩ := rem_round hW h1 cnt (Nat.le_refl cnt)
  rw [itr_s, e, e2]
  refine setI_congr (fun k hk => b_ext ?_)
  rw [pB_t]
  refine ⟨fun z => ?_, g2 k hk⟩
  have cr : ∀ j, j < cnt → p j = true → ¬ S j 3 = 1 → Cr (nx cnt G S) cnt j := fun j hj y c => (cr_iff (nx_0 hW) (Nat.le_of_lt hj)).mpr (h2 j hj y c)
  by_cases c : S k 3 = 1
  · obtain ⟨a, b⟩ := (g3 k hk z).2.2.1 c
    exact Or.inr ⟨c, a, fun j hj hl => cr j hj (b j hj hl) (fun y => hl (by rw [y]; decide))⟩
  · exact Or.inl (cr k hk (g1 k hk z) c)
end STK
