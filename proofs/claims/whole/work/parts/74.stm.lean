/-! ===== who is stuck: the reference's way ===== -/
section STM
variable {cnt : Nat} {F G N : Nat → Int32} {S : Nat → Nat → Int32}
/-- what the reference's looks need besides -/
def WM (cnt : Nat) (F G : Nat → Int32) (S : Nat → Nat → Int32) (N : Nat → Int32) : Prop := WH cnt G S ∧ (∀ k, k < cnt → otM cnt N k = awF cnt G S k) ∧ (∀ k, k < cnt → N (ix k 3) = S k 3) ∧ NI cnt S N ∧ moreF cnt F S = letM cnt N
theorem rg_iff (hM : WM cnt F G S N) {s : Nat} (hs : s < cnt) : ∀ (d x : Nat), x ≤ cnt → (rgM cnt N s d (eS cnt x) = nI s ↔ ∃ t, t ≤ d ∧ pw (nx cnt G S) t x = s) := by
  have hW := hM.1
  have h8 := hW.1
  intro d
  induction d with
  | zero =>
    intro x _
    unfold rgM
    rw [eS_i h8 hs]
    exact ⟨fun q => ⟨0, Nat.le_refl 0, q⟩, fun ⟨t, a, b⟩ => by
      have : t = 0 := by omega
      subst this
      exact b⟩
  | succ d ih =>
    intro x hx
    unfold rgM
    rcases Nat.lt_or_ge x cnt with h | h
    · have n0 : ¬ eS cnt x < 0 := by rw [eS_l h]; exact nI_pos (show x < 2 ^ 31 by omega)
      rw [if_neg n0]
      by_cases c : eS cnt x = nI s
      · rw [if_pos c]
        exact ⟨fun _ => ⟨0, Nat.zero_le _, (eS_i h8 hs).mp c⟩, fun _ => c⟩
      · rw [if_neg c]
        have e1 : otM cnt N (eS cnt x).toNatClampNeg = eS cnt (nx cnt G S x) := by
          rw [eS_l h, nI_clamp (by omega), hM.2.1 x h, e_nx hW h]
        rw [e1, ih _ ((nx_0 hW).2 x h)]
        constructor
        · rintro ⟨t, a, b⟩
          exact ⟨t + 1, by omega, b⟩
        · rintro ⟨t, a, b⟩
          cases t with
          | zero => exact absurd ((eS_i h8 hs).mpr b) c
          | succ t => exact ⟨t, by omega, b⟩
    · have e : x = cnt := Nat.le_antisymm hx h
      rw [e, eS_c, if_pos (by decide)]
      constructor
      · intro q; exact absurd q.symm (sM hs h8)
      · rintro ⟨t, -, b⟩
        rw [pw_c (nx_0 hW)] at b
        omega
theorem rn_set (hM : WM cnt F G S N) : itr (rnM cnt N) cnt 0 = setI (pB (Rg (nx cnt G S) cnt)) cnt := by
  have hW := hM.1
  show _ = itr _ cnt 0
  refine itr_congr (fun k a hk => ?_) 0
  unfold rnM
  have e : rgM cnt N k (cnt - 1) (otM cnt N k) = nI k ↔ pB (Rg (nx cnt G S) cnt) k = true := by
    rw [hM.2.1 k hk, ← e_nx hW hk, rg_iff hM hk _ _ ((nx_0 hW).2 k hk), pB_t]
    constructor
    · rintro ⟨t, a, b⟩
      exact ⟨hk, t + 1, by omega, by omega, b⟩
    · rintro ⟨-, t, a, b, c⟩
      cases t with
      | zero => omega
      | succ t => exact ⟨t, by omega, c⟩
  by_cases c : rgM cnt N k (cnt - 1) (otM cnt N k) = nI k
  · rw [if_pos c, if_pos (e.mp c)]
  · rw [if_neg c, if_neg (fun q => c (e.mpr q))]
theorem th_set (hM : WM cnt F G S N) {h : Int32} : itr (thM N h) cnt 0 = setI (fun k => decide (S k 3 = h)) cnt := by
  show _ = itr _ cnt 0
  refine itr_congr (fun k a hk => ?_) 0
  unfold thM
  rw [hM.2.2.1 k hk]
  by_cases c : S k 3 = h
  · rw [if_pos c, if_pos (decide_eq_true c)]
  · rw [if_neg c, if_neg (by simp [c])]
/-- what a pass over the seats makes of a set -/
theorem sp_set (hM : WM cnt F G S N) {p : Nat → Bool} (hp : ∀ k, k < cnt → p k = true → stP cnt F G S k) : ∀ n, n ≤ cnt → ∃ (q : Nat → Bool) (fl : Int32), itr (spM cnt N) n (setI p cnt, 1) = (setI q cnt, fl) ∧ (∀ i, i < cnt → p i = true → q i = true) ∧ (∀ i, i < n → nx cnt G S i < cnt → p (nx cnt G S i) = true → q i = true) ∧ (∀ i, i < cnt → q i = true → stP cnt F G S i) ∧ (fl = 0 ↔ ∃ i, i < n ∧ ¬ S i 3 < 2 ∧ q i = false) := by
  have hW := hM.1
  have h8 := hW.1
  intro n
  induction n with
  | zero => intro _; exact ⟨p, 1, rfl, fun _ _ q => q, fun i hi => absurd hi (Nat.not_lt_zero i), hp, ⟨fun q => absurd q (by decide), fun ⟨i, hi, _⟩ => absurd hi (Nat.not_lt_zero i)⟩⟩
  | succ n ih =>
    intro hn
    obtain ⟨q, fl, e, h1, h2, h3, h4⟩ := ih (by omega)
    have hnc : n < cnt := by omega
    rw [itr_s, e]
    -- the set after this seat
    have key : ∃ q' : Nat → Bool, (if otM cnt N n < 0 then setI q cnt else if (setI q cnt >>> (otM cnt N n &&& 31)) &&& 1 = 1 then setI q cnt ||| (1 <<< (nI n &&& 31)) else setI q cnt) = setI q' cnt ∧ (∀ i, i ≠ n → q' i = q i) ∧ (q n = true → q' n = true) ∧ (nx cnt G S n < cnt → q (nx cnt G S n) = true → q' n = true) ∧ (q' n = true → stP cnt F G S n) := by
      rw [hM.2.1 n hnc]
      rcases nx_of hW hnc with ⟨a, b⟩ | ⟨j, hj, a, b⟩
      · rw [a, if_pos (by decide)]
        exact ⟨q, rfl, fun _ _ => rfl, fun z => z, fun z => by omega, h3 n hnc⟩
      · rw [a, if_neg (nI_pos (show j < 2 ^ 31 by omega)), setI_test h8 hj, b]
        cases hq : q j with
        | false =>
          rw [if_neg Bool.false_ne_true, if_neg (by decide)]
          exact ⟨q, rfl, fun _ _ => rfl, fun z => z, fun _ z => absurd z Bool.false_ne_true, h3 n hnc⟩
        | true =>
          rw [if_pos rfl, if_pos rfl, setI_or1 h8 hnc]
          refine ⟨_, rfl, fun i hi => by simp [hi], fun z => by simp, fun _ _ => by simp, fun _ => ?_⟩
          have hs := h3 j hj hq
          have hl : nx cnt G S n < cnt := by omega
          have hh := (nx_how hW hnc hl).1
          rw [b] at hh
          rcases hs with hs | ⟨c1, -⟩
          · exact Or.inl (Cr.back hnc (by rw [b]; exact hs))
          · rw [c1] at hh
            exact absurd hh (by decide)
    obtain ⟨q', e2, g1, g2, g3, g4⟩ := key
    have g5 : ∀ i, i < cnt → q i = true → q' i = true := fun i _ z => by
      by_cases y : i = n
      · subst y; exact g2 z
      · rw [g1 i y]; exact z
    refine ⟨q', (if N (ix n 9) = 1 then (if (setI q' cnt >>> (nI n &&& 31)) &&& 1 = 0 then 0 else fl) else fl), ?_, fun i hi z => g5 i hi (h1 i hi z), fun i hi a b => ?_, fun i hi z => ?_, ?_⟩
    · unfold spM
      dsimp only
      rw [e2]
    · by_cases y : i = n
      · rw [y] at a b ⊢
        exact g3 a (h1 _ a b)
      · exact g5 i (by omega) (h2 i (by omega) a b)
    · by_cases y : i = n
      · rw [y] at z ⊢; exact g4 z
      · rw [g1 i y] at z; exact h3 i hi z
    · rw [hM.2.2.2.1 n hnc, setI_test h8 hnc]
      have old : (∃ i, i < n ∧ ¬ S i 3 < 2 ∧ q i = false) ↔ ∃ i, i < n ∧ ¬ S i 3 < 2 ∧ q' i = false := by
        constructor
        · rintro ⟨i, a, b, c⟩
          exact ⟨i, a, b, by rw [g1 i (by omega)]; exact c⟩
        · rintro ⟨i, a, b, c⟩
          exact ⟨i, a, b, by rw [← g1 i (by omega)]; exact c⟩
      by_cases c : S n 3 < 2
      · rw [if_pos c, if_neg (by decide), h4, old]
        constructor
        · rintro ⟨i, a, b⟩; exact ⟨i, by omega, b⟩
        · rintro ⟨i, a, b⟩
          by_cases y : i = n
          · rw [y] at b; exact absurd c b.1
          · exact ⟨i, by omega, b⟩
      · rw [if_neg c, if_pos rfl]
        cases hq : q' n with
        | false =>
          rw [if_neg Bool.false_ne_true, if_pos rfl]
          exact ⟨fun _ => ⟨n, by omega, c, hq⟩, fun _ => rfl⟩
        | true =>
          rw [if_pos rfl, if_neg (by decide), h4, old]
          constructor
          · rintro ⟨i, a, b⟩; exact ⟨i, by omega, b⟩
          · rintro ⟨i, a, b⟩
            by_cases y : i = n
            · rw [y, hq] at b; exact absurd b.2 (by decide)
            · exact ⟨i, by omega, b⟩
theorem ps_set (hM : WM cnt F G S N) {r : Nat} {p : Nat → Bool} (hl : ∀ k, k < cnt → Dr (nx cnt G S) cnt r k → p k = true) (hp : ∀ k, k < cnt → p k = true → stP cnt F G S k) :
    ∃ p' : Nat → Bool, psM cnt N (setI p cnt) = setI p' cnt ∧ (∀ k, k < cnt → Dr (nx cnt G S) cnt (r + 1) k → p' k = true) ∧ (∀ k, k < cnt → p' k = true → stP cnt F G S k) ∧ ((∀ k, k < cnt → Cr (nx cnt G S) cnt k → p k = true) → ∀ k, k < cnt → stP cnt F G S k → p' k = true) := by
  have hW := hM.1
  have h8 := hW.1
  obtain ⟨q, fl, e, h1, h2, h3, h4⟩ := sp_set hM hp cnt (Nat.le_refl cnt)
  unfold psM
  dsimp only
  rw [e, ← hM.2.2.2.2, th_set hM]
  have low : ∀ k, k < cnt → Dr (nx cnt G S) cnt (r + 1) k → q k = true := fun k hk z => by
    rcases (Dr_s (nx_0 hW) hk).mp z with z | ⟨a, z⟩
    · exact h1 k hk (hl k hk z)
    · exact h2 k hk a (hl _ a z)
  dsimp only
  by_cases c1 : fl = 0
  · rw [if_pos c1]
    refine ⟨q, rfl, low, h3, fun hc k hk z => ?_⟩
    obtain ⟨i, hi, a, b⟩ := h4.mp c1
    rcases z with z | ⟨-, -, z⟩
    · exact h1 k hk (hc k hk z)
    · rw [h1 i hi (hc i hi (z i hi a))] at b
      exact absurd b (by decide)
  · rw [if_neg c1]
    by_cases c2 : moreF cnt F S = 0
    · rw [if_pos c2, setI_or h8]
      refine ⟨_, rfl, fun k hk z => by rw [low k hk z]; rfl, fun k hk z => ?_, fun hc k hk z => ?_⟩
      · rw [Bool.or_eq_true] at z
        rcases z with z | z
        · exact h3 k hk z
        · refine Or.inr ⟨of_decide_eq_true z, c2, fun j hj hl => ?_⟩
          have hq : q j = true := by
            cases hq : q j with
            | true => rfl
            | false => exact absurd (h4.mpr ⟨j, hj, hl, hq⟩) c1
          rcases h3 j hj hq with y | ⟨y, -⟩
          · exact y
          · rw [y] at hl; exact absurd (by decide) hl
      · rw [Bool.or_eq_true]
        rcases z with z | ⟨z, -⟩
        · exact Or.inl (h1 k hk (hc k hk z))
        · exact Or.inr (decide_eq_true z)
    · rw [if_neg c2]
      refine ⟨q, rfl, low, h3, fun hc k hk z => ?_⟩
      rcases z with z | ⟨-, z, -⟩
      · exact h1 k hk (hc k hk z)
      · exact absurd z c2
theorem Cr_st {k : Nat} (h : Cr (nx cnt G S) cnt k) : stP cnt F G S k := Or.inl h
theorem stM_set (hM : WM cnt F G S N) : stM cnt N = setI (pB (stP cnt F G S)) cnt := by
  have hW := hM.1
  have h8 := hW.1
  unfold stM
  rw [rn_set hM]
  have h : ∀ t, ∃ p : Nat → Bool, itr (fun (_ : Nat) x => psM cnt N x) t (setI (pB (Rg (nx cnt G S) cnt)) cnt) = setI p cnt ∧ (∀ k, k < cnt → Dr (nx cnt G S) cnt t k → p k = true) ∧ ∀ k, k < cnt → p k = true → stP cnt F G S k := by
    intro t
    induction t with
    | zero => exact ⟨_, rfl, fun k _ z => pB_t.mpr (Dr_0.mp z), fun k _ z => Or.inl ((pB_t.mp z).cr (nx_0 hW))⟩
    | succ t ih =>
      obtain ⟨p, e, h1, h2⟩ := ih
      obtain ⟨p', e2, g1, g2, -⟩ := ps_set hM h1 h2
      exact ⟨p', by rw [itr_s, e, e2], g1, g2⟩
  obtain ⟨p, e, h1, h2⟩ := h 19
  obtain ⟨p', e2, -, g2, g3⟩ := ps_set hM h1 h2
  rw [show (20 : Nat) = 19 + 1 from rfl, itr_s, e, e2]
  exact setI_congr (fun k hk => b_ext (by rw [pB_t]; exact ⟨g2 k hk, g3 (fun j hj z => h1 j hj (cr_Dr (nx_0 hW) (by omega) z)) k hk⟩))
theorem stM_fix (hM : WM cnt F G S N) : psM cnt N (stM cnt N) = stM cnt N := by
  have hW := hM.1
  rw [stM_set hM]
  obtain ⟨p', e2, -, g2, g3⟩ := ps_set hM (r := 0) (p := pB (stP cnt F G S)) (fun k hk z => pB_t.mpr (Or.inl (Dr_cr (nx_0 hW) z))) (fun k _ z => pB_t.mp z)
  rw [e2]
  exact setI_congr (fun k hk => b_ext (by rw [pB_t]; exact ⟨g2 k hk, g3 (fun j hj z => pB_t.mpr (Or.inl z)) k hk⟩))
theorem rn_m1 (hM : WM cnt F G S N) : itr (rnM cnt N) cnt 0 ≠ -1 := by rw [rn_set hM]; exact setI_m1 hM.1.1
end STM
theorem tv_WM {cnt k : Nat} {bm bw : Nat → Nat} {s : Tb} {N : Nat → Int32} {L : List Nat} (h : TV cnt k bm bw s N L) : WM cnt s.1 s.2.1 s.2.2 N := by
  obtain ⟨F, G, S⟩ := s
  obtain ⟨hrc, hr, hq, hso, ho, hb, hw, h8⟩ := h
  have hrc0 := hrc
  obtain ⟨hH, hl, hs, hn⟩ := hrc
  dsimp only at hH hl hs hn hr hq hso ho hb hw ⊢
  have hG : ∀ j, j < cnt → seatI cnt (G j) := fun j hj => by
    rcases ho.1 j hj with q | ⟨i, hi, q, -⟩
    · exact Or.inl q
    · exact Or.inr ⟨i, hi, q⟩
  refine ⟨⟨h8, hG, fun j hj i hi q => ?_, (leave_cN hn h8).2⟩, fun j hj => ?_, fun j hj => hs j hj 3 (by decide), hn, more_lets hrc0 h8⟩
  · rcases ho.1 j hj with z | ⟨i2, hi2, z, -, y⟩
    · rw [z] at q; exact absurd q.symm (sM hi h8)
    · have : i2 = i := (nI_eq (by omega) (by omega)).mp (z.symm.trans q)
      subst this
      exact y
  · have s0 := (hso j hj).2.1
    have hlj := lf_lt hj
    unfold otM awF
    rw [hs j hj 3 (by decide)]
    by_cases c2 : S j 3 = 2
    · have e : mlN cnt N j 1 = ladN cnt S j 1 := ml_eq (hs j hj 0 (by decide)) s0 (Or.inr rfl)
      have hlt : ladN cnt S j 1 < cnt := ladN_lt hj
      rw [if_pos c2, if_pos c2, e, hl _ (by omega), Int32.add_sub_cancel]
    · rw [if_neg c2, if_neg c2]
      by_cases c3 : S j 3 = 3
      · rw [if_pos c3, if_pos c3]
        have hex := ho.2.2.2 j hj c3
        unfold w2N
        rw [hl j (by omega), Int32.add_sub_cancel, lad_1 s0, lad_0 s0]
        by_cases z : G j = nI j
        · rw [if_pos z, hl _ (by omega), Int32.add_sub_cancel]
          rcases s0 with q | q
          · rw [q]
            simp only [show ¬ (0 : Int32) = 1 by decide, if_false, hex.mp z]
          · rw [q]
            simp only [if_true, z]
        · have z2 : G (lfN cnt j) = nI j := Classical.byContradiction fun x => z (hex.mpr x)
          rw [if_neg z, hl j (by omega), Int32.add_sub_cancel]
          rcases s0 with q | q
          · rw [q]
            simp only [show ¬ (0 : Int32) = 1 by decide, if_false, z2, if_true]
          · rw [q]
            simp only [if_true, z, if_false]
      · rw [if_neg c3, if_neg c3]
/-- the stuck ones, on both sides -/
theorem tv_stuck {cnt k : Nat} {bm bw : Nat → Nat} {s : Tb} {N : Nat → Int32} {L : List Nat} (h : TV cnt k bm bw s N L) : stuI cnt s.1 s.2.1 s.2.2 = stM cnt N ∧ remI cnt s.1 s.2.1 s.2.2 = stM cnt N ∧ itr (ringF cnt s.2.1 s.2.2) cnt 0 = itr (rnM cnt N) cnt 0 := by
  have hM := tv_WM h
  exact ⟨(stuI_set hM.1).trans (stM_set hM).symm, (remI_set hM.1).trans (stM_set hM).symm, (ring_set hM.1).trans (rn_set hM).symm⟩
theorem Ik_SI {cnt : Nat} : SI cnt (Ik cnt) := by
  rintro d N ⟨s, L, B, h, hB⟩
  have hM := tv_WM h
  refine ⟨h.1.1.2.1, fun j hj => ?_, rn_m1 hM, stM_fix hM⟩
  have h8 := hM.1.1
  rw [h.1.2.1 j (by omega), Int32.add_sub_cancel]
  exact hM.1.2.1 j hj
