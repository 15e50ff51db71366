/-! ===== the class's table and the reference's array: one state ===== -/
def SEq (cnt : Nat) (S : Nat → Nat → Int32) (N : Nat → Int32) : Prop := ∀ k, k < cnt → ∀ j, j < 9 → N (ix k j) = S k j
def NI (cnt : Nat) (S : Nat → Nat → Int32) (N : Nat → Int32) : Prop := ∀ k, k < cnt → N (ix k 9) = if S k 3 < 2 then 0 else 1
def LEq (G N : Nat → Int32) : Prop := ∀ j, j < 8 → N (lx j) = G j + 1
def HD (cnt : Nat) (F N : Nat → Int32) : Prop := F 2 = nI cnt ∧ N 0 = nI cnt ∧ N 1 = F 5 ∧ N 2 = F 4 ∧ N 3 = F 3 ∧ N 4 = F 6 ∧ N 5 = F 7
def RC (cnt : Nat) (s : Tb) (N : Nat → Int32) : Prop := HD cnt s.1 N ∧ LEq s.2.1 N ∧ SEq cnt s.2.2 N ∧ NI cnt s.2.2 N
/-- a seat's numbers: meals to bm, waits to bw -/
def SO (S : Nat → Nat → Int32) (k bm bw : Nat) : Prop :=
  (∃ h, h < 5 ∧ S k 3 = nI h) ∧ (S k 0 = 0 ∨ S k 0 = 1) ∧ (∃ a, 1 ≤ a ∧ a ≤ 9 ∧ S k 1 = nI a) ∧ (∃ b, 1 ≤ b ∧ b ≤ 9 ∧ S k 2 = nI b) ∧
  ((S k 3 = 0 ∨ S k 3 = 4 → ∃ l, 1 ≤ l ∧ l ≤ 9 ∧ S k 4 = nI l) ∧ (¬ (S k 3 = 0 ∨ S k 3 = 4) → S k 4 = 0)) ∧
  (∃ w, w ≤ bw ∧ S k 7 = nI w) ∧ (S k 3 = 0 ∨ S k 3 = 4 → S k 7 = 0) ∧ (∃ e, e ≤ bm ∧ S k 5 = nI e) ∧ ∃ f, f ≤ bw ∧ S k 6 = nI f
/-- who holds what -/
def HO (cnt : Nat) (G : Nat → Int32) (S : Nat → Nat → Int32) : Prop :=
  (∀ j, j < cnt → G j = -1 ∨ ∃ i, i < cnt ∧ G j = nI i ∧ (j = i ∨ j = lfN cnt i) ∧ (S i 3 = 3 ∨ S i 3 = 4)) ∧ (∀ j, cnt ≤ j → j < 8 → G j = -1) ∧
  (∀ i, i < cnt → S i 3 = 4 → G i = nI i ∧ G (lfN cnt i) = nI i) ∧ ∀ i, i < cnt → S i 3 = 3 → (G i = nI i ↔ ¬ G (lfN cnt i) = nI i)
def bef (S : Nat → Nat → Int32) (a b : Nat) : Prop := S b 7 < S a 7 ∨ (S a 7 = S b 7 ∧ a < b)
/-- the seats that ask, in their order; the new ones are below k -/
def QL (cnt k : Nat) (S : Nat → Nat → Int32) (L : List Nat) : Prop :=
  (∀ a, a ∈ L ↔ (a < cnt ∧ S a 3 = 1)) ∧ L.Pairwise (bef S) ∧ ∀ a, a ∈ L → (∃ w, 1 ≤ w ∧ w < 2 ^ 30 ∧ S a 7 = nI w) ∨ a < k
def RQ (N : Nat → Int32) (L : List Nat) : Prop := L.length ≤ 8 ∧ N 6 = nI L.length ∧ ∀ i, (h : i < L.length) → N (qx i) = nI L[i]
def TV (cnt k : Nat) (bm bw : Nat → Nat) (s : Tb) (N : Nat → Int32) (L : List Nat) : Prop :=
  RC cnt s N ∧ RQ N L ∧ QL cnt k s.2.2 L ∧ (∀ j, j < cnt → SO s.2.2 j (bm j) (bw j)) ∧ HO cnt s.2.1 s.2.2 ∧ (∃ b, b ≤ 99 ∧ s.1 4 = nI b) ∧ (∃ w, w ≤ 8 ∧ s.1 3 = nI w) ∧ cnt ≤ 8
theorem bef_nd {S : Nat → Nat → Int32} {L : List Nat} (h : L.Pairwise (bef S)) : L.Nodup := h.imp (fun {a b} hab => by
  rintro rfl
  rcases hab with h | h
  · exact Int32.lt_irrefl h
  · exact Nat.lt_irrefl _ h.2)
theorem lf_lt {cnt k : Nat} (h : k < cnt) : lfN cnt k < cnt := lfN_lt h
theorem lf_ne {cnt k : Nat} (h : k < cnt) (h2 : 2 ≤ cnt) : lfN cnt k ≠ k := by unfold lfN; split <;> omega
theorem lf_inj {cnt i k : Nat} (hi : i < cnt) (hk : k < cnt) (h : lfN cnt i = lfN cnt k) : i = k := by
  unfold lfN at h
  (repeat' split at h) <;> omega
/-- the two ladles of a seat by its manner -/
theorem lad_1 {cnt k : Nat} {S : Nat → Nat → Int32} (h : S k 0 = 0 ∨ S k 0 = 1) : ladN cnt S k 1 = if S k 0 = 1 then k else lfN cnt k := by
  unfold ladN lfN
  rcases h with h | h <;> rw [h] <;> simp <;> decide
theorem lad_0 {cnt k : Nat} {S : Nat → Nat → Int32} (h : S k 0 = 0 ∨ S k 0 = 1) : ladN cnt S k 0 = if S k 0 = 1 then lfN cnt k else k := by
  unfold ladN lfN
  rcases h with h | h <;> rw [h] <;> simp
theorem ml_eq {cnt k : Nat} {S : Nat → Nat → Int32} {N : Nat → Int32} (hN : N (ix k 0) = S k 0) (h : S k 0 = 0 ∨ S k 0 = 1) {b : Int32} (hb : b = 0 ∨ b = 1) : mlN cnt N k b = ladN cnt S k b := by
  rcases hb with rfl | rfl
  · rw [lad_0 h]
    unfold mlN
    rw [hN]
    rcases h with h | h <;> rw [h] <;> simp <;> decide
  · rw [lad_1 h]
    unfold mlN
    rw [hN]
    rcases h with h | h <;> rw [h] <;> simp <;> decide
section UPS
variable {cnt : Nat} {S : Nat → Nat → Int32} {N F G : Nat → Int32} {L : List Nat}
theorem upd_ix {k j k2 j2 : Nat} {v : Int32} (hj : j < 10) (hj2 : j2 < 10) : upd N (ix k j) v (ix k2 j2) = if k2 = k ∧ j2 = j then v else N (ix k2 j2) := by
  unfold upd
  by_cases h : k2 = k ∧ j2 = j
  · rw [if_pos h, h.1, h.2, if_pos rfl]
  · rw [if_neg h, if_neg (fun q => h ((ix_inj hj2 hj).mp q))]
theorem SEq.up (h : SEq cnt S N) {k j : Nat} (hj : j < 10) {v : Int32} : SEq cnt (up2 S k j v) (upd N (ix k j) v) := by
  intro k2 hk2 j2 hj2
  rw [upd_ix hj (by omega)]
  unfold up2
  split
  · rfl
  · exact h k2 hk2 j2 hj2
theorem SEq.nine (h : SEq cnt S N) {k : Nat} {v : Int32} : SEq cnt S (upd N (ix k 9) v) := by
  intro k2 hk2 j2 hj2
  rw [upd_ix (by decide) (by omega), if_neg (by omega)]
  exact h k2 hk2 j2 hj2
theorem SEq.lo (h : SEq cnt S N) {i : Nat} (hi : i < 23) {v : Int32} : SEq cnt S (upd N i v) := by
  intro k2 hk2 j2 hj2
  rw [upd_ne (by unfold ix; omega)]
  exact h k2 hk2 j2 hj2
theorem NI.up (h : NI cnt S N) {k j : Nat} (hj : j < 9) (h3 : j ≠ 3) {v : Int32} : NI cnt (up2 S k j v) (upd N (ix k j) v) := by
  intro k2 hk2
  rw [upd_ix (by omega) (by decide), if_neg (by omega), h k2 hk2]
  have : up2 S k j v k2 3 = S k2 3 := if_neg (fun q => h3 q.2.symm)
  rw [this]
theorem NI.lo (h : NI cnt S N) {i : Nat} (hi : i < 23) {v : Int32} : NI cnt S (upd N i v) := by
  intro k2 hk2
  rw [upd_ne (by unfold ix; omega)]
  exact h k2 hk2
/-- how a seat is, and its leave, written -/
theorem NI.how (h : NI cnt S N) {k : Nat} {x v : Int32} (hv : v = if x < 2 then 0 else 1) : NI cnt (up2 S k 3 x) (upd (upd N (ix k 9) v) (ix k 3) x) := by
  intro k2 hk2
  rw [upd_ix (by decide) (by decide), if_neg (by omega), upd_ix (by decide) (by decide)]
  by_cases q : k2 = k
  · subst q
    rw [if_pos ⟨rfl, rfl⟩]
    have : up2 S k2 3 x k2 3 = x := if_pos ⟨rfl, rfl⟩
    rw [this, hv]
  · rw [if_neg (fun z => q z.1), h k2 hk2]
    have : up2 S k 3 x k2 3 = S k2 3 := if_neg (fun z => q z.1)
    rw [this]
/-- how a seat is, written: on the same side of leave -/
theorem NI.how2 (h : NI cnt S N) {k : Nat} {x : Int32} (hk : k < cnt) (hx : S k 3 < 2 ↔ x < 2) : NI cnt (up2 S k 3 x) (upd N (ix k 3) x) := by
  intro k2 hk2
  rw [upd_ix (by decide) (by decide), if_neg (by omega), h k2 hk2]
  by_cases q : k2 = k
  · subst q
    have : up2 S k2 3 x k2 3 = x := if_pos ⟨rfl, rfl⟩
    rw [this]
    by_cases z : x < 2
    · rw [if_pos z, if_pos (hx.mpr z)]
    · rw [if_neg z, if_neg (fun y => z (hx.mp y))]
  · have : up2 S k 3 x k2 3 = S k2 3 := if_neg (fun z => q z.1)
    rw [this]
theorem LEq.hi (h : LEq G N) {k j : Nat} {v : Int32} : LEq G (upd N (ix k j) v) := by
  intro i hi
  rw [upd_ne (by unfold lx ix; omega)]
  exact h i hi
theorem LEq.lo (h : LEq G N) {i : Nat} (hi : i < 15) {v : Int32} : LEq G (upd N i v) := by
  intro j hj
  rw [upd_ne (by unfold lx; omega)]
  exact h j hj
theorem LEq.la (h : LEq G N) {k : Nat} {v : Int32} : LEq (upd G k v) (upd N (lx k) (v + 1)) := by
  intro j hj
  unfold upd
  by_cases q : j = k
  · subst q
    rw [if_pos rfl, if_pos rfl]
  · rw [if_neg (show ¬ lx j = lx k by unfold lx; omega), if_neg q]
    exact h j hj
theorem HD.hi (h : HD cnt F N) {i : Nat} (hi : 6 ≤ i) {v : Int32} : HD cnt F (upd N i v) := by
  obtain ⟨a, b, c, d, e, f, g⟩ := h
  exact ⟨a, by rw [upd_ne (by omega)]; exact b, by rw [upd_ne (by omega)]; exact c, by rw [upd_ne (by omega)]; exact d, by rw [upd_ne (by omega)]; exact e, by rw [upd_ne (by omega)]; exact f, by rw [upd_ne (by omega)]; exact g⟩
theorem RQ.hi (h : RQ N L) {i : Nat} (hi : 15 ≤ i) {v : Int32} : RQ (upd N i v) L := by
  obtain ⟨a, b, c⟩ := h
  refine ⟨a, by rw [upd_ne (by omega)]; exact b, fun j hj => ?_⟩
  rw [upd_ne (by unfold qx; omega)]
  exact c j hj
theorem RQ.lo (h : RQ N L) {i : Nat} (hi : i < 6) {v : Int32} : RQ (upd N i v) L := by
  obtain ⟨a, b, c⟩ := h
  refine ⟨a, by rw [upd_ne (by omega)]; exact b, fun j hj => ?_⟩
  rw [upd_ne (by unfold qx; omega)]
  exact c j hj
end UPS
