/-! ===== the object as the law sees it ===== -/
theorem fc_self {x : UInt32} (hx : n32 x = true) : FP.fcmp x x = some .eq := FP.Core.fcmp_self (n32_iff.mp hx)
/-- the table, the tables that undo would bring back, the saved one, the reason, the fault's place, the text -/
abbrev St : Type := Tb × List Tb × Option Tb × (Int32 × Int32 × Int32) × Int32 × List Int32
abbrev St.cur (s : St) : Tb := s.1
abbrev St.hist (s : St) : List Tb := s.2.1
abbrev St.sav (s : St) : Option Tb := s.2.2.1
abbrev St.why (s : St) : Int32 × Int32 × Int32 := s.2.2.2.1
abbrev St.flt (s : St) : Int32 := s.2.2.2.2.1
abbrev St.txt (s : St) : List Int32 := s.2.2.2.2.2
def svd (o : Option Tb) (z : Int32) (t : Tb) : Prop := match o with
  | none => z = 0
  | some u => z = 1 ∧ t = u
def AWd (m N : Nat) (s : St) (lt : List Int32) (T : Nat → Tb) (pa : Nat → Nat) (be : Nat) (Z P C R Lt : Nat → Int32) (n : Nat) : Prop :=
  (m ≤ n) ∧ (n ≤ N) ∧ (Pm pa be) ∧ (Z 5 = nI s.hist.length) ∧ (s.hist.length ≤ 8) ∧ (T 0 = s.cur) ∧ (∀ k, k < s.hist.length → s.hist[k]? = some (T (pa k))) ∧ (svd s.sav (Z 3) (T 2)) ∧ (Z 8 = s.flt) ∧ (R 0 = s.why.1 ∧ R 1 = s.why.2.1 ∧ R 2 = s.why.2.2) ∧ (P 1 = nI s.txt.length) ∧ (∀ k, k < s.txt.length → s.txt[k]? = some (C k)) ∧ (s.txt.length ≤ 60) ∧ (Z 11 = nI lt.length) ∧ (∀ k, k < lt.length → lt[k]? = some (Lt k)) ∧ (lt.length ≤ 40) ∧ (∀ k, k < lt.length → okr (some .char) (Lt k) = true) ∧ (∀ i, i < 12 → ∀ j, 8 ≤ j → (T i).2.1 j = 0)
theorem AWd.mn {m N : Nat} {s : St} {lt : List Int32} {T : Nat → Tb} {pa : Nat → Nat} {be : Nat} {Z P C R Lt : Nat → Int32} {n : Nat} (h : AWd m N s lt T pa be Z P C R Lt n) : m ≤ n := h.1
theorem AWd.nN {m N : Nat} {s : St} {lt : List Int32} {T : Nat → Tb} {pa : Nat → Nat} {be : Nat} {Z P C R Lt : Nat → Int32} {n : Nat} (h : AWd m N s lt T pa be Z P C R Lt n) : n ≤ N := h.2.1
theorem AWd.hP {m N : Nat} {s : St} {lt : List Int32} {T : Nat → Tb} {pa : Nat → Nat} {be : Nat} {Z P C R Lt : Nat → Int32} {n : Nat} (h : AWd m N s lt T pa be Z P C R Lt n) : Pm pa be := h.2.2.1
theorem AWd.hZ5 {m N : Nat} {s : St} {lt : List Int32} {T : Nat → Tb} {pa : Nat → Nat} {be : Nat} {Z P C R Lt : Nat → Int32} {n : Nat} (h : AWd m N s lt T pa be Z P C R Lt n) : Z 5 = nI s.hist.length := h.2.2.2.1
theorem AWd.h8 {m N : Nat} {s : St} {lt : List Int32} {T : Nat → Tb} {pa : Nat → Nat} {be : Nat} {Z P C R Lt : Nat → Int32} {n : Nat} (h : AWd m N s lt T pa be Z P C R Lt n) : s.hist.length ≤ 8 := h.2.2.2.2.1
theorem AWd.hT {m N : Nat} {s : St} {lt : List Int32} {T : Nat → Tb} {pa : Nat → Nat} {be : Nat} {Z P C R Lt : Nat → Int32} {n : Nat} (h : AWd m N s lt T pa be Z P C R Lt n) : T 0 = s.cur := h.2.2.2.2.2.1
theorem AWd.hh {m N : Nat} {s : St} {lt : List Int32} {T : Nat → Tb} {pa : Nat → Nat} {be : Nat} {Z P C R Lt : Nat → Int32} {n : Nat} (h : AWd m N s lt T pa be Z P C R Lt n) : ∀ k, k < s.hist.length → s.hist[k]? = some (T (pa k)) := h.2.2.2.2.2.2.1
theorem AWd.hs {m N : Nat} {s : St} {lt : List Int32} {T : Nat → Tb} {pa : Nat → Nat} {be : Nat} {Z P C R Lt : Nat → Int32} {n : Nat} (h : AWd m N s lt T pa be Z P C R Lt n) : svd s.sav (Z 3) (T 2) := h.2.2.2.2.2.2.2.1
theorem AWd.hf {m N : Nat} {s : St} {lt : List Int32} {T : Nat → Tb} {pa : Nat → Nat} {be : Nat} {Z P C R Lt : Nat → Int32} {n : Nat} (h : AWd m N s lt T pa be Z P C R Lt n) : Z 8 = s.flt := h.2.2.2.2.2.2.2.2.1
theorem AWd.hR {m N : Nat} {s : St} {lt : List Int32} {T : Nat → Tb} {pa : Nat → Nat} {be : Nat} {Z P C R Lt : Nat → Int32} {n : Nat} (h : AWd m N s lt T pa be Z P C R Lt n) : R 0 = s.why.1 ∧ R 1 = s.why.2.1 ∧ R 2 = s.why.2.2 := h.2.2.2.2.2.2.2.2.2.1
theorem AWd.hp {m N : Nat} {s : St} {lt : List Int32} {T : Nat → Tb} {pa : Nat → Nat} {be : Nat} {Z P C R Lt : Nat → Int32} {n : Nat} (h : AWd m N s lt T pa be Z P C R Lt n) : P 1 = nI s.txt.length := h.2.2.2.2.2.2.2.2.2.2.1
theorem AWd.hc {m N : Nat} {s : St} {lt : List Int32} {T : Nat → Tb} {pa : Nat → Nat} {be : Nat} {Z P C R Lt : Nat → Int32} {n : Nat} (h : AWd m N s lt T pa be Z P C R Lt n) : ∀ k, k < s.txt.length → s.txt[k]? = some (C k) := h.2.2.2.2.2.2.2.2.2.2.2.1
theorem AWd.h60 {m N : Nat} {s : St} {lt : List Int32} {T : Nat → Tb} {pa : Nat → Nat} {be : Nat} {Z P C R Lt : Nat → Int32} {n : Nat} (h : AWd m N s lt T pa be Z P C R Lt n) : s.txt.length ≤ 60 := h.2.2.2.2.2.2.2.2.2.2.2.2.1
theorem AWd.hz {m N : Nat} {s : St} {lt : List Int32} {T : Nat → Tb} {pa : Nat → Nat} {be : Nat} {Z P C R Lt : Nat → Int32} {n : Nat} (h : AWd m N s lt T pa be Z P C R Lt n) : Z 11 = nI lt.length := h.2.2.2.2.2.2.2.2.2.2.2.2.2.1
theorem AWd.hl {m N : Nat} {s : St} {lt : List Int32} {T : Nat → Tb} {pa : Nat → Nat} {be : Nat} {Z P C R Lt : Nat → Int32} {n : Nat} (h : AWd m N s lt T pa be Z P C R Lt n) : ∀ k, k < lt.length → lt[k]? = some (Lt k) := h.2.2.2.2.2.2.2.2.2.2.2.2.2.2.1
theorem AWd.h40 {m N : Nat} {s : St} {lt : List Int32} {T : Nat → Tb} {pa : Nat → Nat} {be : Nat} {Z P C R Lt : Nat → Int32} {n : Nat} (h : AWd m N s lt T pa be Z P C R Lt n) : lt.length ≤ 40 := h.2.2.2.2.2.2.2.2.2.2.2.2.2.2.2.1
theorem AWd.hk {m N : Nat} {s : St} {lt : List Int32} {T : Nat → Tb} {pa : Nat → Nat} {be : Nat} {Z P C R Lt : Nat → Int32} {n : Nat} (h : AWd m N s lt T pa be Z P C R Lt n) : ∀ k, k < lt.length → okr (some .char) (Lt k) = true := h.2.2.2.2.2.2.2.2.2.2.2.2.2.2.2.2.1
theorem AWd.hg {m N : Nat} {s : St} {lt : List Int32} {T : Nat → Tb} {pa : Nat → Nat} {be : Nat} {Z P C R Lt : Nat → Int32} {n : Nat} (h : AWd m N s lt T pa be Z P C R Lt n) : ∀ i, i < 12 → ∀ j, 8 ≤ j → (T i).2.1 j = 0 := h.2.2.2.2.2.2.2.2.2.2.2.2.2.2.2.2.2
theorem AWd.mk {m N : Nat} {s : St} {lt : List Int32} {T : Nat → Tb} {pa : Nat → Nat} {be : Nat} {Z P C R Lt : Nat → Int32} {n : Nat} (mn : m ≤ n) (nN : n ≤ N) (hP : Pm pa be) (hZ5 : Z 5 = nI s.hist.length) (h8 : s.hist.length ≤ 8) (hT : T 0 = s.cur) (hh : ∀ k, k < s.hist.length → s.hist[k]? = some (T (pa k))) (hs : svd s.sav (Z 3) (T 2)) (hf : Z 8 = s.flt) (hR : R 0 = s.why.1 ∧ R 1 = s.why.2.1 ∧ R 2 = s.why.2.2) (hp : P 1 = nI s.txt.length) (hc : ∀ k, k < s.txt.length → s.txt[k]? = some (C k)) (h60 : s.txt.length ≤ 60) (hz : Z 11 = nI lt.length) (hl : ∀ k, k < lt.length → lt[k]? = some (Lt k)) (h40 : lt.length ≤ 40) (hk : ∀ k, k < lt.length → okr (some .char) (Lt k) = true) (hg : ∀ i, i < 12 → ∀ j, 8 ≤ j → (T i).2.1 j = 0) : AWd m N s lt T pa be Z P C R Lt n := ⟨mn, nN, hP, hZ5, h8, hT, hh, hs, hf, hR, hp, hc, h60, hz, hl, h40, hk, hg⟩
def AWL (x : Nat) (w0 : Wld) (m N : Nat) (s : St) (lt : List Int32) (w : Wld) (n : Nat) : Prop :=
  ∃ (w1 : Wld) (T : Nat → Tb) (pa : Nat → Nat) (be : Nat) (Z P C D R Lt : Nat → Int32), w = SW w1 x T pa be Z P C D R Lt ∧ (∀ a, a < m → w1 a = w0 a) ∧ AWd m N s lt T pa be Z P C R Lt n
def AW (x : Nat) (w0 : Wld) (m N : Nat) (s : St) (w : Wld) (n : Nat) : Prop := ∃ lt, AWL x w0 m N s lt w n
theorem AWd.up {m N N2 n : Nat} {s : St} {lt : List Int32} {T : Nat → Tb} {pa : Nat → Nat} {be : Nat} {Z P C R Lt : Nat → Int32} (h : AWd m N s lt T pa be Z P C R Lt n) (hN : N ≤ N2) : AWd m N2 s lt T pa be Z P C R Lt n := (AWd.mk h.mn (Nat.le_trans h.nN hN) h.hP h.hZ5 h.h8 h.hT h.hh h.hs h.hf h.hR h.hp h.hc h.h60 h.hz h.hl h.h40 h.hk h.hg)
theorem AWd.n1 {m N n : Nat} {s : St} {lt : List Int32} {T : Nat → Tb} {pa : Nat → Nat} {be : Nat} {Z P C R Lt : Nat → Int32} (h : AWd m N s lt T pa be Z P C R Lt n) : AWd m (N + 1) s lt T pa be Z P C R Lt (n + 1) := (AWd.mk (Nat.le_succ_of_le h.mn) (Nat.succ_le_succ h.nN) h.hP h.hZ5 h.h8 h.hT h.hh h.hs h.hf h.hR h.hp h.hc h.h60 h.hz h.hl h.h40 h.hk h.hg)
theorem AWL.aw {x m N n : Nat} {w0 w : Wld} {s : St} {lt : List Int32} (h : AWL x w0 m N s lt w n) : AW x w0 m N s w n := ⟨lt, h⟩
theorem AW.up {x m N N2 n : Nat} {w0 w : Wld} {s : St} (h : AW x w0 m N s w n) (hN : N ≤ N2) : AW x w0 m N2 s w n := by
  obtain ⟨lt, w1, T, pa, be, Z, P, C, D, R, Lt, e, hw, a⟩ := h
  exact ⟨lt, w1, T, pa, be, Z, P, C, D, R, Lt, e, hw, a.up hN⟩
theorem AWL.up {x m N N2 n : Nat} {w0 w : Wld} {s : St} {lt : List Int32} (h : AWL x w0 m N s lt w n) (hN : N ≤ N2) : AWL x w0 m N2 s lt w n := by
  obtain ⟨w1, T, pa, be, Z, P, C, D, R, Lt, e, hw, a⟩ := h
  exact ⟨w1, T, pa, be, Z, P, C, D, R, Lt, e, hw, a.up hN⟩
theorem AW.c {x m N n : Nat} {w0 w : Wld} {s : St} (h : AW x w0 m N s w n) : hasc w x 4 = true := by
  obtain ⟨lt, w1, T, pa, be, Z, P, C, D, R, Lt, rfl, hw, a⟩ := h
  exact cz
theorem AWL.c {x m N n : Nat} {w0 w : Wld} {s : St} {lt : List Int32} (h : AWL x w0 m N s lt w n) : hasc w x 4 = true := h.aw.c
theorem mix_eq {T : Nat → Tb} {i j : Nat} (h : ∀ k, 8 ≤ k → (T i).2.1 k = 0) (h2 : ∀ k, 8 ≤ k → (T j).2.1 k = 0) : mixT T i j = updT T i (T j) := by
  unfold mixT
  have e : mixG (T i).2.1 (T j).2.1 = (T j).2.1 := by
    funext k
    unfold mixG
    split
    · rfl
    · rw [h k (by omega), h2 k (by omega)]
  rw [e]
theorem AWd.mix {m N n : Nat} {s : St} {lt : List Int32} {T : Nat → Tb} {pa : Nat → Nat} {be : Nat} {Z P C R Lt : Nat → Int32} (h : AWd m N s lt T pa be Z P C R Lt n) {i j : Nat} (hi : i < 12) (hj : j < 12) : mixT T i j = updT T i (T j) := mix_eq (h.hg i hi) (h.hg j hj)
/-- the scratch table alone is another -/
theorem AWd.ahead {m N n : Nat} {s : St} {lt : List Int32} {T T2 : Nat → Tb} {pa : Nat → Nat} {be : Nat} {Z P C R Lt : Nat → Int32} (h : AWd m N s lt T pa be Z P C R Lt n) (h2 : ∀ i, i ≠ 1 → T2 i = T i) (hg : ∀ j, 8 ≤ j → (T2 1).2.1 j = 0) : AWd m N s lt T2 pa be Z P C R Lt n :=
  (AWd.mk h.mn h.nN h.hP h.hZ5 h.h8 ((h2 0 (by decide)).trans h.hT) (fun k hk => by rw [h2 (pa k) (by have := (h.hP.1 k (by have := h.h8; omega)).1; omega)]; exact h.hh k hk) (by rw [h2 2 (by decide)]; exact h.hs) h.hf h.hR h.hp h.hc h.h60 h.hz h.hl h.h40 h.hk (fun i hi j hj => by
      by_cases e : i = 1
      · rw [e]; exact hg j hj
      · rw [h2 i e]; exact h.hg i hi j hj))
/-! the answers of the queries -/
def mwV (s : Tb) : UInt64 := if itr (mealsOfAllF s.2.2) (cntOf s) 0 = 0 then 13875388141788987392 else FP.ddiv (FP.i2d (itr (waitsOfAllF s.2.2) (cntOf s) 0)) (FP.i2d (itr (mealsOfAllF s.2.2) (cntOf s) 0))
def faV (s : Tb) : UInt32 := if itr (mostMealsF s.2.2) (cntOf s) 0 = 0 then 3296346112 else FP.fdiv (FP.i2f (fewF (cntOf s) s.2.2)) (FP.i2f (itr (mostMealsF s.2.2) (cntOf s) 0))
def waV (s : Tb) (k : Nat) : Int32 := if awF (cntOf s) s.2.1 s.2.2 k = -1 then -1002 else awF (cntOf s) s.2.1 s.2.2 k
def asV (s : Tb) (y : Int32) : Int32 := if oI (ff (askP (cntOf s) s.2.2 y) (cntOf s) 0) = -1 then -1001 else oI (ff (askP (cntOf s) s.2.2 y) (cntOf s) 0)
def huV (s : Tb) (y : Int32) : Int32 := if oI (ff (hunP (cntOf s) s.2.2 y) (cntOf s) 0) = -1 then -1001 else oI (ff (hunP (cntOf s) s.2.2 y) (cntOf s) 0)
def miV (s : Tb) (m : Nat) : Int32 := if cntOf s < 2 then 0 else itr (mealsOfAllF (tksF (cntOf s) m s).2.2) (cntOf s) 0 - itr (mealsOfAllF s.2.2) (cntOf s) 0
def siV (s : Tb) : Int32 := match (if cntOf s < 2 then none else siF (cntOf s) 100 0 s) with
  | none => -1001
  | some i => nI i
def neV (s : Tb) (y z : Int32) : Int32 := if neiF (s.1 2) y z = 0 then 0 else 1
section QRY
variable {X : Cxt} {w w0 : Wld} {n x m N B : Nat} {Q : (Option Value ⊕ String) → Wld → Option Nat → Prop} {s : St}
theorem A_account (hg : Iv B s.cur) {j : Nat} (hj : j < 12) (h : AW x w0 m N s w n) (hQ : ∀ w n, AW x w0 m (N + 1) s w n → Q (.inl (some (.int (accF (cntOf s.cur) s.cur (nI s.hist.length) (nI s.txt.length) j)))) w (some n)) : Ev X 29 0 [some (.ref x), some (.int (nI j)), none] [] w (some n) 0 0 Q := by
  obtain ⟨lt, w1, T, pa, be, Z, P, C, D, R, Lt, rfl, hw, a⟩ := h
  have hc : (T 0).1 2 = nI (cntOf s.cur) := by rw [a.hT]; exact hg.c2
  refine lh_account cz ((sw_account hc hg.c8 hj).mpr ?_)
  rw [a.hT, a.hZ5, a.hp]
  exact hQ _ _ ⟨lt, w1, T, pa, be, Z, P, C, D, R, Lt, rfl, hw, a.up (Nat.le_succ N)⟩
theorem A_account_bad {y : Int32} (hy : y < 0 ∨ 11 < y) (h : AW x w0 m N s w n) (hQ : ∀ w n, AW x w0 m (N + 1) s w n → Q (.inl (some (.int (-1001)))) w (some n)) : Ev X 29 0 [some (.ref x), some (.int y), none] [] w (some n) 0 0 Q := by
  obtain ⟨lt, w1, T, pa, be, Z, P, C, D, R, Lt, rfl, hw, a⟩ := h
  exact lh_account cz ((sw_account_bad hy).mpr ⟨_, List.mem_cons_self, hQ _ _ ⟨lt, w1, T, pa, be, Z, P, C, D, R, Lt, rfl, hw, a.n1⟩⟩)
theorem A_seatOf (hg : Iv B s.cur) {k j : Nat} (hk : k < cntOf s.cur) (hj : j < 10) (h : AW x w0 m N s w n) (hQ : ∀ w n, AW x w0 m (N + 1) s w n → Q (.inl (some (.int (numF s.cur.2.2 k j)))) w (some n)) : Ev X 115 0 [some (.ref x), some (.int (nI k)), some (.int (nI j)), none] [] w (some n) 0 0 Q := by
  obtain ⟨lt, w1, T, pa, be, Z, P, C, D, R, Lt, rfl, hw, a⟩ := h
  have hc : (T 0).1 2 = nI (cntOf s.cur) := by rw [a.hT]; exact hg.c2
  refine lh_seatOf cz ((sw_seatOf hc hg.c8 hk hj).mpr ?_)
  rw [a.hT]
  exact hQ _ _ ⟨lt, w1, T, pa, be, Z, P, C, D, R, Lt, rfl, hw, a.up (Nat.le_succ N)⟩
theorem A_seatOf_out {y z : Int32} (hy : hasS (s.cur.1 2) y = 0) (h : AW x w0 m N s w n) (hQ : ∀ w n, AW x w0 m (N + 1) s w n → Q (.inl (some (.int (-1001)))) w (some n)) : Ev X 115 0 [some (.ref x), some (.int y), some (.int z), none] [] w (some n) 0 0 Q := by
  obtain ⟨lt, w1, T, pa, be, Z, P, C, D, R, Lt, rfl, hw, a⟩ := h
  exact lh_seatOf cz ((sw_seatOf_out (by rw [a.hT]; exact hy)).mpr ⟨_, List.mem_cons_self, hQ _ _ ⟨lt, w1, T, pa, be, Z, P, C, D, R, Lt, rfl, hw, a.n1⟩⟩)
theorem A_seatOf_bad {y z : Int32} (hy : ¬ hasS (s.cur.1 2) y = 0) (hz : z < 0 ∨ 9 < z) (h : AW x w0 m N s w n) (hQ : ∀ w n, AW x w0 m (N + 1) s w n → Q (.inl (some (.int (-1002)))) w (some n)) : Ev X 115 0 [some (.ref x), some (.int y), some (.int z), none] [] w (some n) 0 0 Q := by
  obtain ⟨lt, w1, T, pa, be, Z, P, C, D, R, Lt, rfl, hw, a⟩ := h
  exact lh_seatOf cz ((sw_seatOf_bad (by rw [a.hT]; exact hy) hz).mpr ⟨_, List.mem_cons_of_mem _ List.mem_cons_self, hQ _ _ ⟨lt, w1, T, pa, be, Z, P, C, D, R, Lt, rfl, hw, a.n1⟩⟩)
theorem A_ladle (hg : Iv B s.cur) {k : Nat} {b : Int32} (hk : k < cntOf s.cur) (h : AW x w0 m N s w n) (hQ : ∀ w n, AW x w0 m (N + 1) s w n → Q (.inl (some (.int (nI (ladN (cntOf s.cur) s.cur.2.2 k b))))) w (some n)) : Ev X 117 0 [some (.ref x), some (.int (nI k)), some (.int b), none] [] w (some n) 0 0 Q := by
  obtain ⟨lt, w1, T, pa, be, Z, P, C, D, R, Lt, rfl, hw, a⟩ := h
  have hc : (T 0).1 2 = nI (cntOf s.cur) := by rw [a.hT]; exact hg.c2
  refine lh_ladle cz ((sw_ladle hc hg.c8 hk).mpr ?_)
  rw [a.hT]
  exact hQ _ _ ⟨lt, w1, T, pa, be, Z, P, C, D, R, Lt, rfl, hw, a.up (Nat.le_succ N)⟩
theorem A_ladle_out {y b : Int32} (hy : hasS (s.cur.1 2) y = 0) (h : AW x w0 m N s w n) (hQ : ∀ w n, AW x w0 m (N + 1) s w n → Q (.inl (some (.int (-1001)))) w (some n)) : Ev X 117 0 [some (.ref x), some (.int y), some (.int b), none] [] w (some n) 0 0 Q := by
  obtain ⟨lt, w1, T, pa, be, Z, P, C, D, R, Lt, rfl, hw, a⟩ := h
  exact lh_ladle cz ((sw_ladle_out (by rw [a.hT]; exact hy)).mpr ⟨_, List.mem_cons_self, hQ _ _ ⟨lt, w1, T, pa, be, Z, P, C, D, R, Lt, rfl, hw, a.n1⟩⟩)
theorem A_holder (hg : Iv B s.cur) {k : Nat} (hk : k < cntOf s.cur) (h : AW x w0 m N s w n) (hQ : ∀ w n, AW x w0 m (N + 1) s w n → Q (.inl (some (.int (s.cur.2.1 k)))) w (some n)) : Ev X 119 0 [some (.ref x), some (.int (nI k)), none] [] w (some n) 0 0 Q := by
  obtain ⟨lt, w1, T, pa, be, Z, P, C, D, R, Lt, rfl, hw, a⟩ := h
  have hc : (T 0).1 2 = nI (cntOf s.cur) := by rw [a.hT]; exact hg.c2
  refine lh_holder cz ((sw_holder hc hg.c8 hk).mpr ?_)
  rw [a.hT]
  exact hQ _ _ ⟨lt, w1, T, pa, be, Z, P, C, D, R, Lt, rfl, hw, a.up (Nat.le_succ N)⟩
theorem A_holder_out {y : Int32} (hy : hasS (s.cur.1 2) y = 0) (h : AW x w0 m N s w n) (hQ : ∀ w n, AW x w0 m (N + 1) s w n → Q (.inl (some (.int (-1001)))) w (some n)) : Ev X 119 0 [some (.ref x), some (.int y), none] [] w (some n) 0 0 Q := by
  obtain ⟨lt, w1, T, pa, be, Z, P, C, D, R, Lt, rfl, hw, a⟩ := h
  exact lh_holder cz ((sw_holder_out (by rw [a.hT]; exact hy)).mpr ⟨_, List.mem_cons_self, hQ _ _ ⟨lt, w1, T, pa, be, Z, P, C, D, R, Lt, rfl, hw, a.n1⟩⟩)
theorem A_waitsFor (hg : Iv B s.cur) {k : Nat} (hk : k < cntOf s.cur) (h : AW x w0 m N s w n) (hQ : ∀ w n, AW x w0 m (N + 1) s w n → Q (.inl (some (.int (waV s.cur k)))) w (some n)) : Ev X 100 0 [some (.ref x), some (.int (nI k)), none] [] w (some n) 0 0 Q := by
  obtain ⟨lt, w1, T, pa, be, Z, P, C, D, R, Lt, rfl, hw, a⟩ := h
  have hc : (T 0).1 2 = nI (cntOf s.cur) := by rw [a.hT]; exact hg.c2
  refine lh_waitsFor cz ((sw_waitsFor hc hg.c8 hk).mpr ?_)
  rw [a.hT]
  unfold waV at hQ
  by_cases e : awF (cntOf s.cur) s.cur.2.1 s.cur.2.2 k = -1
  · rw [if_pos e] at hQ ⊢
    exact ⟨_, List.mem_cons_of_mem _ List.mem_cons_self, hQ _ _ ⟨lt, w1, T, pa, be, Z, P, C, D, R, Lt, rfl, hw, a.n1⟩⟩
  · rw [if_neg e] at hQ ⊢
    exact hQ _ _ ⟨lt, w1, T, pa, be, Z, P, C, D, R, Lt, rfl, hw, a.up (Nat.le_succ N)⟩
theorem A_waitsFor_out {y : Int32} (hy : hasS (s.cur.1 2) y = 0) (h : AW x w0 m N s w n) (hQ : ∀ w n, AW x w0 m (N + 1) s w n → Q (.inl (some (.int (-1001)))) w (some n)) : Ev X 100 0 [some (.ref x), some (.int y), none] [] w (some n) 0 0 Q := by
  obtain ⟨lt, w1, T, pa, be, Z, P, C, D, R, Lt, rfl, hw, a⟩ := h
  exact lh_waitsFor cz ((sw_waitsFor_out (by rw [a.hT]; exact hy)).mpr ⟨_, List.mem_cons_self, hQ _ _ ⟨lt, w1, T, pa, be, Z, P, C, D, R, Lt, rfl, hw, a.n1⟩⟩)
theorem A_asking (hg : Iv B s.cur) {y : Int32} (h : AW x w0 m N s w n) (hQ : ∀ w n, AW x w0 m (N + 1) s w n → Q (.inl (some (.int (asV s.cur y)))) w (some n)) : Ev X 121 0 [some (.ref x), some (.int y), none] [] w (some n) 0 0 Q := by
  obtain ⟨lt, w1, T, pa, be, Z, P, C, D, R, Lt, rfl, hw, a⟩ := h
  have hc : (T 0).1 2 = nI (cntOf s.cur) := by rw [a.hT]; exact hg.c2
  refine lh_asking cz ((sw_asking hc hg.c8).mpr ?_)
  rw [a.hT]
  unfold asV at hQ
  by_cases e : oI (ff (askP (cntOf s.cur) s.cur.2.2 y) (cntOf s.cur) 0) = -1
  · rw [if_pos e] at hQ ⊢
    exact ⟨_, List.mem_cons_self, hQ _ _ ⟨lt, w1, T, pa, be, Z, P, C, D, R, Lt, rfl, hw, a.n1⟩⟩
  · rw [if_neg e] at hQ ⊢
    exact hQ _ _ ⟨lt, w1, T, pa, be, Z, P, C, D, R, Lt, rfl, hw, a.up (Nat.le_succ N)⟩
theorem A_hungriest (hg : Iv B s.cur) {y : Int32} (h : AW x w0 m N s w n) (hQ : ∀ w n, AW x w0 m (N + 1) s w n → Q (.inl (some (.int (huV s.cur y)))) w (some n)) : Ev X 126 0 [some (.ref x), some (.int y), none] [] w (some n) 0 0 Q := by
  obtain ⟨lt, w1, T, pa, be, Z, P, C, D, R, Lt, rfl, hw, a⟩ := h
  have hc : (T 0).1 2 = nI (cntOf s.cur) := by rw [a.hT]; exact hg.c2
  refine lh_hungriest cz ((sw_hungriest hc hg.c8).mpr ?_)
  rw [a.hT]
  unfold huV at hQ
  by_cases e : oI (ff (hunP (cntOf s.cur) s.cur.2.2 y) (cntOf s.cur) 0) = -1
  · rw [if_pos e] at hQ ⊢
    exact ⟨_, List.mem_cons_self, hQ _ _ ⟨lt, w1, T, pa, be, Z, P, C, D, R, Lt, rfl, hw, a.n1⟩⟩
  · rw [if_neg e] at hQ ⊢
    exact hQ _ _ ⟨lt, w1, T, pa, be, Z, P, C, D, R, Lt, rfl, hw, a.up (Nat.le_succ N)⟩
theorem A_neighbours {y z : Int32} (h1 : ¬ hasS (s.cur.1 2) y = 0) (h2 : ¬ hasS (s.cur.1 2) z = 0) (h : AW x w0 m N s w n) (hQ : ∀ w n, AW x w0 m (N + 1) s w n → Q (.inl (some (.int (neV s.cur y z)))) w (some n)) : Ev X 129 0 [some (.ref x), some (.int y), some (.int z), none] [] w (some n) 0 0 Q := by
  obtain ⟨lt, w1, T, pa, be, Z, P, C, D, R, Lt, rfl, hw, a⟩ := h
  refine lh_neighbours cz ((sw_areNeighbours (by rw [a.hT]; exact h1) (by rw [a.hT]; exact h2)).mpr ?_)
  rw [a.hT]
  exact hQ _ _ ⟨lt, w1, T, pa, be, Z, P, C, D, R, Lt, rfl, hw, a.up (Nat.le_succ N)⟩
theorem A_neighbours_out {y z : Int32} (hy : hasS (s.cur.1 2) y = 0 ∨ hasS (s.cur.1 2) z = 0) (h : AW x w0 m N s w n) (hQ : ∀ w n, AW x w0 m (N + 1) s w n → Q (.inl (some (.int (-1001)))) w (some n)) : Ev X 129 0 [some (.ref x), some (.int y), some (.int z), none] [] w (some n) 0 0 Q := by
  obtain ⟨lt, w1, T, pa, be, Z, P, C, D, R, Lt, rfl, hw, a⟩ := h
  exact lh_neighbours cz ((sw_areNeighbours_out (by rw [a.hT]; exact hy)).mpr ⟨_, List.mem_cons_self, hQ _ _ ⟨lt, w1, T, pa, be, Z, P, C, D, R, Lt, rfl, hw, a.n1⟩⟩)
theorem tick_g3 {cnt : Nat} {s : Tb} {lo hi : Nat → Nat} (h : IvC cnt lo hi s) {m : Nat} : ∀ j, 8 ≤ j → (tksF cnt m s).2.1 j = 0 := (Iv_tks h).g3
end QRY
