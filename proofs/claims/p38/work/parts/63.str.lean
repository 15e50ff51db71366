/-! ===== Strings of the world; texts read; lines compared ===== -/
section STW
variable {X : Cxt} {w : Wld} {n : Option Nat} {Q : (Option Value ⊕ String) → Wld → Option Nat → Prop} {a v z0 : Nat} {x : Int32} {l0 l1 : Option Value} {st : Stk}
theorem W30_7 (h0 : X.2.1 a = none) : Ev X 30 7 [l0] (.ref a :: st) w n 0 0 Q ↔ ∃ v, gf w a 6 1 = some v ∧ Ev X 30 10 [l0] (v :: st) w n 0 0 Q := G_getf rfl (Or.inr h0) (show decode (mB 30) 7 = .ok (.getfield 15, 3) by decide +kernel) (by decide +kernel)
theorem W31_7 (h0 : X.2.1 a = none) : Ev X 31 7 [l0] (.ref a :: st) w n 0 0 Q ↔ ∃ v, gf w a 6 1 = some v ∧ Ev X 31 10 [l0] (v :: st) w n 0 0 Q := G_getf rfl (Or.inr h0) (show decode (mB 31) 7 = .ok (.getfield 15, 3) by decide +kernel) (by decide +kernel)
theorem W32_1 (h0 : X.2.1 a = none) : Ev X 32 1 [l0] (.ref a :: st) w n 0 0 Q ↔ ∃ v, gf w a 6 0 = some v ∧ Ev X 32 4 [l0] (v :: st) w n 0 0 Q := G_getf rfl (Or.inr h0) (show decode (mB 32) 1 = .ok (.getfield 9, 3) by decide +kernel) (by decide +kernel)
theorem W32_4 {m : Nat} {f : Nat → Value} (h : X.2.2.1 a = none) (hw : w a = some (.inl (3, m, f))) : Ev X 32 4 [l0] (.ref a :: st) w n 0 0 Q ↔ Ev X 32 5 [l0] (.int (nI m) :: st) w n 0 0 Q := G_alenW rfl (by decide +kernel) (show decode (mB 32) 4 = .ok (.arraylength, 1) by decide +kernel) h hw
theorem W41_2 {m : Nat} {f : Nat → Value} (h : X.2.2.1 a = none) (hw : w a = some (.inl (3, m, f))) : Ev X 41 2 [l0, l1] (.ref a :: st) w n 0 0 Q ↔ Ev X 41 3 [l0, l1] (.int (nI m) :: st) w n 0 0 Q := G_alenW rfl (by decide +kernel) (show decode (mB 41) 2 = .ok (.arraylength, 1) by decide +kernel) h hw
theorem W41_8 (h : X.2.2.1 a = none) : Ev X 41 8 [l0, l1] (.int x :: .ref a :: st) w n 0 0 Q ↔ ∃ v, ga w a 3 x = some v ∧ Ev X 41 9 [l0, l1] (v :: st) w n 0 0 Q := G_baldW rfl (show decode (mB 41) 8 = .ok (.baload, 1) by decide +kernel) h
theorem W42_8 (h0 : X.2.1 a = none) : Ev X 42 8 [l0, l1] (.ref a :: st) w n 0 0 Q ↔ ∃ v, gf w a 6 0 = some v ∧ Ev X 42 11 [l0, l1] (v :: st) w n 0 0 Q := G_getf rfl (Or.inr h0) (show decode (mB 42) 8 = .ok (.getfield 9, 3) by decide +kernel) (by decide +kernel)
theorem W32_6 (h : (X.2.1 a).isSome = true ∨ hasc w a 6 = true) : Ev X 32 6 [l0] (.ref a :: .int x :: []) w n 0 0 Q ↔ Ev X 31 0 [some (.ref a)] [] w n 0 0 (Kj X 32 31 9 [l0] (.int x :: []) 0 0 Q) := G_cvJ (kd := 0) rfl (show decode (mB 32) 6 = .ok (.invokevirtual 335, 3) by decide +kernel) (by decide +kernel) rfl (by decide +kernel) (by decide +kernel) (k := 0) (vs := []) rfl (h.elim (fun h => rcS (by decide +kernel) (by decide +kernel) h) (fun h => rcJ (ci := 6) (by decide +kernel) h)) (Or.inl ⟨rfl, (by simp only [List.length_cons, List.length_nil]; decide)⟩) (by simp only [List.length_cons, List.length_nil]; decide +kernel) (ent_eq (k := 0) (by simp only [List.length_cons, List.length_nil]; decide +kernel))
theorem W42_1 (h : (X.2.1 a).isSome = true ∨ hasc w a 6 = true) : Ev X 42 1 [l0, l1] (.ref a :: []) w n 0 0 Q ↔ Ev X 30 0 [some (.ref a)] [] w n 0 0 (Kj X 42 30 4 [l0, l1] ([]) 0 0 Q) := G_cvJ (kd := 0) rfl (show decode (mB 42) 1 = .ok (.invokevirtual 492, 3) by decide +kernel) (by decide +kernel) rfl (by decide +kernel) (by decide +kernel) (k := 0) (vs := []) rfl (h.elim (fun h => rcS (by decide +kernel) (by decide +kernel) h) (fun h => rcJ (ci := 6) (by decide +kernel) h)) (Or.inl ⟨rfl, (by simp only [List.length_cons, List.length_nil]; decide)⟩) (by simp only [List.length_cons, List.length_nil]; decide +kernel) (ent_eq (k := 0) (by simp only [List.length_cons, List.length_nil]; decide +kernel))
/-- a String of the world: its bytes' address, how many, what they hold -/
def StrW (X : Cxt) (w : Wld) (a v N : Nat) (f : Nat → Int32) : Prop := X.2.1 a = none ∧ X.2.2.1 v = none ∧ (∃ fs, w a = some (.inr (6, .ref v :: .int 0 :: fs))) ∧ ∃ g : Nat → Value, w v = some (.inl (3, N, g)) ∧ ∀ i, i < N → g i = .int (f i)
theorem StrW.g0 {N : Nat} {f : Nat → Int32} (h : StrW X w a v N f) : gf w a 6 0 = some (.ref v) := by
  obtain ⟨_, _, ⟨fs, e⟩, _⟩ := h
  unfold gf; rw [e]; rfl
theorem StrW.g1 {N : Nat} {f : Nat → Int32} (h : StrW X w a v N f) : gf w a 6 1 = some (.int 0) := by
  obtain ⟨_, _, ⟨fs, e⟩, _⟩ := h
  unfold gf; rw [e]; rfl
theorem StrW.hs {N : Nat} {f : Nat → Int32} (h : StrW X w a v N f) : (X.2.1 a).isSome = true ∨ hasc w a 6 = true := by
  obtain ⟨_, _, ⟨fs, e⟩, _⟩ := h
  right
  unfold hasc; rw [e]; rfl
theorem w_isLatin1 {N : Nat} {f : Nat → Int32} (h : StrW X w a v N f) : Ev X 30 0 [some (.ref a)] [] w n 0 0 Q ↔ Q (.inl (some (.int 1))) w n := by
  have e1 : (1 : Int32) = 0 ↔ False := by decide
  simp only [J0_isLatin1_aae02_0, J0_isLatin1_aae02_3, J0_isLatin1_aae02_6, J0_isLatin1_aae02_10, J0_isLatin1_aae02_13, J0_isLatin1_aae02_14, J0_isLatin1_aae02_17, J0_isLatin1_aae02_18 okz0, J0_isLatin1_aae02_18 okz1, W30_7 h.1, h.g1, Option.some.injEq, exists_eq_left', e1, if_false, if_true]
theorem w_coder {N : Nat} {f : Nat → Int32} (h : StrW X w a v N f) : Ev X 31 0 [some (.ref a)] [] w n 0 0 Q ↔ Q (.inl (some (.int 0))) w n := by
  have e1 : (1 : Int32) = 0 ↔ False := by decide
  simp only [J0_coder_7d493_0, J0_coder_7d493_3, J0_coder_7d493_6, J0_coder_7d493_10, J0_coder_7d493_13, W31_7 h.1, h.g1, Option.some.injEq, exists_eq_left', J0_coder_7d493_14 okb0, e1, if_false]
theorem w_slen {N : Nat} {f : Nat → Int32} (h : StrW X w a v N f) : Ev X 32 0 [some (.ref a)] [] w n 0 0 Q ↔ Q (.inl (some (.int (nI N)))) w n := by
  have e : nI N >>> (0 &&& 31) = nI N := by simp
  obtain ⟨g, hg, _⟩ := h.2.2.2
  simp only [J0_length_8abf5_0, J0_length_8abf5_5, J0_length_8abf5_9, J0_length_8abf5_10, W32_1 h.1, h.g0, Option.some.injEq, exists_eq_left', W32_4 h.2.1 hg, W32_6 h.hs, w_coder h, Kr_v, Kj_v, Kj_v]
  show Q (.inl (some (.int (nI N >>> (0 &&& 31))))) w n ↔ _
  rw [e]
theorem w_charAt {N j : Nat} {f : Nat → Int32} (h : StrW X w a v N f) (hj : j < N) (hN : N < 2 ^ 31) {y : Int32} (hy : ((f j &&& 255).toUInt32 % 65536).toInt32 = y) (ho : okr (some .char) y = true) : Ev X 42 0 [some (.ref a), some (.int (nI j))] [] w n 0 0 Q ↔ Q (.inl (some (.int y))) w n := by
  have e1 : (1 : Int32) = 0 ↔ False := by decide
  obtain ⟨g, hg, hf⟩ := h.2.2.2
  have hga : ga w v 3 (nI j) = some (.int (f j)) := by
    unfold ga
    rw [hg]
    dsimp only
    rw [if_pos ⟨rfl, inr_nI hj hN⟩, nI_clamp (by omega), hf j hj]
  have c1 : Ev X 41 0 [some (.ref v), some (.int (nI j))] [] w n 0 0 (Kj X 42 41 15 [some (.ref a), some (.int (nI j))] [] 0 0 Q) ↔ Kj X 42 41 15 [some (.ref a), some (.int (nI j))] [] 0 0 Q (.inl (some (.int y))) w n := by
    simp only [J1_charAt_3b067_0, J1_charAt_3b067_1, J1_charAt_3b067_3, J1_charAt_3b067_6, J1_charAt_3b067_7, J1_charAt_3b067_9, J1_charAt_3b067_12, J1_charAt_3b067_13, W41_2 h.2.1 hg, W41_8 h.2.1, hga, Option.some.injEq, exists_eq_left', sp_checkIndex2 hj hN, Kr_n, Kj_n, Kj_n, hy, J1_charAt_3b067_14 ho]
  simp only [J0_charAt_5068e_0, W42_1 h.hs, w_isLatin1 h, Kr_v, Kj_v, Kj_v, J0_charAt_5068e_4, e1, if_false, J0_charAt_5068e_7, W42_8 h.1, h.g0, Option.some.injEq, exists_eq_left', J0_charAt_5068e_11, J0_charAt_5068e_12, c1, J0_charAt_5068e_15 ho]
/-- a String, of the constants or of the world -/
def StrIn (X : Cxt) (w : Wld) (a : Nat) (L : List Int32) : Prop := (∃ v, X.2.1 a = some v ∧ X.2.2.1 v = some (L.length, fun i => L.getD i 0)) ∨ ∃ v, StrW X w a v L.length (fun i => L.getD i 0)
/-- letters of which a byte is enough -/
def Asc (L : List Int32) : Prop := ∀ c, c ∈ L → ((c &&& 255).toUInt32 % 65536).toInt32 = c ∧ narrow .char (.int c) = .int c
theorem StrIn.hs {L : List Int32} (h : StrIn X w a L) : (X.2.1 a).isSome = true ∨ hasc w a 6 = true := by
  rcases h with ⟨v, h1, h2⟩ | ⟨v, h⟩
  · left; rw [h1]; rfl
  · exact h.hs
theorem S_len {L : List Int32} (h : StrIn X w a L) : Ev X 32 0 [some (.ref a)] [] w n 0 0 Q ↔ Q (.inl (some (.int (nI L.length)))) w n := by
  rcases h with ⟨v, h1, h2⟩ | ⟨v, h⟩
  · exact sp_slen h1 h2
  · exact w_slen h
theorem getD_mem {L : List Int32} {i : Nat} (hi : i < L.length) : L.getD i 0 ∈ L := by
  rw [List.getD_eq_getElem?_getD, List.getElem?_eq_getElem hi]
  exact List.getElem_mem hi
theorem S_at {L : List Int32} (h : StrIn X w a L) (hA : Asc L) {i : Nat} (hi : i < L.length) (hL : L.length < 2 ^ 31) : Ev X 42 0 [some (.ref a), some (.int (nI i))] [] w n 0 0 Q ↔ Q (.inl (some (.int (L.getD i 0)))) w n := by
  obtain ⟨a1, a2⟩ := hA _ (getD_mem hi)
  have ho : okr (some .char) (L.getD i 0) = true := decide_eq_true a2
  rcases h with ⟨v, h1, h2⟩ | ⟨v, h⟩
  · exact sp_charAt h1 h2 hi hL a1 ho
  · exact w_charAt h hi hL a1 ho
/-- all the constants -/
def LitY (X : Cxt) : Prop := ∀ j, j < 17 → ∃ v, X.2.1 (X.1 j) = some v ∧ X.2.2.1 v = some ((LBY.getD j []).length, fun i => (LBY.getD j []).getD i 0)
theorem LitY.lx (h : LitY X) : LitX X := fun j hj => h j (by omega)
theorem LitY.str (h : LitY X) {j : Nat} (hj : j < 17) : StrIn X w (X.1 j) (LBY.getD j []) := Or.inl (h j hj)
theorem lit_asc {j : Nat} (hj : j < 17) : Asc (LBY.getD j []) := by
  unfold Asc
  have g : ∀ j, j < 17 → ∀ c ∈ LBY.getD j [], ((c &&& 255).toUInt32 % 65536).toInt32 = c ∧ narrow .char (.int c) = .int c := by decide +kernel
  exact g j hj
end STW
theorem SW_out {w : Wld} {x a : Nat} {T : Nat → Tb} {pa : Nat → Nat} {be : Nat} {Z P C D R Lt : Nat → Int32} (h : x + 139 ≤ a) : SW w x T pa be Z P C D R Lt a = w a := by
  unfold SW
  rw [if_neg (by omega), if_neg (by omega), if_neg (by omega), if_neg (by omega), if_neg (by omega), if_neg (by omega)]
theorem AW.fr {x m N n : Nat} {w0 w : Wld} {s : St} (h : AW x w0 m N s w n) {a : Nat} (h1 : x + 139 ≤ a) (h2 : a < m) : w a = w0 a := by
  obtain ⟨lt, w1, T, pa, be, Z, P, C, D, R, Lt, rfl, hw, a⟩ := h
  rw [SW_out h1]
  exact hw _ h2
/-- a String that stays while the object changes -/
def StrF (X : Cxt) (w0 : Wld) (x m a : Nat) (L : List Int32) : Prop := ∀ w : Wld, (∀ b, x + 139 ≤ b → b < m → w b = w0 b) → StrIn X w a L
theorem LitY.f {X : Cxt} (h : LitY X) {w0 : Wld} {x m j : Nat} (hj : j < 17) : StrF X w0 x m (X.1 j) (LBY.getD j []) := fun _ _ => h.str hj
section RDS
variable {X : Cxt} {w w0 : Wld} {n x m N B : Nat} {Q : (Option Value ⊕ String) → Wld → Option Nat → Prop} {s : St}
theorem take_s {L : List Int32} {k : Nat} (hk : k < L.length) : L.take (k + 1) = L.take k ++ [L.getD k 0] := by
  rw [List.take_add_one, List.getElem?_eq_getElem hk, List.getD_eq_getElem?_getD, List.getElem?_eq_getElem hk]
  rfl
theorem asc_chr {L : List Int32} (hA : Asc L) : ∀ c, c ∈ L → chr16 c := by
  intro c hc
  obtain ⟨a1, a2⟩ := hA c hc
  rw [← a1]
  refine ⟨((c &&& 255).toUInt32 % 65536).toNat, ?_, ?_⟩
  · rw [UInt32.toNat_mod]
    exact Nat.mod_lt _ (by decide)
  · generalize (c &&& 255).toUInt32 % 65536 = u
    show u.toInt32 = (UInt32.ofNat u.toNat).toInt32
    rw [UInt32.ofNat_toNat]
theorem A_reads (hX : LitX X) (hg : Iv B s.cur) (hB : B + 5940 < 2 ^ 24) (ht : s.txt = []) {a : Nat} {L : List Int32} (hS : StrF X w0 x m a L) (hA : Asc L) (h60 : L.length ≤ 60) (h : AW x w0 m N s w n)
    (hQ1 : ∀ (C D : Nat → Int32) (q : Nat) w n, (∀ k, k < L.length → L[k]? = some (C k)) → fltN L.length C 60 0 D = some q → AW x w0 m (N + L.length + 1) (s.cur, s.hist, s.sav, s.why, nI q, []) w n → Q (.inl (some (.int (-1001)))) w (some n))
    (hQ2 : ∀ (C D D1 : Nat → Int32) (j : Nat) (u v : Int32) w n, (∀ k, k < L.length → L[k]? = some (C k)) → fltN L.length C 60 0 D = none → cmdR L.length C 60 0 0 D1 s.cur = .inl (j, u, v) → AW x w0 m (N + L.length + 1) (s.cur, s.hist, s.sav, (u, v, nI j), -1, []) w n → Q (.inl (some (.int (-1002)))) w (some n))
    (hQ3 : ∀ (C D D1 : Nat → Int32) (j : Nat) (s2 : Tb) w n, (∀ k, k < L.length → L[k]? = some (C k)) → fltN L.length C 60 0 D = none → cmdR L.length C 60 0 0 D1 s.cur = .inr (j, s2) → Iv (B + 5940) s2 → AW x w0 m (N + L.length + 1) (s2, pushH s.hist s.cur, s.sav, s.why, -1, []) w n → Q (.inl (some (.int (nI j)))) w (some n)) :
    Ev X 147 0 [some (.ref x), some (.ref a), none] [] w (some n) 0 0 Q := by
  have h0 : AW x w0 m N (s.cur, s.hist, s.sav, s.why, s.flt, L.take 0) w n := by
    have e : s = (s.cur, s.hist, s.sav, s.why, s.flt, []) := by rw [← ht]
    rw [List.take_zero, ← e]
    exact h
  refine L_reads_0.mpr (L_reads_1.mpr (?_))
  refine lpN (α := Unit) (E := fun k _ w p => Ev X 147 2 [some (.ref x), some (.ref a), some (.int (nI k))] [] w (some p) 0 0 Q) (A := fun k w p => AW x w0 m (N + k) (s.cur, s.hist, s.sav, s.why, s.flt, L.take k) w p) (f := fun _ u => u) (n := L.length) (a0 := ()) (fun k _ w p hk h next => ?_) (fun w p h => ?_) w n h0
  · have hW := hS w (fun b h1 h2 => h.fr h1 h2)
    refine L_reads_2.mpr (L_reads_3.mpr (?_))
    refine (L_reads_4 hW.hs).mpr ?_
    refine (S_len hW).mpr ?_
    refine L_reads_7.mpr (ifT (nI_lt hk (by omega)) ?_)
    refine L_reads_10.mpr (L_reads_11.mpr (L_reads_12.mpr (?_)))
    refine (L_reads_13 hW.hs).mpr ?_
    refine (S_at hW hA hk (by omega)).mpr ?_
    refine L_reads_16.mpr ?_
    refine A_append (hA _ (getD_mem hk)).2 (show (L.take k).length < 60 by rw [List.length_take]; omega) h ?_
    intro w p h
    refine L_reads_19.mpr (L_reads_20.mpr (L_reads_21.mpr (?_)))
    refine L_reads_22.mpr (ifT (show nI ((L.take k).length + 1) = nI k + 1 by rw [nI_1, List.length_take, Nat.min_eq_left (by omega)]) ?_)
    refine L_reads_29.mpr (L_reads_32.mpr (?_))
    rw [nI_1]
    refine next _ _ ?_
    show AW x w0 m (N + k + 1) (s.cur, s.hist, s.sav, s.why, s.flt, L.take (k + 1)) w p
    rw [take_s hk]
    exact h
  · have hW := hS w (fun b h1 h2 => h.fr h1 h2)
    rw [List.take_length] at h
    refine L_reads_2.mpr (L_reads_3.mpr (?_))
    refine (L_reads_4 hW.hs).mpr ?_
    refine (S_len hW).mpr ?_
    refine L_reads_7.mpr (ifF (iirr) ?_)
    refine L_reads_35.mpr (?_)
    refine L_reads_36.mpr ?_
    refine A_commands (s := (s.cur, s.hist, s.sav, s.why, s.flt, L)) hX hg hB (asc_chr hA) h ?_ ?_ ?_
    · intro C D q w p h1 h2 h
      exact L_reads_39.mpr (hQ1 C D q w p h1 h2 h)
    · intro C D D1 j u v w p h1 h2 h3 h
      exact L_reads_39.mpr (hQ2 C D D1 j u v w p h1 h2 h3 h)
    · intro C D D1 j s2 w p h1 h2 h3 h4 h
      exact L_reads_39.mpr (hQ3 C D D1 j s2 w p h1 h2 h3 h4 h)
theorem A_is {a b c : Int32} (hw : s.why = (a, b, c)) (ha : a ≠ 0) (h : AW x w0 m N s w n) (hQ : ∀ w n, AW x w0 m (N + 3) s w n → Q (.inl (some (.int 1))) w (some n)) : Ev X 20 0 [some (.ref x), some (.int a), some (.int b), some (.int c)] [] w (some n) 0 0 Q := by
  have e1 : s.why.1 = a := by rw [hw]
  have e2 : s.why.2.1 = b := by rw [hw]
  have e3 : s.why.2.2 = c := by rw [hw]
  have w0 : s.why.1 ≠ 0 := by rw [e1]; exact ha
  refine L_is_0.mpr (L_is_1.mpr (?_))
  refine L_is_2.mpr ?_
  refine A_reason (by decide) (by decide) w0 h ?_
  intro w p h
  refine L_is_5.mpr (?_)
  refine L_is_6.mpr (ifT (e1) ?_)
  refine L_is_9.mpr (L_is_10.mpr (?_))
  refine L_is_11.mpr ?_
  refine A_reason (by decide) (by decide) w0 h ?_
  intro w p h
  refine L_is_14.mpr (?_)
  refine L_is_15.mpr (ifT (e2) ?_)
  refine L_is_18.mpr (L_is_19.mpr (?_))
  refine L_is_20.mpr ?_
  refine A_reason (by decide) (by decide) w0 h ?_
  intro w p h
  refine L_is_23.mpr (?_)
  refine L_is_24.mpr (ifT (e3) ?_)
  refine L_is_27.mpr (L_is_28.mpr (?_))
  exact (L_is_32 okz1).mpr (hQ _ _ h)
theorem A_isRange (hw : s.why = (1, 0, 0)) (h : AW x w0 m N s w n) (hQ : ∀ w n, AW x w0 m (N + 3) s w n → Q (.inl (some (.int 1))) w (some n)) : Ev X 140 0 [some (.ref x), some (.int (-1001))] [] w (some n) 0 0 Q := by
  refine L_isRange_0.mpr (L_isRange_1.mpr (?_))
  refine L_isRange_4.mpr (ifT (rfl) ?_)
  refine L_isRange_7.mpr (L_isRange_8.mpr (L_isRange_9.mpr (L_isRange_10.mpr (?_))))
  refine L_isRange_11.mpr ?_
  refine A_is hw (by decide) h ?_
  intro w p h
  refine L_isRange_14.mpr (ifF (by decide) ?_)
  refine L_isRange_17.mpr (L_isRange_18.mpr (?_))
  exact (L_isRange_22 okz1).mpr (hQ _ _ h)
end RDS
